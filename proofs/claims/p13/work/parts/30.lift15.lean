-- fm_127 Walk.reached 68 i
def fm_127 (a1 : Int) (Q : Int → lf_Z → Prop) (s : lf_Z) : Prop := fm_118 a1 0 (fun s21 => (fm_128 a1 (fun r23 s22 => (Q r23 s22)) s21)) s
set_option maxRecDepth 100000 in
theorem gm_127 {L : Nat} {xs : Nat → Int32} {d : Nat} {a1 : Int} {Q : Int → lf_Z → Prop} {s : lf_Z} (h : fm_127 a1 Q s) : lf_M (px_ro L xs) (d + 7) 127 [.ref 68, .int (Int32.ofInt a1)] s (lf_qi Q) := by
  unfold fm_127 at h
  show lf_E (px_ro L xs) (d + 7) 127 0 [(0, .ref 68), (1, .int (Int32.ofInt a1))] [] s _
  refine lf_seg 3 (pc' := 3) (lv' := [(0, .ref 68), (1, .int (Int32.ofInt a1))]) (st' := [.int (Int32.ofInt 0), .int (Int32.ofInt a1), .ref 68]) rfl ?_
  refine lf_callV 6 rfl rfl rfl rfl (gm_118 h) (fun s21 h => ?_)
  refine lf_seg 2 (pc' := 8) (lv' := [(0, .ref 68), (1, .int (Int32.ofInt a1))]) (st' := [.int (Int32.ofInt a1), .ref 68]) rfl ?_
  refine lf_callI 11 rfl rfl rfl rfl (gm_128 h) (fun r23 s22 h => ?_)
  exact lf_retI rfl rfl h
-- fm_126 ElevenBullocks.canCome 0 i
def fm_126 (a1 : Int) (Q : Int → lf_Z → Prop) (s : lf_Z) : Prop := fm_80 a1 (fun z22 s21 => ((z22 = false → (Q (-1) s21)) ∧ (z22 = true → (fm_127 a1 (fun r24 s23 => (Q r24 s23)) s21)))) s
set_option maxRecDepth 100000 in
theorem gm_126 {L : Nat} {xs : Nat → Int32} {d : Nat} {a1 : Int} {Q : Int → lf_Z → Prop} {s : lf_Z} (h : fm_126 a1 Q s) : lf_M (px_ro L xs) (d + 8) 126 [.ref 0, .int (Int32.ofInt a1)] s (lf_qi Q) := by
  unfold fm_126 at h
  show lf_E (px_ro L xs) (d + 8) 126 0 [(0, .ref 0), (1, .int (Int32.ofInt a1))] [] s _
  refine lf_seg 3 (pc' := 5) (lv' := [(0, .ref 0), (1, .int (Int32.ofInt a1))]) (st' := [.int (Int32.ofInt a1), .ref 15]) rfl ?_
  refine lf_callZ 8 rfl rfl rfl rfl (gm_80 h) (fun z22 s21 h => ?_)
  refine lf_ifz_eq 22 11 rfl rfl rfl (fun c => ?_) (fun c => ?_)
  · have h := h.1 c
    refine lf_seg 1 (pc' := 23) (lv' := [(0, .ref 0), (1, .int (Int32.ofInt a1))]) (st' := [.int (Int32.ofInt (-1))]) rfl ?_
    exact lf_retI rfl rfl h
  · have h := h.2 c
    refine lf_seg 3 (pc' := 16) (lv' := [(0, .ref 0), (1, .int (Int32.ofInt a1))]) (st' := [.int (Int32.ofInt a1), .ref 68]) rfl ?_
    refine lf_callI 19 rfl rfl rfl rfl (gm_127 h) (fun r24 s23 h => ?_)
    refine lf_seg 1 (pc' := 23) (lv' := [(0, .ref 0), (1, .int (Int32.ofInt a1))]) (st' := [.int (Int32.ofInt r24)]) rfl ?_
    exact lf_retI rfl rfl h
-- fm_294 Model.comesTo 95 i
def fm_294_p203 (X63 : Int → Int → Int → lf_Z → Prop) (Q : Int → lf_Z → Prop) (x1 : Int) (x2 : Int) (x3 : Int) (x4 : Int) (s : lf_Z) : Prop := X63 x2 x3 (x4 + 1) s
set_option maxRecDepth 100000 in
theorem gm_294_p203 {L : Nat} {xs : Nat → Int32} {d : Nat} {X63 : Int → Int → Int → lf_Z → Prop} {Q : Int → lf_Z → Prop} {x1 : Int} {x2 : Int} {x3 : Int} {x4 : Int} {s : lf_Z} (hX63 : ∀ x2 x3 x4 s, X63 x2 x3 x4 s → lf_E (px_ro L xs) (d + 6) 294 63 [(0, .ref 95), (1, .int (Int32.ofInt x1)), (2, .int (Int32.ofInt x2)), (3, .int (Int32.ofInt x3)), (4, .int (Int32.ofInt x4))] [] s (lf_qi Q)) (h : fm_294_p203 X63 Q x1 x2 x3 x4 s) : lf_E (px_ro L xs) (d + 6) 294 203 [(0, .ref 95), (1, .int (Int32.ofInt x1)), (2, .int (Int32.ofInt x2)), (3, .int (Int32.ofInt x3)), (4, .int (Int32.ofInt x4))] [] s (lf_qi Q) := by
  unfold fm_294_p203 at h
  refine lf_iinc 206 rfl rfl rfl rfl ?_
  refine lf_seg 1 (pc' := 63) (lv' := [(4, .int (Int32.ofInt (x4 + 1))), (0, .ref 95), (1, .int (Int32.ofInt x1)), (2, .int (Int32.ofInt x2)), (3, .int (Int32.ofInt x3))]) (st' := []) rfl ?_
  refine lf_sub (l := [(0, .ref 95), (1, .int (Int32.ofInt x1)), (2, .int (Int32.ofInt x2)), (3, .int (Int32.ofInt x3)), (4, .int (Int32.ofInt (x4 + 1)))]) (lf_sb1 rfl (lf_sb1 rfl (lf_sb1 rfl (lf_sb1 rfl (lf_sb1 rfl lf_sb0))))) ?_
  exact hX63 _ _ _ _ h
def fm_294_p197 (X63 : Int → Int → Int → lf_Z → Prop) (X94 : Int → Int → Int → lf_Z → Prop) (Q : Int → lf_Z → Prop) (x1 : Int) (x2 : Int) (x3 : Int) (x4 : Int) (x5 : Int) (x6 : Int) (x7 : Int) (s : lf_Z) : Prop := X94 x2 x6 (x7 + 1) s
set_option maxRecDepth 100000 in
theorem gm_294_p197 {L : Nat} {xs : Nat → Int32} {d : Nat} {X63 : Int → Int → Int → lf_Z → Prop} {X94 : Int → Int → Int → lf_Z → Prop} {Q : Int → lf_Z → Prop} {x1 : Int} {x2 : Int} {x3 : Int} {x4 : Int} {x5 : Int} {x6 : Int} {x7 : Int} {s : lf_Z} (hX63 : ∀ x2 x3 x4 s, X63 x2 x3 x4 s → lf_E (px_ro L xs) (d + 6) 294 63 [(0, .ref 95), (1, .int (Int32.ofInt x1)), (2, .int (Int32.ofInt x2)), (3, .int (Int32.ofInt x3)), (4, .int (Int32.ofInt x4))] [] s (lf_qi Q)) (hX94 : ∀ x2 x6 x7 s, X94 x2 x6 x7 s → lf_E (px_ro L xs) (d + 6) 294 94 [(0, .ref 95), (1, .int (Int32.ofInt x1)), (2, .int (Int32.ofInt x2)), (3, .int (Int32.ofInt x3)), (4, .int (Int32.ofInt x4)), (5, .int (Int32.ofInt x5)), (6, .int (Int32.ofInt x6)), (7, .int (Int32.ofInt x7))] [] s (lf_qi Q)) (h : fm_294_p197 X63 X94 Q x1 x2 x3 x4 x5 x6 x7 s) : lf_E (px_ro L xs) (d + 6) 294 197 [(0, .ref 95), (1, .int (Int32.ofInt x1)), (2, .int (Int32.ofInt x2)), (3, .int (Int32.ofInt x3)), (4, .int (Int32.ofInt x4)), (5, .int (Int32.ofInt x5)), (6, .int (Int32.ofInt x6)), (7, .int (Int32.ofInt x7))] [] s (lf_qi Q) := by
  unfold fm_294_p197 at h
  refine lf_iinc 200 rfl rfl rfl rfl ?_
  refine lf_seg 1 (pc' := 94) (lv' := [(7, .int (Int32.ofInt (x7 + 1))), (0, .ref 95), (1, .int (Int32.ofInt x1)), (2, .int (Int32.ofInt x2)), (3, .int (Int32.ofInt x3)), (4, .int (Int32.ofInt x4)), (5, .int (Int32.ofInt x5)), (6, .int (Int32.ofInt x6))]) (st' := []) rfl ?_
  refine lf_sub (l := [(0, .ref 95), (1, .int (Int32.ofInt x1)), (2, .int (Int32.ofInt x2)), (3, .int (Int32.ofInt x3)), (4, .int (Int32.ofInt x4)), (5, .int (Int32.ofInt x5)), (6, .int (Int32.ofInt x6)), (7, .int (Int32.ofInt (x7 + 1)))]) (lf_sb1 rfl (lf_sb1 rfl (lf_sb1 rfl (lf_sb1 rfl (lf_sb1 rfl (lf_sb1 rfl (lf_sb1 rfl (lf_sb1 rfl lf_sb0)))))))) ?_
  exact hX94 _ _ _ _ h
def fm_294_p94 (X63 : Int → Int → Int → lf_Z → Prop) (Q : Int → lf_Z → Prop) (x1 : Int) (x3 : Int) (x4 : Int) (x5 : Int) (X94 : Int → Int → Int → lf_Z → Prop) (x2 : Int) (x6 : Int) (x7 : Int) (s : lf_Z) : Prop := lf_R x7 ∧ (lf_R (s.1 96 1) ∧ ((s.1 96 1 ≤ x7 → (fm_294_p203 X63 Q x1 x2 x3 x4 s)) ∧ (¬ (s.1 96 1 ≤ x7) → (lf_R x6 ∧ ((10 ≤ x6 → (fm_294_p203 X63 Q x1 x2 x3 x4 s)) ∧ (¬ (10 ≤ x6) → (fm_242 x1 (fun r35 s34 => ((0 ≤ x4 ∧ x4 < 156) ∧ (lf_R (s34.1 112 x4) ∧ (fm_273 r35 x5 (((s34.1 112 x4).tmod 13) - 1) x7 (fun r39 s38 => (lf_R r39 ∧ ((r39 ≠ 0 → (fm_187 x7 x5 (fun r42 s41 => ((0 ≤ ((13 * r42) + x5) + 1 ∧ ((13 * r42) + x5) + 1 < 156) ∧ (lf_R (s41.1 111 (((13 * r42) + x5) + 1)) ∧ ((s41.1 111 (((13 * r42) + x5) + 1) = 0 → ((0 ≤ x2 ∧ x2 < 156) ∧ (fm_294_p197 X63 X94 Q x1 (x2 + 1) x3 x4 x5 r39 x7 (lf_up (lf_up s41.1 111 (((13 * r42) + x5) + 1) 1) 112 x2 (((13 * r42) + x5) + 1), s41.2.1, s41.2.2)))) ∧ (¬ (s41.1 111 (((13 * r42) + x5) + 1) = 0) → (fm_294_p197 X63 X94 Q x1 x2 x3 x4 x5 r39 x7 s41)))))) s38)) ∧ (¬ (r39 ≠ 0) → (fm_294_p197 X63 X94 Q x1 x2 x3 x4 x5 r39 x7 s38))))) s34)))) s)))))))
def fm_294_p94L (X63 : Int → Int → Int → lf_Z → Prop) (Q : Int → lf_Z → Prop) (x1 : Int) (x2 : Int) (x3 : Int) (x4 : Int) (x5 : Int) (x6 : Int) (x7 : Int) (s : lf_Z) : Prop := ∀ X94 : Int → Int → Int → lf_Z → Prop, (∀ (x2 : Int) (x6 : Int) (x7 : Int) (s : lf_Z), fm_294_p94 X63 Q x1 x3 x4 x5 X94 x2 x6 x7 s → X94 x2 x6 x7 s) → X94 x2 x6 x7 s
set_option maxRecDepth 100000 in
theorem gm_294_p94 {L : Nat} {xs : Nat → Int32} {d : Nat} {X63 : Int → Int → Int → lf_Z → Prop} {Q : Int → lf_Z → Prop} {x1 : Int} {x2 : Int} {x3 : Int} {x4 : Int} {x5 : Int} {x6 : Int} {x7 : Int} {s : lf_Z} {X94 : Int → Int → Int → lf_Z → Prop} (hX63 : ∀ x2 x3 x4 s, X63 x2 x3 x4 s → lf_E (px_ro L xs) (d + 6) 294 63 [(0, .ref 95), (1, .int (Int32.ofInt x1)), (2, .int (Int32.ofInt x2)), (3, .int (Int32.ofInt x3)), (4, .int (Int32.ofInt x4))] [] s (lf_qi Q)) (hX94 : ∀ x2 x6 x7 s, X94 x2 x6 x7 s → lf_E (px_ro L xs) (d + 6) 294 94 [(0, .ref 95), (1, .int (Int32.ofInt x1)), (2, .int (Int32.ofInt x2)), (3, .int (Int32.ofInt x3)), (4, .int (Int32.ofInt x4)), (5, .int (Int32.ofInt x5)), (6, .int (Int32.ofInt x6)), (7, .int (Int32.ofInt x7))] [] s (lf_qi Q)) (h : fm_294_p94 X63 Q x1 x3 x4 x5 X94 x2 x6 x7 s) : lf_E (px_ro L xs) (d + 6) 294 94 [(0, .ref 95), (1, .int (Int32.ofInt x1)), (2, .int (Int32.ofInt x2)), (3, .int (Int32.ofInt x3)), (4, .int (Int32.ofInt x4)), (5, .int (Int32.ofInt x5)), (6, .int (Int32.ofInt x6)), (7, .int (Int32.ofInt x7))] [] s (lf_qi Q) := by
  unfold fm_294_p94 at h
  refine lf_seg 4 (pc' := 101) (lv' := [(0, .ref 95), (1, .int (Int32.ofInt x1)), (2, .int (Int32.ofInt x2)), (3, .int (Int32.ofInt x3)), (4, .int (Int32.ofInt x4)), (5, .int (Int32.ofInt x5)), (6, .int (Int32.ofInt x6)), (7, .int (Int32.ofInt x7))]) (st' := [.int (Int32.ofInt 1), .ref 96, .int (Int32.ofInt x7)]) rfl ?_
  refine lf_iald 102 1538 rfl rfl rfl rfl rfl rfl ⟨by decide, by decide⟩ ?_
  obtain ⟨o31, h⟩ := h
  obtain ⟨o32, h⟩ := h
  refine lf_icmp_ge 203 105 rfl rfl rfl o31 o32 (fun c => ?_) (fun c => ?_)
  · have h := h.1 c
    refine lf_sub (l := [(0, .ref 95), (1, .int (Int32.ofInt x1)), (2, .int (Int32.ofInt x2)), (3, .int (Int32.ofInt x3)), (4, .int (Int32.ofInt x4))]) (lf_sb1 rfl (lf_sb1 rfl (lf_sb1 rfl (lf_sb1 rfl (lf_sb1 rfl lf_sb0))))) ?_
    exact gm_294_p203 hX63 h
  · have h := h.2 c
    refine lf_seg 1 (pc' := 107) (lv' := [(0, .ref 95), (1, .int (Int32.ofInt x1)), (2, .int (Int32.ofInt x2)), (3, .int (Int32.ofInt x3)), (4, .int (Int32.ofInt x4)), (5, .int (Int32.ofInt x5)), (6, .int (Int32.ofInt x6)), (7, .int (Int32.ofInt x7))]) (st' := [.int (Int32.ofInt x6)]) rfl ?_
    refine lf_bipush 109 10 rfl rfl (by decide) (by decide) ?_
    obtain ⟨o33, h⟩ := h
    refine lf_icmp_ge 203 112 rfl rfl rfl o33 ⟨by decide, by decide⟩ (fun c => ?_) (fun c => ?_)
    · have h := h.1 c
      refine lf_sub (l := [(0, .ref 95), (1, .int (Int32.ofInt x1)), (2, .int (Int32.ofInt x2)), (3, .int (Int32.ofInt x3)), (4, .int (Int32.ofInt x4))]) (lf_sb1 rfl (lf_sb1 rfl (lf_sb1 rfl (lf_sb1 rfl (lf_sb1 rfl lf_sb0))))) ?_
      exact gm_294_p203 hX63 h
    · have h := h.2 c
      refine lf_seg 3 (pc' := 115) (lv' := [(0, .ref 95), (1, .int (Int32.ofInt x1)), (2, .int (Int32.ofInt x2)), (3, .int (Int32.ofInt x3)), (4, .int (Int32.ofInt x4)), (5, .int (Int32.ofInt x5)), (6, .int (Int32.ofInt x6)), (7, .int (Int32.ofInt x7))]) (st' := [.int (Int32.ofInt x1), .ref 95, .ref 95]) rfl ?_
      refine lf_callI 118 rfl rfl rfl rfl (gm_242 h) (fun r35 s34 h => ?_)
      refine lf_seg 4 (pc' := 126) (lv' := [(0, .ref 95), (1, .int (Int32.ofInt x1)), (2, .int (Int32.ofInt x2)), (3, .int (Int32.ofInt x3)), (4, .int (Int32.ofInt x4)), (5, .int (Int32.ofInt x5)), (6, .int (Int32.ofInt x6)), (7, .int (Int32.ofInt x7))]) (st' := [.int (Int32.ofInt x4), .ref 112, .int (Int32.ofInt x5), .int (Int32.ofInt r35), .ref 95]) rfl ?_
      obtain ⟨o36, h⟩ := h
      refine lf_iald 127 156 rfl rfl rfl rfl rfl rfl o36 ?_
      refine lf_bipush 129 13 rfl rfl (by decide) (by decide) ?_
      obtain ⟨o37, h⟩ := h
      refine lf_irem 130 rfl rfl o37 ⟨by decide, by decide⟩ (by decide) ?_
      refine lf_seg 1 (pc' := 131) (lv' := [(0, .ref 95), (1, .int (Int32.ofInt x1)), (2, .int (Int32.ofInt x2)), (3, .int (Int32.ofInt x3)), (4, .int (Int32.ofInt x4)), (5, .int (Int32.ofInt x5)), (6, .int (Int32.ofInt x6)), (7, .int (Int32.ofInt x7))]) (st' := [.int (Int32.ofInt 1), .int (Int32.ofInt ((s34.1 112 x4).tmod 13)), .int (Int32.ofInt x5), .int (Int32.ofInt r35), .ref 95]) rfl ?_
      refine lf_isub 132 rfl rfl ?_
      refine lf_seg 1 (pc' := 134) (lv' := [(0, .ref 95), (1, .int (Int32.ofInt x1)), (2, .int (Int32.ofInt x2)), (3, .int (Int32.ofInt x3)), (4, .int (Int32.ofInt x4)), (5, .int (Int32.ofInt x5)), (6, .int (Int32.ofInt x6)), (7, .int (Int32.ofInt x7))]) (st' := [.int (Int32.ofInt x7), .int (Int32.ofInt (((s34.1 112 x4).tmod 13) - 1)), .int (Int32.ofInt x5), .int (Int32.ofInt r35), .ref 95]) rfl ?_
      refine lf_callI 137 rfl rfl rfl rfl (gm_273 h) (fun r39 s38 h => ?_)
      refine lf_seg 2 (pc' := 141) (lv' := [(6, .int (Int32.ofInt r39)), (0, .ref 95), (1, .int (Int32.ofInt x1)), (2, .int (Int32.ofInt x2)), (3, .int (Int32.ofInt x3)), (4, .int (Int32.ofInt x4)), (5, .int (Int32.ofInt x5)), (7, .int (Int32.ofInt x7))]) (st' := [.int (Int32.ofInt r39)]) rfl ?_
      obtain ⟨o40, h⟩ := h
      refine lf_if_ne 147 144 rfl rfl rfl o40 (fun c => ?_) (fun c => ?_)
      · have h := h.1 c
        refine lf_bipush 149 13 rfl rfl (by decide) (by decide) ?_
        refine lf_seg 3 (pc' := 154) (lv' := [(6, .int (Int32.ofInt r39)), (0, .ref 95), (1, .int (Int32.ofInt x1)), (2, .int (Int32.ofInt x2)), (3, .int (Int32.ofInt x3)), (4, .int (Int32.ofInt x4)), (5, .int (Int32.ofInt x5)), (7, .int (Int32.ofInt x7))]) (st' := [.int (Int32.ofInt x5), .int (Int32.ofInt x7), .ref 95, .int (Int32.ofInt 13)]) rfl ?_
        refine lf_callI 157 rfl rfl rfl rfl (gm_187 h) (fun r42 s41 h => ?_)
        refine lf_imul 158 rfl rfl ?_
        refine lf_seg 1 (pc' := 160) (lv' := [(6, .int (Int32.ofInt r39)), (0, .ref 95), (1, .int (Int32.ofInt x1)), (2, .int (Int32.ofInt x2)), (3, .int (Int32.ofInt x3)), (4, .int (Int32.ofInt x4)), (5, .int (Int32.ofInt x5)), (7, .int (Int32.ofInt x7))]) (st' := [.int (Int32.ofInt x5), .int (Int32.ofInt (13 * r42))]) rfl ?_
        refine lf_iadd 161 rfl rfl ?_
        refine lf_seg 1 (pc' := 162) (lv' := [(6, .int (Int32.ofInt r39)), (0, .ref 95), (1, .int (Int32.ofInt x1)), (2, .int (Int32.ofInt x2)), (3, .int (Int32.ofInt x3)), (4, .int (Int32.ofInt x4)), (5, .int (Int32.ofInt x5)), (7, .int (Int32.ofInt x7))]) (st' := [.int (Int32.ofInt 1), .int (Int32.ofInt ((13 * r42) + x5))]) rfl ?_
        refine lf_iadd 163 rfl rfl ?_
        refine lf_seg 4 (pc' := 171) (lv' := [(8, .int (Int32.ofInt (((13 * r42) + x5) + 1))), (6, .int (Int32.ofInt r39)), (0, .ref 95), (1, .int (Int32.ofInt x1)), (2, .int (Int32.ofInt x2)), (3, .int (Int32.ofInt x3)), (4, .int (Int32.ofInt x4)), (5, .int (Int32.ofInt x5)), (7, .int (Int32.ofInt x7))]) (st' := [.int (Int32.ofInt (((13 * r42) + x5) + 1)), .ref 111]) rfl ?_
        obtain ⟨o43, h⟩ := h
        refine lf_zald 172 156 rfl rfl rfl rfl rfl rfl o43 ?_
        obtain ⟨o44, h⟩ := h
        refine lf_if_eq 178 175 rfl rfl rfl o44 (fun c => ?_) (fun c => ?_)
        · have h := h.1 c
          refine lf_seg 4 (pc' := 185) (lv' := [(8, .int (Int32.ofInt (((13 * r42) + x5) + 1))), (6, .int (Int32.ofInt r39)), (0, .ref 95), (1, .int (Int32.ofInt x1)), (2, .int (Int32.ofInt x2)), (3, .int (Int32.ofInt x3)), (4, .int (Int32.ofInt x4)), (5, .int (Int32.ofInt x5)), (7, .int (Int32.ofInt x7))]) (st' := [.int (Int32.ofInt 1), .int (Int32.ofInt (((13 * r42) + x5) + 1)), .ref 111]) rfl ?_
          refine lf_zast 186 156 rfl rfl rfl rfl rfl rfl o43 (Or.inr rfl) ?_
          refine lf_as (lf_up s41.1 111 (((13 * r42) + x5) + 1) 1, s41.2.1, s41.2.2) rfl ?_
          refine lf_seg 4 (pc' := 193) (lv' := [(8, .int (Int32.ofInt (((13 * r42) + x5) + 1))), (6, .int (Int32.ofInt r39)), (0, .ref 95), (1, .int (Int32.ofInt x1)), (2, .int (Int32.ofInt x2)), (3, .int (Int32.ofInt x3)), (4, .int (Int32.ofInt x4)), (5, .int (Int32.ofInt x5)), (7, .int (Int32.ofInt x7))]) (st' := [.int (Int32.ofInt (((13 * r42) + x5) + 1)), .int (Int32.ofInt x2), .ref 112]) rfl ?_
          obtain ⟨o45, h⟩ := h
          refine lf_iast 194 156 rfl rfl rfl rfl rfl rfl o45 ?_
          refine lf_as (lf_up (lf_up s41.1 111 (((13 * r42) + x5) + 1) 1) 112 x2 (((13 * r42) + x5) + 1), s41.2.1, s41.2.2) rfl ?_
          refine lf_iinc 197 rfl rfl rfl rfl ?_
          refine lf_seg 0 (pc' := 197) (lv' := [(2, .int (Int32.ofInt (x2 + 1))), (8, .int (Int32.ofInt (((13 * r42) + x5) + 1))), (6, .int (Int32.ofInt r39)), (0, .ref 95), (1, .int (Int32.ofInt x1)), (3, .int (Int32.ofInt x3)), (4, .int (Int32.ofInt x4)), (5, .int (Int32.ofInt x5)), (7, .int (Int32.ofInt x7))]) (st' := []) rfl ?_
          refine lf_sub (l := [(0, .ref 95), (1, .int (Int32.ofInt x1)), (2, .int (Int32.ofInt (x2 + 1))), (3, .int (Int32.ofInt x3)), (4, .int (Int32.ofInt x4)), (5, .int (Int32.ofInt x5)), (6, .int (Int32.ofInt r39)), (7, .int (Int32.ofInt x7))]) (lf_sb1 rfl (lf_sb1 rfl (lf_sb1 rfl (lf_sb1 rfl (lf_sb1 rfl (lf_sb1 rfl (lf_sb1 rfl (lf_sb1 rfl lf_sb0)))))))) ?_
          exact gm_294_p197 hX63 hX94 h
        · have h := h.2 c
          refine lf_seg 1 (pc' := 197) (lv' := [(8, .int (Int32.ofInt (((13 * r42) + x5) + 1))), (6, .int (Int32.ofInt r39)), (0, .ref 95), (1, .int (Int32.ofInt x1)), (2, .int (Int32.ofInt x2)), (3, .int (Int32.ofInt x3)), (4, .int (Int32.ofInt x4)), (5, .int (Int32.ofInt x5)), (7, .int (Int32.ofInt x7))]) (st' := []) rfl ?_
          refine lf_sub (l := [(0, .ref 95), (1, .int (Int32.ofInt x1)), (2, .int (Int32.ofInt x2)), (3, .int (Int32.ofInt x3)), (4, .int (Int32.ofInt x4)), (5, .int (Int32.ofInt x5)), (6, .int (Int32.ofInt r39)), (7, .int (Int32.ofInt x7))]) (lf_sb1 rfl (lf_sb1 rfl (lf_sb1 rfl (lf_sb1 rfl (lf_sb1 rfl (lf_sb1 rfl (lf_sb1 rfl (lf_sb1 rfl lf_sb0)))))))) ?_
          exact gm_294_p197 hX63 hX94 h
      · have h := h.2 c
        refine lf_seg 1 (pc' := 197) (lv' := [(6, .int (Int32.ofInt r39)), (0, .ref 95), (1, .int (Int32.ofInt x1)), (2, .int (Int32.ofInt x2)), (3, .int (Int32.ofInt x3)), (4, .int (Int32.ofInt x4)), (5, .int (Int32.ofInt x5)), (7, .int (Int32.ofInt x7))]) (st' := []) rfl ?_
        refine lf_sub (l := [(0, .ref 95), (1, .int (Int32.ofInt x1)), (2, .int (Int32.ofInt x2)), (3, .int (Int32.ofInt x3)), (4, .int (Int32.ofInt x4)), (5, .int (Int32.ofInt x5)), (6, .int (Int32.ofInt r39)), (7, .int (Int32.ofInt x7))]) (lf_sb1 rfl (lf_sb1 rfl (lf_sb1 rfl (lf_sb1 rfl (lf_sb1 rfl (lf_sb1 rfl (lf_sb1 rfl (lf_sb1 rfl lf_sb0)))))))) ?_
        exact gm_294_p197 hX63 hX94 h
theorem gm_294_p94L {L : Nat} {xs : Nat → Int32} {d : Nat} {X63 : Int → Int → Int → lf_Z → Prop} {Q : Int → lf_Z → Prop} {x1 : Int} {x2 : Int} {x3 : Int} {x4 : Int} {x5 : Int} {x6 : Int} {x7 : Int} {s : lf_Z} (hX63 : ∀ x2 x3 x4 s, X63 x2 x3 x4 s → lf_E (px_ro L xs) (d + 6) 294 63 [(0, .ref 95), (1, .int (Int32.ofInt x1)), (2, .int (Int32.ofInt x2)), (3, .int (Int32.ofInt x3)), (4, .int (Int32.ofInt x4))] [] s (lf_qi Q)) (h : fm_294_p94L X63 Q x1 x2 x3 x4 x5 x6 x7 s) : lf_E (px_ro L xs) (d + 6) 294 94 [(0, .ref 95), (1, .int (Int32.ofInt x1)), (2, .int (Int32.ofInt x2)), (3, .int (Int32.ofInt x3)), (4, .int (Int32.ofInt x4)), (5, .int (Int32.ofInt x5)), (6, .int (Int32.ofInt x6)), (7, .int (Int32.ofInt x7))] [] s (lf_qi Q) :=
  h (fun x2 x6 x7 s => lf_E (px_ro L xs) (d + 6) 294 94 [(0, .ref 95), (1, .int (Int32.ofInt x1)), (2, .int (Int32.ofInt x2)), (3, .int (Int32.ofInt x3)), (4, .int (Int32.ofInt x4)), (5, .int (Int32.ofInt x5)), (6, .int (Int32.ofInt x6)), (7, .int (Int32.ofInt x7))] [] s (lf_qi Q)) (fun x2 x6 x7 s hb => gm_294_p94 hX63 (fun _ _ _ _ h => h) hb)
def fm_294_p63 (Q : Int → lf_Z → Prop) (x1 : Int) (X63 : Int → Int → Int → lf_Z → Prop) (x2 : Int) (x3 : Int) (x4 : Int) (s : lf_Z) : Prop := lf_R x4 ∧ (lf_R x2 ∧ ((x2 ≤ x4 → (Q x3 s)) ∧ (¬ (x2 ≤ x4) → ((0 ≤ x4 ∧ x4 < 156) ∧ (lf_R (s.1 112 x4) ∧ (fm_294_p94L X63 Q x1 x2 (lf_or x3 (lf_shl 1 ((s.1 112 x4).tdiv 13))) x4 ((s.1 112 x4).tdiv 13) 0 0 s))))))
def fm_294_p63L (Q : Int → lf_Z → Prop) (x1 : Int) (x2 : Int) (x3 : Int) (x4 : Int) (s : lf_Z) : Prop := ∀ X63 : Int → Int → Int → lf_Z → Prop, (∀ (x2 : Int) (x3 : Int) (x4 : Int) (s : lf_Z), fm_294_p63 Q x1 X63 x2 x3 x4 s → X63 x2 x3 x4 s) → X63 x2 x3 x4 s
set_option maxRecDepth 100000 in
theorem gm_294_p63 {L : Nat} {xs : Nat → Int32} {d : Nat} {Q : Int → lf_Z → Prop} {x1 : Int} {x2 : Int} {x3 : Int} {x4 : Int} {s : lf_Z} {X63 : Int → Int → Int → lf_Z → Prop} (hX63 : ∀ x2 x3 x4 s, X63 x2 x3 x4 s → lf_E (px_ro L xs) (d + 6) 294 63 [(0, .ref 95), (1, .int (Int32.ofInt x1)), (2, .int (Int32.ofInt x2)), (3, .int (Int32.ofInt x3)), (4, .int (Int32.ofInt x4))] [] s (lf_qi Q)) (h : fm_294_p63 Q x1 X63 x2 x3 x4 s) : lf_E (px_ro L xs) (d + 6) 294 63 [(0, .ref 95), (1, .int (Int32.ofInt x1)), (2, .int (Int32.ofInt x2)), (3, .int (Int32.ofInt x3)), (4, .int (Int32.ofInt x4))] [] s (lf_qi Q) := by
  unfold fm_294_p63 at h
  refine lf_seg 2 (pc' := 66) (lv' := [(0, .ref 95), (1, .int (Int32.ofInt x1)), (2, .int (Int32.ofInt x2)), (3, .int (Int32.ofInt x3)), (4, .int (Int32.ofInt x4))]) (st' := [.int (Int32.ofInt x2), .int (Int32.ofInt x4)]) rfl ?_
  obtain ⟨o27, h⟩ := h
  obtain ⟨o28, h⟩ := h
  refine lf_icmp_ge 209 69 rfl rfl rfl o27 o28 (fun c => ?_) (fun c => ?_)
  · have h := h.1 c
    refine lf_seg 1 (pc' := 210) (lv' := [(0, .ref 95), (1, .int (Int32.ofInt x1)), (2, .int (Int32.ofInt x2)), (3, .int (Int32.ofInt x3)), (4, .int (Int32.ofInt x4))]) (st' := [.int (Int32.ofInt x3)]) rfl ?_
    exact lf_retI rfl rfl h
  · have h := h.2 c
    refine lf_seg 3 (pc' := 75) (lv' := [(0, .ref 95), (1, .int (Int32.ofInt x1)), (2, .int (Int32.ofInt x2)), (3, .int (Int32.ofInt x3)), (4, .int (Int32.ofInt x4))]) (st' := [.int (Int32.ofInt x4), .ref 112]) rfl ?_
    obtain ⟨o29, h⟩ := h
    refine lf_iald 76 156 rfl rfl rfl rfl rfl rfl o29 ?_
    refine lf_bipush 78 13 rfl rfl (by decide) (by decide) ?_
    obtain ⟨o30, h⟩ := h
    refine lf_idiv 79 rfl rfl o30 ⟨by decide, by decide⟩ (by decide) ?_
    refine lf_seg 4 (pc' := 85) (lv' := [(5, .int (Int32.ofInt ((s.1 112 x4).tdiv 13))), (0, .ref 95), (1, .int (Int32.ofInt x1)), (2, .int (Int32.ofInt x2)), (3, .int (Int32.ofInt x3)), (4, .int (Int32.ofInt x4))]) (st' := [.int (Int32.ofInt ((s.1 112 x4).tdiv 13)), .int (Int32.ofInt 1), .int (Int32.ofInt x3)]) rfl ?_
    refine lf_ishl 86 rfl rfl ?_
    refine lf_ior 87 rfl rfl ?_
    refine lf_seg 5 (pc' := 94) (lv' := [(7, .int (Int32.ofInt 0)), (6, .int (Int32.ofInt 0)), (3, .int (Int32.ofInt (lf_or x3 (lf_shl 1 ((s.1 112 x4).tdiv 13))))), (5, .int (Int32.ofInt ((s.1 112 x4).tdiv 13))), (0, .ref 95), (1, .int (Int32.ofInt x1)), (2, .int (Int32.ofInt x2)), (4, .int (Int32.ofInt x4))]) (st' := []) rfl ?_
    refine lf_sub (l := [(0, .ref 95), (1, .int (Int32.ofInt x1)), (2, .int (Int32.ofInt x2)), (3, .int (Int32.ofInt (lf_or x3 (lf_shl 1 ((s.1 112 x4).tdiv 13))))), (4, .int (Int32.ofInt x4)), (5, .int (Int32.ofInt ((s.1 112 x4).tdiv 13))), (6, .int (Int32.ofInt 0)), (7, .int (Int32.ofInt 0))]) (lf_sb1 rfl (lf_sb1 rfl (lf_sb1 rfl (lf_sb1 rfl (lf_sb1 rfl (lf_sb1 rfl (lf_sb1 rfl (lf_sb1 rfl lf_sb0)))))))) ?_
    exact gm_294_p94L hX63 h
theorem gm_294_p63L {L : Nat} {xs : Nat → Int32} {d : Nat} {Q : Int → lf_Z → Prop} {x1 : Int} {x2 : Int} {x3 : Int} {x4 : Int} {s : lf_Z} (h : fm_294_p63L Q x1 x2 x3 x4 s) : lf_E (px_ro L xs) (d + 6) 294 63 [(0, .ref 95), (1, .int (Int32.ofInt x1)), (2, .int (Int32.ofInt x2)), (3, .int (Int32.ofInt x3)), (4, .int (Int32.ofInt x4))] [] s (lf_qi Q) :=
  h (fun x2 x3 x4 s => lf_E (px_ro L xs) (d + 6) 294 63 [(0, .ref 95), (1, .int (Int32.ofInt x1)), (2, .int (Int32.ofInt x2)), (3, .int (Int32.ofInt x3)), (4, .int (Int32.ofInt x4))] [] s (lf_qi Q)) (fun x2 x3 x4 s hb => gm_294_p63 (fun _ _ _ _ h => h) hb)
def fm_294_p2 (Q : Int → lf_Z → Prop) (x1 : Int) (X2 : Int → lf_Z → Prop) (x2 : Int) (s : lf_Z) : Prop := lf_R x2 ∧ ((156 ≤ x2 → (fm_255 x1 (fun r23 s22 => (fm_256 x1 (fun r25 s24 => ((0 ≤ ((13 * r23) + r25) + 1 ∧ ((13 * r23) + r25) + 1 < 156) ∧ (fm_294_p63L Q x1 1 0 0 (lf_up (lf_up s24.1 112 0 (((13 * r23) + r25) + 1)) 111 (((13 * r23) + r25) + 1) 1, s24.2.1, s24.2.2)))) s22)) s)) ∧ (¬ (156 ≤ x2) → ((0 ≤ x2 ∧ x2 < 156) ∧ (X2 (x2 + 1) (lf_up s.1 111 x2 0, s.2.1, s.2.2)))))
def fm_294_p2L (Q : Int → lf_Z → Prop) (x1 : Int) (x2 : Int) (s : lf_Z) : Prop := ∀ X2 : Int → lf_Z → Prop, (∀ (x2 : Int) (s : lf_Z), fm_294_p2 Q x1 X2 x2 s → X2 x2 s) → X2 x2 s
set_option maxRecDepth 100000 in
theorem gm_294_p2 {L : Nat} {xs : Nat → Int32} {d : Nat} {Q : Int → lf_Z → Prop} {x1 : Int} {x2 : Int} {s : lf_Z} {X2 : Int → lf_Z → Prop} (hX2 : ∀ x2 s, X2 x2 s → lf_E (px_ro L xs) (d + 6) 294 2 [(0, .ref 95), (1, .int (Int32.ofInt x1)), (2, .int (Int32.ofInt x2))] [] s (lf_qi Q)) (h : fm_294_p2 Q x1 X2 x2 s) : lf_E (px_ro L xs) (d + 6) 294 2 [(0, .ref 95), (1, .int (Int32.ofInt x1)), (2, .int (Int32.ofInt x2))] [] s (lf_qi Q) := by
  unfold fm_294_p2 at h
  refine lf_seg 1 (pc' := 3) (lv' := [(0, .ref 95), (1, .int (Int32.ofInt x1)), (2, .int (Int32.ofInt x2))]) (st' := [.int (Int32.ofInt x2)]) rfl ?_
  refine lf_sipush 6 156 rfl rfl (by decide) (by decide) ?_
  obtain ⟨o21, h⟩ := h
  refine lf_icmp_ge 22 9 rfl rfl rfl o21 ⟨by decide, by decide⟩ (fun c => ?_) (fun c => ?_)
  · have h := h.1 c
    refine lf_seg 3 (pc' := 27) (lv' := [(0, .ref 95), (1, .int (Int32.ofInt x1)), (2, .int (Int32.ofInt x2))]) (st' := [.int (Int32.ofInt 0), .ref 112]) rfl ?_
    refine lf_bipush 29 13 rfl rfl (by decide) (by decide) ?_
    refine lf_seg 2 (pc' := 31) (lv' := [(0, .ref 95), (1, .int (Int32.ofInt x1)), (2, .int (Int32.ofInt x2))]) (st' := [.int (Int32.ofInt x1), .ref 95, .int (Int32.ofInt 13), .int (Int32.ofInt 0), .ref 112]) rfl ?_
    refine lf_callI 34 rfl rfl rfl rfl (gm_255 h) (fun r23 s22 h => ?_)
    refine lf_imul 35 rfl rfl ?_
    refine lf_seg 2 (pc' := 37) (lv' := [(0, .ref 95), (1, .int (Int32.ofInt x1)), (2, .int (Int32.ofInt x2))]) (st' := [.int (Int32.ofInt x1), .ref 95, .int (Int32.ofInt (13 * r23)), .int (Int32.ofInt 0), .ref 112]) rfl ?_
    refine lf_callI 40 rfl rfl rfl rfl (gm_256 h) (fun r25 s24 h => ?_)
    refine lf_iadd 41 rfl rfl ?_
    refine lf_seg 1 (pc' := 42) (lv' := [(0, .ref 95), (1, .int (Int32.ofInt x1)), (2, .int (Int32.ofInt x2))]) (st' := [.int (Int32.ofInt 1), .int (Int32.ofInt ((13 * r23) + r25)), .int (Int32.ofInt 0), .ref 112]) rfl ?_
    refine lf_iadd 43 rfl rfl ?_
    refine lf_iast 44 156 rfl rfl rfl rfl rfl rfl ⟨by decide, by decide⟩ ?_
    refine lf_as (lf_up s24.1 112 0 (((13 * r23) + r25) + 1), s24.2.1, s24.2.2) rfl ?_
    refine lf_seg 5 (pc' := 53) (lv' := [(0, .ref 95), (1, .int (Int32.ofInt x1)), (2, .int (Int32.ofInt x2))]) (st' := [.int (Int32.ofInt 0), .ref 112, .ref 111]) rfl ?_
    refine lf_iald 54 156 rfl rfl rfl rfl rfl rfl ⟨by decide, by decide⟩ ?_
    refine lf_seg 1 (pc' := 55) (lv' := [(0, .ref 95), (1, .int (Int32.ofInt x1)), (2, .int (Int32.ofInt x2))]) (st' := [.int (Int32.ofInt 1), .int (Int32.ofInt (((13 * r23) + r25) + 1)), .ref 111]) rfl ?_
    obtain ⟨o26, h⟩ := h
    refine lf_zast 56 156 rfl rfl rfl rfl rfl rfl o26 (Or.inr rfl) ?_
    refine lf_as (lf_up (lf_up s24.1 112 0 (((13 * r23) + r25) + 1)) 111 (((13 * r23) + r25) + 1) 1, s24.2.1, s24.2.2) rfl ?_
    refine lf_seg 6 (pc' := 63) (lv' := [(4, .int (Int32.ofInt 0)), (3, .int (Int32.ofInt 0)), (2, .int (Int32.ofInt 1)), (0, .ref 95), (1, .int (Int32.ofInt x1))]) (st' := []) rfl ?_
    refine lf_sub (l := [(0, .ref 95), (1, .int (Int32.ofInt x1)), (2, .int (Int32.ofInt 1)), (3, .int (Int32.ofInt 0)), (4, .int (Int32.ofInt 0))]) (lf_sb1 rfl (lf_sb1 rfl (lf_sb1 rfl (lf_sb1 rfl (lf_sb1 rfl lf_sb0))))) ?_
    exact gm_294_p63L h
  · have h := h.2 c
    refine lf_seg 4 (pc' := 15) (lv' := [(0, .ref 95), (1, .int (Int32.ofInt x1)), (2, .int (Int32.ofInt x2))]) (st' := [.int (Int32.ofInt 0), .int (Int32.ofInt x2), .ref 111]) rfl ?_
    obtain ⟨o46, h⟩ := h
    refine lf_zast 16 156 rfl rfl rfl rfl rfl rfl o46 (Or.inl rfl) ?_
    refine lf_as (lf_up s.1 111 x2 0, s.2.1, s.2.2) rfl ?_
    refine lf_iinc 19 rfl rfl rfl rfl ?_
    refine lf_seg 1 (pc' := 2) (lv' := [(2, .int (Int32.ofInt (x2 + 1))), (0, .ref 95), (1, .int (Int32.ofInt x1))]) (st' := []) rfl ?_
    refine lf_sub (l := [(0, .ref 95), (1, .int (Int32.ofInt x1)), (2, .int (Int32.ofInt (x2 + 1)))]) (lf_sb1 rfl (lf_sb1 rfl (lf_sb1 rfl lf_sb0))) ?_
    exact hX2 _ _ h
theorem gm_294_p2L {L : Nat} {xs : Nat → Int32} {d : Nat} {Q : Int → lf_Z → Prop} {x1 : Int} {x2 : Int} {s : lf_Z} (h : fm_294_p2L Q x1 x2 s) : lf_E (px_ro L xs) (d + 6) 294 2 [(0, .ref 95), (1, .int (Int32.ofInt x1)), (2, .int (Int32.ofInt x2))] [] s (lf_qi Q) :=
  h (fun x2 s => lf_E (px_ro L xs) (d + 6) 294 2 [(0, .ref 95), (1, .int (Int32.ofInt x1)), (2, .int (Int32.ofInt x2))] [] s (lf_qi Q)) (fun x2 s hb => gm_294_p2 (fun _ _ h => h) hb)
def fm_294 (a1 : Int) (Q : Int → lf_Z → Prop) (s : lf_Z) : Prop := fm_294_p2L Q a1 0 s
set_option maxRecDepth 100000 in
theorem gm_294 {L : Nat} {xs : Nat → Int32} {d : Nat} {a1 : Int} {Q : Int → lf_Z → Prop} {s : lf_Z} (h : fm_294 a1 Q s) : lf_M (px_ro L xs) (d + 6) 294 [.ref 95, .int (Int32.ofInt a1)] s (lf_qi Q) := by
  unfold fm_294 at h
  show lf_E (px_ro L xs) (d + 6) 294 0 [(0, .ref 95), (1, .int (Int32.ofInt a1))] [] s _
  refine lf_seg 2 (pc' := 2) (lv' := [(2, .int (Int32.ofInt 0)), (0, .ref 95), (1, .int (Int32.ofInt a1))]) (st' := []) rfl ?_
  refine lf_sub (l := [(0, .ref 95), (1, .int (Int32.ofInt a1)), (2, .int (Int32.ofInt 0))]) (lf_sb1 rfl (lf_sb1 rfl (lf_sb1 rfl lf_sb0))) ?_
  exact gm_294_p2L h
-- fm_293 Model.canCome 95 i
def fm_293 (a1 : Int) (Q : Int → lf_Z → Prop) (s : lf_Z) : Prop := fm_254 a1 (fun z22 s21 => ((z22 = false → (Q (-1) s21)) ∧ (z22 = true → (fm_294 a1 (fun r24 s23 => (Q r24 s23)) s21)))) s
set_option maxRecDepth 100000 in
theorem gm_293 {L : Nat} {xs : Nat → Int32} {d : Nat} {a1 : Int} {Q : Int → lf_Z → Prop} {s : lf_Z} (h : fm_293 a1 Q s) : lf_M (px_ro L xs) (d + 7) 293 [.ref 95, .int (Int32.ofInt a1)] s (lf_qi Q) := by
  unfold fm_293 at h
  show lf_E (px_ro L xs) (d + 7) 293 0 [(0, .ref 95), (1, .int (Int32.ofInt a1))] [] s _
  refine lf_seg 2 (pc' := 2) (lv' := [(0, .ref 95), (1, .int (Int32.ofInt a1))]) (st' := [.int (Int32.ofInt a1), .ref 95]) rfl ?_
  refine lf_callZ 5 rfl rfl rfl rfl (gm_254 h) (fun z22 s21 h => ?_)
  refine lf_ifz_eq 16 8 rfl rfl rfl (fun c => ?_) (fun c => ?_)
  · have h := h.1 c
    refine lf_seg 1 (pc' := 17) (lv' := [(0, .ref 95), (1, .int (Int32.ofInt a1))]) (st' := [.int (Int32.ofInt (-1))]) rfl ?_
    exact lf_retI rfl rfl h
  · have h := h.2 c
    refine lf_seg 2 (pc' := 10) (lv' := [(0, .ref 95), (1, .int (Int32.ofInt a1))]) (st' := [.int (Int32.ofInt a1), .ref 95]) rfl ?_
    refine lf_callI 13 rfl rfl rfl rfl (gm_294 h) (fun r24 s23 h => ?_)
    refine lf_seg 1 (pc' := 17) (lv' := [(0, .ref 95), (1, .int (Int32.ofInt a1))]) (st' := [.int (Int32.ofInt r24)]) rfl ?_
    exact lf_retI rfl rfl h
-- fm_132 Land.bitsOfKind 1 i
def fm_132_p28 (X4 : Int → Int → lf_Z → Prop) (Q : Int → lf_Z → Prop) (x1 : Int) (x2 : Int) (x3 : Int) (s : lf_Z) : Prop := X4 x2 (x3 + 1) s
set_option maxRecDepth 100000 in
theorem gm_132_p28 {L : Nat} {xs : Nat → Int32} {d : Nat} {X4 : Int → Int → lf_Z → Prop} {Q : Int → lf_Z → Prop} {x1 : Int} {x2 : Int} {x3 : Int} {s : lf_Z} (hX4 : ∀ x2 x3 s, X4 x2 x3 s → lf_E (px_ro L xs) (d + 1) 132 4 [(0, .ref 1), (1, .int (Int32.ofInt x1)), (2, .int (Int32.ofInt x2)), (3, .int (Int32.ofInt x3))] [] s (lf_qi Q)) (h : fm_132_p28 X4 Q x1 x2 x3 s) : lf_E (px_ro L xs) (d + 1) 132 28 [(0, .ref 1), (1, .int (Int32.ofInt x1)), (2, .int (Int32.ofInt x2)), (3, .int (Int32.ofInt x3))] [] s (lf_qi Q) := by
  unfold fm_132_p28 at h
  refine lf_iinc 31 rfl rfl rfl rfl ?_
  refine lf_seg 1 (pc' := 4) (lv' := [(3, .int (Int32.ofInt (x3 + 1))), (0, .ref 1), (1, .int (Int32.ofInt x1)), (2, .int (Int32.ofInt x2))]) (st' := []) rfl ?_
  refine lf_sub (l := [(0, .ref 1), (1, .int (Int32.ofInt x1)), (2, .int (Int32.ofInt x2)), (3, .int (Int32.ofInt (x3 + 1)))]) (lf_sb1 rfl (lf_sb1 rfl (lf_sb1 rfl (lf_sb1 rfl lf_sb0)))) ?_
  exact hX4 _ _ _ h
def fm_132_p4 (Q : Int → lf_Z → Prop) (x1 : Int) (X4 : Int → Int → lf_Z → Prop) (x2 : Int) (x3 : Int) (s : lf_Z) : Prop := lf_R x3 ∧ (lf_R (s.1 1 0) ∧ ((s.1 1 0 ≤ x3 → (Q x2 s)) ∧ (¬ (s.1 1 0 ≤ x3) → ((0 ≤ x3 ∧ x3 < 12) ∧ (lf_R (s.1 2 x3) ∧ (lf_R x1 ∧ ((s.1 2 x3 ≠ x1 → (fm_132_p28 X4 Q x1 x2 x3 s)) ∧ (¬ (s.1 2 x3 ≠ x1) → (fm_132_p28 X4 Q x1 (lf_or x2 (lf_shl 1 x3)) x3 s)))))))))
def fm_132_p4L (Q : Int → lf_Z → Prop) (x1 : Int) (x2 : Int) (x3 : Int) (s : lf_Z) : Prop := ∀ X4 : Int → Int → lf_Z → Prop, (∀ (x2 : Int) (x3 : Int) (s : lf_Z), fm_132_p4 Q x1 X4 x2 x3 s → X4 x2 x3 s) → X4 x2 x3 s
set_option maxRecDepth 100000 in
theorem gm_132_p4 {L : Nat} {xs : Nat → Int32} {d : Nat} {Q : Int → lf_Z → Prop} {x1 : Int} {x2 : Int} {x3 : Int} {s : lf_Z} {X4 : Int → Int → lf_Z → Prop} (hX4 : ∀ x2 x3 s, X4 x2 x3 s → lf_E (px_ro L xs) (d + 1) 132 4 [(0, .ref 1), (1, .int (Int32.ofInt x1)), (2, .int (Int32.ofInt x2)), (3, .int (Int32.ofInt x3))] [] s (lf_qi Q)) (h : fm_132_p4 Q x1 X4 x2 x3 s) : lf_E (px_ro L xs) (d + 1) 132 4 [(0, .ref 1), (1, .int (Int32.ofInt x1)), (2, .int (Int32.ofInt x2)), (3, .int (Int32.ofInt x3))] [] s (lf_qi Q) := by
  unfold fm_132_p4 at h
  refine lf_seg 2 (pc' := 6) (lv' := [(0, .ref 1), (1, .int (Int32.ofInt x1)), (2, .int (Int32.ofInt x2)), (3, .int (Int32.ofInt x3))]) (st' := [.ref 1, .int (Int32.ofInt x3)]) rfl ?_
  refine lf_getI 9 0 rfl rfl rfl rfl rfl rfl rfl ?_
  obtain ⟨o21, h⟩ := h
  obtain ⟨o22, h⟩ := h
  refine lf_icmp_ge 34 12 rfl rfl rfl o21 o22 (fun c => ?_) (fun c => ?_)
  · have h := h.1 c
    refine lf_seg 1 (pc' := 35) (lv' := [(0, .ref 1), (1, .int (Int32.ofInt x1)), (2, .int (Int32.ofInt x2)), (3, .int (Int32.ofInt x3))]) (st' := [.int (Int32.ofInt x2)]) rfl ?_
    exact lf_retI rfl rfl h
  · have h := h.2 c
    refine lf_seg 3 (pc' := 17) (lv' := [(0, .ref 1), (1, .int (Int32.ofInt x1)), (2, .int (Int32.ofInt x2)), (3, .int (Int32.ofInt x3))]) (st' := [.int (Int32.ofInt x3), .ref 2]) rfl ?_
    obtain ⟨o23, h⟩ := h
    refine lf_iald 18 12 rfl rfl rfl rfl rfl rfl o23 ?_
    refine lf_seg 1 (pc' := 19) (lv' := [(0, .ref 1), (1, .int (Int32.ofInt x1)), (2, .int (Int32.ofInt x2)), (3, .int (Int32.ofInt x3))]) (st' := [.int (Int32.ofInt x1), .int (Int32.ofInt (s.1 2 x3))]) rfl ?_
    obtain ⟨o24, h⟩ := h
    obtain ⟨o25, h⟩ := h
    refine lf_icmp_ne 28 22 rfl rfl rfl o24 o25 (fun c => ?_) (fun c => ?_)
    · have h := h.1 c
      refine lf_sub (l := [(0, .ref 1), (1, .int (Int32.ofInt x1)), (2, .int (Int32.ofInt x2)), (3, .int (Int32.ofInt x3))]) (lf_sb1 rfl (lf_sb1 rfl (lf_sb1 rfl (lf_sb1 rfl lf_sb0)))) ?_
      exact gm_132_p28 hX4 h
    · have h := h.2 c
      refine lf_seg 3 (pc' := 25) (lv' := [(0, .ref 1), (1, .int (Int32.ofInt x1)), (2, .int (Int32.ofInt x2)), (3, .int (Int32.ofInt x3))]) (st' := [.int (Int32.ofInt x3), .int (Int32.ofInt 1), .int (Int32.ofInt x2)]) rfl ?_
      refine lf_ishl 26 rfl rfl ?_
      refine lf_ior 27 rfl rfl ?_
      refine lf_seg 1 (pc' := 28) (lv' := [(2, .int (Int32.ofInt (lf_or x2 (lf_shl 1 x3)))), (0, .ref 1), (1, .int (Int32.ofInt x1)), (3, .int (Int32.ofInt x3))]) (st' := []) rfl ?_
      refine lf_sub (l := [(0, .ref 1), (1, .int (Int32.ofInt x1)), (2, .int (Int32.ofInt (lf_or x2 (lf_shl 1 x3)))), (3, .int (Int32.ofInt x3))]) (lf_sb1 rfl (lf_sb1 rfl (lf_sb1 rfl (lf_sb1 rfl lf_sb0)))) ?_
      exact gm_132_p28 hX4 h
theorem gm_132_p4L {L : Nat} {xs : Nat → Int32} {d : Nat} {Q : Int → lf_Z → Prop} {x1 : Int} {x2 : Int} {x3 : Int} {s : lf_Z} (h : fm_132_p4L Q x1 x2 x3 s) : lf_E (px_ro L xs) (d + 1) 132 4 [(0, .ref 1), (1, .int (Int32.ofInt x1)), (2, .int (Int32.ofInt x2)), (3, .int (Int32.ofInt x3))] [] s (lf_qi Q) :=
  h (fun x2 x3 s => lf_E (px_ro L xs) (d + 1) 132 4 [(0, .ref 1), (1, .int (Int32.ofInt x1)), (2, .int (Int32.ofInt x2)), (3, .int (Int32.ofInt x3))] [] s (lf_qi Q)) (fun x2 x3 s hb => gm_132_p4 (fun _ _ _ h => h) hb)
def fm_132 (a1 : Int) (Q : Int → lf_Z → Prop) (s : lf_Z) : Prop := fm_132_p4L Q a1 0 0 s
set_option maxRecDepth 100000 in
theorem gm_132 {L : Nat} {xs : Nat → Int32} {d : Nat} {a1 : Int} {Q : Int → lf_Z → Prop} {s : lf_Z} (h : fm_132 a1 Q s) : lf_M (px_ro L xs) (d + 1) 132 [.ref 1, .int (Int32.ofInt a1)] s (lf_qi Q) := by
  unfold fm_132 at h
  show lf_E (px_ro L xs) (d + 1) 132 0 [(0, .ref 1), (1, .int (Int32.ofInt a1))] [] s _
  refine lf_seg 4 (pc' := 4) (lv' := [(3, .int (Int32.ofInt 0)), (2, .int (Int32.ofInt 0)), (0, .ref 1), (1, .int (Int32.ofInt a1))]) (st' := []) rfl ?_
  refine lf_sub (l := [(0, .ref 1), (1, .int (Int32.ofInt a1)), (2, .int (Int32.ofInt 0)), (3, .int (Int32.ofInt 0))]) (lf_sb1 rfl (lf_sb1 rfl (lf_sb1 rfl (lf_sb1 rfl lf_sb0)))) ?_
  exact gm_132_p4L h
-- fm_133 ElevenBullocks.nextSet i
def fm_133 (a0 : Int) (Q : Int → lf_Z → Prop) (s : lf_Z) : Prop := (lf_and a0 (lf_w (-a0)) ≠ 0 → ((lf_and a0 (lf_w (-a0))) ≠ 0 ∧ (Q (lf_or (lf_w (a0 + (lf_and a0 (lf_w (-a0))))) (lf_ushr (lf_w ((lf_xor a0 (lf_w (a0 + (lf_and a0 (lf_w (-a0)))))).tdiv (lf_and a0 (lf_w (-a0))))) 2)) s))) ∧ (¬ (lf_and a0 (lf_w (-a0)) ≠ 0) → (Q 65536 s))
set_option maxRecDepth 100000 in
theorem gm_133 {L : Nat} {xs : Nat → Int32} {d : Nat} {a0 : Int} {Q : Int → lf_Z → Prop} {s : lf_Z} (h : fm_133 a0 Q s) : lf_M (px_ro L xs) (d + 1) 133 [.int (Int32.ofInt a0)] s (lf_qi Q) := by
  unfold fm_133 at h
  show lf_E (px_ro L xs) (d + 1) 133 0 [(0, .int (Int32.ofInt a0))] [] s _
  refine lf_seg 2 (pc' := 2) (lv' := [(0, .int (Int32.ofInt a0))]) (st' := [.int (Int32.ofInt a0), .int (Int32.ofInt a0)]) rfl ?_
  refine lf_ineg 3 rfl rfl ?_
  refine lf_wtI ?_
  refine lf_iand 4 rfl rfl ?_
  refine lf_seg 3 (pc' := 7) (lv' := [(1, .int (Int32.ofInt (lf_and a0 (lf_w (-a0))))), (0, .int (Int32.ofInt a0))]) (st' := [.int (Int32.ofInt (lf_and a0 (lf_w (-a0)))), .int (Int32.ofInt a0)]) rfl ?_
  refine lf_iadd 8 rfl rfl ?_
  refine lf_wtI ?_
  refine lf_seg 2 (pc' := 10) (lv' := [(2, .int (Int32.ofInt (lf_w (a0 + (lf_and a0 (lf_w (-a0))))))), (1, .int (Int32.ofInt (lf_and a0 (lf_w (-a0))))), (0, .int (Int32.ofInt a0))]) (st' := [.int (Int32.ofInt (lf_and a0 (lf_w (-a0))))]) rfl ?_
  refine lf_if_ne 19 13 rfl rfl rfl lf_Rand (fun c => ?_) (fun c => ?_)
  · have h := h.1 c
    refine lf_seg 3 (pc' := 22) (lv' := [(2, .int (Int32.ofInt (lf_w (a0 + (lf_and a0 (lf_w (-a0))))))), (1, .int (Int32.ofInt (lf_and a0 (lf_w (-a0))))), (0, .int (Int32.ofInt a0))]) (st' := [.int (Int32.ofInt (lf_w (a0 + (lf_and a0 (lf_w (-a0)))))), .int (Int32.ofInt a0), .int (Int32.ofInt (lf_w (a0 + (lf_and a0 (lf_w (-a0))))))]) rfl ?_
    refine lf_ixor 23 rfl rfl ?_
    refine lf_seg 1 (pc' := 24) (lv' := [(2, .int (Int32.ofInt (lf_w (a0 + (lf_and a0 (lf_w (-a0))))))), (1, .int (Int32.ofInt (lf_and a0 (lf_w (-a0))))), (0, .int (Int32.ofInt a0))]) (st' := [.int (Int32.ofInt (lf_and a0 (lf_w (-a0)))), .int (Int32.ofInt (lf_xor a0 (lf_w (a0 + (lf_and a0 (lf_w (-a0))))))), .int (Int32.ofInt (lf_w (a0 + (lf_and a0 (lf_w (-a0))))))]) rfl ?_
    obtain ⟨o21, h⟩ := h
    refine lf_idiv 25 rfl rfl lf_Rxor lf_Rand o21 ?_
    refine lf_wtI ?_
    refine lf_seg 1 (pc' := 26) (lv' := [(2, .int (Int32.ofInt (lf_w (a0 + (lf_and a0 (lf_w (-a0))))))), (1, .int (Int32.ofInt (lf_and a0 (lf_w (-a0))))), (0, .int (Int32.ofInt a0))]) (st' := [.int (Int32.ofInt 2), .int (Int32.ofInt (lf_w ((lf_xor a0 (lf_w (a0 + (lf_and a0 (lf_w (-a0)))))).tdiv (lf_and a0 (lf_w (-a0)))))), .int (Int32.ofInt (lf_w (a0 + (lf_and a0 (lf_w (-a0))))))]) rfl ?_
    refine lf_iushr 27 rfl rfl ?_
    refine lf_ior 28 rfl rfl ?_
    exact lf_retI rfl rfl h
  · have h := h.2 c
    refine lf_ldcw 16 65536 rfl rfl rfl (by decide) ?_
    refine lf_seg 1 (pc' := 28) (lv' := [(2, .int (Int32.ofInt (lf_w (a0 + (lf_and a0 (lf_w (-a0))))))), (1, .int (Int32.ofInt (lf_and a0 (lf_w (-a0))))), (0, .int (Int32.ofInt a0))]) (st' := [.int (Int32.ofInt 65536)]) rfl ?_
    exact lf_retI rfl rfl h
-- fm_131 Walk.fewestWhoStop 68 i i
def fm_131_p120 (X29 : Int → lf_Z → Prop) (Q : Int → lf_Z → Prop) (x1 : Int) (x3 : Int) (x4 : Int) (x5 : Int) (s : lf_Z) : Prop := X29 (x5 + 1) s
set_option maxRecDepth 100000 in
theorem gm_131_p120 {L : Nat} {xs : Nat → Int32} {d : Nat} {X29 : Int → lf_Z → Prop} {Q : Int → lf_Z → Prop} {x1 : Int} {x3 : Int} {x4 : Int} {x5 : Int} {s : lf_Z} (hX29 : ∀ x5 s, X29 x5 s → lf_E (px_ro L xs) (d + 7) 131 29 [(0, .ref 68), (1, .int (Int32.ofInt x1)), (3, .int (Int32.ofInt x3)), (4, .int (Int32.ofInt x4)), (5, .int (Int32.ofInt x5))] [] s (lf_qi Q)) (h : fm_131_p120 X29 Q x1 x3 x4 x5 s) : lf_E (px_ro L xs) (d + 7) 131 120 [(0, .ref 68), (1, .int (Int32.ofInt x1)), (3, .int (Int32.ofInt x3)), (4, .int (Int32.ofInt x4)), (5, .int (Int32.ofInt x5))] [] s (lf_qi Q) := by
  unfold fm_131_p120 at h
  refine lf_iinc 123 rfl rfl rfl rfl ?_
  refine lf_seg 1 (pc' := 29) (lv' := [(5, .int (Int32.ofInt (x5 + 1))), (0, .ref 68), (1, .int (Int32.ofInt x1)), (3, .int (Int32.ofInt x3)), (4, .int (Int32.ofInt x4))]) (st' := []) rfl ?_
  refine lf_sub (l := [(0, .ref 68), (1, .int (Int32.ofInt x1)), (3, .int (Int32.ofInt x3)), (4, .int (Int32.ofInt x4)), (5, .int (Int32.ofInt (x5 + 1)))]) (lf_sb1 rfl (lf_sb1 rfl (lf_sb1 rfl (lf_sb1 rfl (lf_sb1 rfl lf_sb0))))) ?_
  exact hX29 _ _ h
def fm_131_p112 (X29 : Int → lf_Z → Prop) (X46 : Int → Int → lf_Z → Prop) (Q : Int → lf_Z → Prop) (x1 : Int) (x3 : Int) (x4 : Int) (x5 : Int) (x7 : Int) (y0 : Int) (s : lf_Z) : Prop := X46 y0 (x7 + 1) s
set_option maxRecDepth 100000 in
theorem gm_131_p112 {L : Nat} {xs : Nat → Int32} {d : Nat} {X29 : Int → lf_Z → Prop} {X46 : Int → Int → lf_Z → Prop} {Q : Int → lf_Z → Prop} {x1 : Int} {x3 : Int} {x4 : Int} {x5 : Int} {x7 : Int} {y0 : Int} {s : lf_Z} (hX29 : ∀ x5 s, X29 x5 s → lf_E (px_ro L xs) (d + 7) 131 29 [(0, .ref 68), (1, .int (Int32.ofInt x1)), (3, .int (Int32.ofInt x3)), (4, .int (Int32.ofInt x4)), (5, .int (Int32.ofInt x5))] [] s (lf_qi Q)) (hX46 : ∀ x6 x7 s, X46 x6 x7 s → lf_E (px_ro L xs) (d + 7) 131 46 [(0, .ref 68), (1, .int (Int32.ofInt x1)), (3, .int (Int32.ofInt x3)), (4, .int (Int32.ofInt x4)), (5, .int (Int32.ofInt x5)), (6, .int (Int32.ofInt x6)), (7, .int (Int32.ofInt x7))] [] s (lf_qi Q)) (h : fm_131_p112 X29 X46 Q x1 x3 x4 x5 x7 y0 s) : lf_E (px_ro L xs) (d + 7) 131 112 [(0, .ref 68), (1, .int (Int32.ofInt x1)), (3, .int (Int32.ofInt x3)), (4, .int (Int32.ofInt x4)), (5, .int (Int32.ofInt x5)), (7, .int (Int32.ofInt x7))] [.int (Int32.ofInt y0)] s (lf_qi Q) := by
  unfold fm_131_p112 at h
  refine lf_seg 1 (pc' := 114) (lv' := [(6, .int (Int32.ofInt y0)), (0, .ref 68), (1, .int (Int32.ofInt x1)), (3, .int (Int32.ofInt x3)), (4, .int (Int32.ofInt x4)), (5, .int (Int32.ofInt x5)), (7, .int (Int32.ofInt x7))]) (st' := []) rfl ?_
  refine lf_iinc 117 rfl rfl rfl rfl ?_
  refine lf_seg 1 (pc' := 46) (lv' := [(7, .int (Int32.ofInt (x7 + 1))), (6, .int (Int32.ofInt y0)), (0, .ref 68), (1, .int (Int32.ofInt x1)), (3, .int (Int32.ofInt x3)), (4, .int (Int32.ofInt x4)), (5, .int (Int32.ofInt x5))]) (st' := []) rfl ?_
  refine lf_sub (l := [(0, .ref 68), (1, .int (Int32.ofInt x1)), (3, .int (Int32.ofInt x3)), (4, .int (Int32.ofInt x4)), (5, .int (Int32.ofInt x5)), (6, .int (Int32.ofInt y0)), (7, .int (Int32.ofInt (x7 + 1)))]) (lf_sb1 rfl (lf_sb1 rfl (lf_sb1 rfl (lf_sb1 rfl (lf_sb1 rfl (lf_sb1 rfl (lf_sb1 rfl lf_sb0))))))) ?_
  exact hX46 _ _ _ h
def fm_131_p97 (X29 : Int → lf_Z → Prop) (X46 : Int → Int → lf_Z → Prop) (Q : Int → lf_Z → Prop) (x1 : Int) (x3 : Int) (x4 : Int) (x5 : Int) (x6 : Int) (x7 : Int) (s : lf_Z) : Prop := lf_R x5 ∧ ((x5 ≠ 0 → (fm_133 x6 (fun r31 s30 => (fm_131_p112 X29 X46 Q x1 x3 x4 x5 x7 r31 s30)) s)) ∧ (¬ (x5 ≠ 0) → (fm_131_p112 X29 X46 Q x1 x3 x4 x5 x7 x4 s)))
set_option maxRecDepth 100000 in
theorem gm_131_p97 {L : Nat} {xs : Nat → Int32} {d : Nat} {X29 : Int → lf_Z → Prop} {X46 : Int → Int → lf_Z → Prop} {Q : Int → lf_Z → Prop} {x1 : Int} {x3 : Int} {x4 : Int} {x5 : Int} {x6 : Int} {x7 : Int} {s : lf_Z} (hX29 : ∀ x5 s, X29 x5 s → lf_E (px_ro L xs) (d + 7) 131 29 [(0, .ref 68), (1, .int (Int32.ofInt x1)), (3, .int (Int32.ofInt x3)), (4, .int (Int32.ofInt x4)), (5, .int (Int32.ofInt x5))] [] s (lf_qi Q)) (hX46 : ∀ x6 x7 s, X46 x6 x7 s → lf_E (px_ro L xs) (d + 7) 131 46 [(0, .ref 68), (1, .int (Int32.ofInt x1)), (3, .int (Int32.ofInt x3)), (4, .int (Int32.ofInt x4)), (5, .int (Int32.ofInt x5)), (6, .int (Int32.ofInt x6)), (7, .int (Int32.ofInt x7))] [] s (lf_qi Q)) (h : fm_131_p97 X29 X46 Q x1 x3 x4 x5 x6 x7 s) : lf_E (px_ro L xs) (d + 7) 131 97 [(0, .ref 68), (1, .int (Int32.ofInt x1)), (3, .int (Int32.ofInt x3)), (4, .int (Int32.ofInt x4)), (5, .int (Int32.ofInt x5)), (6, .int (Int32.ofInt x6)), (7, .int (Int32.ofInt x7))] [] s (lf_qi Q) := by
  unfold fm_131_p97 at h
  refine lf_seg 1 (pc' := 99) (lv' := [(0, .ref 68), (1, .int (Int32.ofInt x1)), (3, .int (Int32.ofInt x3)), (4, .int (Int32.ofInt x4)), (5, .int (Int32.ofInt x5)), (6, .int (Int32.ofInt x6)), (7, .int (Int32.ofInt x7))]) (st' := [.int (Int32.ofInt x5)]) rfl ?_
  obtain ⟨o29, h⟩ := h
  refine lf_if_ne 107 102 rfl rfl rfl o29 (fun c => ?_) (fun c => ?_)
  · have h := h.1 c
    refine lf_seg 1 (pc' := 109) (lv' := [(0, .ref 68), (1, .int (Int32.ofInt x1)), (3, .int (Int32.ofInt x3)), (4, .int (Int32.ofInt x4)), (5, .int (Int32.ofInt x5)), (6, .int (Int32.ofInt x6)), (7, .int (Int32.ofInt x7))]) (st' := [.int (Int32.ofInt x6)]) rfl ?_
    refine lf_callI 112 rfl rfl rfl rfl (gm_133 h) (fun r31 s30 h => ?_)
    refine lf_sub (l := [(0, .ref 68), (1, .int (Int32.ofInt x1)), (3, .int (Int32.ofInt x3)), (4, .int (Int32.ofInt x4)), (5, .int (Int32.ofInt x5)), (7, .int (Int32.ofInt x7))]) (lf_sb1 rfl (lf_sb1 rfl (lf_sb1 rfl (lf_sb1 rfl (lf_sb1 rfl (lf_sb1 rfl lf_sb0)))))) ?_
    exact gm_131_p112 hX29 hX46 h
  · have h := h.2 c
    refine lf_seg 2 (pc' := 112) (lv' := [(0, .ref 68), (1, .int (Int32.ofInt x1)), (3, .int (Int32.ofInt x3)), (4, .int (Int32.ofInt x4)), (5, .int (Int32.ofInt x5)), (6, .int (Int32.ofInt x6)), (7, .int (Int32.ofInt x7))]) (st' := [.int (Int32.ofInt x4)]) rfl ?_
    refine lf_sub (l := [(0, .ref 68), (1, .int (Int32.ofInt x1)), (3, .int (Int32.ofInt x3)), (4, .int (Int32.ofInt x4)), (5, .int (Int32.ofInt x5)), (7, .int (Int32.ofInt x7))]) (lf_sb1 rfl (lf_sb1 rfl (lf_sb1 rfl (lf_sb1 rfl (lf_sb1 rfl (lf_sb1 rfl lf_sb0)))))) ?_
    exact gm_131_p112 hX29 hX46 h
def fm_131_p46 (X29 : Int → lf_Z → Prop) (Q : Int → lf_Z → Prop) (x1 : Int) (x3 : Int) (x4 : Int) (x5 : Int) (X46 : Int → Int → lf_Z → Prop) (x6 : Int) (x7 : Int) (s : lf_Z) : Prop := lf_R x7 ∧ ((1000 ≤ x7 → (fm_131_p120 X29 Q x1 x3 x4 x5 s)) ∧ (¬ (1000 ≤ x7) → (lf_R x6 ∧ (lf_R x4 ∧ ((x4 ≤ x6 → (fm_131_p120 X29 Q x1 x3 x4 x5 s)) ∧ (¬ (x4 ≤ x6) → ((0 ≤ x1 ∧ x1 < 4) ∧ ((lf_and (lf_shr x6 (s.1 17 x1)) 1 ≠ 0 → (fm_131_p97 X29 X46 Q x1 x3 x4 x5 x6 x7 (lf_up s.1 68 10 x6, s.2.1, s.2.2))) ∧ (¬ (lf_and (lf_shr x6 (s.1 17 x1)) 1 ≠ 0) → (fm_128 x1 (fun r33 s32 => ((lf_and r33 x3 ≠ 0 → (fm_131_p97 X29 X46 Q x1 x3 x4 x5 x6 x7 s32)) ∧ (¬ (lf_and r33 x3 ≠ 0) → (Q x6 s32)))) (lf_up s.1 68 10 x6, s.2.1, s.2.2)))))))))))
def fm_131_p46L (X29 : Int → lf_Z → Prop) (Q : Int → lf_Z → Prop) (x1 : Int) (x3 : Int) (x4 : Int) (x5 : Int) (x6 : Int) (x7 : Int) (s : lf_Z) : Prop := ∀ X46 : Int → Int → lf_Z → Prop, (∀ (x6 : Int) (x7 : Int) (s : lf_Z), fm_131_p46 X29 Q x1 x3 x4 x5 X46 x6 x7 s → X46 x6 x7 s) → X46 x6 x7 s
set_option maxRecDepth 100000 in
theorem gm_131_p46 {L : Nat} {xs : Nat → Int32} {d : Nat} {X29 : Int → lf_Z → Prop} {Q : Int → lf_Z → Prop} {x1 : Int} {x3 : Int} {x4 : Int} {x5 : Int} {x6 : Int} {x7 : Int} {s : lf_Z} {X46 : Int → Int → lf_Z → Prop} (hX29 : ∀ x5 s, X29 x5 s → lf_E (px_ro L xs) (d + 7) 131 29 [(0, .ref 68), (1, .int (Int32.ofInt x1)), (3, .int (Int32.ofInt x3)), (4, .int (Int32.ofInt x4)), (5, .int (Int32.ofInt x5))] [] s (lf_qi Q)) (hX46 : ∀ x6 x7 s, X46 x6 x7 s → lf_E (px_ro L xs) (d + 7) 131 46 [(0, .ref 68), (1, .int (Int32.ofInt x1)), (3, .int (Int32.ofInt x3)), (4, .int (Int32.ofInt x4)), (5, .int (Int32.ofInt x5)), (6, .int (Int32.ofInt x6)), (7, .int (Int32.ofInt x7))] [] s (lf_qi Q)) (h : fm_131_p46 X29 Q x1 x3 x4 x5 X46 x6 x7 s) : lf_E (px_ro L xs) (d + 7) 131 46 [(0, .ref 68), (1, .int (Int32.ofInt x1)), (3, .int (Int32.ofInt x3)), (4, .int (Int32.ofInt x4)), (5, .int (Int32.ofInt x5)), (6, .int (Int32.ofInt x6)), (7, .int (Int32.ofInt x7))] [] s (lf_qi Q) := by
  unfold fm_131_p46 at h
  refine lf_seg 1 (pc' := 48) (lv' := [(0, .ref 68), (1, .int (Int32.ofInt x1)), (3, .int (Int32.ofInt x3)), (4, .int (Int32.ofInt x4)), (5, .int (Int32.ofInt x5)), (6, .int (Int32.ofInt x6)), (7, .int (Int32.ofInt x7))]) (st' := [.int (Int32.ofInt x7)]) rfl ?_
  refine lf_sipush 51 1000 rfl rfl (by decide) (by decide) ?_
  obtain ⟨o25, h⟩ := h
  refine lf_icmp_ge 120 54 rfl rfl rfl o25 ⟨by decide, by decide⟩ (fun c => ?_) (fun c => ?_)
  · have h := h.1 c
    refine lf_sub (l := [(0, .ref 68), (1, .int (Int32.ofInt x1)), (3, .int (Int32.ofInt x3)), (4, .int (Int32.ofInt x4)), (5, .int (Int32.ofInt x5))]) (lf_sb1 rfl (lf_sb1 rfl (lf_sb1 rfl (lf_sb1 rfl (lf_sb1 rfl lf_sb0))))) ?_
    exact gm_131_p120 hX29 h
  · have h := h.2 c
    refine lf_seg 2 (pc' := 58) (lv' := [(0, .ref 68), (1, .int (Int32.ofInt x1)), (3, .int (Int32.ofInt x3)), (4, .int (Int32.ofInt x4)), (5, .int (Int32.ofInt x5)), (6, .int (Int32.ofInt x6)), (7, .int (Int32.ofInt x7))]) (st' := [.int (Int32.ofInt x4), .int (Int32.ofInt x6)]) rfl ?_
    obtain ⟨o26, h⟩ := h
    obtain ⟨o27, h⟩ := h
    refine lf_icmp_ge 120 61 rfl rfl rfl o26 o27 (fun c => ?_) (fun c => ?_)
    · have h := h.1 c
      refine lf_sub (l := [(0, .ref 68), (1, .int (Int32.ofInt x1)), (3, .int (Int32.ofInt x3)), (4, .int (Int32.ofInt x4)), (5, .int (Int32.ofInt x5))]) (lf_sb1 rfl (lf_sb1 rfl (lf_sb1 rfl (lf_sb1 rfl (lf_sb1 rfl lf_sb0))))) ?_
      exact gm_131_p120 hX29 h
    · have h := h.2 c
      refine lf_seg 2 (pc' := 64) (lv' := [(0, .ref 68), (1, .int (Int32.ofInt x1)), (3, .int (Int32.ofInt x3)), (4, .int (Int32.ofInt x4)), (5, .int (Int32.ofInt x5)), (6, .int (Int32.ofInt x6)), (7, .int (Int32.ofInt x7))]) (st' := [.int (Int32.ofInt x6), .ref 68]) rfl ?_
      refine lf_putI 67 10 rfl rfl rfl rfl rfl rfl rfl rfl ?_
      refine lf_as (lf_up s.1 68 10 x6, s.2.1, s.2.2) rfl ?_
      refine lf_seg 5 (pc' := 77) (lv' := [(0, .ref 68), (1, .int (Int32.ofInt x1)), (3, .int (Int32.ofInt x3)), (4, .int (Int32.ofInt x4)), (5, .int (Int32.ofInt x5)), (6, .int (Int32.ofInt x6)), (7, .int (Int32.ofInt x7))]) (st' := [.int (Int32.ofInt x1), .ref 17, .int (Int32.ofInt x6)]) rfl ?_
      obtain ⟨o28, h⟩ := h
      refine lf_iald 78 4 rfl rfl rfl rfl rfl rfl o28 ?_
      refine lf_seg 0 (pc' := 78) (lv' := [(0, .ref 68), (1, .int (Int32.ofInt x1)), (3, .int (Int32.ofInt x3)), (4, .int (Int32.ofInt x4)), (5, .int (Int32.ofInt x5)), (6, .int (Int32.ofInt x6)), (7, .int (Int32.ofInt x7))]) (st' := [.int (Int32.ofInt (s.1 17 x1)), .int (Int32.ofInt x6)]) rfl ?_
      refine lf_ishr 79 rfl rfl ?_
      refine lf_seg 1 (pc' := 80) (lv' := [(0, .ref 68), (1, .int (Int32.ofInt x1)), (3, .int (Int32.ofInt x3)), (4, .int (Int32.ofInt x4)), (5, .int (Int32.ofInt x5)), (6, .int (Int32.ofInt x6)), (7, .int (Int32.ofInt x7))]) (st' := [.int (Int32.ofInt 1), .int (Int32.ofInt (lf_shr x6 (s.1 17 x1)))]) rfl ?_
      refine lf_iand 81 rfl rfl ?_
      refine lf_if_ne 97 84 rfl rfl rfl lf_Rand (fun c => ?_) (fun c => ?_)
      · have h := h.1 c
        refine lf_sub (l := [(0, .ref 68), (1, .int (Int32.ofInt x1)), (3, .int (Int32.ofInt x3)), (4, .int (Int32.ofInt x4)), (5, .int (Int32.ofInt x5)), (6, .int (Int32.ofInt x6)), (7, .int (Int32.ofInt x7))]) (lf_sb1 rfl (lf_sb1 rfl (lf_sb1 rfl (lf_sb1 rfl (lf_sb1 rfl (lf_sb1 rfl (lf_sb1 rfl lf_sb0))))))) ?_
        exact gm_131_p97 hX29 hX46 h
      · have h := h.2 c
        refine lf_seg 2 (pc' := 86) (lv' := [(0, .ref 68), (1, .int (Int32.ofInt x1)), (3, .int (Int32.ofInt x3)), (4, .int (Int32.ofInt x4)), (5, .int (Int32.ofInt x5)), (6, .int (Int32.ofInt x6)), (7, .int (Int32.ofInt x7))]) (st' := [.int (Int32.ofInt x1), .ref 68]) rfl ?_
        refine lf_callI 89 rfl rfl rfl rfl (gm_128 h) (fun r33 s32 h => ?_)
        refine lf_seg 1 (pc' := 90) (lv' := [(0, .ref 68), (1, .int (Int32.ofInt x1)), (3, .int (Int32.ofInt x3)), (4, .int (Int32.ofInt x4)), (5, .int (Int32.ofInt x5)), (6, .int (Int32.ofInt x6)), (7, .int (Int32.ofInt x7))]) (st' := [.int (Int32.ofInt x3), .int (Int32.ofInt r33)]) rfl ?_
        refine lf_iand 91 rfl rfl ?_
        refine lf_if_ne 97 94 rfl rfl rfl lf_Rand (fun c => ?_) (fun c => ?_)
        · have h := h.1 c
          refine lf_sub (l := [(0, .ref 68), (1, .int (Int32.ofInt x1)), (3, .int (Int32.ofInt x3)), (4, .int (Int32.ofInt x4)), (5, .int (Int32.ofInt x5)), (6, .int (Int32.ofInt x6)), (7, .int (Int32.ofInt x7))]) (lf_sb1 rfl (lf_sb1 rfl (lf_sb1 rfl (lf_sb1 rfl (lf_sb1 rfl (lf_sb1 rfl (lf_sb1 rfl lf_sb0))))))) ?_
          exact gm_131_p97 hX29 hX46 h
        · have h := h.2 c
          refine lf_seg 1 (pc' := 96) (lv' := [(0, .ref 68), (1, .int (Int32.ofInt x1)), (3, .int (Int32.ofInt x3)), (4, .int (Int32.ofInt x4)), (5, .int (Int32.ofInt x5)), (6, .int (Int32.ofInt x6)), (7, .int (Int32.ofInt x7))]) (st' := [.int (Int32.ofInt x6)]) rfl ?_
          exact lf_retI rfl rfl h
theorem gm_131_p46L {L : Nat} {xs : Nat → Int32} {d : Nat} {X29 : Int → lf_Z → Prop} {Q : Int → lf_Z → Prop} {x1 : Int} {x3 : Int} {x4 : Int} {x5 : Int} {x6 : Int} {x7 : Int} {s : lf_Z} (hX29 : ∀ x5 s, X29 x5 s → lf_E (px_ro L xs) (d + 7) 131 29 [(0, .ref 68), (1, .int (Int32.ofInt x1)), (3, .int (Int32.ofInt x3)), (4, .int (Int32.ofInt x4)), (5, .int (Int32.ofInt x5))] [] s (lf_qi Q)) (h : fm_131_p46L X29 Q x1 x3 x4 x5 x6 x7 s) : lf_E (px_ro L xs) (d + 7) 131 46 [(0, .ref 68), (1, .int (Int32.ofInt x1)), (3, .int (Int32.ofInt x3)), (4, .int (Int32.ofInt x4)), (5, .int (Int32.ofInt x5)), (6, .int (Int32.ofInt x6)), (7, .int (Int32.ofInt x7))] [] s (lf_qi Q) :=
  h (fun x6 x7 s => lf_E (px_ro L xs) (d + 7) 131 46 [(0, .ref 68), (1, .int (Int32.ofInt x1)), (3, .int (Int32.ofInt x3)), (4, .int (Int32.ofInt x4)), (5, .int (Int32.ofInt x5)), (6, .int (Int32.ofInt x6)), (7, .int (Int32.ofInt x7))] [] s (lf_qi Q)) (fun x6 x7 s hb => gm_131_p46 hX29 (fun _ _ _ h => h) hb)
def fm_131_p29 (Q : Int → lf_Z → Prop) (x1 : Int) (x3 : Int) (x4 : Int) (X29 : Int → lf_Z → Prop) (x5 : Int) (s : lf_Z) : Prop := lf_R x5 ∧ ((3 < x5 → (Q (-1) s)) ∧ (¬ (3 < x5) → (fm_131_p46L X29 Q x1 x3 x4 x5 ((lf_shl 1 x5) - 1) 0 s)))
def fm_131_p29L (Q : Int → lf_Z → Prop) (x1 : Int) (x3 : Int) (x4 : Int) (x5 : Int) (s : lf_Z) : Prop := ∀ X29 : Int → lf_Z → Prop, (∀ (x5 : Int) (s : lf_Z), fm_131_p29 Q x1 x3 x4 X29 x5 s → X29 x5 s) → X29 x5 s
set_option maxRecDepth 100000 in
theorem gm_131_p29 {L : Nat} {xs : Nat → Int32} {d : Nat} {Q : Int → lf_Z → Prop} {x1 : Int} {x3 : Int} {x4 : Int} {x5 : Int} {s : lf_Z} {X29 : Int → lf_Z → Prop} (hX29 : ∀ x5 s, X29 x5 s → lf_E (px_ro L xs) (d + 7) 131 29 [(0, .ref 68), (1, .int (Int32.ofInt x1)), (3, .int (Int32.ofInt x3)), (4, .int (Int32.ofInt x4)), (5, .int (Int32.ofInt x5))] [] s (lf_qi Q)) (h : fm_131_p29 Q x1 x3 x4 X29 x5 s) : lf_E (px_ro L xs) (d + 7) 131 29 [(0, .ref 68), (1, .int (Int32.ofInt x1)), (3, .int (Int32.ofInt x3)), (4, .int (Int32.ofInt x4)), (5, .int (Int32.ofInt x5))] [] s (lf_qi Q) := by
  unfold fm_131_p29 at h
  refine lf_seg 2 (pc' := 32) (lv' := [(0, .ref 68), (1, .int (Int32.ofInt x1)), (3, .int (Int32.ofInt x3)), (4, .int (Int32.ofInt x4)), (5, .int (Int32.ofInt x5))]) (st' := [.int (Int32.ofInt 3), .int (Int32.ofInt x5)]) rfl ?_
  obtain ⟨o24, h⟩ := h
  refine lf_icmp_gt 126 35 rfl rfl rfl o24 ⟨by decide, by decide⟩ (fun c => ?_) (fun c => ?_)
  · have h := h.1 c
    refine lf_seg 1 (pc' := 127) (lv' := [(0, .ref 68), (1, .int (Int32.ofInt x1)), (3, .int (Int32.ofInt x3)), (4, .int (Int32.ofInt x4)), (5, .int (Int32.ofInt x5))]) (st' := [.int (Int32.ofInt (-1))]) rfl ?_
    exact lf_retI rfl rfl h
  · have h := h.2 c
    refine lf_seg 2 (pc' := 38) (lv' := [(0, .ref 68), (1, .int (Int32.ofInt x1)), (3, .int (Int32.ofInt x3)), (4, .int (Int32.ofInt x4)), (5, .int (Int32.ofInt x5))]) (st' := [.int (Int32.ofInt x5), .int (Int32.ofInt 1)]) rfl ?_
    refine lf_ishl 39 rfl rfl ?_
    refine lf_seg 1 (pc' := 40) (lv' := [(0, .ref 68), (1, .int (Int32.ofInt x1)), (3, .int (Int32.ofInt x3)), (4, .int (Int32.ofInt x4)), (5, .int (Int32.ofInt x5))]) (st' := [.int (Int32.ofInt 1), .int (Int32.ofInt (lf_shl 1 x5))]) rfl ?_
    refine lf_isub 41 rfl rfl ?_
    refine lf_seg 3 (pc' := 46) (lv' := [(7, .int (Int32.ofInt 0)), (6, .int (Int32.ofInt ((lf_shl 1 x5) - 1))), (0, .ref 68), (1, .int (Int32.ofInt x1)), (3, .int (Int32.ofInt x3)), (4, .int (Int32.ofInt x4)), (5, .int (Int32.ofInt x5))]) (st' := []) rfl ?_
    refine lf_sub (l := [(0, .ref 68), (1, .int (Int32.ofInt x1)), (3, .int (Int32.ofInt x3)), (4, .int (Int32.ofInt x4)), (5, .int (Int32.ofInt x5)), (6, .int (Int32.ofInt ((lf_shl 1 x5) - 1))), (7, .int (Int32.ofInt 0))]) (lf_sb1 rfl (lf_sb1 rfl (lf_sb1 rfl (lf_sb1 rfl (lf_sb1 rfl (lf_sb1 rfl (lf_sb1 rfl lf_sb0))))))) ?_
    exact gm_131_p46L hX29 h
theorem gm_131_p29L {L : Nat} {xs : Nat → Int32} {d : Nat} {Q : Int → lf_Z → Prop} {x1 : Int} {x3 : Int} {x4 : Int} {x5 : Int} {s : lf_Z} (h : fm_131_p29L Q x1 x3 x4 x5 s) : lf_E (px_ro L xs) (d + 7) 131 29 [(0, .ref 68), (1, .int (Int32.ofInt x1)), (3, .int (Int32.ofInt x3)), (4, .int (Int32.ofInt x4)), (5, .int (Int32.ofInt x5))] [] s (lf_qi Q) :=
  h (fun x5 s => lf_E (px_ro L xs) (d + 7) 131 29 [(0, .ref 68), (1, .int (Int32.ofInt x1)), (3, .int (Int32.ofInt x3)), (4, .int (Int32.ofInt x4)), (5, .int (Int32.ofInt x5))] [] s (lf_qi Q)) (fun x5 s hb => gm_131_p29 (fun _ _ h => h) hb)
def fm_131 (a1 : Int) (a2 : Int) (Q : Int → lf_Z → Prop) (s : lf_Z) : Prop := fm_118 a1 a2 (fun s21 => (fm_132 2 (fun r23 s22 => (fm_131_p29L Q a1 r23 (lf_shl 1 (s22.1 1 0)) 0 s22)) s21)) s
set_option maxRecDepth 100000 in
theorem gm_131 {L : Nat} {xs : Nat → Int32} {d : Nat} {a1 : Int} {a2 : Int} {Q : Int → lf_Z → Prop} {s : lf_Z} (h : fm_131 a1 a2 Q s) : lf_M (px_ro L xs) (d + 7) 131 [.ref 68, .int (Int32.ofInt a1), .int (Int32.ofInt a2)] s (lf_qi Q) := by
  unfold fm_131 at h
  show lf_E (px_ro L xs) (d + 7) 131 0 [(0, .ref 68), (1, .int (Int32.ofInt a1)), (2, .int (Int32.ofInt a2))] [] s _
  refine lf_seg 3 (pc' := 3) (lv' := [(0, .ref 68), (1, .int (Int32.ofInt a1)), (2, .int (Int32.ofInt a2))]) (st' := [.int (Int32.ofInt a2), .int (Int32.ofInt a1), .ref 68]) rfl ?_
  refine lf_callV 6 rfl rfl rfl rfl (gm_118 h) (fun s21 h => ?_)
  refine lf_seg 3 (pc' := 11) (lv' := [(0, .ref 68), (1, .int (Int32.ofInt a1)), (2, .int (Int32.ofInt a2))]) (st' := [.int (Int32.ofInt 2), .ref 1]) rfl ?_
  refine lf_callI 14 rfl rfl rfl rfl (gm_132 h) (fun r23 s22 h => ?_)
  refine lf_seg 4 (pc' := 20) (lv' := [(3, .int (Int32.ofInt r23)), (0, .ref 68), (1, .int (Int32.ofInt a1)), (2, .int (Int32.ofInt a2))]) (st' := [.ref 1, .int (Int32.ofInt 1)]) rfl ?_
  refine lf_getI 23 0 rfl rfl rfl rfl rfl rfl rfl ?_
  refine lf_ishl 24 rfl rfl ?_
  refine lf_seg 3 (pc' := 29) (lv' := [(5, .int (Int32.ofInt 0)), (4, .int (Int32.ofInt (lf_shl 1 (s22.1 1 0)))), (3, .int (Int32.ofInt r23)), (0, .ref 68), (1, .int (Int32.ofInt a1)), (2, .int (Int32.ofInt a2))]) (st' := []) rfl ?_
  refine lf_sub (l := [(0, .ref 68), (1, .int (Int32.ofInt a1)), (3, .int (Int32.ofInt r23)), (4, .int (Int32.ofInt (lf_shl 1 (s22.1 1 0)))), (5, .int (Int32.ofInt 0))]) (lf_sb1 rfl (lf_sb1 rfl (lf_sb1 rfl (lf_sb1 rfl (lf_sb1 rfl lf_sb0))))) ?_
  exact gm_131_p29L h
-- fm_130 ElevenBullocks.stopped 0 i i
def fm_130 (a1 : Int) (a2 : Int) (Q : Int → lf_Z → Prop) (s : lf_Z) : Prop := fm_80 a1 (fun z22 s21 => ((z22 = false → (Q (-1) s21)) ∧ (z22 = true → (fm_15 a2 0 9 (fun z24 s23 => ((z24 = true → (fm_131 a1 a2 (fun r26 s25 => (Q r26 s25)) s23)) ∧ (z24 = false → (Q (-1) s23)))) s21)))) s
set_option maxRecDepth 100000 in
theorem gm_130 {L : Nat} {xs : Nat → Int32} {d : Nat} {a1 : Int} {a2 : Int} {Q : Int → lf_Z → Prop} {s : lf_Z} (h : fm_130 a1 a2 Q s) : lf_M (px_ro L xs) (d + 8) 130 [.ref 0, .int (Int32.ofInt a1), .int (Int32.ofInt a2)] s (lf_qi Q) := by
  unfold fm_130 at h
  show lf_E (px_ro L xs) (d + 8) 130 0 [(0, .ref 0), (1, .int (Int32.ofInt a1)), (2, .int (Int32.ofInt a2))] [] s _
  refine lf_seg 3 (pc' := 5) (lv' := [(0, .ref 0), (1, .int (Int32.ofInt a1)), (2, .int (Int32.ofInt a2))]) (st' := [.int (Int32.ofInt a1), .ref 15]) rfl ?_
  refine lf_callZ 8 rfl rfl rfl rfl (gm_80 h) (fun z22 s21 h => ?_)
  refine lf_ifz_eq 21 11 rfl rfl rfl (fun c => ?_) (fun c => ?_)
  · have h := h.1 c
    refine lf_seg 1 (pc' := 22) (lv' := [(0, .ref 0), (1, .int (Int32.ofInt a1)), (2, .int (Int32.ofInt a2))]) (st' := [.int (Int32.ofInt (-1))]) rfl ?_
    exact lf_retI rfl rfl h
  · have h := h.2 c
    refine lf_seg 2 (pc' := 13) (lv' := [(0, .ref 0), (1, .int (Int32.ofInt a1)), (2, .int (Int32.ofInt a2))]) (st' := [.int (Int32.ofInt 0), .int (Int32.ofInt a2)]) rfl ?_
    refine lf_bipush 15 9 rfl rfl (by decide) (by decide) ?_
    refine lf_callZ 18 rfl rfl rfl rfl (gm_15 h) (fun z24 s23 h => ?_)
    refine lf_ifz_ne 23 21 rfl rfl rfl (fun c => ?_) (fun c => ?_)
    · have h := h.1 c
      refine lf_seg 4 (pc' := 29) (lv' := [(0, .ref 0), (1, .int (Int32.ofInt a1)), (2, .int (Int32.ofInt a2))]) (st' := [.int (Int32.ofInt a2), .int (Int32.ofInt a1), .ref 68]) rfl ?_
      refine lf_callI 32 rfl rfl rfl rfl (gm_131 h) (fun r26 s25 h => ?_)
      exact lf_retI rfl rfl h
    · have h := h.2 c
      refine lf_seg 1 (pc' := 22) (lv' := [(0, .ref 0), (1, .int (Int32.ofInt a1)), (2, .int (Int32.ofInt a2))]) (st' := [.int (Int32.ofInt (-1))]) rfl ?_
      exact lf_retI rfl rfl h
-- fm_296 Model.ofKind 95 i i
def fm_296_p44 (X5 : Int → Int → lf_Z → Prop) (Q : Int → lf_Z → Prop) (x1 : Int) (x2 : Int) (x4 : Int) (y0 : Int) (y1 : Int) (s : lf_Z) : Prop := X5 (lf_or y0 y1) (x4 + 1) s
set_option maxRecDepth 100000 in
theorem gm_296_p44 {L : Nat} {xs : Nat → Int32} {d : Nat} {X5 : Int → Int → lf_Z → Prop} {Q : Int → lf_Z → Prop} {x1 : Int} {x2 : Int} {x4 : Int} {y0 : Int} {y1 : Int} {s : lf_Z} (hX5 : ∀ x3 x4 s, X5 x3 x4 s → lf_E (px_ro L xs) (d + 2) 296 5 [(0, .ref 95), (1, .int (Int32.ofInt x1)), (2, .int (Int32.ofInt x2)), (3, .int (Int32.ofInt x3)), (4, .int (Int32.ofInt x4))] [] s (lf_qi Q)) (h : fm_296_p44 X5 Q x1 x2 x4 y0 y1 s) : lf_E (px_ro L xs) (d + 2) 296 44 [(0, .ref 95), (1, .int (Int32.ofInt x1)), (2, .int (Int32.ofInt x2)), (4, .int (Int32.ofInt x4))] [.int (Int32.ofInt y1), .int (Int32.ofInt y0)] s (lf_qi Q) := by
  unfold fm_296_p44 at h
  refine lf_ior 45 rfl rfl ?_
  refine lf_seg 1 (pc' := 46) (lv' := [(3, .int (Int32.ofInt (lf_or y0 y1))), (0, .ref 95), (1, .int (Int32.ofInt x1)), (2, .int (Int32.ofInt x2)), (4, .int (Int32.ofInt x4))]) (st' := []) rfl ?_
  refine lf_iinc 49 rfl rfl rfl rfl ?_
  refine lf_seg 1 (pc' := 5) (lv' := [(4, .int (Int32.ofInt (x4 + 1))), (3, .int (Int32.ofInt (lf_or y0 y1))), (0, .ref 95), (1, .int (Int32.ofInt x1)), (2, .int (Int32.ofInt x2))]) (st' := []) rfl ?_
  refine lf_sub (l := [(0, .ref 95), (1, .int (Int32.ofInt x1)), (2, .int (Int32.ofInt x2)), (3, .int (Int32.ofInt (lf_or y0 y1))), (4, .int (Int32.ofInt (x4 + 1)))]) (lf_sb1 rfl (lf_sb1 rfl (lf_sb1 rfl (lf_sb1 rfl (lf_sb1 rfl lf_sb0))))) ?_
  exact hX5 _ _ _ h
def fm_296_p43 (X5 : Int → Int → lf_Z → Prop) (Q : Int → lf_Z → Prop) (x1 : Int) (x2 : Int) (x4 : Int) (y0 : Int) (s : lf_Z) : Prop := fm_296_p44 X5 Q x1 x2 x4 y0 0 s
set_option maxRecDepth 100000 in
theorem gm_296_p43 {L : Nat} {xs : Nat → Int32} {d : Nat} {X5 : Int → Int → lf_Z → Prop} {Q : Int → lf_Z → Prop} {x1 : Int} {x2 : Int} {x4 : Int} {y0 : Int} {s : lf_Z} (hX5 : ∀ x3 x4 s, X5 x3 x4 s → lf_E (px_ro L xs) (d + 2) 296 5 [(0, .ref 95), (1, .int (Int32.ofInt x1)), (2, .int (Int32.ofInt x2)), (3, .int (Int32.ofInt x3)), (4, .int (Int32.ofInt x4))] [] s (lf_qi Q)) (h : fm_296_p43 X5 Q x1 x2 x4 y0 s) : lf_E (px_ro L xs) (d + 2) 296 43 [(0, .ref 95), (1, .int (Int32.ofInt x1)), (2, .int (Int32.ofInt x2)), (4, .int (Int32.ofInt x4))] [.int (Int32.ofInt y0)] s (lf_qi Q) := by
  unfold fm_296_p43 at h
  refine lf_seg 1 (pc' := 44) (lv' := [(0, .ref 95), (1, .int (Int32.ofInt x1)), (2, .int (Int32.ofInt x2)), (4, .int (Int32.ofInt x4))]) (st' := [.int (Int32.ofInt 0), .int (Int32.ofInt y0)]) rfl ?_
  refine lf_sub (l := [(0, .ref 95), (1, .int (Int32.ofInt x1)), (2, .int (Int32.ofInt x2)), (4, .int (Int32.ofInt x4))]) (lf_sb1 rfl (lf_sb1 rfl (lf_sb1 rfl (lf_sb1 rfl lf_sb0)))) ?_
  exact gm_296_p44 hX5 h
def fm_296_p5 (Q : Int → lf_Z → Prop) (x1 : Int) (x2 : Int) (X5 : Int → Int → lf_Z → Prop) (x3 : Int) (x4 : Int) (s : lf_Z) : Prop := lf_R x4 ∧ (lf_R (s.1 96 0) ∧ ((s.1 96 0 ≤ x4 → (Q x3 s)) ∧ (¬ (s.1 96 0 ≤ x4) → (fm_210 x1 x4 (fun z24 s23 => ((z24 = false → (fm_296_p43 X5 Q x1 x2 x4 x3 s23)) ∧ (z24 = true → (fm_265 x4 (fun r26 s25 => (lf_R r26 ∧ (lf_R x2 ∧ ((r26 ≠ x2 → (fm_296_p43 X5 Q x1 x2 x4 x3 s25)) ∧ (¬ (r26 ≠ x2) → (fm_296_p44 X5 Q x1 x2 x4 x3 (lf_shl 1 x4) s25)))))) s23)))) s))))
def fm_296_p5L (Q : Int → lf_Z → Prop) (x1 : Int) (x2 : Int) (x3 : Int) (x4 : Int) (s : lf_Z) : Prop := ∀ X5 : Int → Int → lf_Z → Prop, (∀ (x3 : Int) (x4 : Int) (s : lf_Z), fm_296_p5 Q x1 x2 X5 x3 x4 s → X5 x3 x4 s) → X5 x3 x4 s
set_option maxRecDepth 100000 in
theorem gm_296_p5 {L : Nat} {xs : Nat → Int32} {d : Nat} {Q : Int → lf_Z → Prop} {x1 : Int} {x2 : Int} {x3 : Int} {x4 : Int} {s : lf_Z} {X5 : Int → Int → lf_Z → Prop} (hX5 : ∀ x3 x4 s, X5 x3 x4 s → lf_E (px_ro L xs) (d + 2) 296 5 [(0, .ref 95), (1, .int (Int32.ofInt x1)), (2, .int (Int32.ofInt x2)), (3, .int (Int32.ofInt x3)), (4, .int (Int32.ofInt x4))] [] s (lf_qi Q)) (h : fm_296_p5 Q x1 x2 X5 x3 x4 s) : lf_E (px_ro L xs) (d + 2) 296 5 [(0, .ref 95), (1, .int (Int32.ofInt x1)), (2, .int (Int32.ofInt x2)), (3, .int (Int32.ofInt x3)), (4, .int (Int32.ofInt x4))] [] s (lf_qi Q) := by
  unfold fm_296_p5 at h
  refine lf_seg 4 (pc' := 12) (lv' := [(0, .ref 95), (1, .int (Int32.ofInt x1)), (2, .int (Int32.ofInt x2)), (3, .int (Int32.ofInt x3)), (4, .int (Int32.ofInt x4))]) (st' := [.int (Int32.ofInt 0), .ref 96, .int (Int32.ofInt x4)]) rfl ?_
  refine lf_iald 13 1538 rfl rfl rfl rfl rfl rfl ⟨by decide, by decide⟩ ?_
  obtain ⟨o21, h⟩ := h
  obtain ⟨o22, h⟩ := h
  refine lf_icmp_ge 52 16 rfl rfl rfl o21 o22 (fun c => ?_) (fun c => ?_)
  · have h := h.1 c
    refine lf_seg 1 (pc' := 53) (lv' := [(0, .ref 95), (1, .int (Int32.ofInt x1)), (2, .int (Int32.ofInt x2)), (3, .int (Int32.ofInt x3)), (4, .int (Int32.ofInt x4))]) (st' := [.int (Int32.ofInt x3)]) rfl ?_
    exact lf_retI rfl rfl h
  · have h := h.2 c
    refine lf_seg 3 (pc' := 20) (lv' := [(0, .ref 95), (1, .int (Int32.ofInt x1)), (2, .int (Int32.ofInt x2)), (3, .int (Int32.ofInt x3)), (4, .int (Int32.ofInt x4))]) (st' := [.int (Int32.ofInt x4), .int (Int32.ofInt x1), .int (Int32.ofInt x3)]) rfl ?_
    refine lf_callZ 23 rfl rfl rfl rfl (gm_210 h) (fun z24 s23 h => ?_)
    refine lf_ifz_eq 43 26 rfl rfl rfl (fun c => ?_) (fun c => ?_)
    · have h := h.1 c
      refine lf_sub (l := [(0, .ref 95), (1, .int (Int32.ofInt x1)), (2, .int (Int32.ofInt x2)), (4, .int (Int32.ofInt x4))]) (lf_sb1 rfl (lf_sb1 rfl (lf_sb1 rfl (lf_sb1 rfl lf_sb0)))) ?_
      exact gm_296_p43 hX5 h
    · have h := h.2 c
      refine lf_seg 2 (pc' := 29) (lv' := [(0, .ref 95), (1, .int (Int32.ofInt x1)), (2, .int (Int32.ofInt x2)), (3, .int (Int32.ofInt x3)), (4, .int (Int32.ofInt x4))]) (st' := [.int (Int32.ofInt x4), .ref 95, .int (Int32.ofInt x3)]) rfl ?_
      refine lf_callI 32 rfl rfl rfl rfl (gm_265 h) (fun r26 s25 h => ?_)
      refine lf_seg 1 (pc' := 33) (lv' := [(0, .ref 95), (1, .int (Int32.ofInt x1)), (2, .int (Int32.ofInt x2)), (3, .int (Int32.ofInt x3)), (4, .int (Int32.ofInt x4))]) (st' := [.int (Int32.ofInt x2), .int (Int32.ofInt r26), .int (Int32.ofInt x3)]) rfl ?_
      obtain ⟨o27, h⟩ := h
      obtain ⟨o28, h⟩ := h
      refine lf_icmp_ne 43 36 rfl rfl rfl o27 o28 (fun c => ?_) (fun c => ?_)
      · have h := h.1 c
        refine lf_sub (l := [(0, .ref 95), (1, .int (Int32.ofInt x1)), (2, .int (Int32.ofInt x2)), (4, .int (Int32.ofInt x4))]) (lf_sb1 rfl (lf_sb1 rfl (lf_sb1 rfl (lf_sb1 rfl lf_sb0)))) ?_
        exact gm_296_p43 hX5 h
      · have h := h.2 c
        refine lf_seg 2 (pc' := 39) (lv' := [(0, .ref 95), (1, .int (Int32.ofInt x1)), (2, .int (Int32.ofInt x2)), (3, .int (Int32.ofInt x3)), (4, .int (Int32.ofInt x4))]) (st' := [.int (Int32.ofInt x4), .int (Int32.ofInt 1), .int (Int32.ofInt x3)]) rfl ?_
        refine lf_ishl 40 rfl rfl ?_
        refine lf_seg 1 (pc' := 44) (lv' := [(0, .ref 95), (1, .int (Int32.ofInt x1)), (2, .int (Int32.ofInt x2)), (3, .int (Int32.ofInt x3)), (4, .int (Int32.ofInt x4))]) (st' := [.int (Int32.ofInt (lf_shl 1 x4)), .int (Int32.ofInt x3)]) rfl ?_
        refine lf_sub (l := [(0, .ref 95), (1, .int (Int32.ofInt x1)), (2, .int (Int32.ofInt x2)), (4, .int (Int32.ofInt x4))]) (lf_sb1 rfl (lf_sb1 rfl (lf_sb1 rfl (lf_sb1 rfl lf_sb0)))) ?_
        exact gm_296_p44 hX5 h
theorem gm_296_p5L {L : Nat} {xs : Nat → Int32} {d : Nat} {Q : Int → lf_Z → Prop} {x1 : Int} {x2 : Int} {x3 : Int} {x4 : Int} {s : lf_Z} (h : fm_296_p5L Q x1 x2 x3 x4 s) : lf_E (px_ro L xs) (d + 2) 296 5 [(0, .ref 95), (1, .int (Int32.ofInt x1)), (2, .int (Int32.ofInt x2)), (3, .int (Int32.ofInt x3)), (4, .int (Int32.ofInt x4))] [] s (lf_qi Q) :=
  h (fun x3 x4 s => lf_E (px_ro L xs) (d + 2) 296 5 [(0, .ref 95), (1, .int (Int32.ofInt x1)), (2, .int (Int32.ofInt x2)), (3, .int (Int32.ofInt x3)), (4, .int (Int32.ofInt x4))] [] s (lf_qi Q)) (fun x3 x4 s hb => gm_296_p5 (fun _ _ _ h => h) hb)
def fm_296 (a1 : Int) (a2 : Int) (Q : Int → lf_Z → Prop) (s : lf_Z) : Prop := fm_296_p5L Q a1 a2 0 0 s
set_option maxRecDepth 100000 in
theorem gm_296 {L : Nat} {xs : Nat → Int32} {d : Nat} {a1 : Int} {a2 : Int} {Q : Int → lf_Z → Prop} {s : lf_Z} (h : fm_296 a1 a2 Q s) : lf_M (px_ro L xs) (d + 2) 296 [.ref 95, .int (Int32.ofInt a1), .int (Int32.ofInt a2)] s (lf_qi Q) := by
  unfold fm_296 at h
  show lf_E (px_ro L xs) (d + 2) 296 0 [(0, .ref 95), (1, .int (Int32.ofInt a1)), (2, .int (Int32.ofInt a2))] [] s _
  refine lf_seg 4 (pc' := 5) (lv' := [(4, .int (Int32.ofInt 0)), (3, .int (Int32.ofInt 0)), (0, .ref 95), (1, .int (Int32.ofInt a1)), (2, .int (Int32.ofInt a2))]) (st' := []) rfl ?_
  refine lf_sub (l := [(0, .ref 95), (1, .int (Int32.ofInt a1)), (2, .int (Int32.ofInt a2)), (3, .int (Int32.ofInt 0)), (4, .int (Int32.ofInt 0))]) (lf_sb1 rfl (lf_sb1 rfl (lf_sb1 rfl (lf_sb1 rfl (lf_sb1 rfl lf_sb0))))) ?_
  exact gm_296_p5L h
-- fm_295 Model.stopped 95 i i
def fm_295_p120 (Q : Int → lf_Z → Prop) (x3 : Int) (s : lf_Z) : Prop := Q x3 (lf_up s.1 95 29 0, s.2.1, s.2.2)
set_option maxRecDepth 100000 in
theorem gm_295_p120 {L : Nat} {xs : Nat → Int32} {d : Nat} {Q : Int → lf_Z → Prop} {x3 : Int} {s : lf_Z} (h : fm_295_p120 Q x3 s) : lf_E (px_ro L xs) (d + 7) 295 120 [(0, .ref 95), (3, .int (Int32.ofInt x3))] [] s (lf_qi Q) := by
  unfold fm_295_p120 at h
  refine lf_seg 2 (pc' := 122) (lv' := [(0, .ref 95), (3, .int (Int32.ofInt x3))]) (st' := [.int (Int32.ofInt 0), .ref 95]) rfl ?_
  refine lf_putI 125 29 rfl rfl rfl rfl rfl rfl rfl rfl ?_
  refine lf_as (lf_up s.1 95 29 0, s.2.1, s.2.2) rfl ?_
  refine lf_seg 1 (pc' := 126) (lv' := [(0, .ref 95), (3, .int (Int32.ofInt x3))]) (st' := [.int (Int32.ofInt x3)]) rfl ?_
  exact lf_retI rfl rfl h
def fm_295_p114 (X30 : Int → Int → lf_Z → Prop) (Q : Int → lf_Z → Prop) (x1 : Int) (x3 : Int) (x4 : Int) (s : lf_Z) : Prop := X30 x3 (x4 + 1) s
set_option maxRecDepth 100000 in
theorem gm_295_p114 {L : Nat} {xs : Nat → Int32} {d : Nat} {X30 : Int → Int → lf_Z → Prop} {Q : Int → lf_Z → Prop} {x1 : Int} {x3 : Int} {x4 : Int} {s : lf_Z} (hX30 : ∀ x3 x4 s, X30 x3 x4 s → lf_E (px_ro L xs) (d + 7) 295 30 [(0, .ref 95), (1, .int (Int32.ofInt x1)), (3, .int (Int32.ofInt x3)), (4, .int (Int32.ofInt x4))] [] s (lf_qi Q)) (h : fm_295_p114 X30 Q x1 x3 x4 s) : lf_E (px_ro L xs) (d + 7) 295 114 [(0, .ref 95), (1, .int (Int32.ofInt x1)), (3, .int (Int32.ofInt x3)), (4, .int (Int32.ofInt x4))] [] s (lf_qi Q) := by
  unfold fm_295_p114 at h
  refine lf_iinc 117 rfl rfl rfl rfl ?_
  refine lf_seg 1 (pc' := 30) (lv' := [(4, .int (Int32.ofInt (x4 + 1))), (0, .ref 95), (1, .int (Int32.ofInt x1)), (3, .int (Int32.ofInt x3))]) (st' := []) rfl ?_
  refine lf_sub (l := [(0, .ref 95), (1, .int (Int32.ofInt x1)), (3, .int (Int32.ofInt x3)), (4, .int (Int32.ofInt (x4 + 1)))]) (lf_sb1 rfl (lf_sb1 rfl (lf_sb1 rfl (lf_sb1 rfl lf_sb0)))) ?_
  exact hX30 _ _ _ h
def fm_295_p108 (X30 : Int → Int → lf_Z → Prop) (X43 : Int → Int → lf_Z → Prop) (Q : Int → lf_Z → Prop) (x1 : Int) (x3 : Int) (x4 : Int) (x5 : Int) (s : lf_Z) : Prop := X43 x3 (x5 + 1) s
set_option maxRecDepth 100000 in
theorem gm_295_p108 {L : Nat} {xs : Nat → Int32} {d : Nat} {X30 : Int → Int → lf_Z → Prop} {X43 : Int → Int → lf_Z → Prop} {Q : Int → lf_Z → Prop} {x1 : Int} {x3 : Int} {x4 : Int} {x5 : Int} {s : lf_Z} (hX30 : ∀ x3 x4 s, X30 x3 x4 s → lf_E (px_ro L xs) (d + 7) 295 30 [(0, .ref 95), (1, .int (Int32.ofInt x1)), (3, .int (Int32.ofInt x3)), (4, .int (Int32.ofInt x4))] [] s (lf_qi Q)) (hX43 : ∀ x3 x5 s, X43 x3 x5 s → lf_E (px_ro L xs) (d + 7) 295 43 [(0, .ref 95), (1, .int (Int32.ofInt x1)), (3, .int (Int32.ofInt x3)), (4, .int (Int32.ofInt x4)), (5, .int (Int32.ofInt x5))] [] s (lf_qi Q)) (h : fm_295_p108 X30 X43 Q x1 x3 x4 x5 s) : lf_E (px_ro L xs) (d + 7) 295 108 [(0, .ref 95), (1, .int (Int32.ofInt x1)), (3, .int (Int32.ofInt x3)), (4, .int (Int32.ofInt x4)), (5, .int (Int32.ofInt x5))] [] s (lf_qi Q) := by
  unfold fm_295_p108 at h
  refine lf_iinc 111 rfl rfl rfl rfl ?_
  refine lf_seg 1 (pc' := 43) (lv' := [(5, .int (Int32.ofInt (x5 + 1))), (0, .ref 95), (1, .int (Int32.ofInt x1)), (3, .int (Int32.ofInt x3)), (4, .int (Int32.ofInt x4))]) (st' := []) rfl ?_
  refine lf_sub (l := [(0, .ref 95), (1, .int (Int32.ofInt x1)), (3, .int (Int32.ofInt x3)), (4, .int (Int32.ofInt x4)), (5, .int (Int32.ofInt (x5 + 1)))]) (lf_sb1 rfl (lf_sb1 rfl (lf_sb1 rfl (lf_sb1 rfl (lf_sb1 rfl lf_sb0))))) ?_
  exact hX43 _ _ _ h
def fm_295_p43 (X30 : Int → Int → lf_Z → Prop) (Q : Int → lf_Z → Prop) (x1 : Int) (x4 : Int) (X43 : Int → Int → lf_Z → Prop) (x3 : Int) (x5 : Int) (s : lf_Z) : Prop := lf_R x5 ∧ ((lf_shl 1 (s.1 96 0) ≤ x5 → (fm_295_p114 X30 Q x1 x3 x4 s)) ∧ (¬ (lf_shl 1 (s.1 96 0) ≤ x5) → (lf_R x3 ∧ ((0 ≤ x3 → (fm_295_p114 X30 Q x1 x3 x4 s)) ∧ (¬ (0 ≤ x3) → (fm_188 x5 (fun r30 s29 => (lf_R r30 ∧ (lf_R x4 ∧ ((r30 ≠ x4 → (fm_295_p108 X30 X43 Q x1 x3 x4 x5 s29)) ∧ (¬ (r30 ≠ x4) → (fm_255 x1 (fun r34 s33 => (fm_210 x5 r34 (fun z36 s35 => ((z36 = false → (fm_294 x1 (fun r38 s37 => (fm_296 r38 2 (fun r40 s39 => (lf_R r40 ∧ ((r40 ≠ 0 → (fm_295_p108 X30 X43 Q x1 x3 x4 x5 s39)) ∧ (¬ (r40 ≠ 0) → (fm_295_p108 X30 X43 Q x1 x5 x4 x5 s39))))) s37)) (lf_up s35.1 95 29 x5, s35.2.1, s35.2.2))) ∧ (z36 = true → (fm_295_p108 X30 X43 Q x1 x3 x4 x5 s35)))) s33)) s29)))))) s))))))
def fm_295_p43L (X30 : Int → Int → lf_Z → Prop) (Q : Int → lf_Z → Prop) (x1 : Int) (x3 : Int) (x4 : Int) (x5 : Int) (s : lf_Z) : Prop := ∀ X43 : Int → Int → lf_Z → Prop, (∀ (x3 : Int) (x5 : Int) (s : lf_Z), fm_295_p43 X30 Q x1 x4 X43 x3 x5 s → X43 x3 x5 s) → X43 x3 x5 s
set_option maxRecDepth 100000 in
theorem gm_295_p43 {L : Nat} {xs : Nat → Int32} {d : Nat} {X30 : Int → Int → lf_Z → Prop} {Q : Int → lf_Z → Prop} {x1 : Int} {x3 : Int} {x4 : Int} {x5 : Int} {s : lf_Z} {X43 : Int → Int → lf_Z → Prop} (hX30 : ∀ x3 x4 s, X30 x3 x4 s → lf_E (px_ro L xs) (d + 7) 295 30 [(0, .ref 95), (1, .int (Int32.ofInt x1)), (3, .int (Int32.ofInt x3)), (4, .int (Int32.ofInt x4))] [] s (lf_qi Q)) (hX43 : ∀ x3 x5 s, X43 x3 x5 s → lf_E (px_ro L xs) (d + 7) 295 43 [(0, .ref 95), (1, .int (Int32.ofInt x1)), (3, .int (Int32.ofInt x3)), (4, .int (Int32.ofInt x4)), (5, .int (Int32.ofInt x5))] [] s (lf_qi Q)) (h : fm_295_p43 X30 Q x1 x4 X43 x3 x5 s) : lf_E (px_ro L xs) (d + 7) 295 43 [(0, .ref 95), (1, .int (Int32.ofInt x1)), (3, .int (Int32.ofInt x3)), (4, .int (Int32.ofInt x4)), (5, .int (Int32.ofInt x5))] [] s (lf_qi Q) := by
  unfold fm_295_p43 at h
  refine lf_seg 5 (pc' := 51) (lv' := [(0, .ref 95), (1, .int (Int32.ofInt x1)), (3, .int (Int32.ofInt x3)), (4, .int (Int32.ofInt x4)), (5, .int (Int32.ofInt x5))]) (st' := [.int (Int32.ofInt 0), .ref 96, .int (Int32.ofInt 1), .int (Int32.ofInt x5)]) rfl ?_
  refine lf_iald 52 1538 rfl rfl rfl rfl rfl rfl ⟨by decide, by decide⟩ ?_
  refine lf_ishl 53 rfl rfl ?_
  obtain ⟨o27, h⟩ := h
  refine lf_icmp_ge 114 56 rfl rfl rfl o27 lf_Rshl (fun c => ?_) (fun c => ?_)
  · have h := h.1 c
    refine lf_sub (l := [(0, .ref 95), (1, .int (Int32.ofInt x1)), (3, .int (Int32.ofInt x3)), (4, .int (Int32.ofInt x4))]) (lf_sb1 rfl (lf_sb1 rfl (lf_sb1 rfl (lf_sb1 rfl lf_sb0)))) ?_
    exact gm_295_p114 hX30 h
  · have h := h.2 c
    refine lf_seg 1 (pc' := 57) (lv' := [(0, .ref 95), (1, .int (Int32.ofInt x1)), (3, .int (Int32.ofInt x3)), (4, .int (Int32.ofInt x4)), (5, .int (Int32.ofInt x5))]) (st' := [.int (Int32.ofInt x3)]) rfl ?_
    obtain ⟨o28, h⟩ := h
    refine lf_if_ge 114 60 rfl rfl rfl o28 (fun c => ?_) (fun c => ?_)
    · have h := h.1 c
      refine lf_sub (l := [(0, .ref 95), (1, .int (Int32.ofInt x1)), (3, .int (Int32.ofInt x3)), (4, .int (Int32.ofInt x4))]) (lf_sb1 rfl (lf_sb1 rfl (lf_sb1 rfl (lf_sb1 rfl lf_sb0)))) ?_
      exact gm_295_p114 hX30 h
    · have h := h.2 c
      refine lf_seg 1 (pc' := 62) (lv' := [(0, .ref 95), (1, .int (Int32.ofInt x1)), (3, .int (Int32.ofInt x3)), (4, .int (Int32.ofInt x4)), (5, .int (Int32.ofInt x5))]) (st' := [.int (Int32.ofInt x5)]) rfl ?_
      refine lf_callI 65 rfl rfl rfl rfl (gm_188 h) (fun r30 s29 h => ?_)
      refine lf_seg 1 (pc' := 67) (lv' := [(0, .ref 95), (1, .int (Int32.ofInt x1)), (3, .int (Int32.ofInt x3)), (4, .int (Int32.ofInt x4)), (5, .int (Int32.ofInt x5))]) (st' := [.int (Int32.ofInt x4), .int (Int32.ofInt r30)]) rfl ?_
      obtain ⟨o31, h⟩ := h
      obtain ⟨o32, h⟩ := h
      refine lf_icmp_ne 108 70 rfl rfl rfl o31 o32 (fun c => ?_) (fun c => ?_)
      · have h := h.1 c
        refine lf_sub (l := [(0, .ref 95), (1, .int (Int32.ofInt x1)), (3, .int (Int32.ofInt x3)), (4, .int (Int32.ofInt x4)), (5, .int (Int32.ofInt x5))]) (lf_sb1 rfl (lf_sb1 rfl (lf_sb1 rfl (lf_sb1 rfl (lf_sb1 rfl lf_sb0))))) ?_
        exact gm_295_p108 hX30 hX43 h
      · have h := h.2 c
        refine lf_seg 3 (pc' := 74) (lv' := [(0, .ref 95), (1, .int (Int32.ofInt x1)), (3, .int (Int32.ofInt x3)), (4, .int (Int32.ofInt x4)), (5, .int (Int32.ofInt x5))]) (st' := [.int (Int32.ofInt x1), .ref 95, .int (Int32.ofInt x5)]) rfl ?_
        refine lf_callI 77 rfl rfl rfl rfl (gm_255 h) (fun r34 s33 h => ?_)
        refine lf_callZ 80 rfl rfl rfl rfl (gm_210 h) (fun z36 s35 h => ?_)
        refine lf_ifz_eq 86 83 rfl rfl rfl (fun c => ?_) (fun c => ?_)
        · have h := h.1 c
          refine lf_seg 2 (pc' := 89) (lv' := [(0, .ref 95), (1, .int (Int32.ofInt x1)), (3, .int (Int32.ofInt x3)), (4, .int (Int32.ofInt x4)), (5, .int (Int32.ofInt x5))]) (st' := [.int (Int32.ofInt x5), .ref 95]) rfl ?_
          refine lf_putI 92 29 rfl rfl rfl rfl rfl rfl rfl rfl ?_
          refine lf_as (lf_up s35.1 95 29 x5, s35.2.1, s35.2.2) rfl ?_
          refine lf_seg 3 (pc' := 95) (lv' := [(0, .ref 95), (1, .int (Int32.ofInt x1)), (3, .int (Int32.ofInt x3)), (4, .int (Int32.ofInt x4)), (5, .int (Int32.ofInt x5))]) (st' := [.int (Int32.ofInt x1), .ref 95, .ref 95]) rfl ?_
          refine lf_callI 98 rfl rfl rfl rfl (gm_294 h) (fun r38 s37 h => ?_)
          refine lf_seg 1 (pc' := 99) (lv' := [(0, .ref 95), (1, .int (Int32.ofInt x1)), (3, .int (Int32.ofInt x3)), (4, .int (Int32.ofInt x4)), (5, .int (Int32.ofInt x5))]) (st' := [.int (Int32.ofInt 2), .int (Int32.ofInt r38), .ref 95]) rfl ?_
          refine lf_callI 102 rfl rfl rfl rfl (gm_296 h) (fun r40 s39 h => ?_)
          obtain ⟨o41, h⟩ := h
          refine lf_if_ne 108 105 rfl rfl rfl o41 (fun c => ?_) (fun c => ?_)
          · have h := h.1 c
            refine lf_sub (l := [(0, .ref 95), (1, .int (Int32.ofInt x1)), (3, .int (Int32.ofInt x3)), (4, .int (Int32.ofInt x4)), (5, .int (Int32.ofInt x5))]) (lf_sb1 rfl (lf_sb1 rfl (lf_sb1 rfl (lf_sb1 rfl (lf_sb1 rfl lf_sb0))))) ?_
            exact gm_295_p108 hX30 hX43 h
          · have h := h.2 c
            refine lf_seg 2 (pc' := 108) (lv' := [(3, .int (Int32.ofInt x5)), (0, .ref 95), (1, .int (Int32.ofInt x1)), (4, .int (Int32.ofInt x4)), (5, .int (Int32.ofInt x5))]) (st' := []) rfl ?_
            refine lf_sub (l := [(0, .ref 95), (1, .int (Int32.ofInt x1)), (3, .int (Int32.ofInt x5)), (4, .int (Int32.ofInt x4)), (5, .int (Int32.ofInt x5))]) (lf_sb1 rfl (lf_sb1 rfl (lf_sb1 rfl (lf_sb1 rfl (lf_sb1 rfl lf_sb0))))) ?_
            exact gm_295_p108 hX30 hX43 h
        · have h := h.2 c
          refine lf_seg 1 (pc' := 108) (lv' := [(0, .ref 95), (1, .int (Int32.ofInt x1)), (3, .int (Int32.ofInt x3)), (4, .int (Int32.ofInt x4)), (5, .int (Int32.ofInt x5))]) (st' := []) rfl ?_
          refine lf_sub (l := [(0, .ref 95), (1, .int (Int32.ofInt x1)), (3, .int (Int32.ofInt x3)), (4, .int (Int32.ofInt x4)), (5, .int (Int32.ofInt x5))]) (lf_sb1 rfl (lf_sb1 rfl (lf_sb1 rfl (lf_sb1 rfl (lf_sb1 rfl lf_sb0))))) ?_
          exact gm_295_p108 hX30 hX43 h
theorem gm_295_p43L {L : Nat} {xs : Nat → Int32} {d : Nat} {X30 : Int → Int → lf_Z → Prop} {Q : Int → lf_Z → Prop} {x1 : Int} {x3 : Int} {x4 : Int} {x5 : Int} {s : lf_Z} (hX30 : ∀ x3 x4 s, X30 x3 x4 s → lf_E (px_ro L xs) (d + 7) 295 30 [(0, .ref 95), (1, .int (Int32.ofInt x1)), (3, .int (Int32.ofInt x3)), (4, .int (Int32.ofInt x4))] [] s (lf_qi Q)) (h : fm_295_p43L X30 Q x1 x3 x4 x5 s) : lf_E (px_ro L xs) (d + 7) 295 43 [(0, .ref 95), (1, .int (Int32.ofInt x1)), (3, .int (Int32.ofInt x3)), (4, .int (Int32.ofInt x4)), (5, .int (Int32.ofInt x5))] [] s (lf_qi Q) :=
  h (fun x3 x5 s => lf_E (px_ro L xs) (d + 7) 295 43 [(0, .ref 95), (1, .int (Int32.ofInt x1)), (3, .int (Int32.ofInt x3)), (4, .int (Int32.ofInt x4)), (5, .int (Int32.ofInt x5))] [] s (lf_qi Q)) (fun x3 x5 s hb => gm_295_p43 hX30 (fun _ _ _ h => h) hb)
def fm_295_p30 (Q : Int → lf_Z → Prop) (x1 : Int) (X30 : Int → Int → lf_Z → Prop) (x3 : Int) (x4 : Int) (s : lf_Z) : Prop := lf_R x4 ∧ ((3 < x4 → (fm_295_p120 Q x3 s)) ∧ (¬ (3 < x4) → (lf_R x3 ∧ ((0 ≤ x3 → (fm_295_p120 Q x3 s)) ∧ (¬ (0 ≤ x3) → (fm_295_p43L X30 Q x1 x3 x4 0 s))))))
def fm_295_p30L (Q : Int → lf_Z → Prop) (x1 : Int) (x3 : Int) (x4 : Int) (s : lf_Z) : Prop := ∀ X30 : Int → Int → lf_Z → Prop, (∀ (x3 : Int) (x4 : Int) (s : lf_Z), fm_295_p30 Q x1 X30 x3 x4 s → X30 x3 x4 s) → X30 x3 x4 s
set_option maxRecDepth 100000 in
theorem gm_295_p30 {L : Nat} {xs : Nat → Int32} {d : Nat} {Q : Int → lf_Z → Prop} {x1 : Int} {x3 : Int} {x4 : Int} {s : lf_Z} {X30 : Int → Int → lf_Z → Prop} (hX30 : ∀ x3 x4 s, X30 x3 x4 s → lf_E (px_ro L xs) (d + 7) 295 30 [(0, .ref 95), (1, .int (Int32.ofInt x1)), (3, .int (Int32.ofInt x3)), (4, .int (Int32.ofInt x4))] [] s (lf_qi Q)) (h : fm_295_p30 Q x1 X30 x3 x4 s) : lf_E (px_ro L xs) (d + 7) 295 30 [(0, .ref 95), (1, .int (Int32.ofInt x1)), (3, .int (Int32.ofInt x3)), (4, .int (Int32.ofInt x4))] [] s (lf_qi Q) := by
  unfold fm_295_p30 at h
  refine lf_seg 2 (pc' := 33) (lv' := [(0, .ref 95), (1, .int (Int32.ofInt x1)), (3, .int (Int32.ofInt x3)), (4, .int (Int32.ofInt x4))]) (st' := [.int (Int32.ofInt 3), .int (Int32.ofInt x4)]) rfl ?_
  obtain ⟨o25, h⟩ := h
  refine lf_icmp_gt 120 36 rfl rfl rfl o25 ⟨by decide, by decide⟩ (fun c => ?_) (fun c => ?_)
  · have h := h.1 c
    refine lf_sub (l := [(0, .ref 95), (3, .int (Int32.ofInt x3))]) (lf_sb1 rfl (lf_sb1 rfl lf_sb0)) ?_
    exact gm_295_p120 h
  · have h := h.2 c
    refine lf_seg 1 (pc' := 37) (lv' := [(0, .ref 95), (1, .int (Int32.ofInt x1)), (3, .int (Int32.ofInt x3)), (4, .int (Int32.ofInt x4))]) (st' := [.int (Int32.ofInt x3)]) rfl ?_
    obtain ⟨o26, h⟩ := h
    refine lf_if_ge 120 40 rfl rfl rfl o26 (fun c => ?_) (fun c => ?_)
    · have h := h.1 c
      refine lf_sub (l := [(0, .ref 95), (3, .int (Int32.ofInt x3))]) (lf_sb1 rfl (lf_sb1 rfl lf_sb0)) ?_
      exact gm_295_p120 h
    · have h := h.2 c
      refine lf_seg 2 (pc' := 43) (lv' := [(5, .int (Int32.ofInt 0)), (0, .ref 95), (1, .int (Int32.ofInt x1)), (3, .int (Int32.ofInt x3)), (4, .int (Int32.ofInt x4))]) (st' := []) rfl ?_
      refine lf_sub (l := [(0, .ref 95), (1, .int (Int32.ofInt x1)), (3, .int (Int32.ofInt x3)), (4, .int (Int32.ofInt x4)), (5, .int (Int32.ofInt 0))]) (lf_sb1 rfl (lf_sb1 rfl (lf_sb1 rfl (lf_sb1 rfl (lf_sb1 rfl lf_sb0))))) ?_
      exact gm_295_p43L hX30 h
theorem gm_295_p30L {L : Nat} {xs : Nat → Int32} {d : Nat} {Q : Int → lf_Z → Prop} {x1 : Int} {x3 : Int} {x4 : Int} {s : lf_Z} (h : fm_295_p30L Q x1 x3 x4 s) : lf_E (px_ro L xs) (d + 7) 295 30 [(0, .ref 95), (1, .int (Int32.ofInt x1)), (3, .int (Int32.ofInt x3)), (4, .int (Int32.ofInt x4))] [] s (lf_qi Q) :=
  h (fun x3 x4 s => lf_E (px_ro L xs) (d + 7) 295 30 [(0, .ref 95), (1, .int (Int32.ofInt x1)), (3, .int (Int32.ofInt x3)), (4, .int (Int32.ofInt x4))] [] s (lf_qi Q)) (fun x3 x4 s hb => gm_295_p30 (fun _ _ _ h => h) hb)
def fm_295 (a1 : Int) (a2 : Int) (Q : Int → lf_Z → Prop) (s : lf_Z) : Prop := fm_254 a1 (fun z22 s21 => ((z22 = false → (Q (-1) s21)) ∧ (z22 = true → (fm_183 a2 0 9 (fun z24 s23 => ((z24 = true → (fm_295_p30L Q a1 (-1) 0 (lf_up s23.1 95 30 a2, s23.2.1, s23.2.2))) ∧ (z24 = false → (Q (-1) s23)))) s21)))) s
set_option maxRecDepth 100000 in
theorem gm_295 {L : Nat} {xs : Nat → Int32} {d : Nat} {a1 : Int} {a2 : Int} {Q : Int → lf_Z → Prop} {s : lf_Z} (h : fm_295 a1 a2 Q s) : lf_M (px_ro L xs) (d + 7) 295 [.ref 95, .int (Int32.ofInt a1), .int (Int32.ofInt a2)] s (lf_qi Q) := by
  unfold fm_295 at h
  show lf_E (px_ro L xs) (d + 7) 295 0 [(0, .ref 95), (1, .int (Int32.ofInt a1)), (2, .int (Int32.ofInt a2))] [] s _
  refine lf_seg 2 (pc' := 2) (lv' := [(0, .ref 95), (1, .int (Int32.ofInt a1)), (2, .int (Int32.ofInt a2))]) (st' := [.int (Int32.ofInt a1), .ref 95]) rfl ?_
  refine lf_callZ 5 rfl rfl rfl rfl (gm_254 h) (fun z22 s21 h => ?_)
  refine lf_ifz_eq 18 8 rfl rfl rfl (fun c => ?_) (fun c => ?_)
  · have h := h.1 c
    refine lf_seg 1 (pc' := 19) (lv' := [(0, .ref 95), (1, .int (Int32.ofInt a1)), (2, .int (Int32.ofInt a2))]) (st' := [.int (Int32.ofInt (-1))]) rfl ?_
    exact lf_retI rfl rfl h
  · have h := h.2 c
    refine lf_seg 2 (pc' := 10) (lv' := [(0, .ref 95), (1, .int (Int32.ofInt a1)), (2, .int (Int32.ofInt a2))]) (st' := [.int (Int32.ofInt 0), .int (Int32.ofInt a2)]) rfl ?_
    refine lf_bipush 12 9 rfl rfl (by decide) (by decide) ?_
    refine lf_callZ 15 rfl rfl rfl rfl (gm_183 h) (fun z24 s23 h => ?_)
    refine lf_ifz_ne 20 18 rfl rfl rfl (fun c => ?_) (fun c => ?_)
    · have h := h.1 c
      refine lf_seg 4 (pc' := 24) (lv' := [(3, .int (Int32.ofInt (-1))), (0, .ref 95), (1, .int (Int32.ofInt a1)), (2, .int (Int32.ofInt a2))]) (st' := [.int (Int32.ofInt a2), .ref 95]) rfl ?_
      refine lf_putI 27 30 rfl rfl rfl rfl rfl rfl rfl rfl ?_
      refine lf_as (lf_up s23.1 95 30 a2, s23.2.1, s23.2.2) rfl ?_
      refine lf_seg 2 (pc' := 30) (lv' := [(4, .int (Int32.ofInt 0)), (3, .int (Int32.ofInt (-1))), (0, .ref 95), (1, .int (Int32.ofInt a1)), (2, .int (Int32.ofInt a2))]) (st' := []) rfl ?_
      refine lf_sub (l := [(0, .ref 95), (1, .int (Int32.ofInt a1)), (3, .int (Int32.ofInt (-1))), (4, .int (Int32.ofInt 0))]) (lf_sb1 rfl (lf_sb1 rfl (lf_sb1 rfl (lf_sb1 rfl lf_sb0)))) ?_
      exact gm_295_p30L h
    · have h := h.2 c
      refine lf_seg 1 (pc' := 19) (lv' := [(0, .ref 95), (1, .int (Int32.ofInt a1)), (2, .int (Int32.ofInt a2))]) (st' := [.int (Int32.ofInt (-1))]) rfl ?_
      exact lf_retI rfl rfl h
-- fm_135 Land.minutesBetween 1 i i i
def fm_135 (a1 : Int) (a2 : Int) (a3 : Int) (Q : Int → lf_Z → Prop) (s : lf_Z) : Prop := fm_75 a2 a3 (fun r22 s21 => (lf_R r22 ∧ ((1000 ≤ r22 → (Q (-1) s21)) ∧ (¬ (1000 ≤ r22) → (fm_99 a1 (fun z25 s24 => ((z25 = true → ((0 ≤ a1 ∧ a1 < 6) ∧ (lf_R (s24.1 8 a1) ∧ ((s24.1 8 a1 = 0 → (Q r22 s24)) ∧ (¬ (s24.1 8 a1 = 0) → (lf_R (r22 + 1) ∧ (Q ((r22 + 1).tdiv 2) s24))))))) ∧ (z25 = false → (Q (-1) s24)))) s21))))) s
set_option maxRecDepth 100000 in
theorem gm_135 {L : Nat} {xs : Nat → Int32} {d : Nat} {a1 : Int} {a2 : Int} {a3 : Int} {Q : Int → lf_Z → Prop} {s : lf_Z} (h : fm_135 a1 a2 a3 Q s) : lf_M (px_ro L xs) (d + 3) 135 [.ref 1, .int (Int32.ofInt a1), .int (Int32.ofInt a2), .int (Int32.ofInt a3)] s (lf_qi Q) := by
  unfold fm_135 at h
  show lf_E (px_ro L xs) (d + 3) 135 0 [(0, .ref 1), (1, .int (Int32.ofInt a1)), (2, .int (Int32.ofInt a2)), (3, .int (Int32.ofInt a3))] [] s _
  refine lf_seg 3 (pc' := 3) (lv' := [(0, .ref 1), (1, .int (Int32.ofInt a1)), (2, .int (Int32.ofInt a2)), (3, .int (Int32.ofInt a3))]) (st' := [.int (Int32.ofInt a3), .int (Int32.ofInt a2), .ref 1]) rfl ?_
  refine lf_callI 6 rfl rfl rfl rfl (gm_75 h) (fun r22 s21 h => ?_)
  refine lf_seg 2 (pc' := 10) (lv' := [(4, .int (Int32.ofInt r22)), (0, .ref 1), (1, .int (Int32.ofInt a1)), (2, .int (Int32.ofInt a2)), (3, .int (Int32.ofInt a3))]) (st' := [.int (Int32.ofInt r22)]) rfl ?_
  refine lf_sipush 13 1000 rfl rfl (by decide) (by decide) ?_
  obtain ⟨o23, h⟩ := h
  refine lf_icmp_ge 24 16 rfl rfl rfl o23 ⟨by decide, by decide⟩ (fun c => ?_) (fun c => ?_)
  · have h := h.1 c
    refine lf_seg 1 (pc' := 25) (lv' := [(4, .int (Int32.ofInt r22)), (0, .ref 1), (1, .int (Int32.ofInt a1)), (2, .int (Int32.ofInt a2)), (3, .int (Int32.ofInt a3))]) (st' := [.int (Int32.ofInt (-1))]) rfl ?_
    exact lf_retI rfl rfl h
  · have h := h.2 c
    refine lf_seg 2 (pc' := 18) (lv' := [(4, .int (Int32.ofInt r22)), (0, .ref 1), (1, .int (Int32.ofInt a1)), (2, .int (Int32.ofInt a2)), (3, .int (Int32.ofInt a3))]) (st' := [.int (Int32.ofInt a1), .ref 1]) rfl ?_
    refine lf_callZ 21 rfl rfl rfl rfl (gm_99 h) (fun z25 s24 h => ?_)
    refine lf_ifz_ne 26 24 rfl rfl rfl (fun c => ?_) (fun c => ?_)
    · have h := h.1 c
      refine lf_seg 3 (pc' := 31) (lv' := [(4, .int (Int32.ofInt r22)), (0, .ref 1), (1, .int (Int32.ofInt a1)), (2, .int (Int32.ofInt a2)), (3, .int (Int32.ofInt a3))]) (st' := [.int (Int32.ofInt a1), .ref 8]) rfl ?_
      obtain ⟨o26, h⟩ := h
      refine lf_zald 32 6 rfl rfl rfl rfl rfl rfl o26 ?_
      obtain ⟨o27, h⟩ := h
      refine lf_if_eq 44 35 rfl rfl rfl o27 (fun c => ?_) (fun c => ?_)
      · have h := h.1 c
        refine lf_seg 1 (pc' := 46) (lv' := [(4, .int (Int32.ofInt r22)), (0, .ref 1), (1, .int (Int32.ofInt a1)), (2, .int (Int32.ofInt a2)), (3, .int (Int32.ofInt a3))]) (st' := [.int (Int32.ofInt r22)]) rfl ?_
        exact lf_retI rfl rfl h
      · have h := h.2 c
        refine lf_seg 2 (pc' := 38) (lv' := [(4, .int (Int32.ofInt r22)), (0, .ref 1), (1, .int (Int32.ofInt a1)), (2, .int (Int32.ofInt a2)), (3, .int (Int32.ofInt a3))]) (st' := [.int (Int32.ofInt 1), .int (Int32.ofInt r22)]) rfl ?_
        refine lf_iadd 39 rfl rfl ?_
        refine lf_seg 1 (pc' := 40) (lv' := [(4, .int (Int32.ofInt r22)), (0, .ref 1), (1, .int (Int32.ofInt a1)), (2, .int (Int32.ofInt a2)), (3, .int (Int32.ofInt a3))]) (st' := [.int (Int32.ofInt 2), .int (Int32.ofInt (r22 + 1))]) rfl ?_
        obtain ⟨o28, h⟩ := h
        refine lf_idiv 41 rfl rfl o28 ⟨by decide, by decide⟩ (by decide) ?_
        refine lf_seg 1 (pc' := 46) (lv' := [(4, .int (Int32.ofInt r22)), (0, .ref 1), (1, .int (Int32.ofInt a1)), (2, .int (Int32.ofInt a2)), (3, .int (Int32.ofInt a3))]) (st' := [.int (Int32.ofInt ((r22 + 1).tdiv 2))]) rfl ?_
        exact lf_retI rfl rfl h
    · have h := h.2 c
      refine lf_seg 1 (pc' := 25) (lv' := [(4, .int (Int32.ofInt r22)), (0, .ref 1), (1, .int (Int32.ofInt a1)), (2, .int (Int32.ofInt a2)), (3, .int (Int32.ofInt a3))]) (st' := [.int (Int32.ofInt (-1))]) rfl ?_
      exact lf_retI rfl rfl h
-- fm_134 ElevenBullocks.soon 0 i i
def fm_134 (a1 : Int) (a2 : Int) (Q : Int → lf_Z → Prop) (s : lf_Z) : Prop := fm_99 a1 (fun z22 s21 => ((z22 = false → (Q (-1) s21)) ∧ (z22 = true → (fm_18 a2 (fun z24 s23 => ((z24 = true → ((0 ≤ a1 ∧ a1 < 6) ∧ (fm_135 a1 (s23.1 19 a1) a2 (fun r27 s26 => (Q r27 s26)) s23))) ∧ (z24 = false → (Q (-1) s23)))) s21)))) s
set_option maxRecDepth 100000 in
theorem gm_134 {L : Nat} {xs : Nat → Int32} {d : Nat} {a1 : Int} {a2 : Int} {Q : Int → lf_Z → Prop} {s : lf_Z} (h : fm_134 a1 a2 Q s) : lf_M (px_ro L xs) (d + 4) 134 [.ref 0, .int (Int32.ofInt a1), .int (Int32.ofInt a2)] s (lf_qi Q) := by
  unfold fm_134 at h
  show lf_E (px_ro L xs) (d + 4) 134 0 [(0, .ref 0), (1, .int (Int32.ofInt a1)), (2, .int (Int32.ofInt a2))] [] s _
  refine lf_seg 3 (pc' := 5) (lv' := [(0, .ref 0), (1, .int (Int32.ofInt a1)), (2, .int (Int32.ofInt a2))]) (st' := [.int (Int32.ofInt a1), .ref 1]) rfl ?_
  refine lf_callZ 8 rfl rfl rfl rfl (gm_99 h) (fun z22 s21 h => ?_)
  refine lf_ifz_eq 22 11 rfl rfl rfl (fun c => ?_) (fun c => ?_)
  · have h := h.1 c
    refine lf_seg 1 (pc' := 23) (lv' := [(0, .ref 0), (1, .int (Int32.ofInt a1)), (2, .int (Int32.ofInt a2))]) (st' := [.int (Int32.ofInt (-1))]) rfl ?_
    exact lf_retI rfl rfl h
  · have h := h.2 c
    refine lf_seg 3 (pc' := 16) (lv' := [(0, .ref 0), (1, .int (Int32.ofInt a1)), (2, .int (Int32.ofInt a2))]) (st' := [.int (Int32.ofInt a2), .ref 1]) rfl ?_
    refine lf_callZ 19 rfl rfl rfl rfl (gm_18 h) (fun z24 s23 h => ?_)
    refine lf_ifz_ne 24 22 rfl rfl rfl (fun c => ?_) (fun c => ?_)
    · have h := h.1 c
      refine lf_seg 6 (pc' := 36) (lv' := [(0, .ref 0), (1, .int (Int32.ofInt a1)), (2, .int (Int32.ofInt a2))]) (st' := [.ref 19, .int (Int32.ofInt a1), .ref 1]) rfl ?_
      refine lf_seg 1 (pc' := 37) (lv' := [(0, .ref 0), (1, .int (Int32.ofInt a1)), (2, .int (Int32.ofInt a2))]) (st' := [.int (Int32.ofInt a1), .ref 19, .int (Int32.ofInt a1), .ref 1]) rfl ?_
      obtain ⟨o25, h⟩ := h
      refine lf_iald 38 6 rfl rfl rfl rfl rfl rfl o25 ?_
      refine lf_seg 1 (pc' := 39) (lv' := [(0, .ref 0), (1, .int (Int32.ofInt a1)), (2, .int (Int32.ofInt a2))]) (st' := [.int (Int32.ofInt a2), .int (Int32.ofInt (s23.1 19 a1)), .int (Int32.ofInt a1), .ref 1]) rfl ?_
      refine lf_callI 42 rfl rfl rfl rfl (gm_135 h) (fun r27 s26 h => ?_)
      exact lf_retI rfl rfl h
    · have h := h.2 c
      refine lf_seg 1 (pc' := 23) (lv' := [(0, .ref 0), (1, .int (Int32.ofInt a1)), (2, .int (Int32.ofInt a2))]) (st' := [.int (Int32.ofInt (-1))]) rfl ?_
      exact lf_retI rfl rfl h
-- fm_299 Model.minutesOf 95 i i
def fm_299 (a1 : Int) (a2 : Int) (Q : Int → lf_Z → Prop) (s : lf_Z) : Prop := (0 ≤ a2 ∧ a2 < 12) ∧ (lf_R (s.1 108 a2) ∧ ((s.1 108 a2 < 1000 → (fm_239d a1 (fun r24 s23 => (lf_R r24 ∧ ((r24 ≠ 1 → (Q (s23.1 108 a2) s23)) ∧ (¬ (r24 ≠ 1) → (lf_R ((s23.1 108 a2) + 1) ∧ (Q (((s23.1 108 a2) + 1).tdiv 2) s23)))))) s)) ∧ (¬ (s.1 108 a2 < 1000) → (Q 1000 s))))
set_option maxRecDepth 100000 in
theorem gm_299 {L : Nat} {xs : Nat → Int32} {d : Nat} {a1 : Int} {a2 : Int} {Q : Int → lf_Z → Prop} {s : lf_Z} (h : fm_299 a1 a2 Q s) : lf_M (px_ro L xs) (d + 2) 299 [.ref 95, .int (Int32.ofInt a1), .int (Int32.ofInt a2)] s (lf_qi Q) := by
  unfold fm_299 at h
  show lf_E (px_ro L xs) (d + 2) 299 0 [(0, .ref 95), (1, .int (Int32.ofInt a1)), (2, .int (Int32.ofInt a2))] [] s _
  refine lf_seg 3 (pc' := 5) (lv' := [(0, .ref 95), (1, .int (Int32.ofInt a1)), (2, .int (Int32.ofInt a2))]) (st' := [.int (Int32.ofInt a2), .ref 108]) rfl ?_
  obtain ⟨o21, h⟩ := h
  refine lf_iald 6 12 rfl rfl rfl rfl rfl rfl o21 ?_
  refine lf_sipush 9 1000 rfl rfl (by decide) (by decide) ?_
  obtain ⟨o22, h⟩ := h
  refine lf_icmp_lt 18 12 rfl rfl rfl o22 ⟨by decide, by decide⟩ (fun c => ?_) (fun c => ?_)
  · have h := h.1 c
    refine lf_seg 3 (pc' := 21) (lv' := [(0, .ref 95), (1, .int (Int32.ofInt a1)), (2, .int (Int32.ofInt a2))]) (st' := [.int (Int32.ofInt 1), .int (Int32.ofInt a1), .ref 95]) rfl ?_
    refine lf_callI 24 rfl rfl rfl rfl (gm_239d h) (fun r24 s23 h => ?_)
    refine lf_seg 1 (pc' := 25) (lv' := [(0, .ref 95), (1, .int (Int32.ofInt a1)), (2, .int (Int32.ofInt a2))]) (st' := [.int (Int32.ofInt 1), .int (Int32.ofInt r24)]) rfl ?_
    obtain ⟨o25, h⟩ := h
    refine lf_icmp_ne 41 28 rfl rfl rfl o25 ⟨by decide, by decide⟩ (fun c => ?_) (fun c => ?_)
    · have h := h.1 c
      refine lf_seg 3 (pc' := 46) (lv' := [(0, .ref 95), (1, .int (Int32.ofInt a1)), (2, .int (Int32.ofInt a2))]) (st' := [.int (Int32.ofInt a2), .ref 108]) rfl ?_
      refine lf_iald 47 12 rfl rfl rfl rfl rfl rfl o21 ?_
      exact lf_retI rfl rfl h
    · have h := h.2 c
      refine lf_seg 3 (pc' := 33) (lv' := [(0, .ref 95), (1, .int (Int32.ofInt a1)), (2, .int (Int32.ofInt a2))]) (st' := [.int (Int32.ofInt a2), .ref 108]) rfl ?_
      refine lf_iald 34 12 rfl rfl rfl rfl rfl rfl o21 ?_
      refine lf_seg 1 (pc' := 35) (lv' := [(0, .ref 95), (1, .int (Int32.ofInt a1)), (2, .int (Int32.ofInt a2))]) (st' := [.int (Int32.ofInt 1), .int (Int32.ofInt (s23.1 108 a2))]) rfl ?_
      refine lf_iadd 36 rfl rfl ?_
      refine lf_seg 1 (pc' := 37) (lv' := [(0, .ref 95), (1, .int (Int32.ofInt a1)), (2, .int (Int32.ofInt a2))]) (st' := [.int (Int32.ofInt 2), .int (Int32.ofInt ((s23.1 108 a2) + 1))]) rfl ?_
      obtain ⟨o26, h⟩ := h
      refine lf_idiv 38 rfl rfl o26 ⟨by decide, by decide⟩ (by decide) ?_
      refine lf_seg 1 (pc' := 47) (lv' := [(0, .ref 95), (1, .int (Int32.ofInt a1)), (2, .int (Int32.ofInt a2))]) (st' := [.int (Int32.ofInt (((s23.1 108 a2) + 1).tdiv 2))]) rfl ?_
      exact lf_retI rfl rfl h
  · have h := h.2 c
    refine lf_sipush 15 1000 rfl rfl (by decide) (by decide) ?_
    refine lf_seg 1 (pc' := 47) (lv' := [(0, .ref 95), (1, .int (Int32.ofInt a1)), (2, .int (Int32.ofInt a2))]) (st' := [.int (Int32.ofInt 1000)]) rfl ?_
    exact lf_retI rfl rfl h
-- fm_298 Model.soon 95 i i
def fm_298 (a1 : Int) (a2 : Int) (Q : Int → lf_Z → Prop) (s : lf_Z) : Prop := fm_249 a1 (fun z22 s21 => ((z22 = false → (Q (-1) s21)) ∧ (z22 = true → (fm_185 a2 (fun z24 s23 => ((z24 = true → (fm_261 a2 1 (fun s25 => (fm_239 a1 (fun r27 s26 => (fm_299 a1 r27 (fun r29 s28 => (lf_R r29 ∧ ((r29 < 1000 → (Q r29 s28)) ∧ (¬ (r29 < 1000) → (Q (-1) s28))))) s26)) s25)) s23)) ∧ (z24 = false → (Q (-1) s23)))) s21)))) s
set_option maxRecDepth 100000 in
theorem gm_298 {L : Nat} {xs : Nat → Int32} {d : Nat} {a1 : Int} {a2 : Int} {Q : Int → lf_Z → Prop} {s : lf_Z} (h : fm_298 a1 a2 Q s) : lf_M (px_ro L xs) (d + 3) 298 [.ref 95, .int (Int32.ofInt a1), .int (Int32.ofInt a2)] s (lf_qi Q) := by
  unfold fm_298 at h
  show lf_E (px_ro L xs) (d + 3) 298 0 [(0, .ref 95), (1, .int (Int32.ofInt a1)), (2, .int (Int32.ofInt a2))] [] s _
  refine lf_seg 2 (pc' := 2) (lv' := [(0, .ref 95), (1, .int (Int32.ofInt a1)), (2, .int (Int32.ofInt a2))]) (st' := [.int (Int32.ofInt a1), .ref 95]) rfl ?_
  refine lf_callZ 5 rfl rfl rfl rfl (gm_249 h) (fun z22 s21 h => ?_)
  refine lf_ifz_eq 16 8 rfl rfl rfl (fun c => ?_) (fun c => ?_)
  · have h := h.1 c
    refine lf_seg 1 (pc' := 17) (lv' := [(0, .ref 95), (1, .int (Int32.ofInt a1)), (2, .int (Int32.ofInt a2))]) (st' := [.int (Int32.ofInt (-1))]) rfl ?_
    exact lf_retI rfl rfl h
  · have h := h.2 c
    refine lf_seg 2 (pc' := 10) (lv' := [(0, .ref 95), (1, .int (Int32.ofInt a1)), (2, .int (Int32.ofInt a2))]) (st' := [.int (Int32.ofInt a2), .ref 95]) rfl ?_
    refine lf_callZ 13 rfl rfl rfl rfl (gm_185 h) (fun z24 s23 h => ?_)
    refine lf_ifz_ne 18 16 rfl rfl rfl (fun c => ?_) (fun c => ?_)
    · have h := h.1 c
      refine lf_seg 3 (pc' := 21) (lv' := [(0, .ref 95), (1, .int (Int32.ofInt a1)), (2, .int (Int32.ofInt a2))]) (st' := [.int (Int32.ofInt 1), .int (Int32.ofInt a2), .ref 95]) rfl ?_
      refine lf_callV 24 rfl rfl rfl rfl (gm_261 h) (fun s25 h => ?_)
      refine lf_seg 5 (pc' := 29) (lv' := [(0, .ref 95), (1, .int (Int32.ofInt a1)), (2, .int (Int32.ofInt a2))]) (st' := [.int (Int32.ofInt 3), .int (Int32.ofInt a1), .ref 95, .int (Int32.ofInt a1), .ref 95]) rfl ?_
      refine lf_callI 32 rfl rfl rfl rfl (gm_239 h) (fun r27 s26 h => ?_)
      refine lf_callI 35 rfl rfl rfl rfl (gm_299 h) (fun r29 s28 h => ?_)
      refine lf_seg 2 (pc' := 37) (lv' := [(3, .int (Int32.ofInt r29)), (0, .ref 95), (1, .int (Int32.ofInt a1)), (2, .int (Int32.ofInt a2))]) (st' := [.int (Int32.ofInt r29)]) rfl ?_
      refine lf_sipush 40 1000 rfl rfl (by decide) (by decide) ?_
      obtain ⟨o30, h⟩ := h
      refine lf_icmp_lt 47 43 rfl rfl rfl o30 ⟨by decide, by decide⟩ (fun c => ?_) (fun c => ?_)
      · have h := h.1 c
        refine lf_seg 1 (pc' := 48) (lv' := [(3, .int (Int32.ofInt r29)), (0, .ref 95), (1, .int (Int32.ofInt a1)), (2, .int (Int32.ofInt a2))]) (st' := [.int (Int32.ofInt r29)]) rfl ?_
        exact lf_retI rfl rfl h
      · have h := h.2 c
        refine lf_seg 2 (pc' := 48) (lv' := [(3, .int (Int32.ofInt r29)), (0, .ref 95), (1, .int (Int32.ofInt a1)), (2, .int (Int32.ofInt a2))]) (st' := [.int (Int32.ofInt (-1))]) rfl ?_
        exact lf_retI rfl rfl h
    · have h := h.2 c
      refine lf_seg 1 (pc' := 17) (lv' := [(0, .ref 95), (1, .int (Int32.ofInt a1)), (2, .int (Int32.ofInt a2))]) (st' := [.int (Int32.ofInt (-1))]) rfl ?_
      exact lf_retI rfl rfl h
-- fm_138 java/lang/Integer.bitCount i
def fm_138 (a0 : Int) (Q : Int → lf_Z → Prop) (s : lf_Z) : Prop := Q (lf_and (((lf_and (lf_w (((lf_and (a0 - (lf_and (lf_ushr a0 1) 1431655765)) 858993459) + (lf_and (lf_ushr (a0 - (lf_and (lf_ushr a0 1) 1431655765)) 2) 858993459)) + (lf_ushr ((lf_and (a0 - (lf_and (lf_ushr a0 1) 1431655765)) 858993459) + (lf_and (lf_ushr (a0 - (lf_and (lf_ushr a0 1) 1431655765)) 2) 858993459)) 4))) 252645135) + (lf_ushr (lf_and (lf_w (((lf_and (a0 - (lf_and (lf_ushr a0 1) 1431655765)) 858993459) + (lf_and (lf_ushr (a0 - (lf_and (lf_ushr a0 1) 1431655765)) 2) 858993459)) + (lf_ushr ((lf_and (a0 - (lf_and (lf_ushr a0 1) 1431655765)) 858993459) + (lf_and (lf_ushr (a0 - (lf_and (lf_ushr a0 1) 1431655765)) 2) 858993459)) 4))) 252645135) 8)) + (lf_ushr ((lf_and (lf_w (((lf_and (a0 - (lf_and (lf_ushr a0 1) 1431655765)) 858993459) + (lf_and (lf_ushr (a0 - (lf_and (lf_ushr a0 1) 1431655765)) 2) 858993459)) + (lf_ushr ((lf_and (a0 - (lf_and (lf_ushr a0 1) 1431655765)) 858993459) + (lf_and (lf_ushr (a0 - (lf_and (lf_ushr a0 1) 1431655765)) 2) 858993459)) 4))) 252645135) + (lf_ushr (lf_and (lf_w (((lf_and (a0 - (lf_and (lf_ushr a0 1) 1431655765)) 858993459) + (lf_and (lf_ushr (a0 - (lf_and (lf_ushr a0 1) 1431655765)) 2) 858993459)) + (lf_ushr ((lf_and (a0 - (lf_and (lf_ushr a0 1) 1431655765)) 858993459) + (lf_and (lf_ushr (a0 - (lf_and (lf_ushr a0 1) 1431655765)) 2) 858993459)) 4))) 252645135) 8)) 16)) 63) s
set_option maxRecDepth 100000 in
theorem gm_138 {L : Nat} {xs : Nat → Int32} {d : Nat} {a0 : Int} {Q : Int → lf_Z → Prop} {s : lf_Z} (h : fm_138 a0 Q s) : lf_M (px_ro L xs) (d + 1) 138 [.int (Int32.ofInt a0)] s (lf_qi Q) := by
  unfold fm_138 at h
  show lf_E (px_ro L xs) (d + 1) 138 0 [(0, .int (Int32.ofInt a0))] [] s _
  refine lf_seg 3 (pc' := 3) (lv' := [(0, .int (Int32.ofInt a0))]) (st' := [.int (Int32.ofInt 1), .int (Int32.ofInt a0), .int (Int32.ofInt a0)]) rfl ?_
  refine lf_iushr 4 rfl rfl ?_
  refine lf_ldcw 7 1431655765 rfl rfl rfl (by decide) ?_
  refine lf_iand 8 rfl rfl ?_
  refine lf_isub 9 rfl rfl ?_
  refine lf_seg 2 (pc' := 11) (lv' := [(0, .int (Int32.ofInt (a0 - (lf_and (lf_ushr a0 1) 1431655765))))]) (st' := [.int (Int32.ofInt (a0 - (lf_and (lf_ushr a0 1) 1431655765)))]) rfl ?_
  refine lf_ldcw 14 858993459 rfl rfl rfl (by decide) ?_
  refine lf_iand 15 rfl rfl ?_
  refine lf_seg 2 (pc' := 17) (lv' := [(0, .int (Int32.ofInt (a0 - (lf_and (lf_ushr a0 1) 1431655765))))]) (st' := [.int (Int32.ofInt 2), .int (Int32.ofInt (a0 - (lf_and (lf_ushr a0 1) 1431655765))), .int (Int32.ofInt (lf_and (a0 - (lf_and (lf_ushr a0 1) 1431655765)) 858993459))]) rfl ?_
  refine lf_iushr 18 rfl rfl ?_
  refine lf_ldcw 21 858993459 rfl rfl rfl (by decide) ?_
  refine lf_iand 22 rfl rfl ?_
  refine lf_iadd 23 rfl rfl ?_
  refine lf_seg 4 (pc' := 27) (lv' := [(0, .int (Int32.ofInt ((lf_and (a0 - (lf_and (lf_ushr a0 1) 1431655765)) 858993459) + (lf_and (lf_ushr (a0 - (lf_and (lf_ushr a0 1) 1431655765)) 2) 858993459))))]) (st' := [.int (Int32.ofInt 4), .int (Int32.ofInt ((lf_and (a0 - (lf_and (lf_ushr a0 1) 1431655765)) 858993459) + (lf_and (lf_ushr (a0 - (lf_and (lf_ushr a0 1) 1431655765)) 2) 858993459))), .int (Int32.ofInt ((lf_and (a0 - (lf_and (lf_ushr a0 1) 1431655765)) 858993459) + (lf_and (lf_ushr (a0 - (lf_and (lf_ushr a0 1) 1431655765)) 2) 858993459)))]) rfl ?_
  refine lf_iushr 28 rfl rfl ?_
  refine lf_iadd 29 rfl rfl ?_
  refine lf_wtI ?_
  refine lf_ldcw 32 252645135 rfl rfl rfl (by decide) ?_
  refine lf_iand 33 rfl rfl ?_
  refine lf_seg 3 (pc' := 36) (lv' := [(0, .int (Int32.ofInt (lf_and (lf_w (((lf_and (a0 - (lf_and (lf_ushr a0 1) 1431655765)) 858993459) + (lf_and (lf_ushr (a0 - (lf_and (lf_ushr a0 1) 1431655765)) 2) 858993459)) + (lf_ushr ((lf_and (a0 - (lf_and (lf_ushr a0 1) 1431655765)) 858993459) + (lf_and (lf_ushr (a0 - (lf_and (lf_ushr a0 1) 1431655765)) 2) 858993459)) 4))) 252645135)))]) (st' := [.int (Int32.ofInt (lf_and (lf_w (((lf_and (a0 - (lf_and (lf_ushr a0 1) 1431655765)) 858993459) + (lf_and (lf_ushr (a0 - (lf_and (lf_ushr a0 1) 1431655765)) 2) 858993459)) + (lf_ushr ((lf_and (a0 - (lf_and (lf_ushr a0 1) 1431655765)) 858993459) + (lf_and (lf_ushr (a0 - (lf_and (lf_ushr a0 1) 1431655765)) 2) 858993459)) 4))) 252645135)), .int (Int32.ofInt (lf_and (lf_w (((lf_and (a0 - (lf_and (lf_ushr a0 1) 1431655765)) 858993459) + (lf_and (lf_ushr (a0 - (lf_and (lf_ushr a0 1) 1431655765)) 2) 858993459)) + (lf_ushr ((lf_and (a0 - (lf_and (lf_ushr a0 1) 1431655765)) 858993459) + (lf_and (lf_ushr (a0 - (lf_and (lf_ushr a0 1) 1431655765)) 2) 858993459)) 4))) 252645135))]) rfl ?_
  refine lf_bipush 38 8 rfl rfl (by decide) (by decide) ?_
  refine lf_iushr 39 rfl rfl ?_
  refine lf_iadd 40 rfl rfl ?_
  refine lf_seg 3 (pc' := 43) (lv' := [(0, .int (Int32.ofInt ((lf_and (lf_w (((lf_and (a0 - (lf_and (lf_ushr a0 1) 1431655765)) 858993459) + (lf_and (lf_ushr (a0 - (lf_and (lf_ushr a0 1) 1431655765)) 2) 858993459)) + (lf_ushr ((lf_and (a0 - (lf_and (lf_ushr a0 1) 1431655765)) 858993459) + (lf_and (lf_ushr (a0 - (lf_and (lf_ushr a0 1) 1431655765)) 2) 858993459)) 4))) 252645135) + (lf_ushr (lf_and (lf_w (((lf_and (a0 - (lf_and (lf_ushr a0 1) 1431655765)) 858993459) + (lf_and (lf_ushr (a0 - (lf_and (lf_ushr a0 1) 1431655765)) 2) 858993459)) + (lf_ushr ((lf_and (a0 - (lf_and (lf_ushr a0 1) 1431655765)) 858993459) + (lf_and (lf_ushr (a0 - (lf_and (lf_ushr a0 1) 1431655765)) 2) 858993459)) 4))) 252645135) 8))))]) (st' := [.int (Int32.ofInt ((lf_and (lf_w (((lf_and (a0 - (lf_and (lf_ushr a0 1) 1431655765)) 858993459) + (lf_and (lf_ushr (a0 - (lf_and (lf_ushr a0 1) 1431655765)) 2) 858993459)) + (lf_ushr ((lf_and (a0 - (lf_and (lf_ushr a0 1) 1431655765)) 858993459) + (lf_and (lf_ushr (a0 - (lf_and (lf_ushr a0 1) 1431655765)) 2) 858993459)) 4))) 252645135) + (lf_ushr (lf_and (lf_w (((lf_and (a0 - (lf_and (lf_ushr a0 1) 1431655765)) 858993459) + (lf_and (lf_ushr (a0 - (lf_and (lf_ushr a0 1) 1431655765)) 2) 858993459)) + (lf_ushr ((lf_and (a0 - (lf_and (lf_ushr a0 1) 1431655765)) 858993459) + (lf_and (lf_ushr (a0 - (lf_and (lf_ushr a0 1) 1431655765)) 2) 858993459)) 4))) 252645135) 8))), .int (Int32.ofInt ((lf_and (lf_w (((lf_and (a0 - (lf_and (lf_ushr a0 1) 1431655765)) 858993459) + (lf_and (lf_ushr (a0 - (lf_and (lf_ushr a0 1) 1431655765)) 2) 858993459)) + (lf_ushr ((lf_and (a0 - (lf_and (lf_ushr a0 1) 1431655765)) 858993459) + (lf_and (lf_ushr (a0 - (lf_and (lf_ushr a0 1) 1431655765)) 2) 858993459)) 4))) 252645135) + (lf_ushr (lf_and (lf_w (((lf_and (a0 - (lf_and (lf_ushr a0 1) 1431655765)) 858993459) + (lf_and (lf_ushr (a0 - (lf_and (lf_ushr a0 1) 1431655765)) 2) 858993459)) + (lf_ushr ((lf_and (a0 - (lf_and (lf_ushr a0 1) 1431655765)) 858993459) + (lf_and (lf_ushr (a0 - (lf_and (lf_ushr a0 1) 1431655765)) 2) 858993459)) 4))) 252645135) 8)))]) rfl ?_
  refine lf_bipush 45 16 rfl rfl (by decide) (by decide) ?_
  refine lf_iushr 46 rfl rfl ?_
  refine lf_iadd 47 rfl rfl ?_
  refine lf_seg 2 (pc' := 49) (lv' := [(0, .int (Int32.ofInt (((lf_and (lf_w (((lf_and (a0 - (lf_and (lf_ushr a0 1) 1431655765)) 858993459) + (lf_and (lf_ushr (a0 - (lf_and (lf_ushr a0 1) 1431655765)) 2) 858993459)) + (lf_ushr ((lf_and (a0 - (lf_and (lf_ushr a0 1) 1431655765)) 858993459) + (lf_and (lf_ushr (a0 - (lf_and (lf_ushr a0 1) 1431655765)) 2) 858993459)) 4))) 252645135) + (lf_ushr (lf_and (lf_w (((lf_and (a0 - (lf_and (lf_ushr a0 1) 1431655765)) 858993459) + (lf_and (lf_ushr (a0 - (lf_and (lf_ushr a0 1) 1431655765)) 2) 858993459)) + (lf_ushr ((lf_and (a0 - (lf_and (lf_ushr a0 1) 1431655765)) 858993459) + (lf_and (lf_ushr (a0 - (lf_and (lf_ushr a0 1) 1431655765)) 2) 858993459)) 4))) 252645135) 8)) + (lf_ushr ((lf_and (lf_w (((lf_and (a0 - (lf_and (lf_ushr a0 1) 1431655765)) 858993459) + (lf_and (lf_ushr (a0 - (lf_and (lf_ushr a0 1) 1431655765)) 2) 858993459)) + (lf_ushr ((lf_and (a0 - (lf_and (lf_ushr a0 1) 1431655765)) 858993459) + (lf_and (lf_ushr (a0 - (lf_and (lf_ushr a0 1) 1431655765)) 2) 858993459)) 4))) 252645135) + (lf_ushr (lf_and (lf_w (((lf_and (a0 - (lf_and (lf_ushr a0 1) 1431655765)) 858993459) + (lf_and (lf_ushr (a0 - (lf_and (lf_ushr a0 1) 1431655765)) 2) 858993459)) + (lf_ushr ((lf_and (a0 - (lf_and (lf_ushr a0 1) 1431655765)) 858993459) + (lf_and (lf_ushr (a0 - (lf_and (lf_ushr a0 1) 1431655765)) 2) 858993459)) 4))) 252645135) 8)) 16))))]) (st' := [.int (Int32.ofInt (((lf_and (lf_w (((lf_and (a0 - (lf_and (lf_ushr a0 1) 1431655765)) 858993459) + (lf_and (lf_ushr (a0 - (lf_and (lf_ushr a0 1) 1431655765)) 2) 858993459)) + (lf_ushr ((lf_and (a0 - (lf_and (lf_ushr a0 1) 1431655765)) 858993459) + (lf_and (lf_ushr (a0 - (lf_and (lf_ushr a0 1) 1431655765)) 2) 858993459)) 4))) 252645135) + (lf_ushr (lf_and (lf_w (((lf_and (a0 - (lf_and (lf_ushr a0 1) 1431655765)) 858993459) + (lf_and (lf_ushr (a0 - (lf_and (lf_ushr a0 1) 1431655765)) 2) 858993459)) + (lf_ushr ((lf_and (a0 - (lf_and (lf_ushr a0 1) 1431655765)) 858993459) + (lf_and (lf_ushr (a0 - (lf_and (lf_ushr a0 1) 1431655765)) 2) 858993459)) 4))) 252645135) 8)) + (lf_ushr ((lf_and (lf_w (((lf_and (a0 - (lf_and (lf_ushr a0 1) 1431655765)) 858993459) + (lf_and (lf_ushr (a0 - (lf_and (lf_ushr a0 1) 1431655765)) 2) 858993459)) + (lf_ushr ((lf_and (a0 - (lf_and (lf_ushr a0 1) 1431655765)) 858993459) + (lf_and (lf_ushr (a0 - (lf_and (lf_ushr a0 1) 1431655765)) 2) 858993459)) 4))) 252645135) + (lf_ushr (lf_and (lf_w (((lf_and (a0 - (lf_and (lf_ushr a0 1) 1431655765)) 858993459) + (lf_and (lf_ushr (a0 - (lf_and (lf_ushr a0 1) 1431655765)) 2) 858993459)) + (lf_ushr ((lf_and (a0 - (lf_and (lf_ushr a0 1) 1431655765)) 858993459) + (lf_and (lf_ushr (a0 - (lf_and (lf_ushr a0 1) 1431655765)) 2) 858993459)) 4))) 252645135) 8)) 16)))]) rfl ?_
  refine lf_bipush 51 63 rfl rfl (by decide) (by decide) ?_
  refine lf_iand 52 rfl rfl ?_
  exact lf_retI rfl rfl h
-- fm_140 Errands.keepChoice 74 i
def fm_140 (a1 : Int) (Q : lf_Z → Prop) (s : lf_Z) : Prop := Q (lf_cp (lf_up s.1 74 6 a1) 76 77 0 0 6, s.2.1, s.2.2)
set_option maxRecDepth 100000 in
theorem gm_140 {L : Nat} {xs : Nat → Int32} {d : Nat} {a1 : Int} {Q : lf_Z → Prop} {s : lf_Z} (h : fm_140 a1 Q s) : lf_M (px_ro L xs) (d + 1) 140 [.ref 74, .int (Int32.ofInt a1)] s (lf_qv Q) := by
  unfold fm_140 at h
  show lf_E (px_ro L xs) (d + 1) 140 0 [(0, .ref 74), (1, .int (Int32.ofInt a1))] [] s _
  refine lf_seg 2 (pc' := 2) (lv' := [(0, .ref 74), (1, .int (Int32.ofInt a1))]) (st' := [.int (Int32.ofInt a1), .ref 74]) rfl ?_
  refine lf_putI 5 6 rfl rfl rfl rfl rfl rfl rfl rfl ?_
  refine lf_as (lf_up s.1 74 6 a1, s.2.1, s.2.2) rfl ?_
  refine lf_seg 6 (pc' := 15) (lv' := [(0, .ref 74), (1, .int (Int32.ofInt a1))]) (st' := [.int (Int32.ofInt 0), .ref 77, .int (Int32.ofInt 0), .ref 76]) rfl ?_
  refine lf_bipush 17 6 rfl rfl (by decide) (by decide) ?_
  refine lf_cpy 20 rfl rfl rfl rfl rfl rfl rfl rfl rfl rfl rfl rfl ⟨by decide, by decide, by decide, by decide, by decide⟩ ?_
  refine lf_as (lf_cp (lf_up s.1 74 6 a1) 76 77 0 0 6, s.2.1, s.2.2) rfl ?_
  exact lf_retV rfl rfl h
-- fm_139 Errands.choosePerson 74 i i i
def fm_139_p122 (R139 : Int → Int → Int → (lf_Z → Prop) → lf_Z → Prop) (X34 : Int → lf_Z → Prop) (Q : lf_Z → Prop) (x1 : Int) (x2 : Int) (x3 : Int) (x4 : Int) (s : lf_Z) : Prop := X34 (x4 + 1) s
set_option maxRecDepth 100000 in
theorem gm_139_p122 {L : Nat} {xs : Nat → Int32} {d : Nat} {R139 : Int → Int → Int → (lf_Z → Prop) → lf_Z → Prop} {X34 : Int → lf_Z → Prop} {Q : lf_Z → Prop} {x1 : Int} {x2 : Int} {x3 : Int} {x4 : Int} {s : lf_Z} (hR139 : ∀ b1 b2 b3 Q s, R139 b1 b2 b3 Q s → lf_M (px_ro L xs) (d + 3) 139 [.ref 74, .int (Int32.ofInt b1), .int (Int32.ofInt b2), .int (Int32.ofInt b3)] s (lf_qv Q)) (hX34 : ∀ x4 s, X34 x4 s → lf_E (px_ro L xs) (d + 4) 139 34 [(0, .ref 74), (1, .int (Int32.ofInt x1)), (2, .int (Int32.ofInt x2)), (3, .int (Int32.ofInt x3)), (4, .int (Int32.ofInt x4))] [] s (lf_qv Q)) (h : fm_139_p122 R139 X34 Q x1 x2 x3 x4 s) : lf_E (px_ro L xs) (d + 4) 139 122 [(0, .ref 74), (1, .int (Int32.ofInt x1)), (2, .int (Int32.ofInt x2)), (3, .int (Int32.ofInt x3)), (4, .int (Int32.ofInt x4))] [] s (lf_qv Q) := by
  unfold fm_139_p122 at h
  refine lf_iinc 125 rfl rfl rfl rfl ?_
  refine lf_seg 1 (pc' := 34) (lv' := [(4, .int (Int32.ofInt (x4 + 1))), (0, .ref 74), (1, .int (Int32.ofInt x1)), (2, .int (Int32.ofInt x2)), (3, .int (Int32.ofInt x3))]) (st' := []) rfl ?_
  refine lf_sub (l := [(0, .ref 74), (1, .int (Int32.ofInt x1)), (2, .int (Int32.ofInt x2)), (3, .int (Int32.ofInt x3)), (4, .int (Int32.ofInt (x4 + 1)))]) (lf_sb1 rfl (lf_sb1 rfl (lf_sb1 rfl (lf_sb1 rfl (lf_sb1 rfl lf_sb0))))) ?_
  exact hX34 _ _ h
def fm_139_p85 (R139 : Int → Int → Int → (lf_Z → Prop) → lf_Z → Prop) (X34 : Int → lf_Z → Prop) (Q : lf_Z → Prop) (x1 : Int) (x2 : Int) (x3 : Int) (x4 : Int) (y0 : Int) (s : lf_Z) : Prop := lf_R y0 ∧ ((y0 = (-1) → (fm_139_p122 R139 X34 Q x1 x2 x3 x4 s)) ∧ (¬ (y0 = (-1)) → ((0 ≤ x1 ∧ x1 < 6) ∧ (lf_R x3 ∧ (R139 (x1 + 1) (lf_and x2 (lf_xor (lf_shl 1 x4) (-1))) (max x3 y0) (fun s29 => (fm_139_p122 R139 X34 Q x1 x2 x3 x4 s29)) (lf_up s.1 76 x1 x4, s.2.1, s.2.2))))))
set_option maxRecDepth 100000 in
theorem gm_139_p85 {L : Nat} {xs : Nat → Int32} {d : Nat} {R139 : Int → Int → Int → (lf_Z → Prop) → lf_Z → Prop} {X34 : Int → lf_Z → Prop} {Q : lf_Z → Prop} {x1 : Int} {x2 : Int} {x3 : Int} {x4 : Int} {y0 : Int} {s : lf_Z} (hR139 : ∀ b1 b2 b3 Q s, R139 b1 b2 b3 Q s → lf_M (px_ro L xs) (d + 3) 139 [.ref 74, .int (Int32.ofInt b1), .int (Int32.ofInt b2), .int (Int32.ofInt b3)] s (lf_qv Q)) (hX34 : ∀ x4 s, X34 x4 s → lf_E (px_ro L xs) (d + 4) 139 34 [(0, .ref 74), (1, .int (Int32.ofInt x1)), (2, .int (Int32.ofInt x2)), (3, .int (Int32.ofInt x3)), (4, .int (Int32.ofInt x4))] [] s (lf_qv Q)) (h : fm_139_p85 R139 X34 Q x1 x2 x3 x4 y0 s) : lf_E (px_ro L xs) (d + 4) 139 85 [(0, .ref 74), (1, .int (Int32.ofInt x1)), (2, .int (Int32.ofInt x2)), (3, .int (Int32.ofInt x3)), (4, .int (Int32.ofInt x4))] [.int (Int32.ofInt y0)] s (lf_qv Q) := by
  unfold fm_139_p85 at h
  refine lf_seg 3 (pc' := 90) (lv' := [(5, .int (Int32.ofInt y0)), (0, .ref 74), (1, .int (Int32.ofInt x1)), (2, .int (Int32.ofInt x2)), (3, .int (Int32.ofInt x3)), (4, .int (Int32.ofInt x4))]) (st' := [.int (Int32.ofInt (-1)), .int (Int32.ofInt y0)]) rfl ?_
  obtain ⟨o26, h⟩ := h
  refine lf_icmp_eq 122 93 rfl rfl rfl o26 ⟨by decide, by decide⟩ (fun c => ?_) (fun c => ?_)
  · have h := h.1 c
    refine lf_sub (l := [(0, .ref 74), (1, .int (Int32.ofInt x1)), (2, .int (Int32.ofInt x2)), (3, .int (Int32.ofInt x3)), (4, .int (Int32.ofInt x4))]) (lf_sb1 rfl (lf_sb1 rfl (lf_sb1 rfl (lf_sb1 rfl (lf_sb1 rfl lf_sb0))))) ?_
    exact gm_139_p122 hR139 hX34 h
  · have h := h.2 c
    refine lf_seg 4 (pc' := 100) (lv' := [(5, .int (Int32.ofInt y0)), (0, .ref 74), (1, .int (Int32.ofInt x1)), (2, .int (Int32.ofInt x2)), (3, .int (Int32.ofInt x3)), (4, .int (Int32.ofInt x4))]) (st' := [.int (Int32.ofInt x4), .int (Int32.ofInt x1), .ref 76]) rfl ?_
    obtain ⟨o27, h⟩ := h
    refine lf_iast 101 6 rfl rfl rfl rfl rfl rfl o27 ?_
    refine lf_as (lf_up s.1 76 x1 x4, s.2.1, s.2.2) rfl ?_
    refine lf_seg 3 (pc' := 104) (lv' := [(5, .int (Int32.ofInt y0)), (0, .ref 74), (1, .int (Int32.ofInt x1)), (2, .int (Int32.ofInt x2)), (3, .int (Int32.ofInt x3)), (4, .int (Int32.ofInt x4))]) (st' := [.int (Int32.ofInt 1), .int (Int32.ofInt x1), .ref 74]) rfl ?_
    refine lf_iadd 105 rfl rfl ?_
    refine lf_seg 3 (pc' := 109) (lv' := [(5, .int (Int32.ofInt y0)), (0, .ref 74), (1, .int (Int32.ofInt x1)), (2, .int (Int32.ofInt x2)), (3, .int (Int32.ofInt x3)), (4, .int (Int32.ofInt x4))]) (st' := [.int (Int32.ofInt x4), .int (Int32.ofInt 1), .int (Int32.ofInt x2), .int (Int32.ofInt (x1 + 1)), .ref 74]) rfl ?_
    refine lf_ishl 110 rfl rfl ?_
    refine lf_seg 1 (pc' := 111) (lv' := [(5, .int (Int32.ofInt y0)), (0, .ref 74), (1, .int (Int32.ofInt x1)), (2, .int (Int32.ofInt x2)), (3, .int (Int32.ofInt x3)), (4, .int (Int32.ofInt x4))]) (st' := [.int (Int32.ofInt (-1)), .int (Int32.ofInt (lf_shl 1 x4)), .int (Int32.ofInt x2), .int (Int32.ofInt (x1 + 1)), .ref 74]) rfl ?_
    refine lf_ixor 112 rfl rfl ?_
    refine lf_iand 113 rfl rfl ?_
    refine lf_seg 2 (pc' := 116) (lv' := [(5, .int (Int32.ofInt y0)), (0, .ref 74), (1, .int (Int32.ofInt x1)), (2, .int (Int32.ofInt x2)), (3, .int (Int32.ofInt x3)), (4, .int (Int32.ofInt x4))]) (st' := [.int (Int32.ofInt y0), .int (Int32.ofInt x3), .int (Int32.ofInt (lf_and x2 (lf_xor (lf_shl 1 x4) (-1)))), .int (Int32.ofInt (x1 + 1)), .ref 74]) rfl ?_
    obtain ⟨o28, h⟩ := h
    refine lf_imax 119 rfl rfl rfl rfl o28 o26 ?_
    refine lf_callV 122 rfl rfl rfl rfl (hR139 _ _ _ _ _ h) (fun s29 h => ?_)
    refine lf_sub (l := [(0, .ref 74), (1, .int (Int32.ofInt x1)), (2, .int (Int32.ofInt x2)), (3, .int (Int32.ofInt x3)), (4, .int (Int32.ofInt x4))]) (lf_sb1 rfl (lf_sb1 rfl (lf_sb1 rfl (lf_sb1 rfl (lf_sb1 rfl lf_sb0))))) ?_
    exact gm_139_p122 hR139 hX34 h
def fm_139_p34 (R139 : Int → Int → Int → (lf_Z → Prop) → lf_Z → Prop) (Q : lf_Z → Prop) (x1 : Int) (x2 : Int) (x3 : Int) (X34 : Int → lf_Z → Prop) (x4 : Int) (s : lf_Z) : Prop := lf_R x4 ∧ (lf_R (s.1 1 2) ∧ ((s.1 1 2 ≤ x4 → (Q s)) ∧ (¬ (s.1 1 2 ≤ x4) → ((lf_and (lf_shr x2 x4) 1 ≠ 1 → (fm_139_p85 R139 X34 Q x1 x2 x3 x4 (-1) s)) ∧ (¬ (lf_and (lf_shr x2 x4) 1 ≠ 1) → ((0 ≤ x4 ∧ x4 < 6) ∧ ((0 ≤ x1 ∧ x1 < 6) ∧ (fm_135 x4 (s.1 19 x4) (s.1 75 x1) (fun r33 s32 => (fm_139_p85 R139 X34 Q x1 x2 x3 x4 r33 s32)) s))))))))
def fm_139_p34L (R139 : Int → Int → Int → (lf_Z → Prop) → lf_Z → Prop) (Q : lf_Z → Prop) (x1 : Int) (x2 : Int) (x3 : Int) (x4 : Int) (s : lf_Z) : Prop := ∀ X34 : Int → lf_Z → Prop, (∀ (x4 : Int) (s : lf_Z), fm_139_p34 R139 Q x1 x2 x3 X34 x4 s → X34 x4 s) → X34 x4 s
set_option maxRecDepth 100000 in
theorem gm_139_p34 {L : Nat} {xs : Nat → Int32} {d : Nat} {R139 : Int → Int → Int → (lf_Z → Prop) → lf_Z → Prop} {Q : lf_Z → Prop} {x1 : Int} {x2 : Int} {x3 : Int} {x4 : Int} {s : lf_Z} {X34 : Int → lf_Z → Prop} (hR139 : ∀ b1 b2 b3 Q s, R139 b1 b2 b3 Q s → lf_M (px_ro L xs) (d + 3) 139 [.ref 74, .int (Int32.ofInt b1), .int (Int32.ofInt b2), .int (Int32.ofInt b3)] s (lf_qv Q)) (hX34 : ∀ x4 s, X34 x4 s → lf_E (px_ro L xs) (d + 4) 139 34 [(0, .ref 74), (1, .int (Int32.ofInt x1)), (2, .int (Int32.ofInt x2)), (3, .int (Int32.ofInt x3)), (4, .int (Int32.ofInt x4))] [] s (lf_qv Q)) (h : fm_139_p34 R139 Q x1 x2 x3 X34 x4 s) : lf_E (px_ro L xs) (d + 4) 139 34 [(0, .ref 74), (1, .int (Int32.ofInt x1)), (2, .int (Int32.ofInt x2)), (3, .int (Int32.ofInt x3)), (4, .int (Int32.ofInt x4))] [] s (lf_qv Q) := by
  unfold fm_139_p34 at h
  refine lf_seg 3 (pc' := 40) (lv' := [(0, .ref 74), (1, .int (Int32.ofInt x1)), (2, .int (Int32.ofInt x2)), (3, .int (Int32.ofInt x3)), (4, .int (Int32.ofInt x4))]) (st' := [.ref 1, .int (Int32.ofInt x4)]) rfl ?_
  refine lf_getI 43 2 rfl rfl rfl rfl rfl rfl rfl ?_
  obtain ⟨o24, h⟩ := h
  obtain ⟨o25, h⟩ := h
  refine lf_icmp_ge 128 46 rfl rfl rfl o24 o25 (fun c => ?_) (fun c => ?_)
  · have h := h.1 c
    exact lf_retV rfl rfl h
  · have h := h.2 c
    refine lf_seg 2 (pc' := 49) (lv' := [(0, .ref 74), (1, .int (Int32.ofInt x1)), (2, .int (Int32.ofInt x2)), (3, .int (Int32.ofInt x3)), (4, .int (Int32.ofInt x4))]) (st' := [.int (Int32.ofInt x4), .int (Int32.ofInt x2)]) rfl ?_
    refine lf_ishr 50 rfl rfl ?_
    refine lf_seg 1 (pc' := 51) (lv' := [(0, .ref 74), (1, .int (Int32.ofInt x1)), (2, .int (Int32.ofInt x2)), (3, .int (Int32.ofInt x3)), (4, .int (Int32.ofInt x4))]) (st' := [.int (Int32.ofInt 1), .int (Int32.ofInt (lf_shr x2 x4))]) rfl ?_
    refine lf_iand 52 rfl rfl ?_
    refine lf_seg 1 (pc' := 53) (lv' := [(0, .ref 74), (1, .int (Int32.ofInt x1)), (2, .int (Int32.ofInt x2)), (3, .int (Int32.ofInt x3)), (4, .int (Int32.ofInt x4))]) (st' := [.int (Int32.ofInt 1), .int (Int32.ofInt (lf_and (lf_shr x2 x4) 1))]) rfl ?_
    refine lf_icmp_ne 84 56 rfl rfl rfl lf_Rand ⟨by decide, by decide⟩ (fun c => ?_) (fun c => ?_)
    · have h := h.1 c
      refine lf_seg 1 (pc' := 85) (lv' := [(0, .ref 74), (1, .int (Int32.ofInt x1)), (2, .int (Int32.ofInt x2)), (3, .int (Int32.ofInt x3)), (4, .int (Int32.ofInt x4))]) (st' := [.int (Int32.ofInt (-1))]) rfl ?_
      refine lf_sub (l := [(0, .ref 74), (1, .int (Int32.ofInt x1)), (2, .int (Int32.ofInt x2)), (3, .int (Int32.ofInt x3)), (4, .int (Int32.ofInt x4))]) (lf_sb1 rfl (lf_sb1 rfl (lf_sb1 rfl (lf_sb1 rfl (lf_sb1 rfl lf_sb0))))) ?_
      exact gm_139_p85 hR139 hX34 h
    · have h := h.2 c
      refine lf_seg 6 (pc' := 69) (lv' := [(0, .ref 74), (1, .int (Int32.ofInt x1)), (2, .int (Int32.ofInt x2)), (3, .int (Int32.ofInt x3)), (4, .int (Int32.ofInt x4))]) (st' := [.ref 19, .int (Int32.ofInt x4), .ref 1]) rfl ?_
      refine lf_seg 1 (pc' := 71) (lv' := [(0, .ref 74), (1, .int (Int32.ofInt x1)), (2, .int (Int32.ofInt x2)), (3, .int (Int32.ofInt x3)), (4, .int (Int32.ofInt x4))]) (st' := [.int (Int32.ofInt x4), .ref 19, .int (Int32.ofInt x4), .ref 1]) rfl ?_
      obtain ⟨o30, h⟩ := h
      refine lf_iald 72 6 rfl rfl rfl rfl rfl rfl o30 ?_
      refine lf_seg 3 (pc' := 77) (lv' := [(0, .ref 74), (1, .int (Int32.ofInt x1)), (2, .int (Int32.ofInt x2)), (3, .int (Int32.ofInt x3)), (4, .int (Int32.ofInt x4))]) (st' := [.int (Int32.ofInt x1), .ref 75, .int (Int32.ofInt (s.1 19 x4)), .int (Int32.ofInt x4), .ref 1]) rfl ?_
      obtain ⟨o31, h⟩ := h
      refine lf_iald 78 6 rfl rfl rfl rfl rfl rfl o31 ?_
      refine lf_callI 81 rfl rfl rfl rfl (gm_135 h) (fun r33 s32 h => ?_)
      refine lf_seg 1 (pc' := 85) (lv' := [(0, .ref 74), (1, .int (Int32.ofInt x1)), (2, .int (Int32.ofInt x2)), (3, .int (Int32.ofInt x3)), (4, .int (Int32.ofInt x4))]) (st' := [.int (Int32.ofInt r33)]) rfl ?_
      refine lf_sub (l := [(0, .ref 74), (1, .int (Int32.ofInt x1)), (2, .int (Int32.ofInt x2)), (3, .int (Int32.ofInt x3)), (4, .int (Int32.ofInt x4))]) (lf_sb1 rfl (lf_sb1 rfl (lf_sb1 rfl (lf_sb1 rfl (lf_sb1 rfl lf_sb0))))) ?_
      exact gm_139_p85 hR139 hX34 h
theorem gm_139_p34L {L : Nat} {xs : Nat → Int32} {d : Nat} {R139 : Int → Int → Int → (lf_Z → Prop) → lf_Z → Prop} {Q : lf_Z → Prop} {x1 : Int} {x2 : Int} {x3 : Int} {x4 : Int} {s : lf_Z} (hR139 : ∀ b1 b2 b3 Q s, R139 b1 b2 b3 Q s → lf_M (px_ro L xs) (d + 3) 139 [.ref 74, .int (Int32.ofInt b1), .int (Int32.ofInt b2), .int (Int32.ofInt b3)] s (lf_qv Q)) (h : fm_139_p34L R139 Q x1 x2 x3 x4 s) : lf_E (px_ro L xs) (d + 4) 139 34 [(0, .ref 74), (1, .int (Int32.ofInt x1)), (2, .int (Int32.ofInt x2)), (3, .int (Int32.ofInt x3)), (4, .int (Int32.ofInt x4))] [] s (lf_qv Q) :=
  h (fun x4 s => lf_E (px_ro L xs) (d + 4) 139 34 [(0, .ref 74), (1, .int (Int32.ofInt x1)), (2, .int (Int32.ofInt x2)), (3, .int (Int32.ofInt x3)), (4, .int (Int32.ofInt x4))] [] s (lf_qv Q)) (fun x4 s hb => gm_139_p34 hR139 (fun _ _ h => h) hb)
def fm_139_p17 (R139 : Int → Int → Int → (lf_Z → Prop) → lf_Z → Prop) (Q : lf_Z → Prop) (x1 : Int) (x2 : Int) (x3 : Int) (s : lf_Z) : Prop := lf_R x1 ∧ (lf_R (s.1 74 5) ∧ ((x1 < s.1 74 5 → (fm_139_p34L R139 Q x1 x2 x3 0 s)) ∧ (¬ (x1 < s.1 74 5) → (fm_140 x3 (fun s34 => (Q s34)) s))))
set_option maxRecDepth 100000 in
theorem gm_139_p17 {L : Nat} {xs : Nat → Int32} {d : Nat} {R139 : Int → Int → Int → (lf_Z → Prop) → lf_Z → Prop} {Q : lf_Z → Prop} {x1 : Int} {x2 : Int} {x3 : Int} {s : lf_Z} (hR139 : ∀ b1 b2 b3 Q s, R139 b1 b2 b3 Q s → lf_M (px_ro L xs) (d + 3) 139 [.ref 74, .int (Int32.ofInt b1), .int (Int32.ofInt b2), .int (Int32.ofInt b3)] s (lf_qv Q)) (h : fm_139_p17 R139 Q x1 x2 x3 s) : lf_E (px_ro L xs) (d + 4) 139 17 [(0, .ref 74), (1, .int (Int32.ofInt x1)), (2, .int (Int32.ofInt x2)), (3, .int (Int32.ofInt x3))] [] s (lf_qv Q) := by
  unfold fm_139_p17 at h
  refine lf_seg 2 (pc' := 19) (lv' := [(0, .ref 74), (1, .int (Int32.ofInt x1)), (2, .int (Int32.ofInt x2)), (3, .int (Int32.ofInt x3))]) (st' := [.ref 74, .int (Int32.ofInt x1)]) rfl ?_
  refine lf_getI 22 5 rfl rfl rfl rfl rfl rfl rfl ?_
  obtain ⟨o22, h⟩ := h
  obtain ⟨o23, h⟩ := h
  refine lf_icmp_lt 31 25 rfl rfl rfl o22 o23 (fun c => ?_) (fun c => ?_)
  · have h := h.1 c
    refine lf_seg 2 (pc' := 34) (lv' := [(4, .int (Int32.ofInt 0)), (0, .ref 74), (1, .int (Int32.ofInt x1)), (2, .int (Int32.ofInt x2)), (3, .int (Int32.ofInt x3))]) (st' := []) rfl ?_
    refine lf_sub (l := [(0, .ref 74), (1, .int (Int32.ofInt x1)), (2, .int (Int32.ofInt x2)), (3, .int (Int32.ofInt x3)), (4, .int (Int32.ofInt 0))]) (lf_sb1 rfl (lf_sb1 rfl (lf_sb1 rfl (lf_sb1 rfl (lf_sb1 rfl lf_sb0))))) ?_
    exact gm_139_p34L hR139 h
  · have h := h.2 c
    refine lf_seg 2 (pc' := 27) (lv' := [(0, .ref 74), (1, .int (Int32.ofInt x1)), (2, .int (Int32.ofInt x2)), (3, .int (Int32.ofInt x3))]) (st' := [.int (Int32.ofInt x3), .ref 74]) rfl ?_
    refine lf_callV 30 rfl rfl rfl rfl (gm_140 h) (fun s34 h => ?_)
    exact lf_retV rfl rfl h
def fm_139 (R139 : Int → Int → Int → (lf_Z → Prop) → lf_Z → Prop) (a1 : Int) (a2 : Int) (a3 : Int) (Q : lf_Z → Prop) (s : lf_Z) : Prop := lf_R (s.1 74 6) ∧ ((s.1 74 6 = (-1) → (fm_139_p17 R139 Q a1 a2 a3 s)) ∧ (¬ (s.1 74 6 = (-1)) → (lf_R a3 ∧ ((a3 < s.1 74 6 → (fm_139_p17 R139 Q a1 a2 a3 s)) ∧ (¬ (a3 < s.1 74 6) → (Q s))))))
set_option maxRecDepth 100000 in
theorem gm_139 {L : Nat} {xs : Nat → Int32} {d : Nat} {R139 : Int → Int → Int → (lf_Z → Prop) → lf_Z → Prop} {a1 : Int} {a2 : Int} {a3 : Int} {Q : lf_Z → Prop} {s : lf_Z} (hR139 : ∀ b1 b2 b3 Q s, R139 b1 b2 b3 Q s → lf_M (px_ro L xs) (d + 3) 139 [.ref 74, .int (Int32.ofInt b1), .int (Int32.ofInt b2), .int (Int32.ofInt b3)] s (lf_qv Q)) (h : fm_139 R139 a1 a2 a3 Q s) : lf_M (px_ro L xs) (d + 4) 139 [.ref 74, .int (Int32.ofInt a1), .int (Int32.ofInt a2), .int (Int32.ofInt a3)] s (lf_qv Q) := by
  unfold fm_139 at h
  show lf_E (px_ro L xs) (d + 4) 139 0 [(0, .ref 74), (1, .int (Int32.ofInt a1)), (2, .int (Int32.ofInt a2)), (3, .int (Int32.ofInt a3))] [] s _
  refine lf_seg 1 (pc' := 1) (lv' := [(0, .ref 74), (1, .int (Int32.ofInt a1)), (2, .int (Int32.ofInt a2)), (3, .int (Int32.ofInt a3))]) (st' := [.ref 74]) rfl ?_
  refine lf_getI 4 6 rfl rfl rfl rfl rfl rfl rfl ?_
  refine lf_seg 1 (pc' := 5) (lv' := [(0, .ref 74), (1, .int (Int32.ofInt a1)), (2, .int (Int32.ofInt a2)), (3, .int (Int32.ofInt a3))]) (st' := [.int (Int32.ofInt (-1)), .int (Int32.ofInt (s.1 74 6))]) rfl ?_
  obtain ⟨o21, h⟩ := h
  refine lf_icmp_eq 17 8 rfl rfl rfl o21 ⟨by decide, by decide⟩ (fun c => ?_) (fun c => ?_)
  · have h := h.1 c
    refine lf_sub (l := [(0, .ref 74), (1, .int (Int32.ofInt a1)), (2, .int (Int32.ofInt a2)), (3, .int (Int32.ofInt a3))]) (lf_sb1 rfl (lf_sb1 rfl (lf_sb1 rfl (lf_sb1 rfl lf_sb0)))) ?_
    exact gm_139_p17 hR139 h
  · have h := h.2 c
    refine lf_seg 2 (pc' := 10) (lv' := [(0, .ref 74), (1, .int (Int32.ofInt a1)), (2, .int (Int32.ofInt a2)), (3, .int (Int32.ofInt a3))]) (st' := [.ref 74, .int (Int32.ofInt a3)]) rfl ?_
    refine lf_getI 13 6 rfl rfl rfl rfl rfl rfl rfl ?_
    obtain ⟨o35, h⟩ := h
    refine lf_icmp_lt 17 16 rfl rfl rfl o35 o21 (fun c => ?_) (fun c => ?_)
    · have h := h.1 c
      refine lf_sub (l := [(0, .ref 74), (1, .int (Int32.ofInt a1)), (2, .int (Int32.ofInt a2)), (3, .int (Int32.ofInt a3))]) (lf_sb1 rfl (lf_sb1 rfl (lf_sb1 rfl (lf_sb1 rfl lf_sb0)))) ?_
      exact gm_139_p17 hR139 h
    · have h := h.2 c
      exact lf_retV rfl rfl h
-- cl_139 cluster
def fc_139T : Nat → (Int → Int → Int → (lf_Z → Prop) → lf_Z → Prop)
  | 0 => fun _ _ _ _ _ => False
  | n + 1 => fm_139 (fc_139T n)
theorem gc_139T {L : Nat} {xs : Nat → Int32} {d : Nat} : ∀ n : Nat, (∀ b1 b2 b3 Q s, (fc_139T n) b1 b2 b3 Q s → lf_M (px_ro L xs) (d + n + 3) 139 [.ref 74, .int (Int32.ofInt b1), .int (Int32.ofInt b2), .int (Int32.ofInt b3)] s (lf_qv Q))
  | 0 => fun _ _ _ _ _ h => h.elim
  | n + 1 => fun a1 a2 a3 Q s h => lf_E.deep (gm_139 (d := d + n) (fun _ _ _ _ _ h => lf_E.deep ((gc_139T (L := L) (xs := xs) (d := d) n) _ _ _ _ _ h) (by omega)) h) (by omega)
def fc_139 (a1 : Int) (a2 : Int) (a3 : Int) (Q : lf_Z → Prop) (s : lf_Z) : Prop := (fc_139T 200) a1 a2 a3 Q s
theorem gc_139 {L : Nat} {xs : Nat → Int32} {d : Nat} {a1 : Int} {a2 : Int} {a3 : Int} {Q : lf_Z → Prop} {s : lf_Z} (h : fc_139 a1 a2 a3 Q s) : lf_M (px_ro L xs) (d + 204) 139 [.ref 74, .int (Int32.ofInt a1), .int (Int32.ofInt a2), .int (Int32.ofInt a3)] s (lf_qv Q) := lf_E.deep ((gc_139T (L := L) (xs := xs) (d := d) 200) _ _ _ _ _ h) (by omega)
-- fm_137 Errands.sendAll 74 i i
def fm_137_p79 (X30 : Int → lf_Z → Prop) (Q : Int → lf_Z → Prop) (x1 : Int) (x2 : Int) (x3 : Int) (s : lf_Z) : Prop := X30 (x3 + 1) s
set_option maxRecDepth 100000 in
theorem gm_137_p79 {L : Nat} {xs : Nat → Int32} {d : Nat} {X30 : Int → lf_Z → Prop} {Q : Int → lf_Z → Prop} {x1 : Int} {x2 : Int} {x3 : Int} {s : lf_Z} (hX30 : ∀ x3 s, X30 x3 s → lf_E (px_ro L xs) (d + 205) 137 30 [(0, .ref 74), (1, .int (Int32.ofInt x1)), (2, .int (Int32.ofInt x2)), (3, .int (Int32.ofInt x3))] [] s (lf_qi Q)) (h : fm_137_p79 X30 Q x1 x2 x3 s) : lf_E (px_ro L xs) (d + 205) 137 79 [(0, .ref 74), (1, .int (Int32.ofInt x1)), (2, .int (Int32.ofInt x2)), (3, .int (Int32.ofInt x3))] [] s (lf_qi Q) := by
  unfold fm_137_p79 at h
  refine lf_iinc 82 rfl rfl rfl rfl ?_
  refine lf_seg 1 (pc' := 30) (lv' := [(3, .int (Int32.ofInt (x3 + 1))), (0, .ref 74), (1, .int (Int32.ofInt x1)), (2, .int (Int32.ofInt x2))]) (st' := []) rfl ?_
  refine lf_sub (l := [(0, .ref 74), (1, .int (Int32.ofInt x1)), (2, .int (Int32.ofInt x2)), (3, .int (Int32.ofInt (x3 + 1)))]) (lf_sb1 rfl (lf_sb1 rfl (lf_sb1 rfl (lf_sb1 rfl lf_sb0)))) ?_
  exact hX30 _ _ h
def fm_137_p30 (Q : Int → lf_Z → Prop) (x1 : Int) (x2 : Int) (X30 : Int → lf_Z → Prop) (x3 : Int) (s : lf_Z) : Prop := lf_R x3 ∧ (lf_R (s.1 1 0) ∧ ((s.1 1 0 ≤ x3 → (fc_139 0 x1 0 (fun s30 => (Q (s30.1 74 6) s30)) s)) ∧ (¬ (s.1 1 0 ≤ x3) → ((lf_and (lf_shr x2 x3) 1 ≠ 1 → (fm_137_p79 X30 Q x1 x2 x3 s)) ∧ (¬ (lf_and (lf_shr x2 x3) 1 ≠ 1) → (lf_R (s.1 74 5) ∧ ((6 ≤ s.1 74 5 → (fm_137_p79 X30 Q x1 x2 x3 s)) ∧ (¬ (6 ≤ s.1 74 5) → ((0 ≤ s.1 74 5 ∧ s.1 74 5 < 6) ∧ (fm_137_p79 X30 Q x1 x2 x3 (lf_up (lf_up s.1 75 (s.1 74 5) x3) 74 5 ((s.1 74 5) + 1), s.2.1, s.2.2)))))))))))
def fm_137_p30L (Q : Int → lf_Z → Prop) (x1 : Int) (x2 : Int) (x3 : Int) (s : lf_Z) : Prop := ∀ X30 : Int → lf_Z → Prop, (∀ (x3 : Int) (s : lf_Z), fm_137_p30 Q x1 x2 X30 x3 s → X30 x3 s) → X30 x3 s
set_option maxRecDepth 100000 in
theorem gm_137_p30 {L : Nat} {xs : Nat → Int32} {d : Nat} {Q : Int → lf_Z → Prop} {x1 : Int} {x2 : Int} {x3 : Int} {s : lf_Z} {X30 : Int → lf_Z → Prop} (hX30 : ∀ x3 s, X30 x3 s → lf_E (px_ro L xs) (d + 205) 137 30 [(0, .ref 74), (1, .int (Int32.ofInt x1)), (2, .int (Int32.ofInt x2)), (3, .int (Int32.ofInt x3))] [] s (lf_qi Q)) (h : fm_137_p30 Q x1 x2 X30 x3 s) : lf_E (px_ro L xs) (d + 205) 137 30 [(0, .ref 74), (1, .int (Int32.ofInt x1)), (2, .int (Int32.ofInt x2)), (3, .int (Int32.ofInt x3))] [] s (lf_qi Q) := by
  unfold fm_137_p30 at h
  refine lf_seg 3 (pc' := 35) (lv' := [(0, .ref 74), (1, .int (Int32.ofInt x1)), (2, .int (Int32.ofInt x2)), (3, .int (Int32.ofInt x3))]) (st' := [.ref 1, .int (Int32.ofInt x3)]) rfl ?_
  refine lf_getI 38 0 rfl rfl rfl rfl rfl rfl rfl ?_
  obtain ⟨o28, h⟩ := h
  obtain ⟨o29, h⟩ := h
  refine lf_icmp_ge 85 41 rfl rfl rfl o28 o29 (fun c => ?_) (fun c => ?_)
  · have h := h.1 c
    refine lf_seg 4 (pc' := 89) (lv' := [(0, .ref 74), (1, .int (Int32.ofInt x1)), (2, .int (Int32.ofInt x2)), (3, .int (Int32.ofInt x3))]) (st' := [.int (Int32.ofInt 0), .int (Int32.ofInt x1), .int (Int32.ofInt 0), .ref 74]) rfl ?_
    refine lf_callV 92 rfl rfl rfl rfl (gc_139 h) (fun s30 h => ?_)
    refine lf_seg 1 (pc' := 93) (lv' := [(0, .ref 74), (1, .int (Int32.ofInt x1)), (2, .int (Int32.ofInt x2)), (3, .int (Int32.ofInt x3))]) (st' := [.ref 74]) rfl ?_
    refine lf_getI 96 6 rfl rfl rfl rfl rfl rfl rfl ?_
    exact lf_retI rfl rfl h
  · have h := h.2 c
    refine lf_seg 2 (pc' := 43) (lv' := [(0, .ref 74), (1, .int (Int32.ofInt x1)), (2, .int (Int32.ofInt x2)), (3, .int (Int32.ofInt x3))]) (st' := [.int (Int32.ofInt x3), .int (Int32.ofInt x2)]) rfl ?_
    refine lf_ishr 44 rfl rfl ?_
    refine lf_seg 1 (pc' := 45) (lv' := [(0, .ref 74), (1, .int (Int32.ofInt x1)), (2, .int (Int32.ofInt x2)), (3, .int (Int32.ofInt x3))]) (st' := [.int (Int32.ofInt 1), .int (Int32.ofInt (lf_shr x2 x3))]) rfl ?_
    refine lf_iand 46 rfl rfl ?_
    refine lf_seg 1 (pc' := 47) (lv' := [(0, .ref 74), (1, .int (Int32.ofInt x1)), (2, .int (Int32.ofInt x2)), (3, .int (Int32.ofInt x3))]) (st' := [.int (Int32.ofInt 1), .int (Int32.ofInt (lf_and (lf_shr x2 x3) 1))]) rfl ?_
    refine lf_icmp_ne 79 50 rfl rfl rfl lf_Rand ⟨by decide, by decide⟩ (fun c => ?_) (fun c => ?_)
    · have h := h.1 c
      refine lf_sub (l := [(0, .ref 74), (1, .int (Int32.ofInt x1)), (2, .int (Int32.ofInt x2)), (3, .int (Int32.ofInt x3))]) (lf_sb1 rfl (lf_sb1 rfl (lf_sb1 rfl (lf_sb1 rfl lf_sb0)))) ?_
      exact gm_137_p79 hX30 h
    · have h := h.2 c
      refine lf_seg 1 (pc' := 51) (lv' := [(0, .ref 74), (1, .int (Int32.ofInt x1)), (2, .int (Int32.ofInt x2)), (3, .int (Int32.ofInt x3))]) (st' := [.ref 74]) rfl ?_
      refine lf_getI 54 5 rfl rfl rfl rfl rfl rfl rfl ?_
      refine lf_bipush 56 6 rfl rfl (by decide) (by decide) ?_
      obtain ⟨o31, h⟩ := h
      refine lf_icmp_ge 79 59 rfl rfl rfl o31 ⟨by decide, by decide⟩ (fun c => ?_) (fun c => ?_)
      · have h := h.1 c
        refine lf_sub (l := [(0, .ref 74), (1, .int (Int32.ofInt x1)), (2, .int (Int32.ofInt x2)), (3, .int (Int32.ofInt x3))]) (lf_sb1 rfl (lf_sb1 rfl (lf_sb1 rfl (lf_sb1 rfl lf_sb0)))) ?_
        exact gm_137_p79 hX30 h
      · have h := h.2 c
        refine lf_seg 3 (pc' := 64) (lv' := [(0, .ref 74), (1, .int (Int32.ofInt x1)), (2, .int (Int32.ofInt x2)), (3, .int (Int32.ofInt x3))]) (st' := [.ref 74, .ref 75]) rfl ?_
        refine lf_getI 67 5 rfl rfl rfl rfl rfl rfl rfl ?_
        refine lf_seg 1 (pc' := 68) (lv' := [(0, .ref 74), (1, .int (Int32.ofInt x1)), (2, .int (Int32.ofInt x2)), (3, .int (Int32.ofInt x3))]) (st' := [.int (Int32.ofInt x3), .int (Int32.ofInt (s.1 74 5)), .ref 75]) rfl ?_
        obtain ⟨o32, h⟩ := h
        refine lf_iast 69 6 rfl rfl rfl rfl rfl rfl o32 ?_
        refine lf_as (lf_up s.1 75 (s.1 74 5) x3, s.2.1, s.2.2) rfl ?_
        refine lf_seg 2 (pc' := 71) (lv' := [(0, .ref 74), (1, .int (Int32.ofInt x1)), (2, .int (Int32.ofInt x2)), (3, .int (Int32.ofInt x3))]) (st' := [.ref 74, .ref 74]) rfl ?_
        refine lf_getI 74 5 rfl rfl rfl rfl rfl rfl rfl ?_
        refine lf_seg 1 (pc' := 75) (lv' := [(0, .ref 74), (1, .int (Int32.ofInt x1)), (2, .int (Int32.ofInt x2)), (3, .int (Int32.ofInt x3))]) (st' := [.int (Int32.ofInt 1), .int (Int32.ofInt (s.1 74 5)), .ref 74]) rfl ?_
        refine lf_iadd 76 rfl rfl ?_
        refine lf_putI 79 5 rfl rfl rfl rfl rfl rfl rfl rfl ?_
        refine lf_as (lf_up (lf_up s.1 75 (s.1 74 5) x3) 74 5 ((s.1 74 5) + 1), s.2.1, s.2.2) rfl ?_
        refine lf_sub (l := [(0, .ref 74), (1, .int (Int32.ofInt x1)), (2, .int (Int32.ofInt x2)), (3, .int (Int32.ofInt x3))]) (lf_sb1 rfl (lf_sb1 rfl (lf_sb1 rfl (lf_sb1 rfl lf_sb0)))) ?_
        exact gm_137_p79 hX30 h
theorem gm_137_p30L {L : Nat} {xs : Nat → Int32} {d : Nat} {Q : Int → lf_Z → Prop} {x1 : Int} {x2 : Int} {x3 : Int} {s : lf_Z} (h : fm_137_p30L Q x1 x2 x3 s) : lf_E (px_ro L xs) (d + 205) 137 30 [(0, .ref 74), (1, .int (Int32.ofInt x1)), (2, .int (Int32.ofInt x2)), (3, .int (Int32.ofInt x3))] [] s (lf_qi Q) :=
  h (fun x3 s => lf_E (px_ro L xs) (d + 205) 137 30 [(0, .ref 74), (1, .int (Int32.ofInt x1)), (2, .int (Int32.ofInt x2)), (3, .int (Int32.ofInt x3))] [] s (lf_qi Q)) (fun x3 s hb => gm_137_p30 (fun _ _ h => h) hb)
def fm_137 (a1 : Int) (a2 : Int) (Q : Int → lf_Z → Prop) (s : lf_Z) : Prop := fm_138 a2 (fun r22 s21 => (fm_138 a1 (fun r24 s23 => (lf_R r24 ∧ (lf_R r22 ∧ (lf_R (min 6 r24) ∧ ((r22 ≤ min 6 r24 → (fm_137_p30L Q a1 a2 0 s23)) ∧ (¬ (r22 ≤ min 6 r24) → (Q (-1) s23))))))) s21)) (lf_up (lf_up s.1 74 6 (-1)) 74 5 0, s.2.1, s.2.2)
set_option maxRecDepth 100000 in
theorem gm_137 {L : Nat} {xs : Nat → Int32} {d : Nat} {a1 : Int} {a2 : Int} {Q : Int → lf_Z → Prop} {s : lf_Z} (h : fm_137 a1 a2 Q s) : lf_M (px_ro L xs) (d + 205) 137 [.ref 74, .int (Int32.ofInt a1), .int (Int32.ofInt a2)] s (lf_qi Q) := by
  unfold fm_137 at h
  show lf_E (px_ro L xs) (d + 205) 137 0 [(0, .ref 74), (1, .int (Int32.ofInt a1)), (2, .int (Int32.ofInt a2))] [] s _
  refine lf_seg 2 (pc' := 2) (lv' := [(0, .ref 74), (1, .int (Int32.ofInt a1)), (2, .int (Int32.ofInt a2))]) (st' := [.int (Int32.ofInt (-1)), .ref 74]) rfl ?_
  refine lf_putI 5 6 rfl rfl rfl rfl rfl rfl rfl rfl ?_
  refine lf_as (lf_up s.1 74 6 (-1), s.2.1, s.2.2) rfl ?_
  refine lf_seg 2 (pc' := 7) (lv' := [(0, .ref 74), (1, .int (Int32.ofInt a1)), (2, .int (Int32.ofInt a2))]) (st' := [.int (Int32.ofInt 0), .ref 74]) rfl ?_
  refine lf_putI 10 5 rfl rfl rfl rfl rfl rfl rfl rfl ?_
  refine lf_as (lf_up (lf_up s.1 74 6 (-1)) 74 5 0, s.2.1, s.2.2) rfl ?_
  refine lf_seg 1 (pc' := 11) (lv' := [(0, .ref 74), (1, .int (Int32.ofInt a1)), (2, .int (Int32.ofInt a2))]) (st' := [.int (Int32.ofInt a2)]) rfl ?_
  refine lf_callI 14 rfl rfl rfl rfl (gm_138 h) (fun r22 s21 h => ?_)
  refine lf_bipush 16 6 rfl rfl (by decide) (by decide) ?_
  refine lf_seg 1 (pc' := 17) (lv' := [(0, .ref 74), (1, .int (Int32.ofInt a1)), (2, .int (Int32.ofInt a2))]) (st' := [.int (Int32.ofInt a1), .int (Int32.ofInt 6), .int (Int32.ofInt r22)]) rfl ?_
  refine lf_callI 20 rfl rfl rfl rfl (gm_138 h) (fun r24 s23 h => ?_)
  obtain ⟨o25, h⟩ := h
  refine lf_imin 23 rfl rfl rfl rfl ⟨by decide, by decide⟩ o25 ?_
  obtain ⟨o26, h⟩ := h
  obtain ⟨o27, h⟩ := h
  refine lf_icmp_le 28 26 rfl rfl rfl o26 o27 (fun c => ?_) (fun c => ?_)
  · have h := h.1 c
    refine lf_seg 2 (pc' := 30) (lv' := [(3, .int (Int32.ofInt 0)), (0, .ref 74), (1, .int (Int32.ofInt a1)), (2, .int (Int32.ofInt a2))]) (st' := []) rfl ?_
    refine lf_sub (l := [(0, .ref 74), (1, .int (Int32.ofInt a1)), (2, .int (Int32.ofInt a2)), (3, .int (Int32.ofInt 0))]) (lf_sb1 rfl (lf_sb1 rfl (lf_sb1 rfl (lf_sb1 rfl lf_sb0)))) ?_
    exact gm_137_p30L h
  · have h := h.2 c
    refine lf_seg 1 (pc' := 27) (lv' := [(0, .ref 74), (1, .int (Int32.ofInt a1)), (2, .int (Int32.ofInt a2))]) (st' := [.int (Int32.ofInt (-1))]) rfl ?_
    exact lf_retI rfl rfl h
-- fm_141 Errands.whoGoesTo 74 i
def fm_141_p2 (Q : Int → lf_Z → Prop) (x1 : Int) (X2 : Int → lf_Z → Prop) (x2 : Int) (s : lf_Z) : Prop := lf_R x2 ∧ (lf_R (s.1 74 5) ∧ ((s.1 74 5 ≤ x2 → (Q (-1) s)) ∧ (¬ (s.1 74 5 ≤ x2) → (lf_R (s.1 74 6) ∧ ((s.1 74 6 = (-1) → (Q (-1) s)) ∧ (¬ (s.1 74 6 = (-1)) → ((0 ≤ x2 ∧ x2 < 6) ∧ (lf_R (s.1 75 x2) ∧ (lf_R x1 ∧ ((s.1 75 x2 ≠ x1 → (X2 (x2 + 1) s)) ∧ (¬ (s.1 75 x2 ≠ x1) → (Q (s.1 77 x2) s))))))))))))
def fm_141_p2L (Q : Int → lf_Z → Prop) (x1 : Int) (x2 : Int) (s : lf_Z) : Prop := ∀ X2 : Int → lf_Z → Prop, (∀ (x2 : Int) (s : lf_Z), fm_141_p2 Q x1 X2 x2 s → X2 x2 s) → X2 x2 s
set_option maxRecDepth 100000 in
theorem gm_141_p2 {L : Nat} {xs : Nat → Int32} {d : Nat} {Q : Int → lf_Z → Prop} {x1 : Int} {x2 : Int} {s : lf_Z} {X2 : Int → lf_Z → Prop} (hX2 : ∀ x2 s, X2 x2 s → lf_E (px_ro L xs) (d + 1) 141 2 [(0, .ref 74), (1, .int (Int32.ofInt x1)), (2, .int (Int32.ofInt x2))] [] s (lf_qi Q)) (h : fm_141_p2 Q x1 X2 x2 s) : lf_E (px_ro L xs) (d + 1) 141 2 [(0, .ref 74), (1, .int (Int32.ofInt x1)), (2, .int (Int32.ofInt x2))] [] s (lf_qi Q) := by
  unfold fm_141_p2 at h
  refine lf_seg 2 (pc' := 4) (lv' := [(0, .ref 74), (1, .int (Int32.ofInt x1)), (2, .int (Int32.ofInt x2))]) (st' := [.ref 74, .int (Int32.ofInt x2)]) rfl ?_
  refine lf_getI 7 5 rfl rfl rfl rfl rfl rfl rfl ?_
  obtain ⟨o21, h⟩ := h
  obtain ⟨o22, h⟩ := h
  refine lf_icmp_ge 41 10 rfl rfl rfl o21 o22 (fun c => ?_) (fun c => ?_)
  · have h := h.1 c
    refine lf_seg 1 (pc' := 42) (lv' := [(0, .ref 74), (1, .int (Int32.ofInt x1)), (2, .int (Int32.ofInt x2))]) (st' := [.int (Int32.ofInt (-1))]) rfl ?_
    exact lf_retI rfl rfl h
  · have h := h.2 c
    refine lf_seg 1 (pc' := 11) (lv' := [(0, .ref 74), (1, .int (Int32.ofInt x1)), (2, .int (Int32.ofInt x2))]) (st' := [.ref 74]) rfl ?_
    refine lf_getI 14 6 rfl rfl rfl rfl rfl rfl rfl ?_
    refine lf_seg 1 (pc' := 15) (lv' := [(0, .ref 74), (1, .int (Int32.ofInt x1)), (2, .int (Int32.ofInt x2))]) (st' := [.int (Int32.ofInt (-1)), .int (Int32.ofInt (s.1 74 6))]) rfl ?_
    obtain ⟨o23, h⟩ := h
    refine lf_icmp_eq 41 18 rfl rfl rfl o23 ⟨by decide, by decide⟩ (fun c => ?_) (fun c => ?_)
    · have h := h.1 c
      refine lf_seg 1 (pc' := 42) (lv' := [(0, .ref 74), (1, .int (Int32.ofInt x1)), (2, .int (Int32.ofInt x2))]) (st' := [.int (Int32.ofInt (-1))]) rfl ?_
      exact lf_retI rfl rfl h
    · have h := h.2 c
      refine lf_seg 3 (pc' := 23) (lv' := [(0, .ref 74), (1, .int (Int32.ofInt x1)), (2, .int (Int32.ofInt x2))]) (st' := [.int (Int32.ofInt x2), .ref 75]) rfl ?_
      obtain ⟨o24, h⟩ := h
      refine lf_iald 24 6 rfl rfl rfl rfl rfl rfl o24 ?_
      refine lf_seg 1 (pc' := 25) (lv' := [(0, .ref 74), (1, .int (Int32.ofInt x1)), (2, .int (Int32.ofInt x2))]) (st' := [.int (Int32.ofInt x1), .int (Int32.ofInt (s.1 75 x2))]) rfl ?_
      obtain ⟨o25, h⟩ := h
      obtain ⟨o26, h⟩ := h
      refine lf_icmp_ne 35 28 rfl rfl rfl o25 o26 (fun c => ?_) (fun c => ?_)
      · have h := h.1 c
        refine lf_iinc 38 rfl rfl rfl rfl ?_
        refine lf_seg 1 (pc' := 2) (lv' := [(2, .int (Int32.ofInt (x2 + 1))), (0, .ref 74), (1, .int (Int32.ofInt x1))]) (st' := []) rfl ?_
        refine lf_sub (l := [(0, .ref 74), (1, .int (Int32.ofInt x1)), (2, .int (Int32.ofInt (x2 + 1)))]) (lf_sb1 rfl (lf_sb1 rfl (lf_sb1 rfl lf_sb0))) ?_
        exact hX2 _ _ h
      · have h := h.2 c
        refine lf_seg 3 (pc' := 33) (lv' := [(0, .ref 74), (1, .int (Int32.ofInt x1)), (2, .int (Int32.ofInt x2))]) (st' := [.int (Int32.ofInt x2), .ref 77]) rfl ?_
        refine lf_iald 34 6 rfl rfl rfl rfl rfl rfl o24 ?_
        exact lf_retI rfl rfl h
theorem gm_141_p2L {L : Nat} {xs : Nat → Int32} {d : Nat} {Q : Int → lf_Z → Prop} {x1 : Int} {x2 : Int} {s : lf_Z} (h : fm_141_p2L Q x1 x2 s) : lf_E (px_ro L xs) (d + 1) 141 2 [(0, .ref 74), (1, .int (Int32.ofInt x1)), (2, .int (Int32.ofInt x2))] [] s (lf_qi Q) :=
  h (fun x2 s => lf_E (px_ro L xs) (d + 1) 141 2 [(0, .ref 74), (1, .int (Int32.ofInt x1)), (2, .int (Int32.ofInt x2))] [] s (lf_qi Q)) (fun x2 s hb => gm_141_p2 (fun _ _ h => h) hb)
def fm_141 (a1 : Int) (Q : Int → lf_Z → Prop) (s : lf_Z) : Prop := fm_141_p2L Q a1 0 s
set_option maxRecDepth 100000 in
theorem gm_141 {L : Nat} {xs : Nat → Int32} {d : Nat} {a1 : Int} {Q : Int → lf_Z → Prop} {s : lf_Z} (h : fm_141 a1 Q s) : lf_M (px_ro L xs) (d + 1) 141 [.ref 74, .int (Int32.ofInt a1)] s (lf_qi Q) := by
  unfold fm_141 at h
  show lf_E (px_ro L xs) (d + 1) 141 0 [(0, .ref 74), (1, .int (Int32.ofInt a1))] [] s _
  refine lf_seg 2 (pc' := 2) (lv' := [(2, .int (Int32.ofInt 0)), (0, .ref 74), (1, .int (Int32.ofInt a1))]) (st' := []) rfl ?_
  refine lf_sub (l := [(0, .ref 74), (1, .int (Int32.ofInt a1)), (2, .int (Int32.ofInt 0))]) (lf_sb1 rfl (lf_sb1 rfl (lf_sb1 rfl lf_sb0))) ?_
  exact gm_141_p2L h
-- fm_136 ElevenBullocks.whom 0 i i i
def fm_136_p66 (Q : Int → lf_Z → Prop) (x1 : Int) (x2 : Int) (x3 : Int) (s : lf_Z) : Prop := fm_137 x1 x2 (fun r27 s26 => (lf_R x3 ∧ ((x3 ≠ (-1) → (fm_141 x3 (fun r30 s29 => (Q r30 s29)) s26)) ∧ (¬ (x3 ≠ (-1)) → (Q r27 s26))))) s
set_option maxRecDepth 100000 in
theorem gm_136_p66 {L : Nat} {xs : Nat → Int32} {d : Nat} {Q : Int → lf_Z → Prop} {x1 : Int} {x2 : Int} {x3 : Int} {s : lf_Z} (h : fm_136_p66 Q x1 x2 x3 s) : lf_E (px_ro L xs) (d + 206) 136 66 [(0, .ref 0), (1, .int (Int32.ofInt x1)), (2, .int (Int32.ofInt x2)), (3, .int (Int32.ofInt x3))] [] s (lf_qi Q) := by
  unfold fm_136_p66 at h
  refine lf_seg 4 (pc' := 72) (lv' := [(0, .ref 0), (1, .int (Int32.ofInt x1)), (2, .int (Int32.ofInt x2)), (3, .int (Int32.ofInt x3))]) (st' := [.int (Int32.ofInt x2), .int (Int32.ofInt x1), .ref 74]) rfl ?_
  refine lf_callI 75 rfl rfl rfl rfl (gm_137 h) (fun r27 s26 h => ?_)
  refine lf_seg 3 (pc' := 79) (lv' := [(4, .int (Int32.ofInt r27)), (0, .ref 0), (1, .int (Int32.ofInt x1)), (2, .int (Int32.ofInt x2)), (3, .int (Int32.ofInt x3))]) (st' := [.int (Int32.ofInt (-1)), .int (Int32.ofInt x3)]) rfl ?_
  obtain ⟨o28, h⟩ := h
  refine lf_icmp_ne 87 82 rfl rfl rfl o28 ⟨by decide, by decide⟩ (fun c => ?_) (fun c => ?_)
  · have h := h.1 c
    refine lf_seg 3 (pc' := 92) (lv' := [(4, .int (Int32.ofInt r27)), (0, .ref 0), (1, .int (Int32.ofInt x1)), (2, .int (Int32.ofInt x2)), (3, .int (Int32.ofInt x3))]) (st' := [.int (Int32.ofInt x3), .ref 74]) rfl ?_
    refine lf_callI 95 rfl rfl rfl rfl (gm_141 h) (fun r30 s29 h => ?_)
    exact lf_retI rfl rfl h
  · have h := h.2 c
    refine lf_seg 2 (pc' := 95) (lv' := [(4, .int (Int32.ofInt r27)), (0, .ref 0), (1, .int (Int32.ofInt x1)), (2, .int (Int32.ofInt x2)), (3, .int (Int32.ofInt x3))]) (st' := [.int (Int32.ofInt r27)]) rfl ?_
    exact lf_retI rfl rfl h
def fm_136 (a1 : Int) (a2 : Int) (a3 : Int) (Q : Int → lf_Z → Prop) (s : lf_Z) : Prop := fm_15 a1 0 ((lf_shl 1 (s.1 1 2)) - 1) (fun z22 s21 => ((z22 = false → (Q (-1) s21)) ∧ (z22 = true → (fm_15 a2 1 ((lf_shl 1 (s21.1 1 0)) - 1) (fun z24 s23 => ((z24 = true → (lf_R a3 ∧ ((a3 = (-1) → (fm_136_p66 Q a1 a2 a3 s23)) ∧ (¬ (a3 = (-1)) → (fm_18 a3 (fun z32 s31 => ((z32 = false → (Q (-1) s31)) ∧ (z32 = true → ((lf_and (lf_shr a2 a3) 1 ≠ 0 → (fm_136_p66 Q a1 a2 a3 s31)) ∧ (¬ (lf_and (lf_shr a2 a3) 1 ≠ 0) → (Q (-1) s31)))))) s23))))) ∧ (z24 = false → (Q (-1) s23)))) s21)))) s
set_option maxRecDepth 100000 in
theorem gm_136 {L : Nat} {xs : Nat → Int32} {d : Nat} {a1 : Int} {a2 : Int} {a3 : Int} {Q : Int → lf_Z → Prop} {s : lf_Z} (h : fm_136 a1 a2 a3 Q s) : lf_M (px_ro L xs) (d + 206) 136 [.ref 0, .int (Int32.ofInt a1), .int (Int32.ofInt a2), .int (Int32.ofInt a3)] s (lf_qi Q) := by
  unfold fm_136 at h
  show lf_E (px_ro L xs) (d + 206) 136 0 [(0, .ref 0), (1, .int (Int32.ofInt a1)), (2, .int (Int32.ofInt a2)), (3, .int (Int32.ofInt a3))] [] s _
  refine lf_seg 5 (pc' := 7) (lv' := [(0, .ref 0), (1, .int (Int32.ofInt a1)), (2, .int (Int32.ofInt a2)), (3, .int (Int32.ofInt a3))]) (st' := [.ref 1, .int (Int32.ofInt 1), .int (Int32.ofInt 0), .int (Int32.ofInt a1)]) rfl ?_
  refine lf_getI 10 2 rfl rfl rfl rfl rfl rfl rfl ?_
  refine lf_ishl 11 rfl rfl ?_
  refine lf_seg 1 (pc' := 12) (lv' := [(0, .ref 0), (1, .int (Int32.ofInt a1)), (2, .int (Int32.ofInt a2)), (3, .int (Int32.ofInt a3))]) (st' := [.int (Int32.ofInt 1), .int (Int32.ofInt (lf_shl 1 (s.1 1 2))), .int (Int32.ofInt 0), .int (Int32.ofInt a1)]) rfl ?_
  refine lf_isub 13 rfl rfl ?_
  refine lf_callZ 16 rfl rfl rfl rfl (gm_15 h) (fun z22 s21 h => ?_)
  refine lf_ifz_eq 38 19 rfl rfl rfl (fun c => ?_) (fun c => ?_)
  · have h := h.1 c
    refine lf_seg 1 (pc' := 39) (lv' := [(0, .ref 0), (1, .int (Int32.ofInt a1)), (2, .int (Int32.ofInt a2)), (3, .int (Int32.ofInt a3))]) (st' := [.int (Int32.ofInt (-1))]) rfl ?_
    exact lf_retI rfl rfl h
  · have h := h.2 c
    refine lf_seg 5 (pc' := 26) (lv' := [(0, .ref 0), (1, .int (Int32.ofInt a1)), (2, .int (Int32.ofInt a2)), (3, .int (Int32.ofInt a3))]) (st' := [.ref 1, .int (Int32.ofInt 1), .int (Int32.ofInt 1), .int (Int32.ofInt a2)]) rfl ?_
    refine lf_getI 29 0 rfl rfl rfl rfl rfl rfl rfl ?_
    refine lf_ishl 30 rfl rfl ?_
    refine lf_seg 1 (pc' := 31) (lv' := [(0, .ref 0), (1, .int (Int32.ofInt a1)), (2, .int (Int32.ofInt a2)), (3, .int (Int32.ofInt a3))]) (st' := [.int (Int32.ofInt 1), .int (Int32.ofInt (lf_shl 1 (s21.1 1 0))), .int (Int32.ofInt 1), .int (Int32.ofInt a2)]) rfl ?_
    refine lf_isub 32 rfl rfl ?_
    refine lf_callZ 35 rfl rfl rfl rfl (gm_15 h) (fun z24 s23 h => ?_)
    refine lf_ifz_ne 40 38 rfl rfl rfl (fun c => ?_) (fun c => ?_)
    · have h := h.1 c
      refine lf_seg 2 (pc' := 42) (lv' := [(0, .ref 0), (1, .int (Int32.ofInt a1)), (2, .int (Int32.ofInt a2)), (3, .int (Int32.ofInt a3))]) (st' := [.int (Int32.ofInt (-1)), .int (Int32.ofInt a3)]) rfl ?_
      obtain ⟨o25, h⟩ := h
      refine lf_icmp_eq 66 45 rfl rfl rfl o25 ⟨by decide, by decide⟩ (fun c => ?_) (fun c => ?_)
      · have h := h.1 c
        refine lf_sub (l := [(0, .ref 0), (1, .int (Int32.ofInt a1)), (2, .int (Int32.ofInt a2)), (3, .int (Int32.ofInt a3))]) (lf_sb1 rfl (lf_sb1 rfl (lf_sb1 rfl (lf_sb1 rfl lf_sb0)))) ?_
        exact gm_136_p66 h
      · have h := h.2 c
        refine lf_seg 3 (pc' := 50) (lv' := [(0, .ref 0), (1, .int (Int32.ofInt a1)), (2, .int (Int32.ofInt a2)), (3, .int (Int32.ofInt a3))]) (st' := [.int (Int32.ofInt a3), .ref 1]) rfl ?_
        refine lf_callZ 53 rfl rfl rfl rfl (gm_18 h) (fun z32 s31 h => ?_)
        refine lf_ifz_eq 64 56 rfl rfl rfl (fun c => ?_) (fun c => ?_)
        · have h := h.1 c
          refine lf_seg 1 (pc' := 65) (lv' := [(0, .ref 0), (1, .int (Int32.ofInt a1)), (2, .int (Int32.ofInt a2)), (3, .int (Int32.ofInt a3))]) (st' := [.int (Int32.ofInt (-1))]) rfl ?_
          exact lf_retI rfl rfl h
        · have h := h.2 c
          refine lf_seg 2 (pc' := 58) (lv' := [(0, .ref 0), (1, .int (Int32.ofInt a1)), (2, .int (Int32.ofInt a2)), (3, .int (Int32.ofInt a3))]) (st' := [.int (Int32.ofInt a3), .int (Int32.ofInt a2)]) rfl ?_
          refine lf_ishr 59 rfl rfl ?_
          refine lf_seg 1 (pc' := 60) (lv' := [(0, .ref 0), (1, .int (Int32.ofInt a1)), (2, .int (Int32.ofInt a2)), (3, .int (Int32.ofInt a3))]) (st' := [.int (Int32.ofInt 1), .int (Int32.ofInt (lf_shr a2 a3))]) rfl ?_
          refine lf_iand 61 rfl rfl ?_
          refine lf_if_ne 66 64 rfl rfl rfl lf_Rand (fun c => ?_) (fun c => ?_)
          · have h := h.1 c
            refine lf_sub (l := [(0, .ref 0), (1, .int (Int32.ofInt a1)), (2, .int (Int32.ofInt a2)), (3, .int (Int32.ofInt a3))]) (lf_sb1 rfl (lf_sb1 rfl (lf_sb1 rfl (lf_sb1 rfl lf_sb0)))) ?_
            exact gm_136_p66 h
          · have h := h.2 c
            refine lf_seg 1 (pc' := 65) (lv' := [(0, .ref 0), (1, .int (Int32.ofInt a1)), (2, .int (Int32.ofInt a2)), (3, .int (Int32.ofInt a3))]) (st' := [.int (Int32.ofInt (-1))]) rfl ?_
            exact lf_retI rfl rfl h
    · have h := h.2 c
      refine lf_seg 1 (pc' := 39) (lv' := [(0, .ref 0), (1, .int (Int32.ofInt a1)), (2, .int (Int32.ofInt a2)), (3, .int (Int32.ofInt a3))]) (st' := [.int (Int32.ofInt (-1))]) rfl ?_
      exact lf_retI rfl rfl h
-- fm_301 Model.layOut i 113
def fm_301_p28 (X4 : Int → Int → lf_Z → Prop) (Q : Int → lf_Z → Prop) (x0 : Int) (x2 : Int) (x3 : Int) (s : lf_Z) : Prop := X4 x2 (x3 + 1) s
set_option maxRecDepth 100000 in
theorem gm_301_p28 {L : Nat} {xs : Nat → Int32} {d : Nat} {X4 : Int → Int → lf_Z → Prop} {Q : Int → lf_Z → Prop} {x0 : Int} {x2 : Int} {x3 : Int} {s : lf_Z} (hX4 : ∀ x2 x3 s, X4 x2 x3 s → lf_E (px_ro L xs) (d + 2) 301 4 [(0, .int (Int32.ofInt x0)), (1, .ref 113), (2, .int (Int32.ofInt x2)), (3, .int (Int32.ofInt x3))] [] s (lf_qi Q)) (h : fm_301_p28 X4 Q x0 x2 x3 s) : lf_E (px_ro L xs) (d + 2) 301 28 [(0, .int (Int32.ofInt x0)), (1, .ref 113), (2, .int (Int32.ofInt x2)), (3, .int (Int32.ofInt x3))] [] s (lf_qi Q) := by
  unfold fm_301_p28 at h
  refine lf_iinc 31 rfl rfl rfl rfl ?_
  refine lf_seg 1 (pc' := 4) (lv' := [(3, .int (Int32.ofInt (x3 + 1))), (0, .int (Int32.ofInt x0)), (1, .ref 113), (2, .int (Int32.ofInt x2))]) (st' := []) rfl ?_
  refine lf_sub (l := [(0, .int (Int32.ofInt x0)), (1, .ref 113), (2, .int (Int32.ofInt x2)), (3, .int (Int32.ofInt (x3 + 1)))]) (lf_sb1 rfl (lf_sb1 rfl (lf_sb1 rfl (lf_sb1 rfl lf_sb0)))) ?_
  exact hX4 _ _ _ h
def fm_301_p4 (Q : Int → lf_Z → Prop) (x0 : Int) (X4 : Int → Int → lf_Z → Prop) (x2 : Int) (x3 : Int) (s : lf_Z) : Prop := lf_R x3 ∧ ((12 ≤ x3 → (Q x2 s)) ∧ (¬ (12 ≤ x3) → (fm_210 x0 x3 (fun z23 s22 => ((z23 = true → ((0 ≤ x2 ∧ x2 < 6) ∧ (fm_301_p28 X4 Q x0 (x2 + 1) x3 (lf_up s22.1 113 x2 x3, s22.2.1, s22.2.2)))) ∧ (z23 = false → (fm_301_p28 X4 Q x0 x2 x3 s22)))) s)))
def fm_301_p4L (Q : Int → lf_Z → Prop) (x0 : Int) (x2 : Int) (x3 : Int) (s : lf_Z) : Prop := ∀ X4 : Int → Int → lf_Z → Prop, (∀ (x2 : Int) (x3 : Int) (s : lf_Z), fm_301_p4 Q x0 X4 x2 x3 s → X4 x2 x3 s) → X4 x2 x3 s
set_option maxRecDepth 100000 in
theorem gm_301_p4 {L : Nat} {xs : Nat → Int32} {d : Nat} {Q : Int → lf_Z → Prop} {x0 : Int} {x2 : Int} {x3 : Int} {s : lf_Z} {X4 : Int → Int → lf_Z → Prop} (hX4 : ∀ x2 x3 s, X4 x2 x3 s → lf_E (px_ro L xs) (d + 2) 301 4 [(0, .int (Int32.ofInt x0)), (1, .ref 113), (2, .int (Int32.ofInt x2)), (3, .int (Int32.ofInt x3))] [] s (lf_qi Q)) (h : fm_301_p4 Q x0 X4 x2 x3 s) : lf_E (px_ro L xs) (d + 2) 301 4 [(0, .int (Int32.ofInt x0)), (1, .ref 113), (2, .int (Int32.ofInt x2)), (3, .int (Int32.ofInt x3))] [] s (lf_qi Q) := by
  unfold fm_301_p4 at h
  refine lf_seg 1 (pc' := 5) (lv' := [(0, .int (Int32.ofInt x0)), (1, .ref 113), (2, .int (Int32.ofInt x2)), (3, .int (Int32.ofInt x3))]) (st' := [.int (Int32.ofInt x3)]) rfl ?_
  refine lf_bipush 7 12 rfl rfl (by decide) (by decide) ?_
  obtain ⟨o21, h⟩ := h
  refine lf_icmp_ge 34 10 rfl rfl rfl o21 ⟨by decide, by decide⟩ (fun c => ?_) (fun c => ?_)
  · have h := h.1 c
    refine lf_seg 1 (pc' := 35) (lv' := [(0, .int (Int32.ofInt x0)), (1, .ref 113), (2, .int (Int32.ofInt x2)), (3, .int (Int32.ofInt x3))]) (st' := [.int (Int32.ofInt x2)]) rfl ?_
    exact lf_retI rfl rfl h
  · have h := h.2 c
    refine lf_seg 2 (pc' := 12) (lv' := [(0, .int (Int32.ofInt x0)), (1, .ref 113), (2, .int (Int32.ofInt x2)), (3, .int (Int32.ofInt x3))]) (st' := [.int (Int32.ofInt x3), .int (Int32.ofInt x0)]) rfl ?_
    refine lf_callZ 15 rfl rfl rfl rfl (gm_210 h) (fun z23 s22 h => ?_)
    refine lf_ifz_ne 21 18 rfl rfl rfl (fun c => ?_) (fun c => ?_)
    · have h := h.1 c
      refine lf_seg 3 (pc' := 24) (lv' := [(0, .int (Int32.ofInt x0)), (1, .ref 113), (2, .int (Int32.ofInt x2)), (3, .int (Int32.ofInt x3))]) (st' := [.int (Int32.ofInt x3), .int (Int32.ofInt x2), .ref 113]) rfl ?_
      obtain ⟨o24, h⟩ := h
      refine lf_iast 25 6 rfl rfl rfl rfl rfl rfl o24 ?_
      refine lf_as (lf_up s22.1 113 x2 x3, s22.2.1, s22.2.2) rfl ?_
      refine lf_iinc 28 rfl rfl rfl rfl ?_
      refine lf_seg 0 (pc' := 28) (lv' := [(2, .int (Int32.ofInt (x2 + 1))), (0, .int (Int32.ofInt x0)), (1, .ref 113), (3, .int (Int32.ofInt x3))]) (st' := []) rfl ?_
      refine lf_sub (l := [(0, .int (Int32.ofInt x0)), (1, .ref 113), (2, .int (Int32.ofInt (x2 + 1))), (3, .int (Int32.ofInt x3))]) (lf_sb1 rfl (lf_sb1 rfl (lf_sb1 rfl (lf_sb1 rfl lf_sb0)))) ?_
      exact gm_301_p28 hX4 h
    · have h := h.2 c
      refine lf_seg 1 (pc' := 28) (lv' := [(0, .int (Int32.ofInt x0)), (1, .ref 113), (2, .int (Int32.ofInt x2)), (3, .int (Int32.ofInt x3))]) (st' := []) rfl ?_
      refine lf_sub (l := [(0, .int (Int32.ofInt x0)), (1, .ref 113), (2, .int (Int32.ofInt x2)), (3, .int (Int32.ofInt x3))]) (lf_sb1 rfl (lf_sb1 rfl (lf_sb1 rfl (lf_sb1 rfl lf_sb0)))) ?_
      exact gm_301_p28 hX4 h
theorem gm_301_p4L {L : Nat} {xs : Nat → Int32} {d : Nat} {Q : Int → lf_Z → Prop} {x0 : Int} {x2 : Int} {x3 : Int} {s : lf_Z} (h : fm_301_p4L Q x0 x2 x3 s) : lf_E (px_ro L xs) (d + 2) 301 4 [(0, .int (Int32.ofInt x0)), (1, .ref 113), (2, .int (Int32.ofInt x2)), (3, .int (Int32.ofInt x3))] [] s (lf_qi Q) :=
  h (fun x2 x3 s => lf_E (px_ro L xs) (d + 2) 301 4 [(0, .int (Int32.ofInt x0)), (1, .ref 113), (2, .int (Int32.ofInt x2)), (3, .int (Int32.ofInt x3))] [] s (lf_qi Q)) (fun x2 x3 s hb => gm_301_p4 (fun _ _ _ h => h) hb)
def fm_301 (a0 : Int) (Q : Int → lf_Z → Prop) (s : lf_Z) : Prop := fm_301_p4L Q a0 0 0 s
set_option maxRecDepth 100000 in
theorem gm_301 {L : Nat} {xs : Nat → Int32} {d : Nat} {a0 : Int} {Q : Int → lf_Z → Prop} {s : lf_Z} (h : fm_301 a0 Q s) : lf_M (px_ro L xs) (d + 2) 301 [.int (Int32.ofInt a0), .ref 113] s (lf_qi Q) := by
  unfold fm_301 at h
  show lf_E (px_ro L xs) (d + 2) 301 0 [(0, .int (Int32.ofInt a0)), (1, .ref 113)] [] s _
  refine lf_seg 4 (pc' := 4) (lv' := [(3, .int (Int32.ofInt 0)), (2, .int (Int32.ofInt 0)), (0, .int (Int32.ofInt a0)), (1, .ref 113)]) (st' := []) rfl ?_
  refine lf_sub (l := [(0, .int (Int32.ofInt a0)), (1, .ref 113), (2, .int (Int32.ofInt 0)), (3, .int (Int32.ofInt 0))]) (lf_sb1 rfl (lf_sb1 rfl (lf_sb1 rfl (lf_sb1 rfl lf_sb0)))) ?_
  exact gm_301_p4L h
-- fm_301b Model.layOut i 114
def fm_301b_p28 (X4 : Int → Int → lf_Z → Prop) (Q : Int → lf_Z → Prop) (x0 : Int) (x2 : Int) (x3 : Int) (s : lf_Z) : Prop := X4 x2 (x3 + 1) s
set_option maxRecDepth 100000 in
theorem gm_301b_p28 {L : Nat} {xs : Nat → Int32} {d : Nat} {X4 : Int → Int → lf_Z → Prop} {Q : Int → lf_Z → Prop} {x0 : Int} {x2 : Int} {x3 : Int} {s : lf_Z} (hX4 : ∀ x2 x3 s, X4 x2 x3 s → lf_E (px_ro L xs) (d + 2) 301 4 [(0, .int (Int32.ofInt x0)), (1, .ref 114), (2, .int (Int32.ofInt x2)), (3, .int (Int32.ofInt x3))] [] s (lf_qi Q)) (h : fm_301b_p28 X4 Q x0 x2 x3 s) : lf_E (px_ro L xs) (d + 2) 301 28 [(0, .int (Int32.ofInt x0)), (1, .ref 114), (2, .int (Int32.ofInt x2)), (3, .int (Int32.ofInt x3))] [] s (lf_qi Q) := by
  unfold fm_301b_p28 at h
  refine lf_iinc 31 rfl rfl rfl rfl ?_
  refine lf_seg 1 (pc' := 4) (lv' := [(3, .int (Int32.ofInt (x3 + 1))), (0, .int (Int32.ofInt x0)), (1, .ref 114), (2, .int (Int32.ofInt x2))]) (st' := []) rfl ?_
  refine lf_sub (l := [(0, .int (Int32.ofInt x0)), (1, .ref 114), (2, .int (Int32.ofInt x2)), (3, .int (Int32.ofInt (x3 + 1)))]) (lf_sb1 rfl (lf_sb1 rfl (lf_sb1 rfl (lf_sb1 rfl lf_sb0)))) ?_
  exact hX4 _ _ _ h
def fm_301b_p4 (Q : Int → lf_Z → Prop) (x0 : Int) (X4 : Int → Int → lf_Z → Prop) (x2 : Int) (x3 : Int) (s : lf_Z) : Prop := lf_R x3 ∧ ((12 ≤ x3 → (Q x2 s)) ∧ (¬ (12 ≤ x3) → (fm_210 x0 x3 (fun z23 s22 => ((z23 = true → ((0 ≤ x2 ∧ x2 < 12) ∧ (fm_301b_p28 X4 Q x0 (x2 + 1) x3 (lf_up s22.1 114 x2 x3, s22.2.1, s22.2.2)))) ∧ (z23 = false → (fm_301b_p28 X4 Q x0 x2 x3 s22)))) s)))
def fm_301b_p4L (Q : Int → lf_Z → Prop) (x0 : Int) (x2 : Int) (x3 : Int) (s : lf_Z) : Prop := ∀ X4 : Int → Int → lf_Z → Prop, (∀ (x2 : Int) (x3 : Int) (s : lf_Z), fm_301b_p4 Q x0 X4 x2 x3 s → X4 x2 x3 s) → X4 x2 x3 s
set_option maxRecDepth 100000 in
theorem gm_301b_p4 {L : Nat} {xs : Nat → Int32} {d : Nat} {Q : Int → lf_Z → Prop} {x0 : Int} {x2 : Int} {x3 : Int} {s : lf_Z} {X4 : Int → Int → lf_Z → Prop} (hX4 : ∀ x2 x3 s, X4 x2 x3 s → lf_E (px_ro L xs) (d + 2) 301 4 [(0, .int (Int32.ofInt x0)), (1, .ref 114), (2, .int (Int32.ofInt x2)), (3, .int (Int32.ofInt x3))] [] s (lf_qi Q)) (h : fm_301b_p4 Q x0 X4 x2 x3 s) : lf_E (px_ro L xs) (d + 2) 301 4 [(0, .int (Int32.ofInt x0)), (1, .ref 114), (2, .int (Int32.ofInt x2)), (3, .int (Int32.ofInt x3))] [] s (lf_qi Q) := by
  unfold fm_301b_p4 at h
  refine lf_seg 1 (pc' := 5) (lv' := [(0, .int (Int32.ofInt x0)), (1, .ref 114), (2, .int (Int32.ofInt x2)), (3, .int (Int32.ofInt x3))]) (st' := [.int (Int32.ofInt x3)]) rfl ?_
  refine lf_bipush 7 12 rfl rfl (by decide) (by decide) ?_
  obtain ⟨o21, h⟩ := h
  refine lf_icmp_ge 34 10 rfl rfl rfl o21 ⟨by decide, by decide⟩ (fun c => ?_) (fun c => ?_)
  · have h := h.1 c
    refine lf_seg 1 (pc' := 35) (lv' := [(0, .int (Int32.ofInt x0)), (1, .ref 114), (2, .int (Int32.ofInt x2)), (3, .int (Int32.ofInt x3))]) (st' := [.int (Int32.ofInt x2)]) rfl ?_
    exact lf_retI rfl rfl h
  · have h := h.2 c
    refine lf_seg 2 (pc' := 12) (lv' := [(0, .int (Int32.ofInt x0)), (1, .ref 114), (2, .int (Int32.ofInt x2)), (3, .int (Int32.ofInt x3))]) (st' := [.int (Int32.ofInt x3), .int (Int32.ofInt x0)]) rfl ?_
    refine lf_callZ 15 rfl rfl rfl rfl (gm_210 h) (fun z23 s22 h => ?_)
    refine lf_ifz_ne 21 18 rfl rfl rfl (fun c => ?_) (fun c => ?_)
    · have h := h.1 c
      refine lf_seg 3 (pc' := 24) (lv' := [(0, .int (Int32.ofInt x0)), (1, .ref 114), (2, .int (Int32.ofInt x2)), (3, .int (Int32.ofInt x3))]) (st' := [.int (Int32.ofInt x3), .int (Int32.ofInt x2), .ref 114]) rfl ?_
      obtain ⟨o24, h⟩ := h
      refine lf_iast 25 12 rfl rfl rfl rfl rfl rfl o24 ?_
      refine lf_as (lf_up s22.1 114 x2 x3, s22.2.1, s22.2.2) rfl ?_
      refine lf_iinc 28 rfl rfl rfl rfl ?_
      refine lf_seg 0 (pc' := 28) (lv' := [(2, .int (Int32.ofInt (x2 + 1))), (0, .int (Int32.ofInt x0)), (1, .ref 114), (3, .int (Int32.ofInt x3))]) (st' := []) rfl ?_
      refine lf_sub (l := [(0, .int (Int32.ofInt x0)), (1, .ref 114), (2, .int (Int32.ofInt (x2 + 1))), (3, .int (Int32.ofInt x3))]) (lf_sb1 rfl (lf_sb1 rfl (lf_sb1 rfl (lf_sb1 rfl lf_sb0)))) ?_
      exact gm_301b_p28 hX4 h
    · have h := h.2 c
      refine lf_seg 1 (pc' := 28) (lv' := [(0, .int (Int32.ofInt x0)), (1, .ref 114), (2, .int (Int32.ofInt x2)), (3, .int (Int32.ofInt x3))]) (st' := []) rfl ?_
      refine lf_sub (l := [(0, .int (Int32.ofInt x0)), (1, .ref 114), (2, .int (Int32.ofInt x2)), (3, .int (Int32.ofInt x3))]) (lf_sb1 rfl (lf_sb1 rfl (lf_sb1 rfl (lf_sb1 rfl lf_sb0)))) ?_
      exact gm_301b_p28 hX4 h
theorem gm_301b_p4L {L : Nat} {xs : Nat → Int32} {d : Nat} {Q : Int → lf_Z → Prop} {x0 : Int} {x2 : Int} {x3 : Int} {s : lf_Z} (h : fm_301b_p4L Q x0 x2 x3 s) : lf_E (px_ro L xs) (d + 2) 301 4 [(0, .int (Int32.ofInt x0)), (1, .ref 114), (2, .int (Int32.ofInt x2)), (3, .int (Int32.ofInt x3))] [] s (lf_qi Q) :=
  h (fun x2 x3 s => lf_E (px_ro L xs) (d + 2) 301 4 [(0, .int (Int32.ofInt x0)), (1, .ref 114), (2, .int (Int32.ofInt x2)), (3, .int (Int32.ofInt x3))] [] s (lf_qi Q)) (fun x2 x3 s hb => gm_301b_p4 (fun _ _ _ h => h) hb)
def fm_301b (a0 : Int) (Q : Int → lf_Z → Prop) (s : lf_Z) : Prop := fm_301b_p4L Q a0 0 0 s
set_option maxRecDepth 100000 in
theorem gm_301b {L : Nat} {xs : Nat → Int32} {d : Nat} {a0 : Int} {Q : Int → lf_Z → Prop} {s : lf_Z} (h : fm_301b a0 Q s) : lf_M (px_ro L xs) (d + 2) 301 [.int (Int32.ofInt a0), .ref 114] s (lf_qi Q) := by
  unfold fm_301b at h
  show lf_E (px_ro L xs) (d + 2) 301 0 [(0, .int (Int32.ofInt a0)), (1, .ref 114)] [] s _
  refine lf_seg 4 (pc' := 4) (lv' := [(3, .int (Int32.ofInt 0)), (2, .int (Int32.ofInt 0)), (0, .int (Int32.ofInt a0)), (1, .ref 114)]) (st' := []) rfl ?_
  refine lf_sub (l := [(0, .int (Int32.ofInt a0)), (1, .ref 114), (2, .int (Int32.ofInt 0)), (3, .int (Int32.ofInt 0))]) (lf_sb1 rfl (lf_sb1 rfl (lf_sb1 rfl (lf_sb1 rfl lf_sb0)))) ?_
  exact gm_301b_p4L h
-- fm_303 Model.areUnlike 95 i
def fm_303_p4 (Q : Bool → lf_Z → Prop) (x1 : Int) (X4 : Int → Int → lf_Z → Prop) (x2 : Int) (x3 : Int) (s : lf_Z) : Prop := lf_R x3 ∧ (lf_R x1 ∧ ((x1 ≤ x3 → (Q true s)) ∧ (¬ (x1 ≤ x3) → ((0 ≤ x3 ∧ x3 < 6) ∧ (fm_210 x2 (s.1 116 x3) (fun z25 s24 => ((z25 = false → (X4 (lf_or x2 (lf_shl 1 (s24.1 116 x3))) (x3 + 1) s24)) ∧ (z25 = true → (Q false s24)))) s)))))
def fm_303_p4L (Q : Bool → lf_Z → Prop) (x1 : Int) (x2 : Int) (x3 : Int) (s : lf_Z) : Prop := ∀ X4 : Int → Int → lf_Z → Prop, (∀ (x2 : Int) (x3 : Int) (s : lf_Z), fm_303_p4 Q x1 X4 x2 x3 s → X4 x2 x3 s) → X4 x2 x3 s
set_option maxRecDepth 100000 in
theorem gm_303_p4 {L : Nat} {xs : Nat → Int32} {d : Nat} {Q : Bool → lf_Z → Prop} {x1 : Int} {x2 : Int} {x3 : Int} {s : lf_Z} {X4 : Int → Int → lf_Z → Prop} (hX4 : ∀ x2 x3 s, X4 x2 x3 s → lf_E (px_ro L xs) (d + 2) 303 4 [(0, .ref 95), (1, .int (Int32.ofInt x1)), (2, .int (Int32.ofInt x2)), (3, .int (Int32.ofInt x3))] [] s (lf_qz Q)) (h : fm_303_p4 Q x1 X4 x2 x3 s) : lf_E (px_ro L xs) (d + 2) 303 4 [(0, .ref 95), (1, .int (Int32.ofInt x1)), (2, .int (Int32.ofInt x2)), (3, .int (Int32.ofInt x3))] [] s (lf_qz Q) := by
  unfold fm_303_p4 at h
  refine lf_seg 2 (pc' := 6) (lv' := [(0, .ref 95), (1, .int (Int32.ofInt x1)), (2, .int (Int32.ofInt x2)), (3, .int (Int32.ofInt x3))]) (st' := [.int (Int32.ofInt x1), .int (Int32.ofInt x3)]) rfl ?_
  obtain ⟨o21, h⟩ := h
  obtain ⟨o22, h⟩ := h
  refine lf_icmp_ge 41 9 rfl rfl rfl o21 o22 (fun c => ?_) (fun c => ?_)
  · have h := h.1 c
    refine lf_seg 1 (pc' := 42) (lv' := [(0, .ref 95), (1, .int (Int32.ofInt x1)), (2, .int (Int32.ofInt x2)), (3, .int (Int32.ofInt x3))]) (st' := [.int (Int32.ofInt 1)]) rfl ?_
    exact lf_retZ true rfl rfl h
  · have h := h.2 c
    refine lf_seg 4 (pc' := 15) (lv' := [(0, .ref 95), (1, .int (Int32.ofInt x1)), (2, .int (Int32.ofInt x2)), (3, .int (Int32.ofInt x3))]) (st' := [.int (Int32.ofInt x3), .ref 116, .int (Int32.ofInt x2)]) rfl ?_
    obtain ⟨o23, h⟩ := h
    refine lf_iald 16 6 rfl rfl rfl rfl rfl rfl o23 ?_
    refine lf_callZ 19 rfl rfl rfl rfl (gm_210 h) (fun z25 s24 h => ?_)
    refine lf_ifz_eq 24 22 rfl rfl rfl (fun c => ?_) (fun c => ?_)
    · have h := h.1 c
      refine lf_seg 5 (pc' := 31) (lv' := [(0, .ref 95), (1, .int (Int32.ofInt x1)), (2, .int (Int32.ofInt x2)), (3, .int (Int32.ofInt x3))]) (st' := [.int (Int32.ofInt x3), .ref 116, .int (Int32.ofInt 1), .int (Int32.ofInt x2)]) rfl ?_
      refine lf_iald 32 6 rfl rfl rfl rfl rfl rfl o23 ?_
      refine lf_ishl 33 rfl rfl ?_
      refine lf_ior 34 rfl rfl ?_
      refine lf_seg 1 (pc' := 35) (lv' := [(2, .int (Int32.ofInt (lf_or x2 (lf_shl 1 (s24.1 116 x3))))), (0, .ref 95), (1, .int (Int32.ofInt x1)), (3, .int (Int32.ofInt x3))]) (st' := []) rfl ?_
      refine lf_iinc 38 rfl rfl rfl rfl ?_
      refine lf_seg 1 (pc' := 4) (lv' := [(3, .int (Int32.ofInt (x3 + 1))), (2, .int (Int32.ofInt (lf_or x2 (lf_shl 1 (s24.1 116 x3))))), (0, .ref 95), (1, .int (Int32.ofInt x1))]) (st' := []) rfl ?_
      refine lf_sub (l := [(0, .ref 95), (1, .int (Int32.ofInt x1)), (2, .int (Int32.ofInt (lf_or x2 (lf_shl 1 (s24.1 116 x3))))), (3, .int (Int32.ofInt (x3 + 1)))]) (lf_sb1 rfl (lf_sb1 rfl (lf_sb1 rfl (lf_sb1 rfl lf_sb0)))) ?_
      exact hX4 _ _ _ h
    · have h := h.2 c
      refine lf_seg 1 (pc' := 23) (lv' := [(0, .ref 95), (1, .int (Int32.ofInt x1)), (2, .int (Int32.ofInt x2)), (3, .int (Int32.ofInt x3))]) (st' := [.int (Int32.ofInt 0)]) rfl ?_
      exact lf_retZ false rfl rfl h
theorem gm_303_p4L {L : Nat} {xs : Nat → Int32} {d : Nat} {Q : Bool → lf_Z → Prop} {x1 : Int} {x2 : Int} {x3 : Int} {s : lf_Z} (h : fm_303_p4L Q x1 x2 x3 s) : lf_E (px_ro L xs) (d + 2) 303 4 [(0, .ref 95), (1, .int (Int32.ofInt x1)), (2, .int (Int32.ofInt x2)), (3, .int (Int32.ofInt x3))] [] s (lf_qz Q) :=
  h (fun x2 x3 s => lf_E (px_ro L xs) (d + 2) 303 4 [(0, .ref 95), (1, .int (Int32.ofInt x1)), (2, .int (Int32.ofInt x2)), (3, .int (Int32.ofInt x3))] [] s (lf_qz Q)) (fun x2 x3 s hb => gm_303_p4 (fun _ _ _ h => h) hb)
def fm_303 (a1 : Int) (Q : Bool → lf_Z → Prop) (s : lf_Z) : Prop := fm_303_p4L Q a1 0 0 s
set_option maxRecDepth 100000 in
theorem gm_303 {L : Nat} {xs : Nat → Int32} {d : Nat} {a1 : Int} {Q : Bool → lf_Z → Prop} {s : lf_Z} (h : fm_303 a1 Q s) : lf_M (px_ro L xs) (d + 2) 303 [.ref 95, .int (Int32.ofInt a1)] s (lf_qz Q) := by
  unfold fm_303 at h
  show lf_E (px_ro L xs) (d + 2) 303 0 [(0, .ref 95), (1, .int (Int32.ofInt a1))] [] s _
  refine lf_seg 4 (pc' := 4) (lv' := [(3, .int (Int32.ofInt 0)), (2, .int (Int32.ofInt 0)), (0, .ref 95), (1, .int (Int32.ofInt a1))]) (st' := []) rfl ?_
  refine lf_sub (l := [(0, .ref 95), (1, .int (Int32.ofInt a1)), (2, .int (Int32.ofInt 0)), (3, .int (Int32.ofInt 0))]) (lf_sb1 rfl (lf_sb1 rfl (lf_sb1 rfl (lf_sb1 rfl lf_sb0)))) ?_
  exact gm_303_p4L h
-- fm_304 Model.nextRow 95 i i
def fm_304_p33 (Q : Bool → lf_Z → Prop) (x3 : Int) (s : lf_Z) : Prop := lf_R x3 ∧ ((0 ≤ x3 → ((0 ≤ x3 ∧ x3 < 6) ∧ (Q true (lf_up s.1 116 x3 ((s.1 116 x3) + 1), s.2.1, s.2.2)))) ∧ (¬ (0 ≤ x3) → (Q false s)))
set_option maxRecDepth 100000 in
theorem gm_304_p33 {L : Nat} {xs : Nat → Int32} {d : Nat} {Q : Bool → lf_Z → Prop} {x3 : Int} {s : lf_Z} (h : fm_304_p33 Q x3 s) : lf_E (px_ro L xs) (d + 1) 304 33 [(0, .ref 95), (3, .int (Int32.ofInt x3))] [] s (lf_qz Q) := by
  unfold fm_304_p33 at h
  refine lf_seg 1 (pc' := 34) (lv' := [(0, .ref 95), (3, .int (Int32.ofInt x3))]) (st' := [.int (Int32.ofInt x3)]) rfl ?_
  obtain ⟨o22, h⟩ := h
  refine lf_if_ge 39 37 rfl rfl rfl o22 (fun c => ?_) (fun c => ?_)
  · have h := h.1 c
    refine lf_seg 4 (pc' := 45) (lv' := [(0, .ref 95), (3, .int (Int32.ofInt x3))]) (st' := [.int (Int32.ofInt x3), .ref 116, .int (Int32.ofInt x3), .ref 116]) rfl ?_
    obtain ⟨o23, h⟩ := h
    refine lf_iald 46 6 rfl rfl rfl rfl rfl rfl o23 ?_
    refine lf_seg 1 (pc' := 47) (lv' := [(0, .ref 95), (3, .int (Int32.ofInt x3))]) (st' := [.int (Int32.ofInt 1), .int (Int32.ofInt (s.1 116 x3)), .int (Int32.ofInt x3), .ref 116]) rfl ?_
    refine lf_iadd 48 rfl rfl ?_
    refine lf_iast 49 6 rfl rfl rfl rfl rfl rfl o23 ?_
    refine lf_as (lf_up s.1 116 x3 ((s.1 116 x3) + 1), s.2.1, s.2.2) rfl ?_
    refine lf_seg 1 (pc' := 50) (lv' := [(0, .ref 95), (3, .int (Int32.ofInt x3))]) (st' := [.int (Int32.ofInt 1)]) rfl ?_
    exact lf_retZ true rfl rfl h
  · have h := h.2 c
    refine lf_seg 1 (pc' := 38) (lv' := [(0, .ref 95), (3, .int (Int32.ofInt x3))]) (st' := [.int (Int32.ofInt 0)]) rfl ?_
    exact lf_retZ false rfl rfl h
def fm_304_p4 (Q : Bool → lf_Z → Prop) (x2 : Int) (X4 : Int → lf_Z → Prop) (x3 : Int) (s : lf_Z) : Prop := lf_R x3 ∧ ((x3 < 0 → (fm_304_p33 Q x3 s)) ∧ (¬ (x3 < 0) → ((0 ≤ x3 ∧ x3 < 6) ∧ (lf_R (s.1 116 x3) ∧ (lf_R (x2 - 1) ∧ ((s.1 116 x3 ≠ x2 - 1 → (fm_304_p33 Q x3 s)) ∧ (¬ (s.1 116 x3 ≠ x2 - 1) → (X4 (x3 + (-1)) (lf_up s.1 116 x3 0, s.2.1, s.2.2)))))))))
def fm_304_p4L (Q : Bool → lf_Z → Prop) (x2 : Int) (x3 : Int) (s : lf_Z) : Prop := ∀ X4 : Int → lf_Z → Prop, (∀ (x3 : Int) (s : lf_Z), fm_304_p4 Q x2 X4 x3 s → X4 x3 s) → X4 x3 s
set_option maxRecDepth 100000 in
theorem gm_304_p4 {L : Nat} {xs : Nat → Int32} {d : Nat} {Q : Bool → lf_Z → Prop} {x2 : Int} {x3 : Int} {s : lf_Z} {X4 : Int → lf_Z → Prop} (hX4 : ∀ x3 s, X4 x3 s → lf_E (px_ro L xs) (d + 1) 304 4 [(0, .ref 95), (2, .int (Int32.ofInt x2)), (3, .int (Int32.ofInt x3))] [] s (lf_qz Q)) (h : fm_304_p4 Q x2 X4 x3 s) : lf_E (px_ro L xs) (d + 1) 304 4 [(0, .ref 95), (2, .int (Int32.ofInt x2)), (3, .int (Int32.ofInt x3))] [] s (lf_qz Q) := by
  unfold fm_304_p4 at h
  refine lf_seg 1 (pc' := 5) (lv' := [(0, .ref 95), (2, .int (Int32.ofInt x2)), (3, .int (Int32.ofInt x3))]) (st' := [.int (Int32.ofInt x3)]) rfl ?_
  obtain ⟨o21, h⟩ := h
  refine lf_if_lt 33 8 rfl rfl rfl o21 (fun c => ?_) (fun c => ?_)
  · have h := h.1 c
    refine lf_sub (l := [(0, .ref 95), (3, .int (Int32.ofInt x3))]) (lf_sb1 rfl (lf_sb1 rfl lf_sb0)) ?_
    exact gm_304_p33 h
  · have h := h.2 c
    refine lf_seg 3 (pc' := 13) (lv' := [(0, .ref 95), (2, .int (Int32.ofInt x2)), (3, .int (Int32.ofInt x3))]) (st' := [.int (Int32.ofInt x3), .ref 116]) rfl ?_
    obtain ⟨o24, h⟩ := h
    refine lf_iald 14 6 rfl rfl rfl rfl rfl rfl o24 ?_
    refine lf_seg 2 (pc' := 16) (lv' := [(0, .ref 95), (2, .int (Int32.ofInt x2)), (3, .int (Int32.ofInt x3))]) (st' := [.int (Int32.ofInt 1), .int (Int32.ofInt x2), .int (Int32.ofInt (s.1 116 x3))]) rfl ?_
    refine lf_isub 17 rfl rfl ?_
    obtain ⟨o25, h⟩ := h
    obtain ⟨o26, h⟩ := h
    refine lf_icmp_ne 33 20 rfl rfl rfl o25 o26 (fun c => ?_) (fun c => ?_)
    · have h := h.1 c
      refine lf_sub (l := [(0, .ref 95), (3, .int (Int32.ofInt x3))]) (lf_sb1 rfl (lf_sb1 rfl lf_sb0)) ?_
      exact gm_304_p33 h
    · have h := h.2 c
      refine lf_seg 4 (pc' := 26) (lv' := [(0, .ref 95), (2, .int (Int32.ofInt x2)), (3, .int (Int32.ofInt x3))]) (st' := [.int (Int32.ofInt 0), .int (Int32.ofInt x3), .ref 116]) rfl ?_
      refine lf_iast 27 6 rfl rfl rfl rfl rfl rfl o24 ?_
      refine lf_as (lf_up s.1 116 x3 0, s.2.1, s.2.2) rfl ?_
      refine lf_iinc 30 rfl rfl rfl rfl ?_
      refine lf_seg 1 (pc' := 4) (lv' := [(3, .int (Int32.ofInt (x3 + (-1)))), (0, .ref 95), (2, .int (Int32.ofInt x2))]) (st' := []) rfl ?_
      refine lf_sub (l := [(0, .ref 95), (2, .int (Int32.ofInt x2)), (3, .int (Int32.ofInt (x3 + (-1))))]) (lf_sb1 rfl (lf_sb1 rfl (lf_sb1 rfl lf_sb0))) ?_
      exact hX4 _ _ h
theorem gm_304_p4L {L : Nat} {xs : Nat → Int32} {d : Nat} {Q : Bool → lf_Z → Prop} {x2 : Int} {x3 : Int} {s : lf_Z} (h : fm_304_p4L Q x2 x3 s) : lf_E (px_ro L xs) (d + 1) 304 4 [(0, .ref 95), (2, .int (Int32.ofInt x2)), (3, .int (Int32.ofInt x3))] [] s (lf_qz Q) :=
  h (fun x3 s => lf_E (px_ro L xs) (d + 1) 304 4 [(0, .ref 95), (2, .int (Int32.ofInt x2)), (3, .int (Int32.ofInt x3))] [] s (lf_qz Q)) (fun x3 s hb => gm_304_p4 (fun _ _ h => h) hb)
def fm_304 (a1 : Int) (a2 : Int) (Q : Bool → lf_Z → Prop) (s : lf_Z) : Prop := fm_304_p4L Q a2 (a1 - 1) s
set_option maxRecDepth 100000 in
theorem gm_304 {L : Nat} {xs : Nat → Int32} {d : Nat} {a1 : Int} {a2 : Int} {Q : Bool → lf_Z → Prop} {s : lf_Z} (h : fm_304 a1 a2 Q s) : lf_M (px_ro L xs) (d + 1) 304 [.ref 95, .int (Int32.ofInt a1), .int (Int32.ofInt a2)] s (lf_qz Q) := by
  unfold fm_304 at h
  show lf_E (px_ro L xs) (d + 1) 304 0 [(0, .ref 95), (1, .int (Int32.ofInt a1)), (2, .int (Int32.ofInt a2))] [] s _
  refine lf_seg 2 (pc' := 2) (lv' := [(0, .ref 95), (1, .int (Int32.ofInt a1)), (2, .int (Int32.ofInt a2))]) (st' := [.int (Int32.ofInt 1), .int (Int32.ofInt a1)]) rfl ?_
  refine lf_isub 3 rfl rfl ?_
  refine lf_seg 1 (pc' := 4) (lv' := [(3, .int (Int32.ofInt (a1 - 1))), (0, .ref 95), (1, .int (Int32.ofInt a1)), (2, .int (Int32.ofInt a2))]) (st' := []) rfl ?_
  refine lf_sub (l := [(0, .ref 95), (2, .int (Int32.ofInt a2)), (3, .int (Int32.ofInt (a1 - 1)))]) (lf_sb1 rfl (lf_sb1 rfl (lf_sb1 rfl lf_sb0))) ?_
  exact gm_304_p4L h
-- fm_302 Model.bestSending 95 i i
def fm_302_p162 (X30 : Int → Int → lf_Z → Prop) (Q : Int → lf_Z → Prop) (x1 : Int) (x2 : Int) (y0 : Int) (s : lf_Z) : Prop := fm_304 x1 x2 (fun z33 s32 => (X30 y0 (lf_b z33) s32)) s
set_option maxRecDepth 100000 in
theorem gm_302_p162 {L : Nat} {xs : Nat → Int32} {d : Nat} {X30 : Int → Int → lf_Z → Prop} {Q : Int → lf_Z → Prop} {x1 : Int} {x2 : Int} {y0 : Int} {s : lf_Z} (hX30 : ∀ x3 x4 s, X30 x3 x4 s → lf_E (px_ro L xs) (d + 3) 302 30 [(0, .ref 95), (1, .int (Int32.ofInt x1)), (2, .int (Int32.ofInt x2)), (3, .int (Int32.ofInt x3)), (4, .int (Int32.ofInt x4))] [] s (lf_qi Q)) (h : fm_302_p162 X30 Q x1 x2 y0 s) : lf_E (px_ro L xs) (d + 3) 302 162 [(0, .ref 95), (1, .int (Int32.ofInt x1)), (2, .int (Int32.ofInt x2))] [.int (Int32.ofInt y0)] s (lf_qi Q) := by
  unfold fm_302_p162 at h
  refine lf_seg 4 (pc' := 166) (lv' := [(3, .int (Int32.ofInt y0)), (0, .ref 95), (1, .int (Int32.ofInt x1)), (2, .int (Int32.ofInt x2))]) (st' := [.int (Int32.ofInt x2), .int (Int32.ofInt x1), .ref 95]) rfl ?_
  refine lf_callZ 169 rfl rfl rfl rfl (gm_304 h) (fun z33 s32 h => ?_)
  refine lf_seg 2 (pc' := 30) (lv' := [(4, .int (Int32.ofInt (lf_b z33))), (3, .int (Int32.ofInt y0)), (0, .ref 95), (1, .int (Int32.ofInt x1)), (2, .int (Int32.ofInt x2))]) (st' := []) rfl ?_
  refine lf_sub (l := [(0, .ref 95), (1, .int (Int32.ofInt x1)), (2, .int (Int32.ofInt x2)), (3, .int (Int32.ofInt y0)), (4, .int (Int32.ofInt (lf_b z33)))]) (lf_sb1 rfl (lf_sb1 rfl (lf_sb1 rfl (lf_sb1 rfl (lf_sb1 rfl lf_sb0))))) ?_
  exact hX30 _ _ _ h
def fm_302_p150 (X30 : Int → Int → lf_Z → Prop) (Q : Int → lf_Z → Prop) (x1 : Int) (x2 : Int) (x3 : Int) (x5 : Int) (s : lf_Z) : Prop := lf_R x5 ∧ (lf_R x3 ∧ ((x3 ≤ x5 → (fm_302_p162 X30 Q x1 x2 x3 s)) ∧ (¬ (x3 ≤ x5) → (fm_302_p162 X30 Q x1 x2 x5 s))))
set_option maxRecDepth 100000 in
theorem gm_302_p150 {L : Nat} {xs : Nat → Int32} {d : Nat} {X30 : Int → Int → lf_Z → Prop} {Q : Int → lf_Z → Prop} {x1 : Int} {x2 : Int} {x3 : Int} {x5 : Int} {s : lf_Z} (hX30 : ∀ x3 x4 s, X30 x3 x4 s → lf_E (px_ro L xs) (d + 3) 302 30 [(0, .ref 95), (1, .int (Int32.ofInt x1)), (2, .int (Int32.ofInt x2)), (3, .int (Int32.ofInt x3)), (4, .int (Int32.ofInt x4))] [] s (lf_qi Q)) (h : fm_302_p150 X30 Q x1 x2 x3 x5 s) : lf_E (px_ro L xs) (d + 3) 302 150 [(0, .ref 95), (1, .int (Int32.ofInt x1)), (2, .int (Int32.ofInt x2)), (3, .int (Int32.ofInt x3)), (5, .int (Int32.ofInt x5))] [] s (lf_qi Q) := by
  unfold fm_302_p150 at h
  refine lf_seg 2 (pc' := 153) (lv' := [(0, .ref 95), (1, .int (Int32.ofInt x1)), (2, .int (Int32.ofInt x2)), (3, .int (Int32.ofInt x3)), (5, .int (Int32.ofInt x5))]) (st' := [.int (Int32.ofInt x3), .int (Int32.ofInt x5)]) rfl ?_
  obtain ⟨o30, h⟩ := h
  obtain ⟨o31, h⟩ := h
  refine lf_icmp_ge 161 156 rfl rfl rfl o30 o31 (fun c => ?_) (fun c => ?_)
  · have h := h.1 c
    refine lf_seg 1 (pc' := 162) (lv' := [(0, .ref 95), (1, .int (Int32.ofInt x1)), (2, .int (Int32.ofInt x2)), (3, .int (Int32.ofInt x3)), (5, .int (Int32.ofInt x5))]) (st' := [.int (Int32.ofInt x3)]) rfl ?_
    refine lf_sub (l := [(0, .ref 95), (1, .int (Int32.ofInt x1)), (2, .int (Int32.ofInt x2))]) (lf_sb1 rfl (lf_sb1 rfl (lf_sb1 rfl lf_sb0))) ?_
    exact gm_302_p162 hX30 h
  · have h := h.2 c
    refine lf_seg 2 (pc' := 162) (lv' := [(0, .ref 95), (1, .int (Int32.ofInt x1)), (2, .int (Int32.ofInt x2)), (3, .int (Int32.ofInt x3)), (5, .int (Int32.ofInt x5))]) (st' := [.int (Int32.ofInt x5)]) rfl ?_
    refine lf_sub (l := [(0, .ref 95), (1, .int (Int32.ofInt x1)), (2, .int (Int32.ofInt x2))]) (lf_sb1 rfl (lf_sb1 rfl (lf_sb1 rfl lf_sb0))) ?_
    exact gm_302_p162 hX30 h
def fm_302_p118 (X30 : Int → Int → lf_Z → Prop) (Q : Int → lf_Z → Prop) (x1 : Int) (x2 : Int) (x3 : Int) (x5 : Int) (X118 : Int → lf_Z → Prop) (x6 : Int) (s : lf_Z) : Prop := lf_R x6 ∧ (lf_R x1 ∧ ((x1 ≤ x6 → (fm_302_p150 X30 Q x1 x2 x3 x5 s)) ∧ (¬ (x1 ≤ x6) → (lf_R x5 ∧ (lf_R x3 ∧ ((x3 ≤ x5 → (fm_302_p150 X30 Q x1 x2 x3 x5 s)) ∧ (¬ (x3 ≤ x5) → ((0 ≤ x6 ∧ x6 < 6) ∧ (X118 (x6 + 1) (lf_up s.1 117 x6 (s.1 116 x6), s.2.1, s.2.2))))))))))
def fm_302_p118L (X30 : Int → Int → lf_Z → Prop) (Q : Int → lf_Z → Prop) (x1 : Int) (x2 : Int) (x3 : Int) (x5 : Int) (x6 : Int) (s : lf_Z) : Prop := ∀ X118 : Int → lf_Z → Prop, (∀ (x6 : Int) (s : lf_Z), fm_302_p118 X30 Q x1 x2 x3 x5 X118 x6 s → X118 x6 s) → X118 x6 s
set_option maxRecDepth 100000 in
theorem gm_302_p118 {L : Nat} {xs : Nat → Int32} {d : Nat} {X30 : Int → Int → lf_Z → Prop} {Q : Int → lf_Z → Prop} {x1 : Int} {x2 : Int} {x3 : Int} {x5 : Int} {x6 : Int} {s : lf_Z} {X118 : Int → lf_Z → Prop} (hX30 : ∀ x3 x4 s, X30 x3 x4 s → lf_E (px_ro L xs) (d + 3) 302 30 [(0, .ref 95), (1, .int (Int32.ofInt x1)), (2, .int (Int32.ofInt x2)), (3, .int (Int32.ofInt x3)), (4, .int (Int32.ofInt x4))] [] s (lf_qi Q)) (hX118 : ∀ x6 s, X118 x6 s → lf_E (px_ro L xs) (d + 3) 302 118 [(0, .ref 95), (1, .int (Int32.ofInt x1)), (2, .int (Int32.ofInt x2)), (3, .int (Int32.ofInt x3)), (5, .int (Int32.ofInt x5)), (6, .int (Int32.ofInt x6))] [] s (lf_qi Q)) (h : fm_302_p118 X30 Q x1 x2 x3 x5 X118 x6 s) : lf_E (px_ro L xs) (d + 3) 302 118 [(0, .ref 95), (1, .int (Int32.ofInt x1)), (2, .int (Int32.ofInt x2)), (3, .int (Int32.ofInt x3)), (5, .int (Int32.ofInt x5)), (6, .int (Int32.ofInt x6))] [] s (lf_qi Q) := by
  unfold fm_302_p118 at h
  refine lf_seg 2 (pc' := 121) (lv' := [(0, .ref 95), (1, .int (Int32.ofInt x1)), (2, .int (Int32.ofInt x2)), (3, .int (Int32.ofInt x3)), (5, .int (Int32.ofInt x5)), (6, .int (Int32.ofInt x6))]) (st' := [.int (Int32.ofInt x1), .int (Int32.ofInt x6)]) rfl ?_
  obtain ⟨o28, h⟩ := h
  obtain ⟨o29, h⟩ := h
  refine lf_icmp_ge 150 124 rfl rfl rfl o28 o29 (fun c => ?_) (fun c => ?_)
  · have h := h.1 c
    refine lf_sub (l := [(0, .ref 95), (1, .int (Int32.ofInt x1)), (2, .int (Int32.ofInt x2)), (3, .int (Int32.ofInt x3)), (5, .int (Int32.ofInt x5))]) (lf_sb1 rfl (lf_sb1 rfl (lf_sb1 rfl (lf_sb1 rfl (lf_sb1 rfl lf_sb0))))) ?_
    exact gm_302_p150 hX30 h
  · have h := h.2 c
    refine lf_seg 2 (pc' := 127) (lv' := [(0, .ref 95), (1, .int (Int32.ofInt x1)), (2, .int (Int32.ofInt x2)), (3, .int (Int32.ofInt x3)), (5, .int (Int32.ofInt x5)), (6, .int (Int32.ofInt x6))]) (st' := [.int (Int32.ofInt x3), .int (Int32.ofInt x5)]) rfl ?_
    obtain ⟨o34, h⟩ := h
    obtain ⟨o35, h⟩ := h
    refine lf_icmp_ge 150 130 rfl rfl rfl o34 o35 (fun c => ?_) (fun c => ?_)
    · have h := h.1 c
      refine lf_sub (l := [(0, .ref 95), (1, .int (Int32.ofInt x1)), (2, .int (Int32.ofInt x2)), (3, .int (Int32.ofInt x3)), (5, .int (Int32.ofInt x5))]) (lf_sb1 rfl (lf_sb1 rfl (lf_sb1 rfl (lf_sb1 rfl (lf_sb1 rfl lf_sb0))))) ?_
      exact gm_302_p150 hX30 h
    · have h := h.2 c
      refine lf_seg 6 (pc' := 142) (lv' := [(0, .ref 95), (1, .int (Int32.ofInt x1)), (2, .int (Int32.ofInt x2)), (3, .int (Int32.ofInt x3)), (5, .int (Int32.ofInt x5)), (6, .int (Int32.ofInt x6))]) (st' := [.int (Int32.ofInt x6), .ref 116, .int (Int32.ofInt x6), .ref 117]) rfl ?_
      obtain ⟨o36, h⟩ := h
      refine lf_iald 143 6 rfl rfl rfl rfl rfl rfl o36 ?_
      refine lf_iast 144 6 rfl rfl rfl rfl rfl rfl o36 ?_
      refine lf_as (lf_up s.1 117 x6 (s.1 116 x6), s.2.1, s.2.2) rfl ?_
      refine lf_iinc 147 rfl rfl rfl rfl ?_
      refine lf_seg 1 (pc' := 118) (lv' := [(6, .int (Int32.ofInt (x6 + 1))), (0, .ref 95), (1, .int (Int32.ofInt x1)), (2, .int (Int32.ofInt x2)), (3, .int (Int32.ofInt x3)), (5, .int (Int32.ofInt x5))]) (st' := []) rfl ?_
      refine lf_sub (l := [(0, .ref 95), (1, .int (Int32.ofInt x1)), (2, .int (Int32.ofInt x2)), (3, .int (Int32.ofInt x3)), (5, .int (Int32.ofInt x5)), (6, .int (Int32.ofInt (x6 + 1)))]) (lf_sb1 rfl (lf_sb1 rfl (lf_sb1 rfl (lf_sb1 rfl (lf_sb1 rfl (lf_sb1 rfl lf_sb0)))))) ?_
      exact hX118 _ _ h
theorem gm_302_p118L {L : Nat} {xs : Nat → Int32} {d : Nat} {X30 : Int → Int → lf_Z → Prop} {Q : Int → lf_Z → Prop} {x1 : Int} {x2 : Int} {x3 : Int} {x5 : Int} {x6 : Int} {s : lf_Z} (hX30 : ∀ x3 x4 s, X30 x3 x4 s → lf_E (px_ro L xs) (d + 3) 302 30 [(0, .ref 95), (1, .int (Int32.ofInt x1)), (2, .int (Int32.ofInt x2)), (3, .int (Int32.ofInt x3)), (4, .int (Int32.ofInt x4))] [] s (lf_qi Q)) (h : fm_302_p118L X30 Q x1 x2 x3 x5 x6 s) : lf_E (px_ro L xs) (d + 3) 302 118 [(0, .ref 95), (1, .int (Int32.ofInt x1)), (2, .int (Int32.ofInt x2)), (3, .int (Int32.ofInt x3)), (5, .int (Int32.ofInt x5)), (6, .int (Int32.ofInt x6))] [] s (lf_qi Q) :=
  h (fun x6 s => lf_E (px_ro L xs) (d + 3) 302 118 [(0, .ref 95), (1, .int (Int32.ofInt x1)), (2, .int (Int32.ofInt x2)), (3, .int (Int32.ofInt x3)), (5, .int (Int32.ofInt x5)), (6, .int (Int32.ofInt x6))] [] s (lf_qi Q)) (fun x6 s hb => gm_302_p118 hX30 (fun _ _ h => h) hb)
def fm_302_p107 (X30 : Int → Int → lf_Z → Prop) (X55 : Int → Int → lf_Z → Prop) (Q : Int → lf_Z → Prop) (x1 : Int) (x2 : Int) (x3 : Int) (x6 : Int) (y0 : Int) (s : lf_Z) : Prop := X55 y0 (x6 + 1) s
set_option maxRecDepth 100000 in
theorem gm_302_p107 {L : Nat} {xs : Nat → Int32} {d : Nat} {X30 : Int → Int → lf_Z → Prop} {X55 : Int → Int → lf_Z → Prop} {Q : Int → lf_Z → Prop} {x1 : Int} {x2 : Int} {x3 : Int} {x6 : Int} {y0 : Int} {s : lf_Z} (hX30 : ∀ x3 x4 s, X30 x3 x4 s → lf_E (px_ro L xs) (d + 3) 302 30 [(0, .ref 95), (1, .int (Int32.ofInt x1)), (2, .int (Int32.ofInt x2)), (3, .int (Int32.ofInt x3)), (4, .int (Int32.ofInt x4))] [] s (lf_qi Q)) (hX55 : ∀ x5 x6 s, X55 x5 x6 s → lf_E (px_ro L xs) (d + 3) 302 55 [(0, .ref 95), (1, .int (Int32.ofInt x1)), (2, .int (Int32.ofInt x2)), (3, .int (Int32.ofInt x3)), (5, .int (Int32.ofInt x5)), (6, .int (Int32.ofInt x6))] [] s (lf_qi Q)) (h : fm_302_p107 X30 X55 Q x1 x2 x3 x6 y0 s) : lf_E (px_ro L xs) (d + 3) 302 107 [(0, .ref 95), (1, .int (Int32.ofInt x1)), (2, .int (Int32.ofInt x2)), (3, .int (Int32.ofInt x3)), (6, .int (Int32.ofInt x6))] [.int (Int32.ofInt y0)] s (lf_qi Q) := by
  unfold fm_302_p107 at h
  refine lf_seg 1 (pc' := 109) (lv' := [(5, .int (Int32.ofInt y0)), (0, .ref 95), (1, .int (Int32.ofInt x1)), (2, .int (Int32.ofInt x2)), (3, .int (Int32.ofInt x3)), (6, .int (Int32.ofInt x6))]) (st' := []) rfl ?_
  refine lf_iinc 112 rfl rfl rfl rfl ?_
  refine lf_seg 1 (pc' := 55) (lv' := [(6, .int (Int32.ofInt (x6 + 1))), (5, .int (Int32.ofInt y0)), (0, .ref 95), (1, .int (Int32.ofInt x1)), (2, .int (Int32.ofInt x2)), (3, .int (Int32.ofInt x3))]) (st' := []) rfl ?_
  refine lf_sub (l := [(0, .ref 95), (1, .int (Int32.ofInt x1)), (2, .int (Int32.ofInt x2)), (3, .int (Int32.ofInt x3)), (5, .int (Int32.ofInt y0)), (6, .int (Int32.ofInt (x6 + 1)))]) (lf_sb1 rfl (lf_sb1 rfl (lf_sb1 rfl (lf_sb1 rfl (lf_sb1 rfl (lf_sb1 rfl lf_sb0)))))) ?_
  exact hX55 _ _ _ h
def fm_302_p55 (X30 : Int → Int → lf_Z → Prop) (Q : Int → lf_Z → Prop) (x1 : Int) (x2 : Int) (x3 : Int) (X55 : Int → Int → lf_Z → Prop) (x5 : Int) (x6 : Int) (s : lf_Z) : Prop := lf_R x6 ∧ (lf_R x1 ∧ ((x1 ≤ x6 → (fm_302_p118L X30 Q x1 x2 x3 x5 0 s)) ∧ (¬ (x1 ≤ x6) → ((0 ≤ x6 ∧ x6 < 6) ∧ ((0 ≤ (12 * (s.1 116 x6)) + x6 ∧ (12 * (s.1 116 x6)) + x6 < 72) ∧ (lf_R (s.1 115 ((12 * (s.1 116 x6)) + x6)) ∧ (lf_R x5 ∧ ((s.1 115 ((12 * (s.1 116 x6)) + x6) ≤ x5 → (fm_302_p107 X30 X55 Q x1 x2 x3 x6 x5 s)) ∧ (¬ (s.1 115 ((12 * (s.1 116 x6)) + x6) ≤ x5) → (fm_302_p107 X30 X55 Q x1 x2 x3 x6 (s.1 115 ((12 * (s.1 116 x6)) + x6)) s))))))))))
def fm_302_p55L (X30 : Int → Int → lf_Z → Prop) (Q : Int → lf_Z → Prop) (x1 : Int) (x2 : Int) (x3 : Int) (x5 : Int) (x6 : Int) (s : lf_Z) : Prop := ∀ X55 : Int → Int → lf_Z → Prop, (∀ (x5 : Int) (x6 : Int) (s : lf_Z), fm_302_p55 X30 Q x1 x2 x3 X55 x5 x6 s → X55 x5 x6 s) → X55 x5 x6 s
set_option maxRecDepth 100000 in
theorem gm_302_p55 {L : Nat} {xs : Nat → Int32} {d : Nat} {X30 : Int → Int → lf_Z → Prop} {Q : Int → lf_Z → Prop} {x1 : Int} {x2 : Int} {x3 : Int} {x5 : Int} {x6 : Int} {s : lf_Z} {X55 : Int → Int → lf_Z → Prop} (hX30 : ∀ x3 x4 s, X30 x3 x4 s → lf_E (px_ro L xs) (d + 3) 302 30 [(0, .ref 95), (1, .int (Int32.ofInt x1)), (2, .int (Int32.ofInt x2)), (3, .int (Int32.ofInt x3)), (4, .int (Int32.ofInt x4))] [] s (lf_qi Q)) (hX55 : ∀ x5 x6 s, X55 x5 x6 s → lf_E (px_ro L xs) (d + 3) 302 55 [(0, .ref 95), (1, .int (Int32.ofInt x1)), (2, .int (Int32.ofInt x2)), (3, .int (Int32.ofInt x3)), (5, .int (Int32.ofInt x5)), (6, .int (Int32.ofInt x6))] [] s (lf_qi Q)) (h : fm_302_p55 X30 Q x1 x2 x3 X55 x5 x6 s) : lf_E (px_ro L xs) (d + 3) 302 55 [(0, .ref 95), (1, .int (Int32.ofInt x1)), (2, .int (Int32.ofInt x2)), (3, .int (Int32.ofInt x3)), (5, .int (Int32.ofInt x5)), (6, .int (Int32.ofInt x6))] [] s (lf_qi Q) := by
  unfold fm_302_p55 at h
  refine lf_seg 2 (pc' := 58) (lv' := [(0, .ref 95), (1, .int (Int32.ofInt x1)), (2, .int (Int32.ofInt x2)), (3, .int (Int32.ofInt x3)), (5, .int (Int32.ofInt x5)), (6, .int (Int32.ofInt x6))]) (st' := [.int (Int32.ofInt x1), .int (Int32.ofInt x6)]) rfl ?_
  obtain ⟨o26, h⟩ := h
  obtain ⟨o27, h⟩ := h
  refine lf_icmp_ge 115 61 rfl rfl rfl o26 o27 (fun c => ?_) (fun c => ?_)
  · have h := h.1 c
    refine lf_seg 2 (pc' := 118) (lv' := [(6, .int (Int32.ofInt 0)), (0, .ref 95), (1, .int (Int32.ofInt x1)), (2, .int (Int32.ofInt x2)), (3, .int (Int32.ofInt x3)), (5, .int (Int32.ofInt x5))]) (st' := []) rfl ?_
    refine lf_sub (l := [(0, .ref 95), (1, .int (Int32.ofInt x1)), (2, .int (Int32.ofInt x2)), (3, .int (Int32.ofInt x3)), (5, .int (Int32.ofInt x5)), (6, .int (Int32.ofInt 0))]) (lf_sb1 rfl (lf_sb1 rfl (lf_sb1 rfl (lf_sb1 rfl (lf_sb1 rfl (lf_sb1 rfl lf_sb0)))))) ?_
    exact gm_302_p118L hX30 h
  · have h := h.2 c
    refine lf_seg 2 (pc' := 65) (lv' := [(0, .ref 95), (1, .int (Int32.ofInt x1)), (2, .int (Int32.ofInt x2)), (3, .int (Int32.ofInt x3)), (5, .int (Int32.ofInt x5)), (6, .int (Int32.ofInt x6))]) (st' := [.ref 115]) rfl ?_
    refine lf_bipush 67 12 rfl rfl (by decide) (by decide) ?_
    refine lf_seg 3 (pc' := 73) (lv' := [(0, .ref 95), (1, .int (Int32.ofInt x1)), (2, .int (Int32.ofInt x2)), (3, .int (Int32.ofInt x3)), (5, .int (Int32.ofInt x5)), (6, .int (Int32.ofInt x6))]) (st' := [.int (Int32.ofInt x6), .ref 116, .int (Int32.ofInt 12), .ref 115]) rfl ?_
    obtain ⟨o37, h⟩ := h
    refine lf_iald 74 6 rfl rfl rfl rfl rfl rfl o37 ?_
    refine lf_imul 75 rfl rfl ?_
    refine lf_seg 1 (pc' := 77) (lv' := [(0, .ref 95), (1, .int (Int32.ofInt x1)), (2, .int (Int32.ofInt x2)), (3, .int (Int32.ofInt x3)), (5, .int (Int32.ofInt x5)), (6, .int (Int32.ofInt x6))]) (st' := [.int (Int32.ofInt x6), .int (Int32.ofInt (12 * (s.1 116 x6))), .ref 115]) rfl ?_
    refine lf_iadd 78 rfl rfl ?_
    obtain ⟨o38, h⟩ := h
    refine lf_iald 79 72 rfl rfl rfl rfl rfl rfl o38 ?_
    refine lf_seg 1 (pc' := 81) (lv' := [(0, .ref 95), (1, .int (Int32.ofInt x1)), (2, .int (Int32.ofInt x2)), (3, .int (Int32.ofInt x3)), (5, .int (Int32.ofInt x5)), (6, .int (Int32.ofInt x6))]) (st' := [.int (Int32.ofInt x5), .int (Int32.ofInt (s.1 115 ((12 * (s.1 116 x6)) + x6)))]) rfl ?_
    obtain ⟨o39, h⟩ := h
    obtain ⟨o40, h⟩ := h
    refine lf_icmp_le 105 84 rfl rfl rfl o39 o40 (fun c => ?_) (fun c => ?_)
    · have h := h.1 c
      refine lf_seg 1 (pc' := 107) (lv' := [(0, .ref 95), (1, .int (Int32.ofInt x1)), (2, .int (Int32.ofInt x2)), (3, .int (Int32.ofInt x3)), (5, .int (Int32.ofInt x5)), (6, .int (Int32.ofInt x6))]) (st' := [.int (Int32.ofInt x5)]) rfl ?_
      refine lf_sub (l := [(0, .ref 95), (1, .int (Int32.ofInt x1)), (2, .int (Int32.ofInt x2)), (3, .int (Int32.ofInt x3)), (6, .int (Int32.ofInt x6))]) (lf_sb1 rfl (lf_sb1 rfl (lf_sb1 rfl (lf_sb1 rfl (lf_sb1 rfl lf_sb0))))) ?_
      exact gm_302_p107 hX30 hX55 h
    · have h := h.2 c
      refine lf_seg 2 (pc' := 88) (lv' := [(0, .ref 95), (1, .int (Int32.ofInt x1)), (2, .int (Int32.ofInt x2)), (3, .int (Int32.ofInt x3)), (5, .int (Int32.ofInt x5)), (6, .int (Int32.ofInt x6))]) (st' := [.ref 115]) rfl ?_
      refine lf_bipush 90 12 rfl rfl (by decide) (by decide) ?_
      refine lf_seg 3 (pc' := 96) (lv' := [(0, .ref 95), (1, .int (Int32.ofInt x1)), (2, .int (Int32.ofInt x2)), (3, .int (Int32.ofInt x3)), (5, .int (Int32.ofInt x5)), (6, .int (Int32.ofInt x6))]) (st' := [.int (Int32.ofInt x6), .ref 116, .int (Int32.ofInt 12), .ref 115]) rfl ?_
      refine lf_iald 97 6 rfl rfl rfl rfl rfl rfl o37 ?_
      refine lf_imul 98 rfl rfl ?_
      refine lf_seg 1 (pc' := 100) (lv' := [(0, .ref 95), (1, .int (Int32.ofInt x1)), (2, .int (Int32.ofInt x2)), (3, .int (Int32.ofInt x3)), (5, .int (Int32.ofInt x5)), (6, .int (Int32.ofInt x6))]) (st' := [.int (Int32.ofInt x6), .int (Int32.ofInt (12 * (s.1 116 x6))), .ref 115]) rfl ?_
      refine lf_iadd 101 rfl rfl ?_
      refine lf_iald 102 72 rfl rfl rfl rfl rfl rfl o38 ?_
      refine lf_seg 1 (pc' := 107) (lv' := [(0, .ref 95), (1, .int (Int32.ofInt x1)), (2, .int (Int32.ofInt x2)), (3, .int (Int32.ofInt x3)), (5, .int (Int32.ofInt x5)), (6, .int (Int32.ofInt x6))]) (st' := [.int (Int32.ofInt (s.1 115 ((12 * (s.1 116 x6)) + x6)))]) rfl ?_
      refine lf_sub (l := [(0, .ref 95), (1, .int (Int32.ofInt x1)), (2, .int (Int32.ofInt x2)), (3, .int (Int32.ofInt x3)), (6, .int (Int32.ofInt x6))]) (lf_sb1 rfl (lf_sb1 rfl (lf_sb1 rfl (lf_sb1 rfl (lf_sb1 rfl lf_sb0))))) ?_
      exact gm_302_p107 hX30 hX55 h
theorem gm_302_p55L {L : Nat} {xs : Nat → Int32} {d : Nat} {X30 : Int → Int → lf_Z → Prop} {Q : Int → lf_Z → Prop} {x1 : Int} {x2 : Int} {x3 : Int} {x5 : Int} {x6 : Int} {s : lf_Z} (hX30 : ∀ x3 x4 s, X30 x3 x4 s → lf_E (px_ro L xs) (d + 3) 302 30 [(0, .ref 95), (1, .int (Int32.ofInt x1)), (2, .int (Int32.ofInt x2)), (3, .int (Int32.ofInt x3)), (4, .int (Int32.ofInt x4))] [] s (lf_qi Q)) (h : fm_302_p55L X30 Q x1 x2 x3 x5 x6 s) : lf_E (px_ro L xs) (d + 3) 302 55 [(0, .ref 95), (1, .int (Int32.ofInt x1)), (2, .int (Int32.ofInt x2)), (3, .int (Int32.ofInt x3)), (5, .int (Int32.ofInt x5)), (6, .int (Int32.ofInt x6))] [] s (lf_qi Q) :=
  h (fun x5 x6 s => lf_E (px_ro L xs) (d + 3) 302 55 [(0, .ref 95), (1, .int (Int32.ofInt x1)), (2, .int (Int32.ofInt x2)), (3, .int (Int32.ofInt x3)), (5, .int (Int32.ofInt x5)), (6, .int (Int32.ofInt x6))] [] s (lf_qi Q)) (fun x5 x6 s hb => gm_302_p55 hX30 (fun _ _ _ h => h) hb)
def fm_302_p50 (X30 : Int → Int → lf_Z → Prop) (Q : Int → lf_Z → Prop) (x1 : Int) (x2 : Int) (x3 : Int) (y0 : Int) (s : lf_Z) : Prop := fm_302_p55L X30 Q x1 x2 x3 y0 0 s
set_option maxRecDepth 100000 in
theorem gm_302_p50 {L : Nat} {xs : Nat → Int32} {d : Nat} {X30 : Int → Int → lf_Z → Prop} {Q : Int → lf_Z → Prop} {x1 : Int} {x2 : Int} {x3 : Int} {y0 : Int} {s : lf_Z} (hX30 : ∀ x3 x4 s, X30 x3 x4 s → lf_E (px_ro L xs) (d + 3) 302 30 [(0, .ref 95), (1, .int (Int32.ofInt x1)), (2, .int (Int32.ofInt x2)), (3, .int (Int32.ofInt x3)), (4, .int (Int32.ofInt x4))] [] s (lf_qi Q)) (h : fm_302_p50 X30 Q x1 x2 x3 y0 s) : lf_E (px_ro L xs) (d + 3) 302 50 [(0, .ref 95), (1, .int (Int32.ofInt x1)), (2, .int (Int32.ofInt x2)), (3, .int (Int32.ofInt x3))] [.int (Int32.ofInt y0)] s (lf_qi Q) := by
  unfold fm_302_p50 at h
  refine lf_seg 3 (pc' := 55) (lv' := [(6, .int (Int32.ofInt 0)), (5, .int (Int32.ofInt y0)), (0, .ref 95), (1, .int (Int32.ofInt x1)), (2, .int (Int32.ofInt x2)), (3, .int (Int32.ofInt x3))]) (st' := []) rfl ?_
  refine lf_sub (l := [(0, .ref 95), (1, .int (Int32.ofInt x1)), (2, .int (Int32.ofInt x2)), (3, .int (Int32.ofInt x3)), (5, .int (Int32.ofInt y0)), (6, .int (Int32.ofInt 0))]) (lf_sb1 rfl (lf_sb1 rfl (lf_sb1 rfl (lf_sb1 rfl (lf_sb1 rfl (lf_sb1 rfl lf_sb0)))))) ?_
  exact gm_302_p55L hX30 h
def fm_302_p30 (Q : Int → lf_Z → Prop) (x1 : Int) (x2 : Int) (X30 : Int → Int → lf_Z → Prop) (x3 : Int) (x4 : Int) (s : lf_Z) : Prop := lf_R x4 ∧ ((x4 = 0 → (Q x3 s)) ∧ (¬ (x4 = 0) → (fm_303 x1 (fun z25 s24 => ((z25 = false → (fm_302_p50 X30 Q x1 x2 x3 1000 s24)) ∧ (z25 = true → (fm_302_p50 X30 Q x1 x2 x3 0 s24)))) s)))
def fm_302_p30L (Q : Int → lf_Z → Prop) (x1 : Int) (x2 : Int) (x3 : Int) (x4 : Int) (s : lf_Z) : Prop := ∀ X30 : Int → Int → lf_Z → Prop, (∀ (x3 : Int) (x4 : Int) (s : lf_Z), fm_302_p30 Q x1 x2 X30 x3 x4 s → X30 x3 x4 s) → X30 x3 x4 s
set_option maxRecDepth 100000 in
theorem gm_302_p30 {L : Nat} {xs : Nat → Int32} {d : Nat} {Q : Int → lf_Z → Prop} {x1 : Int} {x2 : Int} {x3 : Int} {x4 : Int} {s : lf_Z} {X30 : Int → Int → lf_Z → Prop} (hX30 : ∀ x3 x4 s, X30 x3 x4 s → lf_E (px_ro L xs) (d + 3) 302 30 [(0, .ref 95), (1, .int (Int32.ofInt x1)), (2, .int (Int32.ofInt x2)), (3, .int (Int32.ofInt x3)), (4, .int (Int32.ofInt x4))] [] s (lf_qi Q)) (h : fm_302_p30 Q x1 x2 X30 x3 x4 s) : lf_E (px_ro L xs) (d + 3) 302 30 [(0, .ref 95), (1, .int (Int32.ofInt x1)), (2, .int (Int32.ofInt x2)), (3, .int (Int32.ofInt x3)), (4, .int (Int32.ofInt x4))] [] s (lf_qi Q) := by
  unfold fm_302_p30 at h
  refine lf_seg 1 (pc' := 32) (lv' := [(0, .ref 95), (1, .int (Int32.ofInt x1)), (2, .int (Int32.ofInt x2)), (3, .int (Int32.ofInt x3)), (4, .int (Int32.ofInt x4))]) (st' := [.int (Int32.ofInt x4)]) rfl ?_
  obtain ⟨o23, h⟩ := h
  refine lf_if_eq 174 35 rfl rfl rfl o23 (fun c => ?_) (fun c => ?_)
  · have h := h.1 c
    refine lf_seg 1 (pc' := 175) (lv' := [(0, .ref 95), (1, .int (Int32.ofInt x1)), (2, .int (Int32.ofInt x2)), (3, .int (Int32.ofInt x3)), (4, .int (Int32.ofInt x4))]) (st' := [.int (Int32.ofInt x3)]) rfl ?_
    exact lf_retI rfl rfl h
  · have h := h.2 c
    refine lf_seg 2 (pc' := 37) (lv' := [(0, .ref 95), (1, .int (Int32.ofInt x1)), (2, .int (Int32.ofInt x2)), (3, .int (Int32.ofInt x3)), (4, .int (Int32.ofInt x4))]) (st' := [.int (Int32.ofInt x1), .ref 95]) rfl ?_
    refine lf_callZ 40 rfl rfl rfl rfl (gm_303 h) (fun z25 s24 h => ?_)
    refine lf_ifz_eq 47 43 rfl rfl rfl (fun c => ?_) (fun c => ?_)
    · have h := h.1 c
      refine lf_sipush 50 1000 rfl rfl (by decide) (by decide) ?_
      refine lf_sub (l := [(0, .ref 95), (1, .int (Int32.ofInt x1)), (2, .int (Int32.ofInt x2)), (3, .int (Int32.ofInt x3))]) (lf_sb1 rfl (lf_sb1 rfl (lf_sb1 rfl (lf_sb1 rfl lf_sb0)))) ?_
      exact gm_302_p50 hX30 h
    · have h := h.2 c
      refine lf_seg 2 (pc' := 50) (lv' := [(0, .ref 95), (1, .int (Int32.ofInt x1)), (2, .int (Int32.ofInt x2)), (3, .int (Int32.ofInt x3)), (4, .int (Int32.ofInt x4))]) (st' := [.int (Int32.ofInt 0)]) rfl ?_
      refine lf_sub (l := [(0, .ref 95), (1, .int (Int32.ofInt x1)), (2, .int (Int32.ofInt x2)), (3, .int (Int32.ofInt x3))]) (lf_sb1 rfl (lf_sb1 rfl (lf_sb1 rfl (lf_sb1 rfl lf_sb0)))) ?_
      exact gm_302_p50 hX30 h
theorem gm_302_p30L {L : Nat} {xs : Nat → Int32} {d : Nat} {Q : Int → lf_Z → Prop} {x1 : Int} {x2 : Int} {x3 : Int} {x4 : Int} {s : lf_Z} (h : fm_302_p30L Q x1 x2 x3 x4 s) : lf_E (px_ro L xs) (d + 3) 302 30 [(0, .ref 95), (1, .int (Int32.ofInt x1)), (2, .int (Int32.ofInt x2)), (3, .int (Int32.ofInt x3)), (4, .int (Int32.ofInt x4))] [] s (lf_qi Q) :=
  h (fun x3 x4 s => lf_E (px_ro L xs) (d + 3) 302 30 [(0, .ref 95), (1, .int (Int32.ofInt x1)), (2, .int (Int32.ofInt x2)), (3, .int (Int32.ofInt x3)), (4, .int (Int32.ofInt x4))] [] s (lf_qi Q)) (fun x3 x4 s hb => gm_302_p30 (fun _ _ _ h => h) hb)
def fm_302_p7 (Q : Int → lf_Z → Prop) (x1 : Int) (x2 : Int) (x3 : Int) (X7 : Int → lf_Z → Prop) (x4 : Int) (s : lf_Z) : Prop := lf_R x4 ∧ (lf_R x1 ∧ ((x1 ≤ x4 → (fm_302_p30L Q x1 x2 x3 1 s)) ∧ (¬ (x1 ≤ x4) → ((0 ≤ x4 ∧ x4 < 6) ∧ (X7 (x4 + 1) (lf_up s.1 116 x4 0, s.2.1, s.2.2))))))
def fm_302_p7L (Q : Int → lf_Z → Prop) (x1 : Int) (x2 : Int) (x3 : Int) (x4 : Int) (s : lf_Z) : Prop := ∀ X7 : Int → lf_Z → Prop, (∀ (x4 : Int) (s : lf_Z), fm_302_p7 Q x1 x2 x3 X7 x4 s → X7 x4 s) → X7 x4 s
set_option maxRecDepth 100000 in
theorem gm_302_p7 {L : Nat} {xs : Nat → Int32} {d : Nat} {Q : Int → lf_Z → Prop} {x1 : Int} {x2 : Int} {x3 : Int} {x4 : Int} {s : lf_Z} {X7 : Int → lf_Z → Prop} (hX7 : ∀ x4 s, X7 x4 s → lf_E (px_ro L xs) (d + 3) 302 7 [(0, .ref 95), (1, .int (Int32.ofInt x1)), (2, .int (Int32.ofInt x2)), (3, .int (Int32.ofInt x3)), (4, .int (Int32.ofInt x4))] [] s (lf_qi Q)) (h : fm_302_p7 Q x1 x2 x3 X7 x4 s) : lf_E (px_ro L xs) (d + 3) 302 7 [(0, .ref 95), (1, .int (Int32.ofInt x1)), (2, .int (Int32.ofInt x2)), (3, .int (Int32.ofInt x3)), (4, .int (Int32.ofInt x4))] [] s (lf_qi Q) := by
  unfold fm_302_p7 at h
  refine lf_seg 2 (pc' := 10) (lv' := [(0, .ref 95), (1, .int (Int32.ofInt x1)), (2, .int (Int32.ofInt x2)), (3, .int (Int32.ofInt x3)), (4, .int (Int32.ofInt x4))]) (st' := [.int (Int32.ofInt x1), .int (Int32.ofInt x4)]) rfl ?_
  obtain ⟨o21, h⟩ := h
  obtain ⟨o22, h⟩ := h
  refine lf_icmp_ge 27 13 rfl rfl rfl o21 o22 (fun c => ?_) (fun c => ?_)
  · have h := h.1 c
    refine lf_seg 2 (pc' := 30) (lv' := [(4, .int (Int32.ofInt 1)), (0, .ref 95), (1, .int (Int32.ofInt x1)), (2, .int (Int32.ofInt x2)), (3, .int (Int32.ofInt x3))]) (st' := []) rfl ?_
    refine lf_sub (l := [(0, .ref 95), (1, .int (Int32.ofInt x1)), (2, .int (Int32.ofInt x2)), (3, .int (Int32.ofInt x3)), (4, .int (Int32.ofInt 1))]) (lf_sb1 rfl (lf_sb1 rfl (lf_sb1 rfl (lf_sb1 rfl (lf_sb1 rfl lf_sb0))))) ?_
    exact gm_302_p30L h
  · have h := h.2 c
    refine lf_seg 4 (pc' := 20) (lv' := [(0, .ref 95), (1, .int (Int32.ofInt x1)), (2, .int (Int32.ofInt x2)), (3, .int (Int32.ofInt x3)), (4, .int (Int32.ofInt x4))]) (st' := [.int (Int32.ofInt 0), .int (Int32.ofInt x4), .ref 116]) rfl ?_
    obtain ⟨o41, h⟩ := h
    refine lf_iast 21 6 rfl rfl rfl rfl rfl rfl o41 ?_
    refine lf_as (lf_up s.1 116 x4 0, s.2.1, s.2.2) rfl ?_
    refine lf_iinc 24 rfl rfl rfl rfl ?_
    refine lf_seg 1 (pc' := 7) (lv' := [(4, .int (Int32.ofInt (x4 + 1))), (0, .ref 95), (1, .int (Int32.ofInt x1)), (2, .int (Int32.ofInt x2)), (3, .int (Int32.ofInt x3))]) (st' := []) rfl ?_
    refine lf_sub (l := [(0, .ref 95), (1, .int (Int32.ofInt x1)), (2, .int (Int32.ofInt x2)), (3, .int (Int32.ofInt x3)), (4, .int (Int32.ofInt (x4 + 1)))]) (lf_sb1 rfl (lf_sb1 rfl (lf_sb1 rfl (lf_sb1 rfl (lf_sb1 rfl lf_sb0))))) ?_
    exact hX7 _ _ h
theorem gm_302_p7L {L : Nat} {xs : Nat → Int32} {d : Nat} {Q : Int → lf_Z → Prop} {x1 : Int} {x2 : Int} {x3 : Int} {x4 : Int} {s : lf_Z} (h : fm_302_p7L Q x1 x2 x3 x4 s) : lf_E (px_ro L xs) (d + 3) 302 7 [(0, .ref 95), (1, .int (Int32.ofInt x1)), (2, .int (Int32.ofInt x2)), (3, .int (Int32.ofInt x3)), (4, .int (Int32.ofInt x4))] [] s (lf_qi Q) :=
  h (fun x4 s => lf_E (px_ro L xs) (d + 3) 302 7 [(0, .ref 95), (1, .int (Int32.ofInt x1)), (2, .int (Int32.ofInt x2)), (3, .int (Int32.ofInt x3)), (4, .int (Int32.ofInt x4))] [] s (lf_qi Q)) (fun x4 s hb => gm_302_p7 (fun _ _ h => h) hb)
def fm_302 (a1 : Int) (a2 : Int) (Q : Int → lf_Z → Prop) (s : lf_Z) : Prop := fm_302_p7L Q a1 a2 1000 0 s
set_option maxRecDepth 100000 in
theorem gm_302 {L : Nat} {xs : Nat → Int32} {d : Nat} {a1 : Int} {a2 : Int} {Q : Int → lf_Z → Prop} {s : lf_Z} (h : fm_302 a1 a2 Q s) : lf_M (px_ro L xs) (d + 3) 302 [.ref 95, .int (Int32.ofInt a1), .int (Int32.ofInt a2)] s (lf_qi Q) := by
  unfold fm_302 at h
  show lf_E (px_ro L xs) (d + 3) 302 0 [(0, .ref 95), (1, .int (Int32.ofInt a1)), (2, .int (Int32.ofInt a2))] [] s _
  refine lf_sipush 3 1000 rfl rfl (by decide) (by decide) ?_
  refine lf_seg 3 (pc' := 7) (lv' := [(4, .int (Int32.ofInt 0)), (3, .int (Int32.ofInt 1000)), (0, .ref 95), (1, .int (Int32.ofInt a1)), (2, .int (Int32.ofInt a2))]) (st' := []) rfl ?_
  refine lf_sub (l := [(0, .ref 95), (1, .int (Int32.ofInt a1)), (2, .int (Int32.ofInt a2)), (3, .int (Int32.ofInt 1000)), (4, .int (Int32.ofInt 0))]) (lf_sb1 rfl (lf_sb1 rfl (lf_sb1 rfl (lf_sb1 rfl (lf_sb1 rfl lf_sb0))))) ?_
  exact gm_302_p7L h
