-- fm_127 Walk.reached 68 i
def fm_127 (a1 : Int) (Q : Int → lf_Z → Prop) (s : lf_Z) : Prop := fm_118 a1 0 (fun s21 => (fm_128 a1 (fun r23 s22 => (Q r23 s22)) s21)) s
set_option maxRecDepth 100000 in
theorem gm_127 {L : Nat} {xs : Nat → Int32} {d : Nat} {a1 : Int} {Q : Int → lf_Z → Prop} {s : lf_Z} (h : fm_127 a1 Q s) : lf_M (px_ro L xs) (d + 7) 127 [.ref 68, .int (Int32.ofInt a1)] s (lf_qi Q) := by
  unfold fm_127 at h
  show lf_E (px_ro L xs) (d + 7) 127 0 [(0, .ref 68), (1, .int (Int32.ofInt a1))] [] s _
  refine lf_seg 3 (pc' := 3) (lv' := [(0, .ref 68), (1, .int (Int32.ofInt a1))]) (st' := [.int (Int32.ofInt 0), .int (Int32.ofInt a1), .ref 68]) rfl ?_
  refine lf_callV 6 rfl rfl rfl rfl (gm_118 h) (fun s21 h => ?_)
  refine lf_seg 2 (pc' := 8) (lv' := [(0, .ref 68), (1, .int (Int32.ofInt a1))]) (st' := [.int (Int32.ofInt a1), .ref 68]) rfl ?_
  refine lf_callI 11 rfl rfl rfl rfl (gm_128 h) (fun r23 s22 h => ?_)
  exact lf_retI rfl rfl h
-- fm_126 ElevenBullocks.canCome 0 i
def fm_126 (a1 : Int) (Q : Int → lf_Z → Prop) (s : lf_Z) : Prop := fm_80 a1 (fun z22 s21 => ((z22 = false → (Q (-1) s21)) ∧ (z22 = true → (fm_127 a1 (fun r24 s23 => (Q r24 s23)) s21)))) s
set_option maxRecDepth 100000 in
theorem gm_126 {L : Nat} {xs : Nat → Int32} {d : Nat} {a1 : Int} {Q : Int → lf_Z → Prop} {s : lf_Z} (h : fm_126 a1 Q s) : lf_M (px_ro L xs) (d + 8) 126 [.ref 0, .int (Int32.ofInt a1)] s (lf_qi Q) := by
  unfold fm_126 at h
  show lf_E (px_ro L xs) (d + 8) 126 0 [(0, .ref 0), (1, .int (Int32.ofInt a1))] [] s _
  refine lf_seg 3 (pc' := 5) (lv' := [(0, .ref 0), (1, .int (Int32.ofInt a1))]) (st' := [.int (Int32.ofInt a1), .ref 15]) rfl ?_
  refine lf_callZ 8 rfl rfl rfl rfl (gm_80 h) (fun z22 s21 h => ?_)
  refine lf_ifz_eq 22 11 rfl rfl rfl (fun c => ?_) (fun c => ?_)
  · have h := h.1 c
    refine lf_seg 1 (pc' := 23) (lv' := [(0, .ref 0), (1, .int (Int32.ofInt a1))]) (st' := [.int (Int32.ofInt (-1))]) rfl ?_
    exact lf_retI rfl rfl h
  · have h := h.2 c
    refine lf_seg 3 (pc' := 16) (lv' := [(0, .ref 0), (1, .int (Int32.ofInt a1))]) (st' := [.int (Int32.ofInt a1), .ref 68]) rfl ?_
    refine lf_callI 19 rfl rfl rfl rfl (gm_127 h) (fun r24 s23 h => ?_)
    refine lf_seg 1 (pc' := 23) (lv' := [(0, .ref 0), (1, .int (Int32.ofInt a1))]) (st' := [.int (Int32.ofInt r24)]) rfl ?_
    exact lf_retI rfl rfl h
-- fm_294 Model.comesTo 95 i
def fm_294_p203 (X63 : Int → Int → Int → lf_Z → Prop) (Q : Int → lf_Z → Prop) (x1 : Int) (x2 : Int) (x3 : Int) (x4 : Int) (s : lf_Z) : Prop := X63 x2 x3 (x4 + 1) s
set_option maxRecDepth 100000 in
theorem gm_294_p203 {L : Nat} {xs : Nat → Int32} {d : Nat} {X63 : Int → Int → Int → lf_Z → Prop} {Q : Int → lf_Z → Prop} {x1 : Int} {x2 : Int} {x3 : Int} {x4 : Int} {s : lf_Z} (hX63 : ∀ x2 x3 x4 s, X63 x2 x3 x4 s → lf_E (px_ro L xs) (d + 6) 294 63 [(0, .ref 95), (1, .int (Int32.ofInt x1)), (2, .int (Int32.ofInt x2)), (3, .int (Int32.ofInt x3)), (4, .int (Int32.ofInt x4))] [] s (lf_qi Q)) (h : fm_294_p203 X63 Q x1 x2 x3 x4 s) : lf_E (px_ro L xs) (d + 6) 294 203 [(0, .ref 95), (1, .int (Int32.ofInt x1)), (2, .int (Int32.ofInt x2)), (3, .int (Int32.ofInt x3)), (4, .int (Int32.ofInt x4))] [] s (lf_qi Q) := by
  unfold fm_294_p203 at h
  refine lf_iinc 206 rfl rfl rfl rfl ?_
  refine lf_seg 1 (pc' := 63) (lv' := [(4, .int (Int32.ofInt (x4 + 1))), (0, .ref 95), (1, .int (Int32.ofInt x1)), (2, .int (Int32.ofInt x2)), (3, .int (Int32.ofInt x3))]) (st' := []) rfl ?_
  refine lf_sub (l := [(0, .ref 95), (1, .int (Int32.ofInt x1)), (2, .int (Int32.ofInt x2)), (3, .int (Int32.ofInt x3)), (4, .int (Int32.ofInt (x4 + 1)))]) (lf_sb1 rfl (lf_sb1 rfl (lf_sb1 rfl (lf_sb1 rfl (lf_sb1 rfl lf_sb0))))) ?_
  exact hX63 _ _ _ _ h
def fm_294_p197 (X63 : Int → Int → Int → lf_Z → Prop) (X94 : Int → Int → Int → lf_Z → Prop) (Q : Int → lf_Z → Prop) (x1 : Int) (x2 : Int) (x3 : Int) (x4 : Int) (x5 : Int) (x6 : Int) (x7 : Int) (s : lf_Z) : Prop := X94 x2 x6 (x7 + 1) s
set_option maxRecDepth 100000 in
theorem gm_294_p197 {L : Nat} {xs : Nat → Int32} {d : Nat} {X63 : Int → Int → Int → lf_Z → Prop} {X94 : Int → Int → Int → lf_Z → Prop} {Q : Int → lf_Z → Prop} {x1 : Int} {x2 : Int} {x3 : Int} {x4 : Int} {x5 : Int} {x6 : Int} {x7 : Int} {s : lf_Z} (hX63 : ∀ x2 x3 x4 s, X63 x2 x3 x4 s → lf_E (px_ro L xs) (d + 6) 294 63 [(0, .ref 95), (1, .int (Int32.ofInt x1)), (2, .int (Int32.ofInt x2)), (3, .int (Int32.ofInt x3)), (4, .int (Int32.ofInt x4))] [] s (lf_qi Q)) (hX94 : ∀ x2 x6 x7 s, X94 x2 x6 x7 s → lf_E (px_ro L xs) (d + 6) 294 94 [(0, .ref 95), (1, .int (Int32.ofInt x1)), (2, .int (Int32.ofInt x2)), (3, .int (Int32.ofInt x3)), (4, .int (Int32.ofInt x4)), (5, .int (Int32.ofInt x5)), (6, .int (Int32.ofInt x6)), (7, .int (Int32.ofInt x7))] [] s (lf_qi Q)) (h : fm_294_p197 X63 X94 Q x1 x2 x3 x4 x5 x6 x7 s) : lf_E (px_ro L xs) (d + 6) 294 197 [(0, .ref 95), (1, .int (Int32.ofInt x1)), (2, .int (Int32.ofInt x2)), (3, .int (Int32.ofInt x3)), (4, .int (Int32.ofInt x4)), (5, .int (Int32.ofInt x5)), (6, .int (Int32.ofInt x6)), (7, .int (Int32.ofInt x7))] [] s (lf_qi Q) := by
  unfold fm_294_p197 at h
  refine lf_iinc 200 rfl rfl rfl rfl ?_
  refine lf_seg 1 (pc' := 94) (lv' := [(7, .int (Int32.ofInt (x7 + 1))), (0, .ref 95), (1, .int (Int32.ofInt x1)), (2, .int (Int32.ofInt x2)), (3, .int (Int32.ofInt x3)), (4, .int (Int32.ofInt x4)), (5, .int (Int32.ofInt x5)), (6, .int (Int32.ofInt x6))]) (st' := []) rfl ?_
  refine lf_sub (l := [(0, .ref 95), (1, .int (Int32.ofInt x1)), (2, .int (Int32.ofInt x2)), (3, .int (Int32.ofInt x3)), (4, .int (Int32.ofInt x4)), (5, .int (Int32.ofInt x5)), (6, .int (Int32.ofInt x6)), (7, .int (Int32.ofInt (x7 + 1)))]) (lf_sb1 rfl (lf_sb1 rfl (lf_sb1 rfl (lf_sb1 rfl (lf_sb1 rfl (lf_sb1 rfl (lf_sb1 rfl (lf_sb1 rfl lf_sb0)))))))) ?_
  exact hX94 _ _ _ _ h
def fm_294_p94 (X63 : Int → Int → Int → lf_Z → Prop) (Q : Int → lf_Z → Prop) (x1 : Int) (x3 : Int) (x4 : Int) (x5 : Int) (X94 : Int → Int → Int → lf_Z → Prop) (x2 : Int) (x6 : Int) (x7 : Int) (s : lf_Z) : Prop := lf_R x7 ∧ (lf_R (s.1 96 1) ∧ ((s.1 96 1 ≤ x7 → (fm_294_p203 X63 Q x1 x2 x3 x4 s)) ∧ (¬ (s.1 96 1 ≤ x7) → (lf_R x6 ∧ ((10 ≤ x6 → (fm_294_p203 X63 Q x1 x2 x3 x4 s)) ∧ (¬ (10 ≤ x6) → (fm_242 x1 (fun r35 s34 => ((0 ≤ x4 ∧ x4 < 156) ∧ (lf_R (s34.1 112 x4) ∧ (fm_273 r35 x5 (((s34.1 112 x4).tmod 13) - 1) x7 (fun r39 s38 => (lf_R r39 ∧ ((r39 ≠ 0 → (fm_187 x7 x5 (fun r42 s41 => ((0 ≤ ((13 * r42) + x5) + 1 ∧ ((13 * r42) + x5) + 1 < 156) ∧ (lf_R (s41.1 111 (((13 * r42) + x5) + 1)) ∧ ((s41.1 111 (((13 * r42) + x5) + 1) = 0 → ((0 ≤ x2 ∧ x2 < 156) ∧ (fm_294_p197 X63 X94 Q x1 (x2 + 1) x3 x4 x5 r39 x7 (lf_up (lf_up s41.1 111 (((13 * r42) + x5) + 1) 1) 112 x2 (((13 * r42) + x5) + 1), s41.2.1, s41.2.2)))) ∧ (¬ (s41.1 111 (((13 * r42) + x5) + 1) = 0) → (fm_294_p197 X63 X94 Q x1 x2 x3 x4 x5 r39 x7 s41)))))) s38)) ∧ (¬ (r39 ≠ 0) → (fm_294_p197 X63 X94 Q x1 x2 x3 x4 x5 r39 x7 s38))))) s34)))) s)))))))
def fm_294_p94L (X63 : Int → Int → Int → lf_Z → Prop) (Q : Int → lf_Z → Prop) (x1 : Int) (x2 : Int) (x3 : Int) (x4 : Int) (x5 : Int) (x6 : Int) (x7 : Int) (s : lf_Z) : Prop := ∀ X94 : Int → Int → Int → lf_Z → Prop, (∀ (x2 : Int) (x6 : Int) (x7 : Int) (s : lf_Z), fm_294_p94 X63 Q x1 x3 x4 x5 X94 x2 x6 x7 s → X94 x2 x6 x7 s) → X94 x2 x6 x7 s
set_option maxRecDepth 100000 in
theorem gm_294_p94 {L : Nat} {xs : Nat → Int32} {d : Nat} {X63 : Int → Int → Int → lf_Z → Prop} {Q : Int → lf_Z → Prop} {x1 : Int} {x2 : Int} {x3 : Int} {x4 : Int} {x5 : Int} {x6 : Int} {x7 : Int} {s : lf_Z} {X94 : Int → Int → Int → lf_Z → Prop} (hX63 : ∀ x2 x3 x4 s, X63 x2 x3 x4 s → lf_E (px_ro L xs) (d + 6) 294 63 [(0, .ref 95), (1, .int (Int32.ofInt x1)), (2, .int (Int32.ofInt x2)), (3, .int (Int32.ofInt x3)), (4, .int (Int32.ofInt x4))] [] s (lf_qi Q)) (hX94 : ∀ x2 x6 x7 s, X94 x2 x6 x7 s → lf_E (px_ro L xs) (d + 6) 294 94 [(0, .ref 95), (1, .int (Int32.ofInt x1)), (2, .int (Int32.ofInt x2)), (3, .int (Int32.ofInt x3)), (4, .int (Int32.ofInt x4)), (5, .int (Int32.ofInt x5)), (6, .int (Int32.ofInt x6)), (7, .int (Int32.ofInt x7))] [] s (lf_qi Q)) (h : fm_294_p94 X63 Q x1 x3 x4 x5 X94 x2 x6 x7 s) : lf_E (px_ro L xs) (d + 6) 294 94 [(0, .ref 95), (1, .int (Int32.ofInt x1)), (2, .int (Int32.ofInt x2)), (3, .int (Int32.ofInt x3)), (4, .int (Int32.ofInt x4)), (5, .int (Int32.ofInt x5)), (6, .int (Int32.ofInt x6)), (7, .int (Int32.ofInt x7))] [] s (lf_qi Q) := by
  unfold fm_294_p94 at h
  refine lf_seg 4 (pc' := 101) (lv' := [(0, .ref 95), (1, .int (Int32.ofInt x1)), (2, .int (Int32.ofInt x2)), (3, .int (Int32.ofInt x3)), (4, .int (Int32.ofInt x4)), (5, .int (Int32.ofInt x5)), (6, .int (Int32.ofInt x6)), (7, .int (Int32.ofInt x7))]) (st' := [.int (Int32.ofInt 1), .ref 96, .int (Int32.ofInt x7)]) rfl ?_
  refine lf_iald 102 1538 rfl rfl rfl rfl rfl rfl ⟨by decide, by decide⟩ ?_
  obtain ⟨o31, h⟩ := h
  obtain ⟨o32, h⟩ := h
  refine lf_icmp_ge 203 105 rfl rfl rfl o31 o32 (fun c => ?_) (fun c => ?_)
  · have h := h.1 c
    refine lf_sub (l := [(0, .ref 95), (1, .int (Int32.ofInt x1)), (2, .int (Int32.ofInt x2)), (3, .int (Int32.ofInt x3)), (4, .int (Int32.ofInt x4))]) (lf_sb1 rfl (lf_sb1 rfl (lf_sb1 rfl (lf_sb1 rfl (lf_sb1 rfl lf_sb0))))) ?_
    exact gm_294_p203 hX63 h
  · have h := h.2 c
    refine lf_seg 1 (pc' := 107) (lv' := [(0, .ref 95), (1, .int (Int32.ofInt x1)), (2, .int (Int32.ofInt x2)), (3, .int (Int32.ofInt x3)), (4, .int (Int32.ofInt x4)), (5, .int (Int32.ofInt x5)), (6, .int (Int32.ofInt x6)), (7, .int (Int32.ofInt x7))]) (st' := [.int (Int32.ofInt x6)]) rfl ?_
    refine lf_bipush 109 10 rfl rfl (by decide) (by decide) ?_
    obtain ⟨o33, h⟩ := h
    refine lf_icmp_ge 203 112 rfl rfl rfl o33 ⟨by decide, by decide⟩ (fun c => ?_) (fun c => ?_)
    · have h := h.1 c
      refine lf_sub (l := [(0, .ref 95), (1, .int (Int32.ofInt x1)), (2, .int (Int32.ofInt x2)), (3, .int (Int32.ofInt x3)), (4, .int (Int32.ofInt x4))]) (lf_sb1 rfl (lf_sb1 rfl (lf_sb1 rfl (lf_sb1 rfl (lf_sb1 rfl lf_sb0))))) ?_
      exact gm_294_p203 hX63 h
    · have h := h.2 c
      refine lf_seg 3 (pc' := 115) (lv' := [(0, .ref 95), (1, .int (Int32.ofInt x1)), (2, .int (Int32.ofInt x2)), (3, .int (Int32.ofInt x3)), (4, .int (Int32.ofInt x4)), (5, .int (Int32.ofInt x5)), (6, .int (Int32.ofInt x6)), (7, .int (Int32.ofInt x7))]) (st' := [.int (Int32.ofInt x1), .ref 95, .ref 95]) rfl ?_
      refine lf_callI 118 rfl rfl rfl rfl (gm_242 h) (fun r35 s34 h => ?_)
      refine lf_seg 4 (pc' := 126) (lv' := [(0, .ref 95), (1, .int (Int32.ofInt x1)), (2, .int (Int32.ofInt x2)), (3, .int (Int32.ofInt x3)), (4, .int (Int32.ofInt x4)), (5, .int (Int32.ofInt x5)), (6, .int (Int32.ofInt x6)), (7, .int (Int32.ofInt x7))]) (st' := [.int (Int32.ofInt x4), .ref 112, .int (Int32.ofInt x5), .int (Int32.ofInt r35), .ref 95]) rfl ?_
      obtain ⟨o36, h⟩ := h
      refine lf_iald 127 156 rfl rfl rfl rfl rfl rfl o36 ?_
      refine lf_bipush 129 13 rfl rfl (by decide) (by decide) ?_
      obtain ⟨o37, h⟩ := h
      refine lf_irem 130 rfl rfl o37 ⟨by decide, by decide⟩ (by decide) ?_
      refine lf_seg 1 (pc' := 131) (lv' := [(0, .ref 95), (1, .int (Int32.ofInt x1)), (2, .int (Int32.ofInt x2)), (3, .int (Int32.ofInt x3)), (4, .int (Int32.ofInt x4)), (5, .int (Int32.ofInt x5)), (6, .int (Int32.ofInt x6)), (7, .int (Int32.ofInt x7))]) (st' := [.int (Int32.ofInt 1), .int (Int32.ofInt ((s34.1 112 x4).tmod 13)), .int (Int32.ofInt x5), .int (Int32.ofInt r35), .ref 95]) rfl ?_
      refine lf_isub 132 rfl rfl ?_
      refine lf_seg 1 (pc' := 134) (lv' := [(0, .ref 95), (1, .int (Int32.ofInt x1)), (2, .int (Int32.ofInt x2)), (3, .int (Int32.ofInt x3)), (4, .int (Int32.ofInt x4)), (5, .int (Int32.ofInt x5)), (6, .int (Int32.ofInt x6)), (7, .int (Int32.ofInt x7))]) (st' := [.int (Int32.ofInt x7), .int (Int32.ofInt (((s34.1 112 x4).tmod 13) - 1)), .int (Int32.ofInt x5), .int (Int32.ofInt r35), .ref 95]) rfl ?_
      refine lf_callI 137 rfl rfl rfl rfl (gm_273 h) (fun r39 s38 h => ?_)
      refine lf_seg 2 (pc' := 141) (lv' := [(6, .int (Int32.ofInt r39)), (0, .ref 95), (1, .int (Int32.ofInt x1)), (2, .int (Int32.ofInt x2)), (3, .int (Int32.ofInt x3)), (4, .int (Int32.ofInt x4)), (5, .int (Int32.ofInt x5)), (7, .int (Int32.ofInt x7))]) (st' := [.int (Int32.ofInt r39)]) rfl ?_
      obtain ⟨o40, h⟩ := h
      refine lf_if_ne 147 144 rfl rfl rfl o40 (fun c => ?_) (fun c => ?_)
      · have h := h.1 c
        refine lf_bipush 149 13 rfl rfl (by decide) (by decide) ?_
        refine lf_seg 3 (pc' := 154) (lv' := [(6, .int (Int32.ofInt r39)), (0, .ref 95), (1, .int (Int32.ofInt x1)), (2, .int (Int32.ofInt x2)), (3, .int (Int32.ofInt x3)), (4, .int (Int32.ofInt x4)), (5, .int (Int32.ofInt x5)), (7, .int (Int32.ofInt x7))]) (st' := [.int (Int32.ofInt x5), .int (Int32.ofInt x7), .ref 95, .int (Int32.ofInt 13)]) rfl ?_
        refine lf_callI 157 rfl rfl rfl rfl (gm_187 h) (fun r42 s41 h => ?_)
        refine lf_imul 158 rfl rfl ?_
        refine lf_seg 1 (pc' := 160) (lv' := [(6, .int (Int32.ofInt r39)), (0, .ref 95), (1, .int (Int32.ofInt x1)), (2, .int (Int32.ofInt x2)), (3, .int (Int32.ofInt x3)), (4, .int (Int32.ofInt x4)), (5, .int (Int32.ofInt x5)), (7, .int (Int32.ofInt x7))]) (st' := [.int (Int32.ofInt x5), .int (Int32.ofInt (13 * r42))]) rfl ?_
        refine lf_iadd 161 rfl rfl ?_
        refine lf_seg 1 (pc' := 162) (lv' := [(6, .int (Int32.ofInt r39)), (0, .ref 95), (1, .int (Int32.ofInt x1)), (2, .int (Int32.ofInt x2)), (3, .int (Int32.ofInt x3)), (4, .int (Int32.ofInt x4)), (5, .int (Int32.ofInt x5)), (7, .int (Int32.ofInt x7))]) (st' := [.int (Int32.ofInt 1), .int (Int32.ofInt ((13 * r42) + x5))]) rfl ?_
        refine lf_iadd 163 rfl rfl ?_
        refine lf_seg 4 (pc' := 171) (lv' := [(8, .int (Int32.ofInt (((13 * r42) + x5) + 1))), (6, .int (Int32.ofInt r39)), (0, .ref 95), (1, .int (Int32.ofInt x1)), (2, .int (Int32.ofInt x2)), (3, .int (Int32.ofInt x3)), (4, .int (Int32.ofInt x4)), (5, .int (Int32.ofInt x5)), (7, .int (Int32.ofInt x7))]) (st' := [.int (Int32.ofInt (((13 * r42) + x5) + 1)), .ref 111]) rfl ?_
        obtain ⟨o43, h⟩ := h
        refine lf_zald 172 156 rfl rfl rfl rfl rfl rfl o43 ?_
        obtain ⟨o44, h⟩ := h
        refine lf_if_eq 178 175 rfl rfl rfl o44 (fun c => ?_) (fun c => ?_)
        · have h := h.1 c
          refine lf_seg 4 (pc' := 185) (lv' := [(8, .int (Int32.ofInt (((13 * r42) + x5) + 1))), (6, .int (Int32.ofInt r39)), (0, .ref 95), (1, .int (Int32.ofInt x1)), (2, .int (Int32.ofInt x2)), (3, .int (Int32.ofInt x3)), (4, .int (Int32.ofInt x4)), (5, .int (Int32.ofInt x5)), (7, .int (Int32.ofInt x7))]) (st' := [.int (Int32.ofInt 1), .int (Int32.ofInt (((13 * r42) + x5) + 1)), .ref 111]) rfl ?_
          refine lf_zast 186 156 rfl rfl rfl rfl rfl rfl o43 (Or.inr rfl) ?_
          refine lf_as (lf_up s41.1 111 (((13 * r42) + x5) + 1) 1, s41.2.1, s41.2.2) rfl ?_
          refine lf_seg 4 (pc' := 193) (lv' := [(8, .int (Int32.ofInt (((13 * r42) + x5) + 1))), (6, .int (Int32.ofInt r39)), (0, .ref 95), (1, .int (Int32.ofInt x1)), (2, .int (Int32.ofInt x2)), (3, .int (Int32.ofInt x3)), (4, .int (Int32.ofInt x4)), (5, .int (Int32.ofInt x5)), (7, .int (Int32.ofInt x7))]) (st' := [.int (Int32.ofInt (((13 * r42) + x5) + 1)), .int (Int32.ofInt x2), .ref 112]) rfl ?_
          obtain ⟨o45, h⟩ := h
          refine lf_iast 194 156 rfl rfl rfl rfl rfl rfl o45 ?_
          refine lf_as (lf_up (lf_up s41.1 111 (((13 * r42) + x5) + 1) 1) 112 x2 (((13 * r42) + x5) + 1), s41.2.1, s41.2.2) rfl ?_
          refine lf_iinc 197 rfl rfl rfl rfl ?_
          refine lf_seg 0 (pc' := 197) (lv' := [(2, .int (Int32.ofInt (x2 + 1))), (8, .int (Int32.ofInt (((13 * r42) + x5) + 1))), (6, .int (Int32.ofInt r39)), (0, .ref 95), (1, .int (Int32.ofInt x1)), (3, .int (Int32.ofInt x3)), (4, .int (Int32.ofInt x4)), (5, .int (Int32.ofInt x5)), (7, .int (Int32.ofInt x7))]) (st' := []) rfl ?_
          refine lf_sub (l := [(0, .ref 95), (1, .int (Int32.ofInt x1)), (2, .int (Int32.ofInt (x2 + 1))), (3, .int (Int32.ofInt x3)), (4, .int (Int32.ofInt x4)), (5, .int (Int32.ofInt x5)), (6, .int (Int32.ofInt r39)), (7, .int (Int32.ofInt x7))]) (lf_sb1 rfl (lf_sb1 rfl (lf_sb1 rfl (lf_sb1 rfl (lf_sb1 rfl (lf_sb1 rfl (lf_sb1 rfl (lf_sb1 rfl lf_sb0)))))))) ?_
          exact gm_294_p197 hX63 hX94 h
        · have h := h.2 c
          refine lf_seg 1 (pc' := 197) (lv' := [(8, .int (Int32.ofInt (((13 * r42) + x5) + 1))), (6, .int (Int32.ofInt r39)), (0, .ref 95), (1, .int (Int32.ofInt x1)), (2, .int (Int32.ofInt x2)), (3, .int (Int32.ofInt x3)), (4, .int (Int32.ofInt x4)), (5, .int (Int32.ofInt x5)), (7, .int (Int32.ofInt x7))]) (st' := []) rfl ?_
          refine lf_sub (l := [(0, .ref 95), (1, .int (Int32.ofInt x1)), (2, .int (Int32.ofInt x2)), (3, .int (Int32.ofInt x3)), (4, .int (Int32.ofInt x4)), (5, .int (Int32.ofInt x5)), (6, .int (Int32.ofInt r39)), (7, .int (Int32.ofInt x7))]) (lf_sb1 rfl (lf_sb1 rfl (lf_sb1 rfl (lf_sb1 rfl (lf_sb1 rfl (lf_sb1 rfl (lf_sb1 rfl (lf_sb1 rfl lf_sb0)))))))) ?_
          exact gm_294_p197 hX63 hX94 h
      · have h := h.2 c
        refine lf_seg 1 (pc' := 197) (lv' := [(6, .int (Int32.ofInt r39)), (0, .ref 95), (1, .int (Int32.ofInt x1)), (2, .int (Int32.ofInt x2)), (3, .int (Int32.ofInt x3)), (4, .int (Int32.ofInt x4)), (5, .int (Int32.ofInt x5)), (7, .int (Int32.ofInt x7))]) (st' := []) rfl ?_
        refine lf_sub (l := [(0, .ref 95), (1, .int (Int32.ofInt x1)), (2, .int (Int32.ofInt x2)), (3, .int (Int32.ofInt x3)), (4, .int (Int32.ofInt x4)), (5, .int (Int32.ofInt x5)), (6, .int (Int32.ofInt r39)), (7, .int (Int32.ofInt x7))]) (lf_sb1 rfl (lf_sb1 rfl (lf_sb1 rfl (lf_sb1 rfl (lf_sb1 rfl (lf_sb1 rfl (lf_sb1 rfl (lf_sb1 rfl lf_sb0)))))))) ?_
        exact gm_294_p197 hX63 hX94 h
theorem gm_294_p94L {L : Nat} {xs : Nat → Int32} {d : Nat} {X63 : Int → Int → Int → lf_Z → Prop} {Q : Int → lf_Z → Prop} {x1 : Int} {x2 : Int} {x3 : Int} {x4 : Int} {x5 : Int} {x6 : Int} {x7 : Int} {s : lf_Z} (hX63 : ∀ x2 x3 x4 s, X63 x2 x3 x4 s → lf_E (px_ro L xs) (d + 6) 294 63 [(0, .ref 95), (1, .int (Int32.ofInt x1)), (2, .int (Int32.ofInt x2)), (3, .int (Int32.ofInt x3)), (4, .int (Int32.ofInt x4))] [] s (lf_qi Q)) (h : fm_294_p94L X63 Q x1 x2 x3 x4 x5 x6 x7 s) : lf_E (px_ro L xs) (d + 6) 294 94 [(0, .ref 95), (1, .int (Int32.ofInt x1)), (2, .int (Int32.ofInt x2)), (3, .int (Int32.ofInt x3)), (4, .int (Int32.ofInt x4)), (5, .int (Int32.ofInt x5)), (6, .int (Int32.ofInt x6)), (7, .int (Int32.ofInt x7))] [] s (lf_qi Q) :=
  h (fun x2 x6 x7 s => lf_E (px_ro L xs) (d + 6) 294 94 [(0, .ref 95), (1, .int (Int32.ofInt x1)), (2, .int (Int32.ofInt x2)), (3, .int (Int32.ofInt x3)), (4, .int (Int32.ofInt x4)), (5, .int (Int32.ofInt x5)), (6, .int (Int32.ofInt x6)), (7, .int (Int32.ofInt x7))] [] s (lf_qi Q)) (fun x2 x6 x7 s hb => gm_294_p94 hX63 (fun _ _ _ _ h => h) hb)
def fm_294_p63 (Q : Int → lf_Z → Prop) (x1 : Int) (X63 : Int → Int → Int → lf_Z → Prop) (x2 : Int) (x3 : Int) (x4 : Int) (s : lf_Z) : Prop := lf_R x4 ∧ (lf_R x2 ∧ ((x2 ≤ x4 → (Q x3 s)) ∧ (¬ (x2 ≤ x4) → ((0 ≤ x4 ∧ x4 < 156) ∧ (lf_R (s.1 112 x4) ∧ (fm_294_p94L X63 Q x1 x2 (lf_or x3 (lf_shl 1 ((s.1 112 x4).tdiv 13))) x4 ((s.1 112 x4).tdiv 13) 0 0 s))))))
def fm_294_p63L (Q : Int → lf_Z → Prop) (x1 : Int) (x2 : Int) (x3 : Int) (x4 : Int) (s : lf_Z) : Prop := ∀ X63 : Int → Int → Int → lf_Z → Prop, (∀ (x2 : Int) (x3 : Int) (x4 : Int) (s : lf_Z), fm_294_p63 Q x1 X63 x2 x3 x4 s → X63 x2 x3 x4 s) → X63 x2 x3 x4 s
set_option maxRecDepth 100000 in
theorem gm_294_p63 {L : Nat} {xs : Nat → Int32} {d : Nat} {Q : Int → lf_Z → Prop} {x1 : Int} {x2 : Int} {x3 : Int} {x4 : Int} {s : lf_Z} {X63 : Int → Int → Int → lf_Z → Prop} (hX63 : ∀ x2 x3 x4 s, X63 x2 x3 x4 s → lf_E (px_ro L xs) (d + 6) 294 63 [(0, .ref 95), (1, .int (Int32.ofInt x1)), (2, .int (Int32.ofInt x2)), (3, .int (Int32.ofInt x3)), (4, .int (Int32.ofInt x4))] [] s (lf_qi Q)) (h : fm_294_p63 Q x1 X63 x2 x3 x4 s) : lf_E (px_ro L xs) (d + 6) 294 63 [(0, .ref 95), (1, .int (Int32.ofInt x1)), (2, .int (Int32.ofInt x2)), (3, .int (Int32.ofInt x3)), (4, .int (Int32.ofInt x4))] [] s (lf_qi Q) := by
  unfold fm_294_p63 at h
  refine lf_seg 2 (pc' := 66) (lv' := [(0, .ref 95), (1, .int (Int32.ofInt x1)), (2, .int (Int32.ofInt x2)), (3, .int (Int32.ofInt x3)), (4, .int (Int32.ofInt x4))]) (st' := [.int (Int32.ofInt x2), .int (Int32.ofInt x4)]) rfl ?_
  obtain ⟨o27, h⟩ := h
  obtain ⟨o28, h⟩ := h
  refine lf_icmp_ge 209 69 rfl rfl rfl o27 o28 (fun c => ?_) (fun c => ?_)
  · have h := h.1 c
    refine lf_seg 1 (pc' := 210) (lv' := [(0, .ref 95), (1, .int (Int32.ofInt x1)), (2, .int (Int32.ofInt x2)), (3, .int (Int32.ofInt x3)), (4, .int (Int32.ofInt x4))]) (st' := [.int (Int32.ofInt x3)]) rfl ?_
    exact lf_retI rfl rfl h
  · have h := h.2 c
    refine lf_seg 3 (pc' := 75) (lv' := [(0, .ref 95), (1, .int (Int32.ofInt x1)), (2, .int (Int32.ofInt x2)), (3, .int (Int32.ofInt x3)), (4, .int (Int32.ofInt x4))]) (st' := [.int (Int32.ofInt x4), .ref 112]) rfl ?_
    obtain ⟨o29, h⟩ := h
    refine lf_iald 76 156 rfl rfl rfl rfl rfl rfl o29 ?_
    refine lf_bipush 78 13 rfl rfl (by decide) (by decide) ?_
    obtain ⟨o30, h⟩ := h
    refine lf_idiv 79 rfl rfl o30 ⟨by decide, by decide⟩ (by decide) ?_
    refine lf_seg 4 (pc' := 85) (lv' := [(5, .int (Int32.ofInt ((s.1 112 x4).tdiv 13))), (0, .ref 95), (1, .int (Int32.ofInt x1)), (2, .int (Int32.ofInt x2)), (3, .int (Int32.ofInt x3)), (4, .int (Int32.ofInt x4))]) (st' := [.int (Int32.ofInt ((s.1 112 x4).tdiv 13)), .int (Int32.ofInt 1), .int (Int32.ofInt x3)]) rfl ?_
    refine lf_ishl 86 rfl rfl ?_
    refine lf_ior 87 rfl rfl ?_
    refine lf_seg 5 (pc' := 94) (lv' := [(7, .int (Int32.ofInt 0)), (6, .int (Int32.ofInt 0)), (3, .int (Int32.ofInt (lf_or x3 (lf_shl 1 ((s.1 112 x4).tdiv 13))))), (5, .int (Int32.ofInt ((s.1 112 x4).tdiv 13))), (0, .ref 95), (1, .int (Int32.ofInt x1)), (2, .int (Int32.ofInt x2)), (4, .int (Int32.ofInt x4))]) (st' := []) rfl ?_
    refine lf_sub (l := [(0, .ref 95), (1, .int (Int32.ofInt x1)), (2, .int (Int32.ofInt x2)), (3, .int (Int32.ofInt (lf_or x3 (lf_shl 1 ((s.1 112 x4).tdiv 13))))), (4, .int (Int32.ofInt x4)), (5, .int (Int32.ofInt ((s.1 112 x4).tdiv 13))), (6, .int (Int32.ofInt 0)), (7, .int (Int32.ofInt 0))]) (lf_sb1 rfl (lf_sb1 rfl (lf_sb1 rfl (lf_sb1 rfl (lf_sb1 rfl (lf_sb1 rfl (lf_sb1 rfl (lf_sb1 rfl lf_sb0)))))))) ?_
    exact gm_294_p94L hX63 h
theorem gm_294_p63L {L : Nat} {xs : Nat → Int32} {d : Nat} {Q : Int → lf_Z → Prop} {x1 : Int} {x2 : Int} {x3 : Int} {x4 : Int} {s : lf_Z} (h : fm_294_p63L Q x1 x2 x3 x4 s) : lf_E (px_ro L xs) (d + 6) 294 63 [(0, .ref 95), (1, .int (Int32.ofInt x1)), (2, .int (Int32.ofInt x2)), (3, .int (Int32.ofInt x3)), (4, .int (Int32.ofInt x4))] [] s (lf_qi Q) :=
  h (fun x2 x3 x4 s => lf_E (px_ro L xs) (d + 6) 294 63 [(0, .ref 95), (1, .int (Int32.ofInt x1)), (2, .int (Int32.ofInt x2)), (3, .int (Int32.ofInt x3)), (4, .int (Int32.ofInt x4))] [] s (lf_qi Q)) (fun x2 x3 x4 s hb => gm_294_p63 (fun _ _ _ _ h => h) hb)
def fm_294_p2 (Q : Int → lf_Z → Prop) (x1 : Int) (X2 : Int → lf_Z → Prop) (x2 : Int) (s : lf_Z) : Prop := lf_R x2 ∧ ((156 ≤ x2 → (fm_255 x1 (fun r23 s22 => (fm_256 x1 (fun r25 s24 => ((0 ≤ ((13 * r23) + r25) + 1 ∧ ((13 * r23) + r25) + 1 < 156) ∧ (fm_294_p63L Q x1 1 0 0 (lf_up (lf_up s24.1 112 0 (((13 * r23) + r25) + 1)) 111 (((13 * r23) + r25) + 1) 1, s24.2.1, s24.2.2)))) s22)) s)) ∧ (¬ (156 ≤ x2) → ((0 ≤ x2 ∧ x2 < 156) ∧ (X2 (x2 + 1) (lf_up s.1 111 x2 0, s.2.1, s.2.2)))))
def fm_294_p2L (Q : Int → lf_Z → Prop) (x1 : Int) (x2 : Int) (s : lf_Z) : Prop := ∀ X2 : Int → lf_Z → Prop, (∀ (x2 : Int) (s : lf_Z), fm_294_p2 Q x1 X2 x2 s → X2 x2 s) → X2 x2 s
set_option maxRecDepth 100000 in
theorem gm_294_p2 {L : Nat} {xs : Nat → Int32} {d : Nat} {Q : Int → lf_Z → Prop} {x1 : Int} {x2 : Int} {s : lf_Z} {X2 : Int → lf_Z → Prop} (hX2 : ∀ x2 s, X2 x2 s → lf_E (px_ro L xs) (d + 6) 294 2 [(0, .ref 95), (1, .int (Int32.ofInt x1)), (2, .int (Int32.ofInt x2))] [] s (lf_qi Q)) (h : fm_294_p2 Q x1 X2 x2 s) : lf_E (px_ro L xs) (d + 6) 294 2 [(0, .ref 95), (1, .int (Int32.ofInt x1)), (2, .int (Int32.ofInt x2))] [] s (lf_qi Q) := by
  unfold fm_294_p2 at h
  refine lf_seg 1 (pc' := 3) (lv' := [(0, .ref 95), (1, .int (Int32.ofInt x1)), (2, .int (Int32.ofInt x2))]) (st' := [.int (Int32.ofInt x2)]) rfl ?_
  refine lf_sipush 6 156 rfl rfl (by decide) (by decide) ?_
  obtain ⟨o21, h⟩ := h
  refine lf_icmp_ge 22 9 rfl rfl rfl o21 ⟨by decide, by decide⟩ (fun c => ?_) (fun c => ?_)
  · have h := h.1 c
    refine lf_seg 3 (pc' := 27) (lv' := [(0, .ref 95), (1, .int (Int32.ofInt x1)), (2, .int (Int32.ofInt x2))]) (st' := [.int (Int32.ofInt 0), .ref 112]) rfl ?_
    refine lf_bipush 29 13 rfl rfl (by decide) (by decide) ?_
    refine lf_seg 2 (pc' := 31) (lv' := [(0, .ref 95), (1, .int (Int32.ofInt x1)), (2, .int (Int32.ofInt x2))]) (st' := [.int (Int32.ofInt x1), .ref 95, .int (Int32.ofInt 13), .int (Int32.ofInt 0), .ref 112]) rfl ?_
    refine lf_callI 34 rfl rfl rfl rfl (gm_255 h) (fun r23 s22 h => ?_)
    refine lf_imul 35 rfl rfl ?_
    refine lf_seg 2 (pc' := 37) (lv' := [(0, .ref 95), (1, .int (Int32.ofInt x1)), (2, .int (Int32.ofInt x2))]) (st' := [.int (Int32.ofInt x1), .ref 95, .int (Int32.ofInt (13 * r23)), .int (Int32.ofInt 0), .ref 112]) rfl ?_
    refine lf_callI 40 rfl rfl rfl rfl (gm_256 h) (fun r25 s24 h => ?_)
    refine lf_iadd 41 rfl rfl ?_
    refine lf_seg 1 (pc' := 42) (lv' := [(0, .ref 95), (1, .int (Int32.ofInt x1)), (2, .int (Int32.ofInt x2))]) (st' := [.int (Int32.ofInt 1), .int (Int32.ofInt ((13 * r23) + r25)), .int (Int32.ofInt 0), .ref 112]) rfl ?_
    refine lf_iadd 43 rfl rfl ?_
    refine lf_iast 44 156 rfl rfl rfl rfl rfl rfl ⟨by decide, by decide⟩ ?_
    refine lf_as (lf_up s24.1 112 0 (((13 * r23) + r25) + 1), s24.2.1, s24.2.2) rfl ?_
    refine lf_seg 5 (pc' := 53) (lv' := [(0, .ref 95), (1, .int (Int32.ofInt x1)), (2, .int (Int32.ofInt x2))]) (st' := [.int (Int32.ofInt 0), .ref 112, .ref 111]) rfl ?_
    refine lf_iald 54 156 rfl rfl rfl rfl rfl rfl ⟨by decide, by decide⟩ ?_
    refine lf_seg 1 (pc' := 55) (lv' := [(0, .ref 95), (1, .int (Int32.ofInt x1)), (2, .int (Int32.ofInt x2))]) (st' := [.int (Int32.ofInt 1), .int (Int32.ofInt (((13 * r23) + r25) + 1)), .ref 111]) rfl ?_
    obtain ⟨o26, h⟩ := h
    refine lf_zast 56 156 rfl rfl rfl rfl rfl rfl o26 (Or.inr rfl) ?_
    refine lf_as (lf_up (lf_up s24.1 112 0 (((13 * r23) + r25) + 1)) 111 (((13 * r23) + r25) + 1) 1, s24.2.1, s24.2.2) rfl ?_
    refine lf_seg 6 (pc' := 63) (lv' := [(4, .int (Int32.ofInt 0)), (3, .int (Int32.ofInt 0)), (2, .int (Int32.ofInt 1)), (0, .ref 95), (1, .int (Int32.ofInt x1))]) (st' := []) rfl ?_
    refine lf_sub (l := [(0, .ref 95), (1, .int (Int32.ofInt x1)), (2, .int (Int32.ofInt 1)), (3, .int (Int32.ofInt 0)), (4, .int (Int32.ofInt 0))]) (lf_sb1 rfl (lf_sb1 rfl (lf_sb1 rfl (lf_sb1 rfl (lf_sb1 rfl lf_sb0))))) ?_
    exact gm_294_p63L h
  · have h := h.2 c
    refine lf_seg 4 (pc' := 15) (lv' := [(0, .ref 95), (1, .int (Int32.ofInt x1)), (2, .int (Int32.ofInt x2))]) (st' := [.int (Int32.ofInt 0), .int (Int32.ofInt x2), .ref 111]) rfl ?_
    obtain ⟨o46, h⟩ := h
    refine lf_zast 16 156 rfl rfl rfl rfl rfl rfl o46 (Or.inl rfl) ?_
    refine lf_as (lf_up s.1 111 x2 0, s.2.1, s.2.2) rfl ?_
    refine lf_iinc 19 rfl rfl rfl rfl ?_
    refine lf_seg 1 (pc' := 2) (lv' := [(2, .int (Int32.ofInt (x2 + 1))), (0, .ref 95), (1, .int (Int32.ofInt x1))]) (st' := []) rfl ?_
    refine lf_sub (l := [(0, .ref 95), (1, .int (Int32.ofInt x1)), (2, .int (Int32.ofInt (x2 + 1)))]) (lf_sb1 rfl (lf_sb1 rfl (lf_sb1 rfl lf_sb0))) ?_
    exact hX2 _ _ h
theorem gm_294_p2L {L : Nat} {xs : Nat → Int32} {d : Nat} {Q : Int → lf_Z → Prop} {x1 : Int} {x2 : Int} {s : lf_Z} (h : fm_294_p2L Q x1 x2 s) : lf_E (px_ro L xs) (d + 6) 294 2 [(0, .ref 95), (1, .int (Int32.ofInt x1)), (2, .int (Int32.ofInt x2))] [] s (lf_qi Q) :=
  h (fun x2 s => lf_E (px_ro L xs) (d + 6) 294 2 [(0, .ref 95), (1, .int (Int32.ofInt x1)), (2, .int (Int32.ofInt x2))] [] s (lf_qi Q)) (fun x2 s hb => gm_294_p2 (fun _ _ h => h) hb)
def fm_294 (a1 : Int) (Q : Int → lf_Z → Prop) (s : lf_Z) : Prop := fm_294_p2L Q a1 0 s
set_option maxRecDepth 100000 in
theorem gm_294 {L : Nat} {xs : Nat → Int32} {d : Nat} {a1 : Int} {Q : Int → lf_Z → Prop} {s : lf_Z} (h : fm_294 a1 Q s) : lf_M (px_ro L xs) (d + 6) 294 [.ref 95, .int (Int32.ofInt a1)] s (lf_qi Q) := by
  unfold fm_294 at h
  show lf_E (px_ro L xs) (d + 6) 294 0 [(0, .ref 95), (1, .int (Int32.ofInt a1))] [] s _
  refine lf_seg 2 (pc' := 2) (lv' := [(2, .int (Int32.ofInt 0)), (0, .ref 95), (1, .int (Int32.ofInt a1))]) (st' := []) rfl ?_
  refine lf_sub (l := [(0, .ref 95), (1, .int (Int32.ofInt a1)), (2, .int (Int32.ofInt 0))]) (lf_sb1 rfl (lf_sb1 rfl (lf_sb1 rfl lf_sb0))) ?_
  exact gm_294_p2L h
-- fm_293 Model.canCome 95 i
def fm_293 (a1 : Int) (Q : Int → lf_Z → Prop) (s : lf_Z) : Prop := fm_254 a1 (fun z22 s21 => ((z22 = false → (Q (-1) s21)) ∧ (z22 = true → (fm_294 a1 (fun r24 s23 => (Q r24 s23)) s21)))) s
set_option maxRecDepth 100000 in
theorem gm_293 {L : Nat} {xs : Nat → Int32} {d : Nat} {a1 : Int} {Q : Int → lf_Z → Prop} {s : lf_Z} (h : fm_293 a1 Q s) : lf_M (px_ro L xs) (d + 7) 293 [.ref 95, .int (Int32.ofInt a1)] s (lf_qi Q) := by
  unfold fm_293 at h
  show lf_E (px_ro L xs) (d + 7) 293 0 [(0, .ref 95), (1, .int (Int32.ofInt a1))] [] s _
  refine lf_seg 2 (pc' := 2) (lv' := [(0, .ref 95), (1, .int (Int32.ofInt a1))]) (st' := [.int (Int32.ofInt a1), .ref 95]) rfl ?_
  refine lf_callZ 5 rfl rfl rfl rfl (gm_254 h) (fun z22 s21 h => ?_)
  refine lf_ifz_eq 16 8 rfl rfl rfl (fun c => ?_) (fun c => ?_)
  · have h := h.1 c
    refine lf_seg 1 (pc' := 17) (lv' := [(0, .ref 95), (1, .int (Int32.ofInt a1))]) (st' := [.int (Int32.ofInt (-1))]) rfl ?_
    exact lf_retI rfl rfl h
  · have h := h.2 c
    refine lf_seg 2 (pc' := 10) (lv' := [(0, .ref 95), (1, .int (Int32.ofInt a1))]) (st' := [.int (Int32.ofInt a1), .ref 95]) rfl ?_
    refine lf_callI 13 rfl rfl rfl rfl (gm_294 h) (fun r24 s23 h => ?_)
    refine lf_seg 1 (pc' := 17) (lv' := [(0, .ref 95), (1, .int (Int32.ofInt a1))]) (st' := [.int (Int32.ofInt r24)]) rfl ?_
    exact lf_retI rfl rfl h
-- fm_132 Land.bitsOfKind 1 i
def fm_132_p28 (X4 : Int → Int → lf_Z → Prop) (Q : Int → lf_Z → Prop) (x1 : Int) (x2 : Int) (x3 : Int) (s : lf_Z) : Prop := X4 x2 (x3 + 1) s
set_option maxRecDepth 100000 in
theorem gm_132_p28 {L : Nat} {xs : Nat → Int32} {d : Nat} {X4 : Int → Int → lf_Z → Prop} {Q : Int → lf_Z → Prop} {x1 : Int} {x2 : Int} {x3 : Int} {s : lf_Z} (hX4 : ∀ x2 x3 s, X4 x2 x3 s → lf_E (px_ro L xs) (d + 1) 132 4 [(0, .ref 1), (1, .int (Int32.ofInt x1)), (2, .int (Int32.ofInt x2)), (3, .int (Int32.ofInt x3))] [] s (lf_qi Q)) (h : fm_132_p28 X4 Q x1 x2 x3 s) : lf_E (px_ro L xs) (d + 1) 132 28 [(0, .ref 1), (1, .int (Int32.ofInt x1)), (2, .int (Int32.ofInt x2)), (3, .int (Int32.ofInt x3))] [] s (lf_qi Q) := by
  unfold fm_132_p28 at h
  refine lf_iinc 31 rfl rfl rfl rfl ?_
  refine lf_seg 1 (pc' := 4) (lv' := [(3, .int (Int32.ofInt (x3 + 1))), (0, .ref 1), (1, .int (Int32.ofInt x1)), (2, .int (Int32.ofInt x2))]) (st' := []) rfl ?_
  refine lf_sub (l := [(0, .ref 1), (1, .int (Int32.ofInt x1)), (2, .int (Int32.ofInt x2)), (3, .int (Int32.ofInt (x3 + 1)))]) (lf_sb1 rfl (lf_sb1 rfl (lf_sb1 rfl (lf_sb1 rfl lf_sb0)))) ?_
  exact hX4 _ _ _ h
def fm_132_p4 (Q : Int → lf_Z → Prop) (x1 : Int) (X4 : Int → Int → lf_Z → Prop) (x2 : Int) (x3 : Int) (s : lf_Z) : Prop := lf_R x3 ∧ (lf_R (s.1 1 0) ∧ ((s.1 1 0 ≤ x3 → (Q x2 s)) ∧ (¬ (s.1 1 0 ≤ x3) → ((0 ≤ x3 ∧ x3 < 12) ∧ (lf_R (s.1 2 x3) ∧ (lf_R x1 ∧ ((s.1 2 x3 ≠ x1 → (fm_132_p28 X4 Q x1 x2 x3 s)) ∧ (¬ (s.1 2 x3 ≠ x1) → (fm_132_p28 X4 Q x1 (lf_or x2 (lf_shl 1 x3)) x3 s)))))))))
def fm_132_p4L (Q : Int → lf_Z → Prop) (x1 : Int) (x2 : Int) (x3 : Int) (s : lf_Z) : Prop := ∀ X4 : Int → Int → lf_Z → Prop, (∀ (x2 : Int) (x3 : Int) (s : lf_Z), fm_132_p4 Q x1 X4 x2 x3 s → X4 x2 x3 s) → X4 x2 x3 s
set_option maxRecDepth 100000 in
theorem gm_132_p4 {L : Nat} {xs : Nat → Int32} {d : Nat} {Q : Int → lf_Z → Prop} {x1 : Int} {x2 : Int} {x3 : Int} {s : lf_Z} {X4 : Int → Int → lf_Z → Prop} (hX4 : ∀ x2 x3 s, X4 x2 x3 s → lf_E (px_ro L xs) (d + 1) 132 4 [(0, .ref 1), (1, .int (Int32.ofInt x1)), (2, .int (Int32.ofInt x2)), (3, .int (Int32.ofInt x3))] [] s (lf_qi Q)) (h : fm_132_p4 Q x1 X4 x2 x3 s) : lf_E (px_ro L xs) (d + 1) 132 4 [(0, .ref 1), (1, .int (Int32.ofInt x1)), (2, .int (Int32.ofInt x2)), (3, .int (Int32.ofInt x3))] [] s (lf_qi Q) := by
  unfold fm_132_p4 at h
  refine lf_seg 2 (pc' := 6) (lv' := [(0, .ref 1), (1, .int (Int32.ofInt x1)), (2, .int (Int32.ofInt x2)), (3, .int (Int32.ofInt x3))]) (st' := [.ref 1, .int (Int32.ofInt x3)]) rfl ?_
  refine lf_getI 9 0 rfl rfl rfl rfl rfl rfl rfl ?_
  obtain ⟨o21, h⟩ := h
  obtain ⟨o22, h⟩ := h
  refine lf_icmp_ge 34 12 rfl rfl rfl o21 o22 (fun c => ?_) (fun c => ?_)
  · have h := h.1 c
    refine lf_seg 1 (pc' := 35) (lv' := [(0, .ref 1), (1, .int (Int32.ofInt x1)), (2, .int (Int32.ofInt x2)), (3, .int (Int32.ofInt x3))]) (st' := [.int (Int32.ofInt x2)]) rfl ?_
    exact lf_retI rfl rfl h
  · have h := h.2 c
    refine lf_seg 3 (pc' := 17) (lv' := [(0, .ref 1), (1, .int (Int32.ofInt x1)), (2, .int (Int32.ofInt x2)), (3, .int (Int32.ofInt x3))]) (st' := [.int (Int32.ofInt x3), .ref 2]) rfl ?_
    obtain ⟨o23, h⟩ := h
    refine lf_iald 18 12 rfl rfl rfl rfl rfl rfl o23 ?_
    refine lf_seg 1 (pc' := 19) (lv' := [(0, .ref 1), (1, .int (Int32.ofInt x1)), (2, .int (Int32.ofInt x2)), (3, .int (Int32.ofInt x3))]) (st' := [.int (Int32.ofInt x1), .int (Int32.ofInt (s.1 2 x3))]) rfl ?_
    obtain ⟨o24, h⟩ := h
    obtain ⟨o25, h⟩ := h
    refine lf_icmp_ne 28 22 rfl rfl rfl o24 o25 (fun c => ?_) (fun c => ?_)
    · have h := h.1 c
      refine lf_sub (l := [(0, .ref 1), (1, .int (Int32.ofInt x1)), (2, .int (Int32.ofInt x2)), (3, .int (Int32.ofInt x3))]) (lf_sb1 rfl (lf_sb1 rfl (lf_sb1 rfl (lf_sb1 rfl lf_sb0)))) ?_
      exact gm_132_p28 hX4 h
    · have h := h.2 c
      refine lf_seg 3 (pc' := 25) (lv' := [(0, .ref 1), (1, .int (Int32.ofInt x1)), (2, .int (Int32.ofInt x2)), (3, .int (Int32.ofInt x3))]) (st' := [.int (Int32.ofInt x3), .int (Int32.ofInt 1), .int (Int32.ofInt x2)]) rfl ?_
      refine lf_ishl 26 rfl rfl ?_
      refine lf_ior 27 rfl rfl ?_
      refine lf_seg 1 (pc' := 28) (lv' := [(2, .int (Int32.ofInt (lf_or x2 (lf_shl 1 x3)))), (0, .ref 1), (1, .int (Int32.ofInt x1)), (3, .int (Int32.ofInt x3))]) (st' := []) rfl ?_
      refine lf_sub (l := [(0, .ref 1), (1, .int (Int32.ofInt x1)), (2, .int (Int32.ofInt (lf_or x2 (lf_shl 1 x3)))), (3, .int (Int32.ofInt x3))]) (lf_sb1 rfl (lf_sb1 rfl (lf_sb1 rfl (lf_sb1 rfl lf_sb0)))) ?_
      exact gm_132_p28 hX4 h
theorem gm_132_p4L {L : Nat} {xs : Nat → Int32} {d : Nat} {Q : Int → lf_Z → Prop} {x1 : Int} {x2 : Int} {x3 : Int} {s : lf_Z} (h : fm_132_p4L Q x1 x2 x3 s) : lf_E (px_ro L xs) (d + 1) 132 4 [(0, .ref 1), (1, .int (Int32.ofInt x1)), (2, .int (Int32.ofInt x2)), (3, .int (Int32.ofInt x3))] [] s (lf_qi Q) :=
  h (fun x2 x3 s => lf_E (px_ro L xs) (d + 1) 132 4 [(0, .ref 1), (1, .int (Int32.ofInt x1)), (2, .int (Int32.ofInt x2)), (3, .int (Int32.ofInt x3))] [] s (lf_qi Q)) (fun x2 x3 s hb => gm_132_p4 (fun _ _ _ h => h) hb)
def fm_132 (a1 : Int) (Q : Int → lf_Z → Prop) (s : lf_Z) : Prop := fm_132_p4L Q a1 0 0 s
set_option maxRecDepth 100000 in
theorem gm_132 {L : Nat} {xs : Nat → Int32} {d : Nat} {a1 : Int} {Q : Int → lf_Z → Prop} {s : lf_Z} (h : fm_132 a1 Q s) : lf_M (px_ro L xs) (d + 1) 132 [.ref 1, .int (Int32.ofInt a1)] s (lf_qi Q) := by
  unfold fm_132 at h
  show lf_E (px_ro L xs) (d + 1) 132 0 [(0, .ref 1), (1, .int (Int32.ofInt a1))] [] s _
  refine lf_seg 4 (pc' := 4) (lv' := [(3, .int (Int32.ofInt 0)), (2, .int (Int32.ofInt 0)), (0, .ref 1), (1, .int (Int32.ofInt a1))]) (st' := []) rfl ?_
  refine lf_sub (l := [(0, .ref 1), (1, .int (Int32.ofInt a1)), (2, .int (Int32.ofInt 0)), (3, .int (Int32.ofInt 0))]) (lf_sb1 rfl (lf_sb1 rfl (lf_sb1 rfl (lf_sb1 rfl lf_sb0)))) ?_
  exact gm_132_p4L h
-- fm_133 ElevenBullocks.nextSet i
def fm_133 (a0 : Int) (Q : Int → lf_Z → Prop) (s : lf_Z) : Prop := (lf_and a0 (lf_w (-a0)) ≠ 0 → ((lf_and a0 (lf_w (-a0))) ≠ 0 ∧ (Q (lf_or (lf_w (a0 + (lf_and a0 (lf_w (-a0))))) (lf_ushr (lf_w ((lf_xor a0 (lf_w (a0 + (lf_and a0 (lf_w (-a0)))))).tdiv (lf_and a0 (lf_w (-a0))))) 2)) s))) ∧ (¬ (lf_and a0 (lf_w (-a0)) ≠ 0) → (Q 65536 s))
set_option maxRecDepth 100000 in
theorem gm_133 {L : Nat} {xs : Nat → Int32} {d : Nat} {a0 : Int} {Q : Int → lf_Z → Prop} {s : lf_Z} (h : fm_133 a0 Q s) : lf_M (px_ro L xs) (d + 1) 133 [.int (Int32.ofInt a0)] s (lf_qi Q) := by
  unfold fm_133 at h
  show lf_E (px_ro L xs) (d + 1) 133 0 [(0, .int (Int32.ofInt a0))] [] s _
  refine lf_seg 2 (pc' := 2) (lv' := [(0, .int (Int32.ofInt a0))]) (st' := [.int (Int32.ofInt a0), .int (Int32.ofInt a0)]) rfl ?_
  refine lf_ineg 3 rfl rfl ?_
  refine lf_wtI ?_
  refine lf_iand 4 rfl rfl ?_
  refine lf_seg 3 (pc' := 7) (lv' := [(1, .int (Int32.ofInt (lf_and a0 (lf_w (-a0))))), (0, .int (Int32.ofInt a0))]) (st' := [.int (Int32.ofInt (lf_and a0 (lf_w (-a0)))), .int (Int32.ofInt a0)]) rfl ?_
  refine lf_iadd 8 rfl rfl ?_
  refine lf_wtI ?_
  refine lf_seg 2 (pc' := 10) (lv' := [(2, .int (Int32.ofInt (lf_w (a0 + (lf_and a0 (lf_w (-a0))))))), (1, .int (Int32.ofInt (lf_and a0 (lf_w (-a0))))), (0, .int (Int32.ofInt a0))]) (st' := [.int (Int32.ofInt (lf_and a0 (lf_w (-a0))))]) rfl ?_
  refine lf_if_ne 19 13 rfl rfl rfl lf_Rand (fun c => ?_) (fun c => ?_)
  · have h := h.1 c
    refine lf_seg 3 (pc' := 22) (lv' := [(2, .int (Int32.ofInt (lf_w (a0 + (lf_and a0 (lf_w (-a0))))))), (1, .int (Int32.ofInt (lf_and a0 (lf_w (-a0))))), (0, .int (Int32.ofInt a0))]) (st' := [.int (Int32.ofInt (lf_w (a0 + (lf_and a0 (lf_w (-a0)))))), .int (Int32.ofInt a0), .int (Int32.ofInt (lf_w (a0 + (lf_and a0 (lf_w (-a0))))))]) rfl ?_
    refine lf_ixor 23 rfl rfl ?_
    refine lf_seg 1 (pc' := 24) (lv' := [(2, .int (Int32.ofInt (lf_w (a0 + (lf_and a0 (lf_w (-a0))))))), (1, .int (Int32.ofInt (lf_and a0 (lf_w (-a0))))), (0, .int (Int32.ofInt a0))]) (st' := [.int (Int32.ofInt (lf_and a0 (lf_w (-a0)))), .int (Int32.ofInt (lf_xor a0 (lf_w (a0 + (lf_and a0 (lf_w (-a0))))))), .int (Int32.ofInt (lf_w (a0 + (lf_and a0 (lf_w (-a0))))))]) rfl ?_
    obtain ⟨o21, h⟩ := h
    refine lf_idiv 25 rfl rfl lf_Rxor lf_Rand o21 ?_
    refine lf_wtI ?_
    refine lf_seg 1 (pc' := 26) (lv' := [(2, .int (Int32.ofInt (lf_w (a0 + (lf_and a0 (lf_w (-a0))))))), (1, .int (Int32.ofInt (lf_and a0 (lf_w (-a0))))), (0, .int (Int32.ofInt a0))]) (st' := [.int (Int32.ofInt 2), .int (Int32.ofInt (lf_w ((lf_xor a0 (lf_w (a0 + (lf_and a0 (lf_w (-a0)))))).tdiv (lf_and a0 (lf_w (-a0)))))), .int (Int32.ofInt (lf_w (a0 + (lf_and a0 (lf_w (-a0))))))]) rfl ?_
    refine lf_iushr 27 rfl rfl ?_
    refine lf_ior 28 rfl rfl ?_
    exact lf_retI rfl rfl h
  · have h := h.2 c
    refine lf_ldcw 16 65536 rfl rfl rfl (by decide) ?_
    refine lf_seg 1 (pc' := 28) (lv' := [(2, .int (Int32.ofInt (lf_w (a0 + (lf_and a0 (lf_w (-a0))))))), (1, .int (Int32.ofInt (lf_and a0 (lf_w (-a0))))), (0, .int (Int32.ofInt a0))]) (st' := [.int (Int32.ofInt 65536)]) rfl ?_
    exact lf_retI rfl rfl h
-- fm_131 Walk.fewestWhoStop 68 i i
def fm_131_p120 (X29 : Int → lf_Z → Prop) (Q : Int → lf_Z → Prop) (x1 : Int) (x3 : Int) (x4 : Int) (x5 : Int) (s : lf_Z) : Prop := X29 (x5 + 1) s
set_option maxRecDepth 100000 in
theorem gm_131_p120 {L : Nat} {xs : Nat → Int32} {d : Nat} {X29 : Int → lf_Z → Prop} {Q : Int → lf_Z → Prop} {x1 : Int} {x3 : Int} {x4 : Int} {x5 : Int} {s : lf_Z} (hX29 : ∀ x5 s, X29 x5 s → lf_E (px_ro L xs) (d + 7) 131 29 [(0, .ref 68), (1, .int (Int32.ofInt x1)), (3, .int (Int32.ofInt x3)), (4, .int (Int32.ofInt x4)), (5, .int (Int32.ofInt x5))] [] s (lf_qi Q)) (h : fm_131_p120 X29 Q x1 x3 x4 x5 s) : lf_E (px_ro L xs) (d + 7) 131 120 [(0, .ref 68), (1, .int (Int32.ofInt x1)), (3, .int (Int32.ofInt x3)), (4, .int (Int32.ofInt x4)), (5, .int (Int32.ofInt x5))] [] s (lf_qi Q) := by
  unfold fm_131_p120 at h
  refine lf_iinc 123 rfl rfl rfl rfl ?_
  refine lf_seg 1 (pc' := 29) (lv' := [(5, .int (Int32.ofInt (x5 + 1))), (0, .ref 68), (1, .int (Int32.ofInt x1)), (3, .int (Int32.ofInt x3)), (4, .int (Int32.ofInt x4))]) (st' := []) rfl ?_
  refine lf_sub (l := [(0, .ref 68), (1, .int (Int32.ofInt x1)), (3, .int (Int32.ofInt x3)), (4, .int (Int32.ofInt x4)), (5, .int (Int32.ofInt (x5 + 1)))]) (lf_sb1 rfl (lf_sb1 rfl (lf_sb1 rfl (lf_sb1 rfl (lf_sb1 rfl lf_sb0))))) ?_
  exact hX29 _ _ h
def fm_131_p112 (X29 : Int → lf_Z → Prop) (X46 : Int → Int → lf_Z → Prop) (Q : Int → lf_Z → Prop) (x1 : Int) (x3 : Int) (x4 : Int) (x5 : Int) (x7 : Int) (y0 : Int) (s : lf_Z) : Prop := X46 y0 (x7 + 1) s
set_option maxRecDepth 100000 in
theorem gm_131_p112 {L : Nat} {xs : Nat → Int32} {d : Nat} {X29 : Int → lf_Z → Prop} {X46 : Int → Int → lf_Z → Prop} {Q : Int → lf_Z → Prop} {x1 : Int} {x3 : Int} {x4 : Int} {x5 : Int} {x7 : Int} {y0 : Int} {s : lf_Z} (hX29 : ∀ x5 s, X29 x5 s → lf_E (px_ro L xs) (d + 7) 131 29 [(0, .ref 68), (1, .int (Int32.ofInt x1)), (3, .int (Int32.ofInt x3)), (4, .int (Int32.ofInt x4)), (5, .int (Int32.ofInt x5))] [] s (lf_qi Q)) (hX46 : ∀ x6 x7 s, X46 x6 x7 s → lf_E (px_ro L xs) (d + 7) 131 46 [(0, .ref 68), (1, .int (Int32.ofInt x1)), (3, .int (Int32.ofInt x3)), (4, .int (Int32.ofInt x4)), (5, .int (Int32.ofInt x5)), (6, .int (Int32.ofInt x6)), (7, .int (Int32.ofInt x7))] [] s (lf_qi Q)) (h : fm_131_p112 X29 X46 Q x1 x3 x4 x5 x7 y0 s) : lf_E (px_ro L xs) (d + 7) 131 112 [(0, .ref 68), (1, .int (Int32.ofInt x1)), (3, .int (Int32.ofInt x3)), (4, .int (Int32.ofInt x4)), (5, .int (Int32.ofInt x5)), (7, .int (Int32.ofInt x7))] [.int (Int32.ofInt y0)] s (lf_qi Q) := by
  unfold fm_131_p112 at h
  refine lf_seg 1 (pc' := 114) (lv' := [(6, .int (Int32.ofInt y0)), (0, .ref 68), (1, .int (Int32.ofInt x1)), (3, .int (Int32.ofInt x3)), (4, .int (Int32.ofInt x4)), (5, .int (Int32.ofInt x5)), (7, .int (Int32.ofInt x7))]) (st' := []) rfl ?_
  refine lf_iinc 117 rfl rfl rfl rfl ?_
  refine lf_seg 1 (pc' := 46) (lv' := [(7, .int (Int32.ofInt (x7 + 1))), (6, .int (Int32.ofInt y0)), (0, .ref 68), (1, .int (Int32.ofInt x1)), (3, .int (Int32.ofInt x3)), (4, .int (Int32.ofInt x4)), (5, .int (Int32.ofInt x5))]) (st' := []) rfl ?_
  refine lf_sub (l := [(0, .ref 68), (1, .int (Int32.ofInt x1)), (3, .int (Int32.ofInt x3)), (4, .int (Int32.ofInt x4)), (5, .int (Int32.ofInt x5)), (6, .int (Int32.ofInt y0)), (7, .int (Int32.ofInt (x7 + 1)))]) (lf_sb1 rfl (lf_sb1 rfl (lf_sb1 rfl (lf_sb1 rfl (lf_sb1 rfl (lf_sb1 rfl (lf_sb1 rfl lf_sb0))))))) ?_
  exact hX46 _ _ _ h
def fm_131_p97 (X29 : Int → lf_Z → Prop) (X46 : Int → Int → lf_Z → Prop) (Q : Int → lf_Z → Prop) (x1 : Int) (x3 : Int) (x4 : Int) (x5 : Int) (x6 : Int) (x7 : Int) (s : lf_Z) : Prop := lf_R x5 ∧ ((x5 ≠ 0 → (fm_133 x6 (fun r31 s30 => (fm_131_p112 X29 X46 Q x1 x3 x4 x5 x7 r31 s30)) s)) ∧ (¬ (x5 ≠ 0) → (fm_131_p112 X29 X46 Q x1 x3 x4 x5 x7 x4 s)))
set_option maxRecDepth 100000 in
theorem gm_131_p97 {L : Nat} {xs : Nat → Int32} {d : Nat} {X29 : Int → lf_Z → Prop} {X46 : Int → Int → lf_Z → Prop} {Q : Int → lf_Z → Prop} {x1 : Int} {x3 : Int} {x4 : Int} {x5 : Int} {x6 : Int} {x7 : Int} {s : lf_Z} (hX29 : ∀ x5 s, X29 x5 s → lf_E (px_ro L xs) (d + 7) 131 29 [(0, .ref 68), (1, .int (Int32.ofInt x1)), (3, .int (Int32.ofInt x3)), (4, .int (Int32.ofInt x4)), (5, .int (Int32.ofInt x5))] [] s (lf_qi Q)) (hX46 : ∀ x6 x7 s, X46 x6 x7 s → lf_E (px_ro L xs) (d + 7) 131 46 [(0, .ref 68), (1, .int (Int32.ofInt x1)), (3, .int (Int32.ofInt x3)), (4, .int (Int32.ofInt x4)), (5, .int (Int32.ofInt x5)), (6, .int (Int32.ofInt x6)), (7, .int (Int32.ofInt x7))] [] s (lf_qi Q)) (h : fm_131_p97 X29 X46 Q x1 x3 x4 x5 x6 x7 s) : lf_E (px_ro L xs) (d + 7) 131 97 [(0, .ref 68), (1, .int (Int32.ofInt x1)), (3, .int (Int32.ofInt x3)), (4, .int (Int32.ofInt x4)), (5, .int (Int32.ofInt x5)), (6, .int (Int32.ofInt x6)), (7, .int (Int32.ofInt x7))] [] s (lf_qi Q) := by
  unfold fm_131_p97 at h
  refine lf_seg 1 (pc' := 99) (lv' := [(0, .ref 68), (1, .int (Int32.ofInt x1)), (3, .int (Int32.ofInt x3)), (4, .int (Int32.ofInt x4)), (5, .int (Int32.ofInt x5)), (6, .int (Int32.ofInt x6)), (7, .int (Int32.ofInt x7))]) (st' := [.int (Int32.ofInt x5)]) rfl ?_
  obtain ⟨o29, h⟩ := h
  refine lf_if_ne 107 102 rfl rfl rfl o29 (fun c => ?_) (fun c => ?_)
  · have h := h.1 c
    refine lf_seg 1 (pc' := 109) (lv' := [(0, .ref 68), (1, .int (Int32.ofInt x1)), (3, .int (Int32.ofInt x3)), (4, .int (Int32.ofInt x4)), (5, .int (Int32.ofInt x5)), (6, .int (Int32.ofInt x6)), (7, .int (Int32.ofInt x7))]) (st' := [.int (Int32.ofInt x6)]) rfl ?_
    refine lf_callI 112 rfl rfl rfl rfl (gm_133 h) (fun r31 s30 h => ?_)
    refine lf_sub (l := [(0, .ref 68), (1, .int (Int32.ofInt x1)), (3, .int (Int32.ofInt x3)), (4, .int (Int32.ofInt x4)), (5, .int (Int32.ofInt x5)), (7, .int (Int32.ofInt x7))]) (lf_sb1 rfl (lf_sb1 rfl (lf_sb1 rfl (lf_sb1 rfl (lf_sb1 rfl (lf_sb1 rfl lf_sb0)))))) ?_
    exact gm_131_p112 hX29 hX46 h
  · have h := h.2 c
    refine lf_seg 2 (pc' := 112) (lv' := [(0, .ref 68), (1, .int (Int32.ofInt x1)), (3, .int (Int32.ofInt x3)), (4, .int (Int32.ofInt x4)), (5, .int (Int32.ofInt x5)), (6, .int (Int32.ofInt x6)), (7, .int (Int32.ofInt x7))]) (st' := [.int (Int32.ofInt x4)]) rfl ?_
    refine lf_sub (l := [(0, .ref 68), (1, .int (Int32.ofInt x1)), (3, .int (Int32.ofInt x3)), (4, .int (Int32.ofInt x4)), (5, .int (Int32.ofInt x5)), (7, .int (Int32.ofInt x7))]) (lf_sb1 rfl (lf_sb1 rfl (lf_sb1 rfl (lf_sb1 rfl (lf_sb1 rfl (lf_sb1 rfl lf_sb0)))))) ?_
    exact gm_131_p112 hX29 hX46 h
def fm_131_p46 (X29 : Int → lf_Z → Prop) (Q : Int → lf_Z → Prop) (x1 : Int) (x3 : Int) (x4 : Int) (x5 : Int) (X46 : Int → Int → lf_Z → Prop) (x6 : Int) (x7 : Int) (s : lf_Z) : Prop := lf_R x7 ∧ ((1000 ≤ x7 → (fm_131_p120 X29 Q x1 x3 x4 x5 s)) ∧ (¬ (1000 ≤ x7) → (lf_R x6 ∧ (lf_R x4 ∧ ((x4 ≤ x6 → (fm_131_p120 X29 Q x1 x3 x4 x5 s)) ∧ (¬ (x4 ≤ x6) → ((0 ≤ x1 ∧ x1 < 4) ∧ ((lf_and (lf_shr x6 (s.1 17 x1)) 1 ≠ 0 → (fm_131_p97 X29 X46 Q x1 x3 x4 x5 x6 x7 (lf_up s.1 68 10 x6, s.2.1, s.2.2))) ∧ (¬ (lf_and (lf_shr x6 (s.1 17 x1)) 1 ≠ 0) → (fm_128 x1 (fun r33 s32 => ((lf_and r33 x3 ≠ 0 → (fm_131_p97 X29 X46 Q x1 x3 x4 x5 x6 x7 s32)) ∧ (¬ (lf_and r33 x3 ≠ 0) → (Q x6 s32)))) (lf_up s.1 68 10 x6, s.2.1, s.2.2)))))))))))
def fm_131_p46L (X29 : Int → lf_Z → Prop) (Q : Int → lf_Z → Prop) (x1 : Int) (x3 : Int) (x4 : Int) (x5 : Int) (x6 : Int) (x7 : Int) (s : lf_Z) : Prop := ∀ X46 : Int → Int → lf_Z → Prop, (∀ (x6 : Int) (x7 : Int) (s : lf_Z), fm_131_p46 X29 Q x1 x3 x4 x5 X46 x6 x7 s → X46 x6 x7 s) → X46 x6 x7 s
set_option maxRecDepth 100000 in
theorem gm_131_p46 {L : Nat} {xs : Nat → Int32} {d : Nat} {X29 : Int → lf_Z → Prop} {Q : Int → lf_Z → Prop} {x1 : Int} {x3 : Int} {x4 : Int} {x5 : Int} {x6 : Int} {x7 : Int} {s : lf_Z} {X46 : Int → Int → lf_Z → Prop} (hX29 : ∀ x5 s, X29 x5 s → lf_E (px_ro L xs) (d + 7) 131 29 [(0, .ref 68), (1, .int (Int32.ofInt x1)), (3, .int (Int32.ofInt x3)), (4, .int (Int32.ofInt x4)), (5, .int (Int32.ofInt x5))] [] s (lf_qi Q)) (hX46 : ∀ x6 x7 s, X46 x6 x7 s → lf_E (px_ro L xs) (d + 7) 131 46 [(0, .ref 68), (1, .int (Int32.ofInt x1)), (3, .int (Int32.ofInt x3)), (4, .int (Int32.ofInt x4)), (5, .int (Int32.ofInt x5)), (6, .int (Int32.ofInt x6)), (7, .int (Int32.ofInt x7))] [] s (lf_qi Q)) (h : fm_131_p46 X29 Q x1 x3 x4 x5 X46 x6 x7 s) : lf_E (px_ro L xs) (d + 7) 131 46 [(0, .ref 68), (1, .int (Int32.ofInt x1)), (3, .int (Int32.ofInt x3)), (4, .int (Int32.ofInt x4)), (5, .int (Int32.ofInt x5)), (6, .int (Int32.ofInt x6)), (7, .int (Int32.ofInt x7))] [] s (lf_qi Q) := by
  unfold fm_131_p46 at h
  refine lf_seg 1 (pc' := 48) (lv' := [(0, .ref 68), (1, .int (Int32.ofInt x1)), (3, .int (Int32.ofInt x3)), (4, .int (Int32.ofInt x4)), (5, .int (Int32.ofInt x5)), (6, .int (Int32.ofInt x6)), (7, .int (Int32.ofInt x7))]) (st' := [.int (Int32.ofInt x7)]) rfl ?_
  refine lf_sipush 51 1000 rfl rfl (by decide) (by decide) ?_
  obtain ⟨o25, h⟩ := h
  refine lf_icmp_ge 120 54 rfl rfl rfl o25 ⟨by decide, by decide⟩ (fun c => ?_) (fun c => ?_)
  · have h := h.1 c
    refine lf_sub (l := [(0, .ref 68), (1, .int (Int32.ofInt x1)), (3, .int (Int32.ofInt x3)), (4, .int (Int32.ofInt x4)), (5, .int (Int32.ofInt x5))]) (lf_sb1 rfl (lf_sb1 rfl (lf_sb1 rfl (lf_sb1 rfl (lf_sb1 rfl lf_sb0))))) ?_
    exact gm_131_p120 hX29 h
  · have h := h.2 c
    refine lf_seg 2 (pc' := 58) (lv' := [(0, .ref 68), (1, .int (Int32.ofInt x1)), (3, .int (Int32.ofInt x3)), (4, .int (Int32.ofInt x4)), (5, .int (Int32.ofInt x5)), (6, .int (Int32.ofInt x6)), (7, .int (Int32.ofInt x7))]) (st' := [.int (Int32.ofInt x4), .int (Int32.ofInt x6)]) rfl ?_
    obtain ⟨o26, h⟩ := h
    obtain ⟨o27, h⟩ := h
    refine lf_icmp_ge 120 61 rfl rfl rfl o26 o27 (fun c => ?_) (fun c => ?_)
    · have h := h.1 c
      refine lf_sub (l := [(0, .ref 68), (1, .int (Int32.ofInt x1)), (3, .int (Int32.ofInt x3)), (4, .int (Int32.ofInt x4)), (5, .int (Int32.ofInt x5))]) (lf_sb1 rfl (lf_sb1 rfl (lf_sb1 rfl (lf_sb1 rfl (lf_sb1 rfl lf_sb0))))) ?_
      exact gm_131_p120 hX29 h
    · have h := h.2 c
      refine lf_seg 2 (pc' := 64) (lv' := [(0, .ref 68), (1, .int (Int32.ofInt x1)), (3, .int (Int32.ofInt x3)), (4, .int (Int32.ofInt x4)), (5, .int (Int32.ofInt x5)), (6, .int (Int32.ofInt x6)), (7, .int (Int32.ofInt x7))]) (st' := [.int (Int32.ofInt x6), .ref 68]) rfl ?_
      refine lf_putI 67 10 rfl rfl rfl rfl rfl rfl rfl rfl ?_
      refine lf_as (lf_up s.1 68 10 x6, s.2.1, s.2.2) rfl ?_
      refine lf_seg 5 (pc' := 77) (lv' := [(0, .ref 68), (1, .int (Int32.ofInt x1)), (3, .int (Int32.ofInt x3)), (4, .int (Int32.ofInt x4)), (5, .int (Int32.ofInt x5)), (6, .int (Int32.ofInt x6)), (7, .int (Int32.ofInt x7))]) (st' := [.int (Int32.ofInt x1), .ref 17, .int (Int32.ofInt x6)]) rfl ?_
      obtain ⟨o28, h⟩ := h
      refine lf_iald 78 4 rfl rfl rfl rfl rfl rfl o28 ?_
      refine lf_seg 0 (pc' := 78) (lv' := [(0, .ref 68), (1, .int (Int32.ofInt x1)), (3, .int (Int32.ofInt x3)), (4, .int (Int32.ofInt x4)), (5, .int (Int32.ofInt x5)), (6, .int (Int32.ofInt x6)), (7, .int (Int32.ofInt x7))]) (st' := [.int (Int32.ofInt (s.1 17 x1)), .int (Int32.ofInt x6)]) rfl ?_
      refine lf_ishr 79 rfl rfl ?_
      refine lf_seg 1 (pc' := 80) (lv' := [(0, .ref 68), (1, .int (Int32.ofInt x1)), (3, .int (Int32.ofInt x3)), (4, .int (Int32.ofInt x4)), (5, .int (Int32.ofInt x5)), (6, .int (Int32.ofInt x6)), (7, .int (Int32.ofInt x7))]) (st' := [.int (Int32.ofInt 1), .int (Int32.ofInt (lf_shr x6 (s.1 17 x1)))]) rfl ?_
      refine lf_iand 81 rfl rfl ?_
      refine lf_if_ne 97 84 rfl rfl rfl lf_Rand (fun c => ?_) (fun c => ?_)
      · have h := h.1 c
        refine lf_sub (l := [(0, .ref 68), (1, .int (Int32.ofInt x1)), (3, .int (Int32.ofInt x3)), (4, .int (Int32.ofInt x4)), (5, .int (Int32.ofInt x5)), (6, .int (Int32.ofInt x6)), (7, .int (Int32.ofInt x7))]) (lf_sb1 rfl (lf_sb1 rfl (lf_sb1 rfl (lf_sb1 rfl (lf_sb1 rfl (lf_sb1 rfl (lf_sb1 rfl lf_sb0))))))) ?_
        exact gm_131_p97 hX29 hX46 h
      · have h := h.2 c
        refine lf_seg 2 (pc' := 86) (lv' := [(0, .ref 68), (1, .int (Int32.ofInt x1)), (3, .int (Int32.ofInt x3)), (4, .int (Int32.ofInt x4)), (5, .int (Int32.ofInt x5)), (6, .int (Int32.ofInt x6)), (7, .int (Int32.ofInt x7))]) (st' := [.int (Int32.ofInt x1), .ref 68]) rfl ?_
        refine lf_callI 89 rfl rfl rfl rfl (gm_128 h) (fun r33 s32 h => ?_)
        refine lf_seg 1 (pc' := 90) (lv' := [(0, .ref 68), (1, .int (Int32.ofInt x1)), (3, .int (Int32.ofInt x3)), (4, .int (Int32.ofInt x4)), (5, .int (Int32.ofInt x5)), (6, .int (Int32.ofInt x6)), (7, .int (Int32.ofInt x7))]) (st' := [.int (Int32.ofInt x3), .int (Int32.ofInt r33)]) rfl ?_
        refine lf_iand 91 rfl rfl ?_
        refine lf_if_ne 97 94 rfl rfl rfl lf_Rand (fun c => ?_) (fun c => ?_)
        · have h := h.1 c
          refine lf_sub (l := [(0, .ref 68), (1, .int (Int32.ofInt x1)), (3, .int (Int32.ofInt x3)), (4, .int (Int32.ofInt x4)), (5, .int (Int32.ofInt x5)), (6, .int (Int32.ofInt x6)), (7, .int (Int32.ofInt x7))]) (lf_sb1 rfl (lf_sb1 rfl (lf_sb1 rfl (lf_sb1 rfl (lf_sb1 rfl (lf_sb1 rfl (lf_sb1 rfl lf_sb0))))))) ?_
          exact gm_131_p97 hX29 hX46 h
        · have h := h.2 c
          refine lf_seg 1 (pc' := 96) (lv' := [(0, .ref 68), (1, .int (Int32.ofInt x1)), (3, .int (Int32.ofInt x3)), (4, .int (Int32.ofInt x4)), (5, .int (Int32.ofInt x5)), (6, .int (Int32.ofInt x6)), (7, .int (Int32.ofInt x7))]) (st' := [.int (Int32.ofInt x6)]) rfl ?_
          exact lf_retI rfl rfl h
theorem gm_131_p46L {L : Nat} {xs : Nat → Int32} {d : Nat} {X29 : Int → lf_Z → Prop} {Q : Int → lf_Z → Prop} {x1 : Int} {x3 : Int} {x4 : Int} {x5 : Int} {x6 : Int} {x7 : Int} {s : lf_Z} (hX29 : ∀ x5 s, X29 x5 s → lf_E (px_ro L xs) (d + 7) 131 29 [(0, .ref 68), (1, .int (Int32.ofInt x1)), (3, .int (Int32.ofInt x3)), (4, .int (Int32.ofInt x4)), (5, .int (Int32.ofInt x5))] [] s (lf_qi Q)) (h : fm_131_p46L X29 Q x1 x3 x4 x5 x6 x7 s) : lf_E (px_ro L xs) (d + 7) 131 46 [(0, .ref 68), (1, .int (Int32.ofInt x1)), (3, .int (Int32.ofInt x3)), (4, .int (Int32.ofInt x4)), (5, .int (Int32.ofInt x5)), (6, .int (Int32.ofInt x6)), (7, .int (Int32.ofInt x7))] [] s (lf_qi Q) :=
  h (fun x6 x7 s => lf_E (px_ro L xs) (d + 7) 131 46 [(0, .ref 68), (1, .int (Int32.ofInt x1)), (3, .int (Int32.ofInt x3)), (4, .int (Int32.ofInt x4)), (5, .int (Int32.ofInt x5)), (6, .int (Int32.ofInt x6)), (7, .int (Int32.ofInt x7))] [] s (lf_qi Q)) (fun x6 x7 s hb => gm_131_p46 hX29 (fun _ _ _ h => h) hb)
def fm_131_p29 (Q : Int → lf_Z → Prop) (x1 : Int) (x3 : Int) (x4 : Int) (X29 : Int → lf_Z → Prop) (x5 : Int) (s : lf_Z) : Prop := lf_R x5 ∧ ((3 < x5 → (Q (-1) s)) ∧ (¬ (3 < x5) → (fm_131_p46L X29 Q x1 x3 x4 x5 ((lf_shl 1 x5) - 1) 0 s)))
def fm_131_p29L (Q : Int → lf_Z → Prop) (x1 : Int) (x3 : Int) (x4 : Int) (x5 : Int) (s : lf_Z) : Prop := ∀ X29 : Int → lf_Z → Prop, (∀ (x5 : Int) (s : lf_Z), fm_131_p29 Q x1 x3 x4 X29 x5 s → X29 x5 s) → X29 x5 s
set_option maxRecDepth 100000 in
theorem gm_131_p29 {L : Nat} {xs : Nat → Int32} {d : Nat} {Q : Int → lf_Z → Prop} {x1 : Int} {x3 : Int} {x4 : Int} {x5 : Int} {s : lf_Z} {X29 : Int → lf_Z → Prop} (hX29 : ∀ x5 s, X29 x5 s → lf_E (px_ro L xs) (d + 7) 131 29 [(0, .ref 68), (1, .int (Int32.ofInt x1)), (3, .int (Int32.ofInt x3)), (4, .int (Int32.ofInt x4)), (5, .int (Int32.ofInt x5))] [] s (lf_qi Q)) (h : fm_131_p29 Q x1 x3 x4 X29 x5 s) : lf_E (px_ro L xs) (d + 7) 131 29 [(0, .ref 68), (1, .int (Int32.ofInt x1)), (3, .int (Int32.ofInt x3)), (4, .int (Int32.ofInt x4)), (5, .int (Int32.ofInt x5))] [] s (lf_qi Q) := by
  unfold fm_131_p29 at h
  refine lf_seg 2 (pc' := 32) (lv' := [(0, .ref 68), (1, .int (Int32.ofInt x1)), (3, .int (Int32.ofInt x3)), (4, .int (Int32.ofInt x4)), (5, .int (Int32.ofInt x5))]) (st' := [.int (Int32.ofInt 3), .int (Int32.ofInt x5)]) rfl ?_
  obtain ⟨o24, h⟩ := h
  refine lf_icmp_gt 126 35 rfl rfl rfl o24 ⟨by decide, by decide⟩ (fun c => ?_) (fun c => ?_)
  · have h := h.1 c
    refine lf_seg 1 (pc' := 127) (lv' := [(0, .ref 68), (1, .int (Int32.ofInt x1)), (3, .int (Int32.ofInt x3)), (4, .int (Int32.ofInt x4)), (5, .int (Int32.ofInt x5))]) (st' := [.int (Int32.ofInt (-1))]) rfl ?_
    exact lf_retI rfl rfl h
  · have h := h.2 c
    refine lf_seg 2 (pc' := 38) (lv' := [(0, .ref 68), (1, .int (Int32.ofInt x1)), (3, .int (Int32.ofInt x3)), (4, .int (Int32.ofInt x4)), (5, .int (Int32.ofInt x5))]) (st' := [.int (Int32.ofInt x5), .int (Int32.ofInt 1)]) rfl ?_
    refine lf_ishl 39 rfl rfl ?_
    refine lf_seg 1 (pc' := 40) (lv' := [(0, .ref 68), (1, .int (Int32.ofInt x1)), (3, .int (Int32.ofInt x3)), (4, .int (Int32.ofInt x4)), (5, .int (Int32.ofInt x5))]) (st' := [.int (Int32.ofInt 1), .int (Int32.ofInt (lf_shl 1 x5))]) rfl ?_
    refine lf_isub 41 rfl rfl ?_
    refine lf_seg 3 (pc' := 46) (lv' := [(7, .int (Int32.ofInt 0)), (6, .int (Int32.ofInt ((lf_shl 1 x5) - 1))), (0, .ref 68), (1, .int (Int32.ofInt x1)), (3, .int (Int32.ofInt x3)), (4, .int (Int32.ofInt x4)), (5, .int (Int32.ofInt x5))]) (st' := []) rfl ?_
    refine lf_sub (l := [(0, .ref 68), (1, .int (Int32.ofInt x1)), (3, .int (Int32.ofInt x3)), (4, .int (Int32.ofInt x4)), (5, .int (Int32.ofInt x5)), (6, .int (Int32.ofInt ((lf_shl 1 x5) - 1))), (7, .int (Int32.ofInt 0))]) (lf_sb1 rfl (lf_sb1 rfl (lf_sb1 rfl (lf_sb1 rfl (lf_sb1 rfl (lf_sb1 rfl (lf_sb1 rfl lf_sb0))))))) ?_
    exact gm_131_p46L hX29 h
theorem gm_131_p29L {L : Nat} {xs : Nat → Int32} {d : Nat} {Q : Int → lf_Z → Prop} {x1 : Int} {x3 : Int} {x4 : Int} {x5 : Int} {s : lf_Z} (h : fm_131_p29L Q x1 x3 x4 x5 s) : lf_E (px_ro L xs) (d + 7) 131 29 [(0, .ref 68), (1, .int (Int32.ofInt x1)), (3, .int (Int32.ofInt x3)), (4, .int (Int32.ofInt x4)), (5, .int (Int32.ofInt x5))] [] s (lf_qi Q) :=
  h (fun x5 s => lf_E (px_ro L xs) (d + 7) 131 29 [(0, .ref 68), (1, .int (Int32.ofInt x1)), (3, .int (Int32.ofInt x3)), (4, .int (Int32.ofInt x4)), (5, .int (Int32.ofInt x5))] [] s (lf_qi Q)) (fun x5 s hb => gm_131_p29 (fun _ _ h => h) hb)
def fm_131 (a1 : Int) (a2 : Int) (Q : Int → lf_Z → Prop) (s : lf_Z) : Prop := fm_118 a1 a2 (fun s21 => (fm_132 2 (fun r23 s22 => (fm_131_p29L Q a1 r23 (lf_shl 1 (s22.1 1 0)) 0 s22)) s21)) s
set_option maxRecDepth 100000 in
theorem gm_131 {L : Nat} {xs : Nat → Int32} {d : Nat} {a1 : Int} {a2 : Int} {Q : Int → lf_Z → Prop} {s : lf_Z} (h : fm_131 a1 a2 Q s) : lf_M (px_ro L xs) (d + 7) 131 [.ref 68, .int (Int32.ofInt a1), .int (Int32.ofInt a2)] s (lf_qi Q) := by
  unfold fm_131 at h
  show lf_E (px_ro L xs) (d + 7) 131 0 [(0, .ref 68), (1, .int (Int32.ofInt a1)), (2, .int (Int32.ofInt a2))] [] s _
  refine lf_seg 3 (pc' := 3) (lv' := [(0, .ref 68), (1, .int (Int32.ofInt a1)), (2, .int (Int32.ofInt a2))]) (st' := [.int (Int32.ofInt a2), .int (Int32.ofInt a1), .ref 68]) rfl ?_
  refine lf_callV 6 rfl rfl rfl rfl (gm_118 h) (fun s21 h => ?_)
  refine lf_seg 3 (pc' := 11) (lv' := [(0, .ref 68), (1, .int (Int32.ofInt a1)), (2, .int (Int32.ofInt a2))]) (st' := [.int (Int32.ofInt 2), .ref 1]) rfl ?_
  refine lf_callI 14 rfl rfl rfl rfl (gm_132 h) (fun r23 s22 h => ?_)
  refine lf_seg 4 (pc' := 20) (lv' := [(3, .int (Int32.ofInt r23)), (0, .ref 68), (1, .int (Int32.ofInt a1)), (2, .int (Int32.ofInt a2))]) (st' := [.ref 1, .int (Int32.ofInt 1)]) rfl ?_
  refine lf_getI 23 0 rfl rfl rfl rfl rfl rfl rfl ?_
  refine lf_ishl 24 rfl rfl ?_
  refine lf_seg 3 (pc' := 29) (lv' := [(5, .int (Int32.ofInt 0)), (4, .int (Int32.ofInt (lf_shl 1 (s22.1 1 0)))), (3, .int (Int32.ofInt r23)), (0, .ref 68), (1, .int (Int32.ofInt a1)), (2, .int (Int32.ofInt a2))]) (st' := []) rfl ?_
  refine lf_sub (l := [(0, .ref 68), (1, .int (Int32.ofInt a1)), (3, .int (Int32.ofInt r23)), (4, .int (Int32.ofInt (lf_shl 1 (s22.1 1 0)))), (5, .int (Int32.ofInt 0))]) (lf_sb1 rfl (lf_sb1 rfl (lf_sb1 rfl (lf_sb1 rfl (lf_sb1 rfl lf_sb0))))) ?_
  exact gm_131_p29L h
-- fm_130 ElevenBullocks.stopped 0 i i
def fm_130 (a1 : Int) (a2 : Int) (Q : Int → lf_Z → Prop) (s : lf_Z) : Prop := fm_80 a1 (fun z22 s21 => ((z22 = false → (Q (-1) s21)) ∧ (z22 = true → (fm_15 a2 0 9 (fun z24 s23 => ((z24 = true → (fm_131 a1 a2 (fun r26 s25 => (Q r26 s25)) s23)) ∧ (z24 = false → (Q (-1) s23)))) s21)))) s
set_option maxRecDepth 100000 in
theorem gm_130 {L : Nat} {xs : Nat → Int32} {d : Nat} {a1 : Int} {a2 : Int} {Q : Int → lf_Z → Prop} {s : lf_Z} (h : fm_130 a1 a2 Q s) : lf_M (px_ro L xs) (d + 8) 130 [.ref 0, .int (Int32.ofInt a1), .int (Int32.ofInt a2)] s (lf_qi Q) := by
  unfold fm_130 at h
  show lf_E (px_ro L xs) (d + 8) 130 0 [(0, .ref 0), (1, .int (Int32.ofInt a1)), (2, .int (Int32.ofInt a2))] [] s _
  refine lf_seg 3 (pc' := 5) (lv' := [(0, .ref 0), (1, .int (Int32.ofInt a1)), (2, .int (Int32.ofInt a2))]) (st' := [.int (Int32.ofInt a1), .ref 15]) rfl ?_
  refine lf_callZ 8 rfl rfl rfl rfl (gm_80 h) (fun z22 s21 h => ?_)
  refine lf_ifz_eq 21 11 rfl rfl rfl (fun c => ?_) (fun c => ?_)
  · have h := h.1 c
    refine lf_seg 1 (pc' := 22) (lv' := [(0, .ref 0), (1, .int (Int32.ofInt a1)), (2, .int (Int32.ofInt a2))]) (st' := [.int (Int32.ofInt (-1))]) rfl ?_
    exact lf_retI rfl rfl h
  · have h := h.2 c
    refine lf_seg 2 (pc' := 13) (lv' := [(0, .ref 0), (1, .int (Int32.ofInt a1)), (2, .int (Int32.ofInt a2))]) (st' := [.int (Int32.ofInt 0), .int (Int32.ofInt a2)]) rfl ?_
    refine lf_bipush 15 9 rfl rfl (by decide) (by decide) ?_
    refine lf_callZ 18 rfl rfl rfl rfl (gm_15 h) (fun z24 s23 h => ?_)
    refine lf_ifz_ne 23 21 rfl rfl rfl (fun c => ?_) (fun c => ?_)
    · have h := h.1 c
      refine lf_seg 4 (pc' := 29) (lv' := [(0, .ref 0), (1, .int (Int32.ofInt a1)), (2, .int (Int32.ofInt a2))]) (st' := [.int (Int32.ofInt a2), .int (Int32.ofInt a1), .ref 68]) rfl ?_
      refine lf_callI 32 rfl rfl rfl rfl (gm_131 h) (fun r26 s25 h => ?_)
      exact lf_retI rfl rfl h
    · have h := h.2 c
      refine lf_seg 1 (pc' := 22) (lv' := [(0, .ref 0), (1, .int (Int32.ofInt a1)), (2, .int (Int32.ofInt a2))]) (st' := [.int (Int32.ofInt (-1))]) rfl ?_
      exact lf_retI rfl rfl h
-- fm_296 Model.ofKind 95 i i
def fm_296_p44 (X5 : Int → Int → lf_Z → Prop) (Q : Int → lf_Z → Prop) (x1 : Int) (x2 : Int) (x4 : Int) (y0 : Int) (y1 : Int) (s : lf_Z) : Prop := X5 (lf_or y0 y1) (x4 + 1) s
set_option maxRecDepth 100000 in
theorem gm_296_p44 {L : Nat} {xs : Nat → Int32} {d : Nat} {X5 : Int → Int → lf_Z → Prop} {Q : Int → lf_Z → Prop} {x1 : Int} {x2 : Int} {x4 : Int} {y0 : Int} {y1 : Int} {s : lf_Z} (hX5 : ∀ x3 x4 s, X5 x3 x4 s → lf_E (px_ro L xs) (d + 2) 296 5 [(0, .ref 95), (1, .int (Int32.ofInt x1)), (2, .int (Int32.ofInt x2)), (3, .int (Int32.ofInt x3)), (4, .int (Int32.ofInt x4))] [] s (lf_qi Q)) (h : fm_296_p44 X5 Q x1 x2 x4 y0 y1 s) : lf_E (px_ro L xs) (d + 2) 296 44 [(0, .ref 95), (1, .int (Int32.ofInt x1)), (2, .int (Int32.ofInt x2)), (4, .int (Int32.ofInt x4))] [.int (Int32.ofInt y1), .int (Int32.ofInt y0)] s (lf_qi Q) := by
  unfold fm_296_p44 at h
  refine lf_ior 45 rfl rfl ?_
  refine lf_seg 1 (pc' := 46) (lv' := [(3, .int (Int32.ofInt (lf_or y0 y1))), (0, .ref 95), (1, .int (Int32.ofInt x1)), (2, .int (Int32.ofInt x2)), (4, .int (Int32.ofInt x4))]) (st' := []) rfl ?_
  refine lf_iinc 49 rfl rfl rfl rfl ?_
  refine lf_seg 1 (pc' := 5) (lv' := [(4, .int (Int32.ofInt (x4 + 1))), (3, .int (Int32.ofInt (lf_or y0 y1))), (0, .ref 95), (1, .int (Int32.ofInt x1)), (2, .int (Int32.ofInt x2))]) (st' := []) rfl ?_
  refine lf_sub (l := [(0, .ref 95), (1, .int (Int32.ofInt x1)), (2, .int (Int32.ofInt x2)), (3, .int (Int32.ofInt (lf_or y0 y1))), (4, .int (Int32.ofInt (x4 + 1)))]) (lf_sb1 rfl (lf_sb1 rfl (lf_sb1 rfl (lf_sb1 rfl (lf_sb1 rfl lf_sb0))))) ?_
  exact hX5 _ _ _ h
def fm_296_p43 (X5 : Int → Int → lf_Z → Prop) (Q : Int → lf_Z → Prop) (x1 : Int) (x2 : Int) (x4 : Int) (y0 : Int) (s : lf_Z) : Prop := fm_296_p44 X5 Q x1 x2 x4 y0 0 s
set_option maxRecDepth 100000 in
theorem gm_296_p43 {L : Nat} {xs : Nat → Int32} {d : Nat} {X5 : Int → Int → lf_Z → Prop} {Q : Int → lf_Z → Prop} {x1 : Int} {x2 : Int} {x4 : Int} {y0 : Int} {s : lf_Z} (hX5 : ∀ x3 x4 s, X5 x3 x4 s → lf_E (px_ro L xs) (d + 2) 296 5 [(0, .ref 95), (1, .int (Int32.ofInt x1)), (2, .int (Int32.ofInt x2)), (3, .int (Int32.ofInt x3)), (4, .int (Int32.ofInt x4))] [] s (lf_qi Q)) (h : fm_296_p43 X5 Q x1 x2 x4 y0 s) : lf_E (px_ro L xs) (d + 2) 296 43 [(0, .ref 95), (1, .int (Int32.ofInt x1)), (2, .int (Int32.ofInt x2)), (4, .int (Int32.ofInt x4))] [.int (Int32.ofInt y0)] s (lf_qi Q) := by
  unfold fm_296_p43 at h
  refine lf_seg 1 (pc' := 44) (lv' := [(0, .ref 95), (1, .int (Int32.ofInt x1)), (2, .int (Int32.ofInt x2)), (4, .int (Int32.ofInt x4))]) (st' := [.int (Int32.ofInt 0), .int (Int32.ofInt y0)]) rfl ?_
  refine lf_sub (l := [(0, .ref 95), (1, .int (Int32.ofInt x1)), (2, .int (Int32.ofInt x2)), (4, .int (Int32.ofInt x4))]) (lf_sb1 rfl (lf_sb1 rfl (lf_sb1 rfl (lf_sb1 rfl lf_sb0)))) ?_
  exact gm_296_p44 hX5 h
def fm_296_p5 (Q : Int → lf_Z → Prop) (x1 : Int) (x2 : Int) (X5 : Int → Int → lf_Z → Prop) (x3 : Int) (x4 : Int) (s : lf_Z) : Prop := lf_R x4 ∧ (lf_R (s.1 96 0) ∧ ((s.1 96 0 ≤ x4 → (Q x3 s)) ∧ (¬ (s.1 96 0 ≤ x4) → (fm_210 x1 x4 (fun z24 s23 => ((z24 = false → (fm_296_p43 X5 Q x1 x2 x4 x3 s23)) ∧ (z24 = true → (fm_265 x4 (fun r26 s25 => (lf_R r26 ∧ (lf_R x2 ∧ ((r26 ≠ x2 → (fm_296_p43 X5 Q x1 x2 x4 x3 s25)) ∧ (¬ (r26 ≠ x2) → (fm_296_p44 X5 Q x1 x2 x4 x3 (lf_shl 1 x4) s25)))))) s23)))) s))))
def fm_296_p5L (Q : Int → lf_Z → Prop) (x1 : Int) (x2 : Int) (x3 : Int) (x4 : Int) (s : lf_Z) : Prop := ∀ X5 : Int → Int → lf_Z → Prop, (∀ (x3 : Int) (x4 : Int) (s : lf_Z), fm_296_p5 Q x1 x2 X5 x3 x4 s → X5 x3 x4 s) → X5 x3 x4 s
set_option maxRecDepth 100000 in
theorem gm_296_p5 {L : Nat} {xs : Nat → Int32} {d : Nat} {Q : Int → lf_Z → Prop} {x1 : Int} {x2 : Int} {x3 : Int} {x4 : Int} {s : lf_Z} {X5 : Int → Int → lf_Z → Prop} (hX5 : ∀ x3 x4 s, X5 x3 x4 s → lf_E (px_ro L xs) (d + 2) 296 5 [(0, .ref 95), (1, .int (Int32.ofInt x1)), (2, .int (Int32.ofInt x2)), (3, .int (Int32.ofInt x3)), (4, .int (Int32.ofInt x4))] [] s (lf_qi Q)) (h : fm_296_p5 Q x1 x2 X5 x3 x4 s) : lf_E (px_ro L xs) (d + 2) 296 5 [(0, .ref 95), (1, .int (Int32.ofInt x1)), (2, .int (Int32.ofInt x2)), (3, .int (Int32.ofInt x3)), (4, .int (Int32.ofInt x4))] [] s (lf_qi Q) := by
  unfold fm_296_p5 at h
  refine lf_seg 4 (pc' := 12) (lv' := [(0, .ref 95), (1, .int (Int32.ofInt x1)), (2, .int (Int32.ofInt x2)), (3, .int (Int32.ofInt x3)), (4, .int (Int32.ofInt x4))]) (st' := [.int (Int32.ofInt 0), .ref 96, .int (Int32.ofInt x4)]) rfl ?_
  refine lf_iald 13 1538 rfl rfl rfl rfl rfl rfl ⟨by decide, by decide⟩ ?_
  obtain ⟨o21, h⟩ := h
  obtain ⟨o22, h⟩ := h
  refine lf_icmp_ge 52 16 rfl rfl rfl o21 o22 (fun c => ?_) (fun c => ?_)
  · have h := h.1 c
    refine lf_seg 1 (pc' := 53) (lv' := [(0, .ref 95), (1, .int (Int32.ofInt x1)), (2, .int (Int32.ofInt x2)), (3, .int (Int32.ofInt x3)), (4, .int (Int32.ofInt x4))]) (st' := [.int (Int32.ofInt x3)]) rfl ?_
    exact lf_retI rfl rfl h
  · have h := h.2 c
    refine lf_seg 3 (pc' := 20) (lv' := [(0, .ref 95), (1, .int (Int32.ofInt x1)), (2, .int (Int32.ofInt x2)), (3, .int (Int32.ofInt x3)), (4, .int (Int32.ofInt x4))]) (st' := [.int (Int32.ofInt x4), .int (Int32.ofInt x1), .int (Int32.ofInt x3)]) rfl ?_
    refine lf_callZ 23 rfl rfl rfl rfl (gm_210 h) (fun z24 s23 h => ?_)
    refine lf_ifz_eq 43 26 rfl rfl rfl (fun c => ?_) (fun c => ?_)
    · have h := h.1 c
      refine lf_sub (l := [(0, .ref 95), (1, .int (Int32.ofInt x1)), (2, .int (Int32.ofInt x2)), (4, .int (Int32.ofInt x4))]) (lf_sb1 rfl (lf_sb1 rfl (lf_sb1 rfl (lf_sb1 rfl lf_sb0)))) ?_
      exact gm_296_p43 hX5 h
    · have h := h.2 c
      refine lf_seg 2 (pc' := 29) (lv' := [(0, .ref 95), (1, .int (Int32.ofInt x1)), (2, .int (Int32.ofInt x2)), (3, .int (Int32.ofInt x3)), (4, .int (Int32.ofInt x4))]) (st' := [.int (Int32.ofInt x4), .ref 95, .int (Int32.ofInt x3)]) rfl ?_
      refine lf_callI 32 rfl rfl rfl rfl (gm_265 h) (fun r26 s25 h => ?_)
      refine lf_seg 1 (pc' := 33) (lv' := [(0, .ref 95), (1, .int (Int32.ofInt x1)), (2, .int (Int32.ofInt x2)), (3, .int (Int32.ofInt x3)), (4, .int (Int32.ofInt x4))]) (st' := [.int (Int32.ofInt x2), .int (Int32.ofInt r26), .int (Int32.ofInt x3)]) rfl ?_
      obtain ⟨o27, h⟩ := h
      obtain ⟨o28, h⟩ := h
      refine lf_icmp_ne 43 36 rfl rfl rfl o27 o28 (fun c => ?_) (fun c => ?_)
      · have h := h.1 c
        refine lf_sub (l := [(0, .ref 95), (1, .int (Int32.ofInt x1)), (2, .int (Int32.ofInt x2)), (4, .int (Int32.ofInt x4))]) (lf_sb1 rfl (lf_sb1 rfl (lf_sb1 rfl (lf_sb1 rfl lf_sb0)))) ?_
        exact gm_296_p43 hX5 h
      · have h := h.2 c
        refine lf_seg 2 (pc' := 39) (lv' := [(0, .ref 95), (1, .int (Int32.ofInt x1)), (2, .int (Int32.ofInt x2)), (3, .int (Int32.ofInt x3)), (4, .int (Int32.ofInt x4))]) (st' := [.int (Int32.ofInt x4), .int (Int32.ofInt 1), .int (Int32.ofInt x3)]) rfl ?_
        refine lf_ishl 40 rfl rfl ?_
        refine lf_seg 1 (pc' := 44) (lv' := [(0, .ref 95), (1, .int (Int32.ofInt x1)), (2, .int (Int32.ofInt x2)), (3, .int (Int32.ofInt x3)), (4, .int (Int32.ofInt x4))]) (st' := [.int (Int32.ofInt (lf_shl 1 x4)), .int (Int32.ofInt x3)]) rfl ?_
        refine lf_sub (l := [(0, .ref 95), (1, .int (Int32.ofInt x1)), (2, .int (Int32.ofInt x2)), (4, .int (Int32.ofInt x4))]) (lf_sb1 rfl (lf_sb1 rfl (lf_sb1 rfl (lf_sb1 rfl lf_sb0)))) ?_
        exact gm_296_p44 hX5 h
theorem gm_296_p5L {L : Nat} {xs : Nat → Int32} {d : Nat} {Q : Int → lf_Z → Prop} {x1 : Int} {x2 : Int} {x3 : Int} {x4 : Int} {s : lf_Z} (h : fm_296_p5L Q x1 x2 x3 x4 s) : lf_E (px_ro L xs) (d + 2) 296 5 [(0, .ref 95), (1, .int (Int32.ofInt x1)), (2, .int (Int32.ofInt x2)), (3, .int (Int32.ofInt x3)), (4, .int (Int32.ofInt x4))] [] s (lf_qi Q) :=
  h (fun x3 x4 s => lf_E (px_ro L xs) (d + 2) 296 5 [(0, .ref 95), (1, .int (Int32.ofInt x1)), (2, .int (Int32.ofInt x2)), (3, .int (Int32.ofInt x3)), (4, .int (Int32.ofInt x4))] [] s (lf_qi Q)) (fun x3 x4 s hb => gm_296_p5 (fun _ _ _ h => h) hb)
def fm_296 (a1 : Int) (a2 : Int) (Q : Int → lf_Z → Prop) (s : lf_Z) : Prop := fm_296_p5L Q a1 a2 0 0 s
set_option maxRecDepth 100000 in
theorem gm_296 {L : Nat} {xs : Nat → Int32} {d : Nat} {a1 : Int} {a2 : Int} {Q : Int → lf_Z → Prop} {s : lf_Z} (h : fm_296 a1 a2 Q s) : lf_M (px_ro L xs) (d + 2) 296 [.ref 95, .int (Int32.ofInt a1), .int (Int32.ofInt a2)] s (lf_qi Q) := by
  unfold fm_296 at h
  show lf_E (px_ro L xs) (d + 2) 296 0 [(0, .ref 95), (1, .int (Int32.ofInt a1)), (2, .int (Int32.ofInt a2))] [] s _
  refine lf_seg 4 (pc' := 5) (lv' := [(4, .int (Int32.ofInt 0)), (3, .int (Int32.ofInt 0)), (0, .ref 95), (1, .int (Int32.ofInt a1)), (2, .int (Int32.ofInt a2))]) (st' := []) rfl ?_
  refine lf_sub (l := [(0, .ref 95), (1, .int (Int32.ofInt a1)), (2, .int (Int32.ofInt a2)), (3, .int (Int32.ofInt 0)), (4, .int (Int32.ofInt 0))]) (lf_sb1 rfl (lf_sb1 rfl (lf_sb1 rfl (lf_sb1 rfl (lf_sb1 rfl lf_sb0))))) ?_
  exact gm_296_p5L h
-- fm_295 Model.stopped 95 i i
def fm_295_p120 (Q : Int → lf_Z → Prop) (x3 : Int) (s : lf_Z) : Prop := Q x3 (lf_up s.1 95 29 0, s.2.1, s.2.2)
set_option maxRecDepth 100000 in
theorem gm_295_p120 {L : Nat} {xs : Nat → Int32} {d : Nat} {Q : Int → lf_Z → Prop} {x3 : Int} {s : lf_Z} (h : fm_295_p120 Q x3 s) : lf_E (px_ro L xs) (d + 7) 295 120 [(0, .ref 95), (3, .int (Int32.ofInt x3))] [] s (lf_qi Q) := by
  unfold fm_295_p120 at h
  refine lf_seg 2 (pc' := 122) (lv' := [(0, .ref 95), (3, .int (Int32.ofInt x3))]) (st' := [.int (Int32.ofInt 0), .ref 95]) rfl ?_
  refine lf_putI 125 29 rfl rfl rfl rfl rfl rfl rfl rfl ?_
  refine lf_as (lf_up s.1 95 29 0, s.2.1, s.2.2) rfl ?_
  refine lf_seg 1 (pc' := 126) (lv' := [(0, .ref 95), (3, .int (Int32.ofInt x3))]) (st' := [.int (Int32.ofInt x3)]) rfl ?_
  exact lf_retI rfl rfl h
def fm_295_p114 (X30 : Int → Int → lf_Z → Prop) (Q : Int → lf_Z → Prop) (x1 : Int) (x3 : Int) (x4 : Int) (s : lf_Z) : Prop := X30 x3 (x4 + 1) s
set_option maxRecDepth 100000 in
theorem gm_295_p114 {L : Nat} {xs : Nat → Int32} {d : Nat} {X30 : Int → Int → lf_Z → Prop} {Q : Int → lf_Z → Prop} {x1 : Int} {x3 : Int} {x4 : Int} {s : lf_Z} (hX30 : ∀ x3 x4 s, X30 x3 x4 s → lf_E (px_ro L xs) (d + 7) 295 30 [(0, .ref 95), (1, .int (Int32.ofInt x1)), (3, .int (Int32.ofInt x3)), (4, .int (Int32.ofInt x4))] [] s (lf_qi Q)) (h : fm_295_p114 X30 Q x1 x3 x4 s) : lf_E (px_ro L xs) (d + 7) 295 114 [(0, .ref 95), (1, .int (Int32.ofInt x1)), (3, .int (Int32.ofInt x3)), (4, .int (Int32.ofInt x4))] [] s (lf_qi Q) := by
  unfold fm_295_p114 at h
  refine lf_iinc 117 rfl rfl rfl rfl ?_
  refine lf_seg 1 (pc' := 30) (lv' := [(4, .int (Int32.ofInt (x4 + 1))), (0, .ref 95), (1, .int (Int32.ofInt x1)), (3, .int (Int32.ofInt x3))]) (st' := []) rfl ?_
  refine lf_sub (l := [(0, .ref 95), (1, .int (Int32.ofInt x1)), (3, .int (Int32.ofInt x3)), (4, .int (Int32.ofInt (x4 + 1)))]) (lf_sb1 rfl (lf_sb1 rfl (lf_sb1 rfl (lf_sb1 rfl lf_sb0)))) ?_
  exact hX30 _ _ _ h
def fm_295_p108 (X30 : Int → Int → lf_Z → Prop) (X43 : Int → Int → lf_Z → Prop) (Q : Int → lf_Z → Prop) (x1 : Int) (x3 : Int) (x4 : Int) (x5 : Int) (s : lf_Z) : Prop := X43 x3 (x5 + 1) s
set_option maxRecDepth 100000 in
theorem gm_295_p108 {L : Nat} {xs : Nat → Int32} {d : Nat} {X30 : Int → Int → lf_Z → Prop} {X43 : Int → Int → lf_Z → Prop} {Q : Int → lf_Z → Prop} {x1 : Int} {x3 : Int} {x4 : Int} {x5 : Int} {s : lf_Z} (hX30 : ∀ x3 x4 s, X30 x3 x4 s → lf_E (px_ro L xs) (d + 7) 295 30 [(0, .ref 95), (1, .int (Int32.ofInt x1)), (3, .int (Int32.ofInt x3)), (4, .int (Int32.ofInt x4))] [] s (lf_qi Q)) (hX43 : ∀ x3 x5 s, X43 x3 x5 s → lf_E (px_ro L xs) (d + 7) 295 43 [(0, .ref 95), (1, .int (Int32.ofInt x1)), (3, .int (Int32.ofInt x3)), (4, .int (Int32.ofInt x4)), (5, .int (Int32.ofInt x5))] [] s (lf_qi Q)) (h : fm_295_p108 X30 X43 Q x1 x3 x4 x5 s) : lf_E (px_ro L xs) (d + 7) 295 108 [(0, .ref 95), (1, .int (Int32.ofInt x1)), (3, .int (Int32.ofInt x3)), (4, .int (Int32.ofInt x4)), (5, .int (Int32.ofInt x5))] [] s (lf_qi Q) := by
  unfold fm_295_p108 at h
  refine lf_iinc 111 rfl rfl rfl rfl ?_
  refine lf_seg 1 (pc' := 43) (lv' := [(5, .int (Int32.ofInt (x5 + 1))), (0, .ref 95), (1, .int (Int32.ofInt x1)), (3, .int (Int32.ofInt x3)), (4, .int (Int32.ofInt x4))]) (st' := []) rfl ?_
  refine lf_sub (l := [(0, .ref 95), (1, .int (Int32.ofInt x1)), (3, .int (Int32.ofInt x3)), (4, .int (Int32.ofInt x4)), (5, .int (Int32.ofInt (x5 + 1)))]) (lf_sb1 rfl (lf_sb1 rfl (lf_sb1 rfl (lf_sb1 rfl (lf_sb1 rfl lf_sb0))))) ?_
  exact hX43 _ _ _ h
def fm_295_p43 (X30 : Int → Int → lf_Z → Prop) (Q : Int → lf_Z → Prop) (x1 : Int) (x4 : Int) (X43 : Int → Int → lf_Z → Prop) (x3 : Int) (x5 : Int) (s : lf_Z) : Prop := lf_R x5 ∧ ((lf_shl 1 (s.1 96 0) ≤ x5 → (fm_295_p114 X30 Q x1 x3 x4 s)) ∧ (¬ (lf_shl 1 (s.1 96 0) ≤ x5) → (lf_R x3 ∧ ((0 ≤ x3 → (fm_295_p114 X30 Q x1 x3 x4 s)) ∧ (¬ (0 ≤ x3) → (fm_188 x5 (fun r30 s29 => (lf_R r30 ∧ (lf_R x4 ∧ ((r30 ≠ x4 → (fm_295_p108 X30 X43 Q x1 x3 x4 x5 s29)) ∧ (¬ (r30 ≠ x4) → (fm_255 x1 (fun r34 s33 => (fm_210 x5 r34 (fun z36 s35 => ((z36 = false → (fm_294 x1 (fun r38 s37 => (fm_296 r38 2 (fun r40 s39 => (lf_R r40 ∧ ((r40 ≠ 0 → (fm_295_p108 X30 X43 Q x1 x3 x4 x5 s39)) ∧ (¬ (r40 ≠ 0) → (fm_295_p108 X30 X43 Q x1 x5 x4 x5 s39))))) s37)) (lf_up s35.1 95 29 x5, s35.2.1, s35.2.2))) ∧ (z36 = true → (fm_295_p108 X30 X43 Q x1 x3 x4 x5 s35)))) s33)) s29)))))) s))))))
def fm_295_p43L (X30 : Int → Int → lf_Z → Prop) (Q : Int → lf_Z → Prop) (x1 : Int) (x3 : Int) (x4 : Int) (x5 : Int) (s : lf_Z) : Prop := ∀ X43 : Int → Int → lf_Z → Prop, (∀ (x3 : Int) (x5 : Int) (s : lf_Z), fm_295_p43 X30 Q x1 x4 X43 x3 x5 s → X43 x3 x5 s) → X43 x3 x5 s
set_option maxRecDepth 100000 in
theorem gm_295_p43 {L : Nat} {xs : Nat → Int32} {d : Nat} {X30 : Int → Int → lf_Z → Prop} {Q : Int → lf_Z → Prop} {x1 : Int} {x3 : Int} {x4 : Int} {x5 : Int} {s : lf_Z} {X43 : Int → Int → lf_Z → Prop} (hX30 : ∀ x3 x4 s, X30 x3 x4 s → lf_E (px_ro L xs) (d + 7) 295 30 [(0, .ref 95), (1, .int (Int32.ofInt x1)), (3, .int (Int32.ofInt x3)), (4, .int (Int32.ofInt x4))] [] s (lf_qi Q)) (hX43 : ∀ x3 x5 s, X43 x3 x5 s → lf_E (px_ro L xs) (d + 7) 295 43 [(0, .ref 95), (1, .int (Int32.ofInt x1)), (3, .int (Int32.ofInt x3)), (4, .int (Int32.ofInt x4)), (5, .int (Int32.ofInt x5))] [] s (lf_qi Q)) (h : fm_295_p43 X30 Q x1 x4 X43 x3 x5 s) : lf_E (px_ro L xs) (d + 7) 295 43 [(0, .ref 95), (1, .int (Int32.ofInt x1)), (3, .int (Int32.ofInt x3)), (4, .int (Int32.ofInt x4)), (5, .int (Int32.ofInt x5))] [] s (lf_qi Q) := by
  unfold fm_295_p43 at h
  refine lf_seg 5 (pc' := 51) (lv' := [(0, .ref 95), (1, .int (Int32.ofInt x1)), (3, .int (Int32.ofInt x3)), (4, .int (Int32.ofInt x4)), (5, .int (Int32.ofInt x5))]) (st' := [.int (Int32.ofInt 0), .ref 96, .int (Int32.ofInt 1), .int (Int32.ofInt x5)]) rfl ?_
  refine lf_iald 52 1538 rfl rfl rfl rfl rfl rfl ⟨by decide, by decide⟩ ?_
  refine lf_ishl 53 rfl rfl ?_
  obtain ⟨o27, h⟩ := h
  refine lf_icmp_ge 114 56 rfl rfl rfl o27 lf_Rshl (fun c => ?_) (fun c => ?_)
  · have h := h.1 c
    refine lf_sub (l := [(0, .ref 95), (1, .int (Int32.ofInt x1)), (3, .int (Int32.ofInt x3)), (4, .int (Int32.ofInt x4))]) (lf_sb1 rfl (lf_sb1 rfl (lf_sb1 rfl (lf_sb1 rfl lf_sb0)))) ?_
    exact gm_295_p114 hX30 h
  · have h := h.2 c
    refine lf_seg 1 (pc' := 57) (lv' := [(0, .ref 95), (1, .int (Int32.ofInt x1)), (3, .int (Int32.ofInt x3)), (4, .int (Int32.ofInt x4)), (5, .int (Int32.ofInt x5))]) (st' := [.int (Int32.ofInt x3)]) rfl ?_
    obtain ⟨o28, h⟩ := h
    refine lf_if_ge 114 60 rfl rfl rfl o28 (fun c => ?_) (fun c => ?_)
    · have h := h.1 c
      refine lf_sub (l := [(0, .ref 95), (1, .int (Int32.ofInt x1)), (3, .int (Int32.ofInt x3)), (4, .int (Int32.ofInt x4))]) (lf_sb1 rfl (lf_sb1 rfl (lf_sb1 rfl (lf_sb1 rfl lf_sb0)))) ?_
      exact gm_295_p114 hX30 h
    · have h := h.2 c
      refine lf_seg 1 (pc' := 62) (lv' := [(0, .ref 95), (1, .int (Int32.ofInt x1)), (3, .int (Int32.ofInt x3)), (4, .int (Int32.ofInt x4)), (5, .int (Int32.ofInt x5))]) (st' := [.int (Int32.ofInt x5)]) rfl ?_
      refine lf_callI 65 rfl rfl rfl rfl (gm_188 h) (fun r30 s29 h => ?_)
      refine lf_seg 1 (pc' := 67) (lv' := [(0, .ref 95), (1, .int (Int32.ofInt x1)), (3, .int (Int32.ofInt x3)), (4, .int (Int32.ofInt x4)), (5, .int (Int32.ofInt x5))]) (st' := [.int (Int32.ofInt x4), .int (Int32.ofInt r30)]) rfl ?_
      obtain ⟨o31, h⟩ := h
      obtain ⟨o32, h⟩ := h
      refine lf_icmp_ne 108 70 rfl rfl rfl o31 o32 (fun c => ?_) (fun c => ?_)
      · have h := h.1 c
        refine lf_sub (l := [(0, .ref 95), (1, .int (Int32.ofInt x1)), (3, .int (Int32.ofInt x3)), (4, .int (Int32.ofInt x4)), (5, .int (Int32.ofInt x5))]) (lf_sb1 rfl (lf_sb1 rfl (lf_sb1 rfl (lf_sb1 rfl (lf_sb1 rfl lf_sb0))))) ?_
        exact gm_295_p108 hX30 hX43 h
      · have h := h.2 c
        refine lf_seg 3 (pc' := 74) (lv' := [(0, .ref 95), (1, .int (Int32.ofInt x1)), (3, .int (Int32.ofInt x3)), (4, .int (Int32.ofInt x4)), (5, .int (Int32.ofInt x5))]) (st' := [.int (Int32.ofInt x1), .ref 95, .int (Int32.ofInt x5)]) rfl ?_
        refine lf_callI 77 rfl rfl rfl rfl (gm_255 h) (fun r34 s33 h => ?_)
        refine lf_callZ 80 rfl rfl rfl rfl (gm_210 h) (fun z36 s35 h => ?_)
        refine lf_ifz_eq 86 83 rfl rfl rfl (fun c => ?_) (fun c => ?_)
        · have h := h.1 c
          refine lf_seg 2 (pc' := 89) (lv' := [(0, .ref 95), (1, .int (Int32.ofInt x1)), (3, .int (Int32.ofInt x3)), (4, .int (Int32.ofInt x4)), (5, .int (Int32.ofInt x5))]) (st' := [.int (Int32.ofInt x5), .ref 95]) rfl ?_
          refine lf_putI 92 29 rfl rfl rfl rfl rfl rfl rfl rfl ?_
          refine lf_as (lf_up s35.1 95 29 x5, s35.2.1, s35.2.2) rfl ?_
          refine lf_seg 3 (pc' := 95) (lv' := [(0, .ref 95), (1, .int (Int32.ofInt x1)), (3, .int (Int32.ofInt x3)), (4, .int (Int32.ofInt x4)), (5, .int (Int32.ofInt x5))]) (st' := [.int (Int32.ofInt x1), .ref 95, .ref 95]) rfl ?_
          refine lf_callI 98 rfl rfl rfl rfl (gm_294 h) (fun r38 s37 h => ?_)
          refine lf_seg 1 (pc' := 99) (lv' := [(0, .ref 95), (1, .int (Int32.ofInt x1)), (3, .int (Int32.ofInt x3)), (4, .int (Int32.ofInt x4)), (5, .int (Int32.ofInt x5))]) (st' := [.int (Int32.ofInt 2), .int (Int32.ofInt r38), .ref 95]) rfl ?_
          refine lf_callI 102 rfl rfl rfl rfl (gm_296 h) (fun r40 s39 h => ?_)
          obtain ⟨o41, h⟩ := h
          refine lf_if_ne 108 105 rfl rfl rfl o41 (fun c => ?_) (fun c => ?_)
          · have h := h.1 c
            refine lf_sub (l := [(0, .ref 95), (1, .int (Int32.ofInt x1)), (3, .int (Int32.ofInt x3)), (4, .int (Int32.ofInt x4)), (5, .int (Int32.ofInt x5))]) (lf_sb1 rfl (lf_sb1 rfl (lf_sb1 rfl (lf_sb1 rfl (lf_sb1 rfl lf_sb0))))) ?_
            exact gm_295_p108 hX30 hX43 h
          · have h := h.2 c
            refine lf_seg 2 (pc' := 108) (lv' := [(3, .int (Int32.ofInt x5)), (0, .ref 95), (1, .int (Int32.ofInt x1)), (4, .int (Int32.ofInt x4)), (5, .int (Int32.ofInt x5))]) (st' := []) rfl ?_
            refine lf_sub (l := [(0, .ref 95), (1, .int (Int32.ofInt x1)), (3, .int (Int32.ofInt x5)), (4, .int (Int32.ofInt x4)), (5, .int (Int32.ofInt x5))]) (lf_sb1 rfl (lf_sb1 rfl (lf_sb1 rfl (lf_sb1 rfl (lf_sb1 rfl lf_sb0))))) ?_
            exact gm_295_p108 hX30 hX43 h
        · have h := h.2 c
          refine lf_seg 1 (pc' := 108) (lv' := [(0, .ref 95), (1, .int (Int32.ofInt x1)), (3, .int (Int32.ofInt x3)), (4, .int (Int32.ofInt x4)), (5, .int (Int32.ofInt x5))]) (st' := []) rfl ?_
          refine lf_sub (l := [(0, .ref 95), (1, .int (Int32.ofInt x1)), (3, .int (Int32.ofInt x3)), (4, .int (Int32.ofInt x4)), (5, .int (Int32.ofInt x5))]) (lf_sb1 rfl (lf_sb1 rfl (lf_sb1 rfl (lf_sb1 rfl (lf_sb1 rfl lf_sb0))))) ?_
          exact gm_295_p108 hX30 hX43 h
theorem gm_295_p43L {L : Nat} {xs : Nat → Int32} {d : Nat} {X30 : Int → Int → lf_Z → Prop} {Q : Int → lf_Z → Prop} {x1 : Int} {x3 : Int} {x4 : Int} {x5 : Int} {s : lf_Z} (hX30 : ∀ x3 x4 s, X30 x3 x4 s → lf_E (px_ro L xs) (d + 7) 295 30 [(0, .ref 95), (1, .int (Int32.ofInt x1)), (3, .int (Int32.ofInt x3)), (4, .int (Int32.ofInt x4))] [] s (lf_qi Q)) (h : fm_295_p43L X30 Q x1 x3 x4 x5 s) : lf_E (px_ro L xs) (d + 7) 295 43 [(0, .ref 95), (1, .int (Int32.ofInt x1)), (3, .int (Int32.ofInt x3)), (4, .int (Int32.ofInt x4)), (5, .int (Int32.ofInt x5))] [] s (lf_qi Q) :=
  h (fun x3 x5 s => lf_E (px_ro L xs) (d + 7) 295 43 [(0, .ref 95), (1, .int (Int32.ofInt x1)), (3, .int (Int32.ofInt x3)), (4, .int (Int32.ofInt x4)), (5, .int (Int32.ofInt x5))] [] s (lf_qi Q)) (fun x3 x5 s hb => gm_295_p43 hX30 (fun _ _ _ h => h) hb)
def fm_295_p30 (Q : Int → lf_Z → Prop) (x1 : Int) (X30 : Int → Int → lf_Z → Prop) (x3 : Int) (x4 : Int) (s : lf_Z) : Prop := lf_R x4 ∧ ((3 < x4 → (fm_295_p120 Q x3 s)) ∧ (¬ (3 < x4) → (lf_R x3 ∧ ((0 ≤ x3 → (fm_295_p120 Q x3 s)) ∧ (¬ (0 ≤ x3) → (fm_295_p43L X30 Q x1 x3 x4 0 s))))))
def fm_295_p30L (Q : Int → lf_Z → Prop) (x1 : Int) (x3 : Int) (x4 : Int) (s : lf_Z) : Prop := ∀ X30 : Int → Int → lf_Z → Prop, (∀ (x3 : Int) (x4 : Int) (s : lf_Z), fm_295_p30 Q x1 X30 x3 x4 s → X30 x3 x4 s) → X30 x3 x4 s
set_option maxRecDepth 100000 in
theorem gm_295_p30 {L : Nat} {xs : Nat → Int32} {d : Nat} {Q : Int → lf_Z → Prop} {x1 : Int} {x3 : Int} {x4 : Int} {s : lf_Z} {X30 : Int → Int → lf_Z → Prop} (hX30 : ∀ x3 x4 s, X30 x3 x4 s → lf_E (px_ro L xs) (d + 7) 295 30 [(0, .ref 95), (1, .int (Int32.ofInt x1)), (3, .int (Int32.ofInt x3)), (4, .int (Int32.ofInt x4))] [] s (lf_qi Q)) (h : fm_295_p30 Q x1 X30 x3 x4 s) : lf_E (px_ro L xs) (d + 7) 295 30 [(0, .ref 95), (1, .int (Int32.ofInt x1)), (3, .int (Int32.ofInt x3)), (4, .int (Int32.ofInt x4))] [] s (lf_qi Q) := by
  unfold fm_295_p30 at h
  refine lf_seg 2 (pc' := 33) (lv' := [(0, .ref 95), (1, .int (Int32.ofInt x1)), (3, .int (Int32.ofInt x3)), (4, .int (Int32.ofInt x4))]) (st' := [.int (Int32.ofInt 3), .int (Int32.ofInt x4)]) rfl ?_
  obtain ⟨o25, h⟩ := h
  refine lf_icmp_gt 120 36 rfl rfl rfl o25 ⟨by decide, by decide⟩ (fun c => ?_) (fun c => ?_)
  · have h := h.1 c
    refine lf_sub (l := [(0, .ref 95), (3, .int (Int32.ofInt x3))]) (lf_sb1 rfl (lf_sb1 rfl lf_sb0)) ?_
    exact gm_295_p120 h
  · have h := h.2 c
    refine lf_seg 1 (pc' := 37) (lv' := [(0, .ref 95), (1, .int (Int32.ofInt x1)), (3, .int (Int32.ofInt x3)), (4, .int (Int32.ofInt x4))]) (st' := [.int (Int32.ofInt x3)]) rfl ?_
    obtain ⟨o26, h⟩ := h
    refine lf_if_ge 120 40 rfl rfl rfl o26 (fun c => ?_) (fun c => ?_)
    · have h := h.1 c
      refine lf_sub (l := [(0, .ref 95), (3, .int (Int32.ofInt x3))]) (lf_sb1 rfl (lf_sb1 rfl lf_sb0)) ?_
      exact gm_295_p120 h
    · have h := h.2 c
      refine lf_seg 2 (pc' := 43) (lv' := [(5, .int (Int32.ofInt 0)), (0, .ref 95), (1, .int (Int32.ofInt x1)), (3, .int (Int32.ofInt x3)), (4, .int (Int32.ofInt x4))]) (st' := []) rfl ?_
      refine lf_sub (l := [(0, .ref 95), (1, .int (Int32.ofInt x1)), (3, .int (Int32.ofInt x3)), (4, .int (Int32.ofInt x4)), (5, .int (Int32.ofInt 0))]) (lf_sb1 rfl (lf_sb1 rfl (lf_sb1 rfl (lf_sb1 rfl (lf_sb1 rfl lf_sb0))))) ?_
      exact gm_295_p43L hX30 h
theorem gm_295_p30L {L : Nat} {xs : Nat → Int32} {d : Nat} {Q : Int → lf_Z → Prop} {x1 : Int} {x3 : Int} {x4 : Int} {s : lf_Z} (h : fm_295_p30L Q x1 x3 x4 s) : lf_E (px_ro L xs) (d + 7) 295 30 [(0, .ref 95), (1, .int (Int32.ofInt x1)), (3, .int (Int32.ofInt x3)), (4, .int (Int32.ofInt x4))] [] s (lf_qi Q) :=
  h (fun x3 x4 s => lf_E (px_ro L xs) (d + 7) 295 30 [(0, .ref 95), (1, .int (Int32.ofInt x1)), (3, .int (Int32.ofInt x3)), (4, .int (Int32.ofInt x4))] [] s (lf_qi Q)) (fun x3 x4 s hb => gm_295_p30 (fun _ _ _ h => h) hb)
def fm_295 (a1 : Int) (a2 : Int) (Q : Int → lf_Z → Prop) (s : lf_Z) : Prop := fm_254 a1 (fun z22 s21 => ((z22 = false → (Q (-1) s21)) ∧ (z22 = true → (fm_183 a2 0 9 (fun z24 s23 => ((z24 = true → (fm_295_p30L Q a1 (-1) 0 (lf_up s23.1 95 30 a2, s23.2.1, s23.2.2))) ∧ (z24 = false → (Q (-1) s23)))) s21)))) s
set_option maxRecDepth 100000 in
theorem gm_295 {L : Nat} {xs : Nat → Int32} {d : Nat} {a1 : Int} {a2 : Int} {Q : Int → lf_Z → Prop} {s : lf_Z} (h : fm_295 a1 a2 Q s) : lf_M (px_ro L xs) (d + 7) 295 [.ref 95, .int (Int32.ofInt a1), .int (Int32.ofInt a2)] s (lf_qi Q) := by
  unfold fm_295 at h
  show lf_E (px_ro L xs) (d + 7) 295 0 [(0, .ref 95), (1, .int (Int32.ofInt a1)), (2, .int (Int32.ofInt a2))] [] s _
  refine lf_seg 2 (pc' := 2) (lv' := [(0, .ref 95), (1, .int (Int32.ofInt a1)), (2, .int (Int32.ofInt a2))]) (st' := [.int (Int32.ofInt a1), .ref 95]) rfl ?_
  refine lf_callZ 5 rfl rfl rfl rfl (gm_254 h) (fun z22 s21 h => ?_)
  refine lf_ifz_eq 18 8 rfl rfl rfl (fun c => ?_) (fun c => ?_)
  · have h := h.1 c
    refine lf_seg 1 (pc' := 19) (lv' := [(0, .ref 95), (1, .int (Int32.ofInt a1)), (2, .int (Int32.ofInt a2))]) (st' := [.int (Int32.ofInt (-1))]) rfl ?_
    exact lf_retI rfl rfl h
  · have h := h.2 c
    refine lf_seg 2 (pc' := 10) (lv' := [(0, .ref 95), (1, .int (Int32.ofInt a1)), (2, .int (Int32.ofInt a2))]) (st' := [.int (Int32.ofInt 0), .int (Int32.ofInt a2)]) rfl ?_
    refine lf_bipush 12 9 rfl rfl (by decide) (by decide) ?_
    refine lf_callZ 15 rfl rfl rfl rfl (gm_183 h) (fun z24 s23 h => ?_)
    refine lf_ifz_ne 20 18 rfl rfl rfl (fun c => ?_) (fun c => ?_)
    · have h := h.1 c
      refine lf_seg 4 (pc' := 24) (lv' := [(3, .int (Int32.ofInt (-1))), (0, .ref 95), (1, .int (Int32.ofInt a1)), (2, .int (Int32.ofInt a2))]) (st' := [.int (Int32.ofInt a2), .ref 95]) rfl ?_
      refine lf_putI 27 30 rfl rfl rfl rfl rfl rfl rfl rfl ?_
      refine lf_as (lf_up s23.1 95 30 a2, s23.2.1, s23.2.2) rfl ?_
      refine lf_seg 2 (pc' := 30) (lv' := [(4, .int (Int32.ofInt 0)), (3, .int (Int32.ofInt (-1))), (0, .ref 95), (1, .int (Int32.ofInt a1)), (2, .int (Int32.ofInt a2))]) (st' := []) rfl ?_
      refine lf_sub (l := [(0, .ref 95), (1, .int (Int32.ofInt a1)), (3, .int (Int32.ofInt (-1))), (4, .int (Int32.ofInt 0))]) (lf_sb1 rfl (lf_sb1 rfl (lf_sb1 rfl (lf_sb1 rfl lf_sb0)))) ?_
      exact gm_295_p30L h
    · have h := h.2 c
      refine lf_seg 1 (pc' := 19) (lv' := [(0, .ref 95), (1, .int (Int32.ofInt a1)), (2, .int (Int32.ofInt a2))]) (st' := [.int (Int32.ofInt (-1))]) rfl ?_
      exact lf_retI rfl rfl h
-- fm_135 Land.minutesBetween 1 i i i
def fm_135 (a1 : Int) (a2 : Int) (a3 : Int) (Q : Int → lf_Z → Prop) (s : lf_Z) : Prop := fm_75 a2 a3 (fun r22 s21 => (lf_R r22 ∧ ((1000 ≤ r22 → (Q (-1) s21)) ∧ (¬ (1000 ≤ r22) → (fm_99 a1 (fun z25 s24 => ((z25 = true → ((0 ≤ a1 ∧ a1 < 6) ∧ (lf_R (s24.1 8 a1) ∧ ((s24.1 8 a1 = 0 → (Q r22 s24)) ∧ (¬ (s24.1 8 a1 = 0) → (lf_R (r22 + 1) ∧ (Q ((r22 + 1).tdiv 2) s24))))))) ∧ (z25 = false → (Q (-1) s24)))) s21))))) s
set_option maxRecDepth 100000 in
theorem gm_135 {L : Nat} {xs : Nat → Int32} {d : Nat} {a1 : Int} {a2 : Int} {a3 : Int} {Q : Int → lf_Z → Prop} {s : lf_Z} (h : fm_135 a1 a2 a3 Q s) : lf_M (px_ro L xs) (d + 3) 135 [.ref 1, .int (Int32.ofInt a1), .int (Int32.ofInt a2), .int (Int32.ofInt a3)] s (lf_qi Q) := by
  unfold fm_135 at h
  show lf_E (px_ro L xs) (d + 3) 135 0 [(0, .ref 1), (1, .int (Int32.ofInt a1)), (2, .int (Int32.ofInt a2)), (3, .int (Int32.ofInt a3))] [] s _
  refine lf_seg 3 (pc' := 3) (lv' := [(0, .ref 1), (1, .int (Int32.ofInt a1)), (2, .int (Int32.ofInt a2)), (3, .int (Int32.ofInt a3))]) (st' := [.int (Int32.ofInt a3), .int (Int32.ofInt a2), .ref 1]) rfl ?_
  refine lf_callI 6 rfl rfl rfl rfl (gm_75 h) (fun r22 s21 h => ?_)
  refine lf_seg 2 (pc' := 10) (lv' := [(4, .int (Int32.ofInt r22)), (0, .ref 1), (1, .int (Int32.ofInt a1)), (2, .int (Int32.ofInt a2)), (3, .int (Int32.ofInt a3))]) (st' := [.int (Int32.ofInt r22)]) rfl ?_
  refine lf_sipush 13 1000 rfl rfl (by decide) (by decide) ?_
  obtain ⟨o23, h⟩ := h
  refine lf_icmp_ge 24 16 rfl rfl rfl o23 ⟨by decide, by decide⟩ (fun c => ?_) (fun c => ?_)
  · have h := h.1 c
    refine lf_seg 1 (pc' := 25) (lv' := [(4, .int (Int32.ofInt r22)), (0, .ref 1), (1, .int (Int32.ofInt a1)), (2, .int (Int32.ofInt a2)), (3, .int (Int32.ofInt a3))]) (st' := [.int (Int32.ofInt (-1))]) rfl ?_
    exact lf_retI rfl rfl h
  · have h := h.2 c
    refine lf_seg 2 (pc' := 18) (lv' := [(4, .int (Int32.ofInt r22)), (0, .ref 1), (1, .int (Int32.ofInt a1)), (2, .int (Int32.ofInt a2)), (3, .int (Int32.ofInt a3))]) (st' := [.int (Int32.ofInt a1), .ref 1]) rfl ?_
    refine lf_callZ 21 rfl rfl rfl rfl (gm_99 h) (fun z25 s24 h => ?_)
    refine lf_ifz_ne 26 24 rfl rfl rfl (fun c => ?_) (fun c => ?_)
    · have h := h.1 c
      refine lf_seg 3 (pc' := 31) (lv' := [(4, .int (Int32.ofInt r22)), (0, .ref 1), (1, .int (Int32.ofInt a1)), (2, .int (Int32.ofInt a2)), (3, .int (Int32.ofInt a3))]) (st' := [.int (Int32.ofInt a1), .ref 8]) rfl ?_
      obtain ⟨o26, h⟩ := h
      refine lf_zald 32 6 rfl rfl rfl rfl rfl rfl o26 ?_
      obtain ⟨o27, h⟩ := h
      refine lf_if_eq 44 35 rfl rfl rfl o27 (fun c => ?_) (fun c => ?_)
      · have h := h.1 c
        refine lf_seg 1 (pc' := 46) (lv' := [(4, .int (Int32.ofInt r22)), (0, .ref 1), (1, .int (Int32.ofInt a1)), (2, .int (Int32.ofInt a2)), (3, .int (Int32.ofInt a3))]) (st' := [.int (Int32.ofInt r22)]) rfl ?_
        exact lf_retI rfl rfl h
      · have h := h.2 c
        refine lf_seg 2 (pc' := 38) (lv' := [(4, .int (Int32.ofInt r22)), (0, .ref 1), (1, .int (Int32.ofInt a1)), (2, .int (Int32.ofInt a2)), (3, .int (Int32.ofInt a3))]) (st' := [.int (Int32.ofInt 1), .int (Int32.ofInt r22)]) rfl ?_
        refine lf_iadd 39 rfl rfl ?_
        refine lf_seg 1 (pc' := 40) (lv' := [(4, .int (Int32.ofInt r22)), (0, .ref 1), (1, .int (Int32.ofInt a1)), (2, .int (Int32.ofInt a2)), (3, .int (Int32.ofInt a3))]) (st' := [.int (Int32.ofInt 2), .int (Int32.ofInt (r22 + 1))]) rfl ?_
        obtain ⟨o28, h⟩ := h
        refine lf_idiv 41 rfl rfl o28 ⟨by decide, by decide⟩ (by decide) ?_
        refine lf_seg 1 (pc' := 46) (lv' := [(4, .int (Int32.ofInt r22)), (0, .ref 1), (1, .int (Int32.ofInt a1)), (2, .int (Int32.ofInt a2)), (3, .int (Int32.ofInt a3))]) (st' := [.int (Int32.ofInt ((r22 + 1).tdiv 2))]) rfl ?_
        exact lf_retI rfl rfl h
    · have h := h.2 c
      refine lf_seg 1 (pc' := 25) (lv' := [(4, .int (Int32.ofInt r22)), (0, .ref 1), (1, .int (Int32.ofInt a1)), (2, .int (Int32.ofInt a2)), (3, .int (Int32.ofInt a3))]) (st' := [.int (Int32.ofInt (-1))]) rfl ?_
      exact lf_retI rfl rfl h
