-- fm_300 Model.whom 95 i i i
def fm_300_p203 (Q : Int → lf_Z → Prop) (x3 : Int) (X203 : Int → lf_Z → Prop) (x7 : Int) (s : lf_Z) : Prop := (0 ≤ x7 ∧ x7 < 12) ∧ (lf_R (s.1 114 x7) ∧ (lf_R x3 ∧ ((s.1 114 x7 = x3 → ((0 ≤ x7 ∧ x7 < 6) ∧ ((0 ≤ s.1 117 x7 ∧ s.1 117 x7 < 6) ∧ (Q (s.1 113 (s.1 117 x7)) s)))) ∧ (¬ (s.1 114 x7 = x3) → (X203 (x7 + 1) s)))))
def fm_300_p203L (Q : Int → lf_Z → Prop) (x3 : Int) (x7 : Int) (s : lf_Z) : Prop := ∀ X203 : Int → lf_Z → Prop, (∀ (x7 : Int) (s : lf_Z), fm_300_p203 Q x3 X203 x7 s → X203 x7 s) → X203 x7 s
set_option maxRecDepth 100000 in
theorem gm_300_p203 {L : Nat} {xs : Nat → Int32} {d : Nat} {Q : Int → lf_Z → Prop} {x3 : Int} {x7 : Int} {s : lf_Z} {X203 : Int → lf_Z → Prop} (hX203 : ∀ x7 s, X203 x7 s → lf_E (px_ro L xs) (d + 4) 300 203 [(0, .ref 95), (3, .int (Int32.ofInt x3)), (7, .int (Int32.ofInt x7))] [] s (lf_qi Q)) (h : fm_300_p203 Q x3 X203 x7 s) : lf_E (px_ro L xs) (d + 4) 300 203 [(0, .ref 95), (3, .int (Int32.ofInt x3)), (7, .int (Int32.ofInt x7))] [] s (lf_qi Q) := by
  unfold fm_300_p203 at h
  refine lf_seg 3 (pc' := 209) (lv' := [(0, .ref 95), (3, .int (Int32.ofInt x3)), (7, .int (Int32.ofInt x7))]) (st' := [.int (Int32.ofInt x7), .ref 114]) rfl ?_
  obtain ⟨o42, h⟩ := h
  refine lf_iald 210 12 rfl rfl rfl rfl rfl rfl o42 ?_
  refine lf_seg 1 (pc' := 211) (lv' := [(0, .ref 95), (3, .int (Int32.ofInt x3)), (7, .int (Int32.ofInt x7))]) (st' := [.int (Int32.ofInt x3), .int (Int32.ofInt (s.1 114 x7))]) rfl ?_
  obtain ⟨o43, h⟩ := h
  obtain ⟨o44, h⟩ := h
  refine lf_icmp_eq 220 214 rfl rfl rfl o43 o44 (fun c => ?_) (fun c => ?_)
  · have h := h.1 c
    refine lf_seg 5 (pc' := 230) (lv' := [(0, .ref 95), (3, .int (Int32.ofInt x3)), (7, .int (Int32.ofInt x7))]) (st' := [.int (Int32.ofInt x7), .ref 117, .ref 113]) rfl ?_
    obtain ⟨o45, h⟩ := h
    refine lf_iald 231 6 rfl rfl rfl rfl rfl rfl o45 ?_
    obtain ⟨o46, h⟩ := h
    refine lf_iald 232 6 rfl rfl rfl rfl rfl rfl o46 ?_
    exact lf_retI rfl rfl h
  · have h := h.2 c
    refine lf_iinc 217 rfl rfl rfl rfl ?_
    refine lf_seg 1 (pc' := 203) (lv' := [(7, .int (Int32.ofInt (x7 + 1))), (0, .ref 95), (3, .int (Int32.ofInt x3))]) (st' := []) rfl ?_
    refine lf_sub (l := [(0, .ref 95), (3, .int (Int32.ofInt x3)), (7, .int (Int32.ofInt (x7 + 1)))]) (lf_sb1 rfl (lf_sb1 rfl (lf_sb1 rfl lf_sb0))) ?_
    exact hX203 _ _ h
theorem gm_300_p203L {L : Nat} {xs : Nat → Int32} {d : Nat} {Q : Int → lf_Z → Prop} {x3 : Int} {x7 : Int} {s : lf_Z} (h : fm_300_p203L Q x3 x7 s) : lf_E (px_ro L xs) (d + 4) 300 203 [(0, .ref 95), (3, .int (Int32.ofInt x3)), (7, .int (Int32.ofInt x7))] [] s (lf_qi Q) :=
  h (fun x7 s => lf_E (px_ro L xs) (d + 4) 300 203 [(0, .ref 95), (3, .int (Int32.ofInt x3)), (7, .int (Int32.ofInt x7))] [] s (lf_qi Q)) (fun x7 s hb => gm_300_p203 (fun _ _ h => h) hb)
def fm_300_p117 (X95 : Int → lf_Z → Prop) (Q : Int → lf_Z → Prop) (x3 : Int) (x4 : Int) (x5 : Int) (x6 : Int) (X117 : Int → lf_Z → Prop) (x7 : Int) (s : lf_Z) : Prop := lf_R x7 ∧ (lf_R x4 ∧ ((x4 ≤ x7 → (X95 (x6 + 1) s)) ∧ (¬ (x4 ≤ x7) → ((0 ≤ x7 ∧ x7 < 6) ∧ (fm_239 (s.1 113 x7) (fun r53 s52 => (fm_299 (s.1 113 x7) r53 (fun r55 s54 => ((0 ≤ (12 * x7) + x6 ∧ (12 * x7) + x6 < 72) ∧ (X117 (x7 + 1) (lf_up s54.1 115 ((12 * x7) + x6) r55, s54.2.1, s54.2.2)))) s52)) s)))))
def fm_300_p117L (X95 : Int → lf_Z → Prop) (Q : Int → lf_Z → Prop) (x3 : Int) (x4 : Int) (x5 : Int) (x6 : Int) (x7 : Int) (s : lf_Z) : Prop := ∀ X117 : Int → lf_Z → Prop, (∀ (x7 : Int) (s : lf_Z), fm_300_p117 X95 Q x3 x4 x5 x6 X117 x7 s → X117 x7 s) → X117 x7 s
set_option maxRecDepth 100000 in
theorem gm_300_p117 {L : Nat} {xs : Nat → Int32} {d : Nat} {X95 : Int → lf_Z → Prop} {Q : Int → lf_Z → Prop} {x3 : Int} {x4 : Int} {x5 : Int} {x6 : Int} {x7 : Int} {s : lf_Z} {X117 : Int → lf_Z → Prop} (hX95 : ∀ x6 s, X95 x6 s → lf_E (px_ro L xs) (d + 4) 300 95 [(0, .ref 95), (3, .int (Int32.ofInt x3)), (4, .int (Int32.ofInt x4)), (5, .int (Int32.ofInt x5)), (6, .int (Int32.ofInt x6))] [] s (lf_qi Q)) (hX117 : ∀ x7 s, X117 x7 s → lf_E (px_ro L xs) (d + 4) 300 117 [(0, .ref 95), (3, .int (Int32.ofInt x3)), (4, .int (Int32.ofInt x4)), (5, .int (Int32.ofInt x5)), (6, .int (Int32.ofInt x6)), (7, .int (Int32.ofInt x7))] [] s (lf_qi Q)) (h : fm_300_p117 X95 Q x3 x4 x5 x6 X117 x7 s) : lf_E (px_ro L xs) (d + 4) 300 117 [(0, .ref 95), (3, .int (Int32.ofInt x3)), (4, .int (Int32.ofInt x4)), (5, .int (Int32.ofInt x5)), (6, .int (Int32.ofInt x6)), (7, .int (Int32.ofInt x7))] [] s (lf_qi Q) := by
  unfold fm_300_p117 at h
  refine lf_seg 2 (pc' := 121) (lv' := [(0, .ref 95), (3, .int (Int32.ofInt x3)), (4, .int (Int32.ofInt x4)), (5, .int (Int32.ofInt x5)), (6, .int (Int32.ofInt x6)), (7, .int (Int32.ofInt x7))]) (st' := [.int (Int32.ofInt x4), .int (Int32.ofInt x7)]) rfl ?_
  obtain ⟨o49, h⟩ := h
  obtain ⟨o50, h⟩ := h
  refine lf_icmp_ge 166 124 rfl rfl rfl o49 o50 (fun c => ?_) (fun c => ?_)
  · have h := h.1 c
    refine lf_iinc 169 rfl rfl rfl rfl ?_
    refine lf_seg 1 (pc' := 95) (lv' := [(6, .int (Int32.ofInt (x6 + 1))), (0, .ref 95), (3, .int (Int32.ofInt x3)), (4, .int (Int32.ofInt x4)), (5, .int (Int32.ofInt x5)), (7, .int (Int32.ofInt x7))]) (st' := []) rfl ?_
    refine lf_sub (l := [(0, .ref 95), (3, .int (Int32.ofInt x3)), (4, .int (Int32.ofInt x4)), (5, .int (Int32.ofInt x5)), (6, .int (Int32.ofInt (x6 + 1)))]) (lf_sb1 rfl (lf_sb1 rfl (lf_sb1 rfl (lf_sb1 rfl (lf_sb1 rfl lf_sb0))))) ?_
    exact hX95 _ _ h
  · have h := h.2 c
    refine lf_seg 2 (pc' := 128) (lv' := [(0, .ref 95), (3, .int (Int32.ofInt x3)), (4, .int (Int32.ofInt x4)), (5, .int (Int32.ofInt x5)), (6, .int (Int32.ofInt x6)), (7, .int (Int32.ofInt x7))]) (st' := [.ref 115]) rfl ?_
    refine lf_bipush 130 12 rfl rfl (by decide) (by decide) ?_
    refine lf_seg 1 (pc' := 132) (lv' := [(0, .ref 95), (3, .int (Int32.ofInt x3)), (4, .int (Int32.ofInt x4)), (5, .int (Int32.ofInt x5)), (6, .int (Int32.ofInt x6)), (7, .int (Int32.ofInt x7))]) (st' := [.int (Int32.ofInt x7), .int (Int32.ofInt 12), .ref 115]) rfl ?_
    refine lf_imul 133 rfl rfl ?_
    refine lf_seg 1 (pc' := 135) (lv' := [(0, .ref 95), (3, .int (Int32.ofInt x3)), (4, .int (Int32.ofInt x4)), (5, .int (Int32.ofInt x5)), (6, .int (Int32.ofInt x6)), (7, .int (Int32.ofInt x7))]) (st' := [.int (Int32.ofInt x6), .int (Int32.ofInt (12 * x7)), .ref 115]) rfl ?_
    refine lf_iadd 136 rfl rfl ?_
    refine lf_seg 4 (pc' := 143) (lv' := [(0, .ref 95), (3, .int (Int32.ofInt x3)), (4, .int (Int32.ofInt x4)), (5, .int (Int32.ofInt x5)), (6, .int (Int32.ofInt x6)), (7, .int (Int32.ofInt x7))]) (st' := [.int (Int32.ofInt x7), .ref 113, .ref 95, .int (Int32.ofInt ((12 * x7) + x6)), .ref 115]) rfl ?_
    obtain ⟨o51, h⟩ := h
    refine lf_iald 144 6 rfl rfl rfl rfl rfl rfl o51 ?_
    refine lf_seg 4 (pc' := 151) (lv' := [(0, .ref 95), (3, .int (Int32.ofInt x3)), (4, .int (Int32.ofInt x4)), (5, .int (Int32.ofInt x5)), (6, .int (Int32.ofInt x6)), (7, .int (Int32.ofInt x7))]) (st' := [.int (Int32.ofInt x7), .ref 113, .ref 95, .int (Int32.ofInt (s.1 113 x7)), .ref 95, .int (Int32.ofInt ((12 * x7) + x6)), .ref 115]) rfl ?_
    refine lf_iald 152 6 rfl rfl rfl rfl rfl rfl o51 ?_
    refine lf_seg 1 (pc' := 153) (lv' := [(0, .ref 95), (3, .int (Int32.ofInt x3)), (4, .int (Int32.ofInt x4)), (5, .int (Int32.ofInt x5)), (6, .int (Int32.ofInt x6)), (7, .int (Int32.ofInt x7))]) (st' := [.int (Int32.ofInt 3), .int (Int32.ofInt (s.1 113 x7)), .ref 95, .int (Int32.ofInt (s.1 113 x7)), .ref 95, .int (Int32.ofInt ((12 * x7) + x6)), .ref 115]) rfl ?_
    refine lf_callI 156 rfl rfl rfl rfl (gm_239 h) (fun r53 s52 h => ?_)
    refine lf_callI 159 rfl rfl rfl rfl (gm_299 h) (fun r55 s54 h => ?_)
    obtain ⟨o56, h⟩ := h
    refine lf_iast 160 72 rfl rfl rfl rfl rfl rfl o56 ?_
    refine lf_as (lf_up s54.1 115 ((12 * x7) + x6) r55, s54.2.1, s54.2.2) rfl ?_
    refine lf_iinc 163 rfl rfl rfl rfl ?_
    refine lf_seg 1 (pc' := 117) (lv' := [(7, .int (Int32.ofInt (x7 + 1))), (0, .ref 95), (3, .int (Int32.ofInt x3)), (4, .int (Int32.ofInt x4)), (5, .int (Int32.ofInt x5)), (6, .int (Int32.ofInt x6))]) (st' := []) rfl ?_
    refine lf_sub (l := [(0, .ref 95), (3, .int (Int32.ofInt x3)), (4, .int (Int32.ofInt x4)), (5, .int (Int32.ofInt x5)), (6, .int (Int32.ofInt x6)), (7, .int (Int32.ofInt (x7 + 1)))]) (lf_sb1 rfl (lf_sb1 rfl (lf_sb1 rfl (lf_sb1 rfl (lf_sb1 rfl (lf_sb1 rfl lf_sb0)))))) ?_
    exact hX117 _ _ h
theorem gm_300_p117L {L : Nat} {xs : Nat → Int32} {d : Nat} {X95 : Int → lf_Z → Prop} {Q : Int → lf_Z → Prop} {x3 : Int} {x4 : Int} {x5 : Int} {x6 : Int} {x7 : Int} {s : lf_Z} (hX95 : ∀ x6 s, X95 x6 s → lf_E (px_ro L xs) (d + 4) 300 95 [(0, .ref 95), (3, .int (Int32.ofInt x3)), (4, .int (Int32.ofInt x4)), (5, .int (Int32.ofInt x5)), (6, .int (Int32.ofInt x6))] [] s (lf_qi Q)) (h : fm_300_p117L X95 Q x3 x4 x5 x6 x7 s) : lf_E (px_ro L xs) (d + 4) 300 117 [(0, .ref 95), (3, .int (Int32.ofInt x3)), (4, .int (Int32.ofInt x4)), (5, .int (Int32.ofInt x5)), (6, .int (Int32.ofInt x6)), (7, .int (Int32.ofInt x7))] [] s (lf_qi Q) :=
  h (fun x7 s => lf_E (px_ro L xs) (d + 4) 300 117 [(0, .ref 95), (3, .int (Int32.ofInt x3)), (4, .int (Int32.ofInt x4)), (5, .int (Int32.ofInt x5)), (6, .int (Int32.ofInt x6)), (7, .int (Int32.ofInt x7))] [] s (lf_qi Q)) (fun x7 s hb => gm_300_p117 hX95 (fun _ _ h => h) hb)
def fm_300_p95 (Q : Int → lf_Z → Prop) (x3 : Int) (x4 : Int) (x5 : Int) (X95 : Int → lf_Z → Prop) (x6 : Int) (s : lf_Z) : Prop := lf_R x6 ∧ (lf_R x5 ∧ ((x5 ≤ x6 → (fm_302 x5 x4 (fun r39 s38 => (lf_R r39 ∧ ((r39 < 1000 → (lf_R x3 ∧ ((x3 ≠ (-1) → (fm_300_p203L Q x3 0 s38)) ∧ (¬ (x3 ≠ (-1)) → (Q r39 s38))))) ∧ (¬ (r39 < 1000) → (Q (-1) s38))))) s)) ∧ (¬ (x5 ≤ x6) → ((0 ≤ x6 ∧ x6 < 12) ∧ (fm_261 (s.1 114 x6) 1 (fun s48 => (fm_300_p117L X95 Q x3 x4 x5 x6 0 s48)) s)))))
def fm_300_p95L (Q : Int → lf_Z → Prop) (x3 : Int) (x4 : Int) (x5 : Int) (x6 : Int) (s : lf_Z) : Prop := ∀ X95 : Int → lf_Z → Prop, (∀ (x6 : Int) (s : lf_Z), fm_300_p95 Q x3 x4 x5 X95 x6 s → X95 x6 s) → X95 x6 s
set_option maxRecDepth 100000 in
theorem gm_300_p95 {L : Nat} {xs : Nat → Int32} {d : Nat} {Q : Int → lf_Z → Prop} {x3 : Int} {x4 : Int} {x5 : Int} {x6 : Int} {s : lf_Z} {X95 : Int → lf_Z → Prop} (hX95 : ∀ x6 s, X95 x6 s → lf_E (px_ro L xs) (d + 4) 300 95 [(0, .ref 95), (3, .int (Int32.ofInt x3)), (4, .int (Int32.ofInt x4)), (5, .int (Int32.ofInt x5)), (6, .int (Int32.ofInt x6))] [] s (lf_qi Q)) (h : fm_300_p95 Q x3 x4 x5 X95 x6 s) : lf_E (px_ro L xs) (d + 4) 300 95 [(0, .ref 95), (3, .int (Int32.ofInt x3)), (4, .int (Int32.ofInt x4)), (5, .int (Int32.ofInt x5)), (6, .int (Int32.ofInt x6))] [] s (lf_qi Q) := by
  unfold fm_300_p95 at h
  refine lf_seg 2 (pc' := 99) (lv' := [(0, .ref 95), (3, .int (Int32.ofInt x3)), (4, .int (Int32.ofInt x4)), (5, .int (Int32.ofInt x5)), (6, .int (Int32.ofInt x6))]) (st' := [.int (Int32.ofInt x5), .int (Int32.ofInt x6)]) rfl ?_
  obtain ⟨o36, h⟩ := h
  obtain ⟨o37, h⟩ := h
  refine lf_icmp_ge 172 102 rfl rfl rfl o36 o37 (fun c => ?_) (fun c => ?_)
  · have h := h.1 c
    refine lf_seg 3 (pc' := 177) (lv' := [(0, .ref 95), (3, .int (Int32.ofInt x3)), (4, .int (Int32.ofInt x4)), (5, .int (Int32.ofInt x5)), (6, .int (Int32.ofInt x6))]) (st' := [.int (Int32.ofInt x4), .int (Int32.ofInt x5), .ref 95]) rfl ?_
    refine lf_callI 180 rfl rfl rfl rfl (gm_302 h) (fun r39 s38 h => ?_)
    refine lf_seg 2 (pc' := 184) (lv' := [(6, .int (Int32.ofInt r39)), (0, .ref 95), (3, .int (Int32.ofInt x3)), (4, .int (Int32.ofInt x4)), (5, .int (Int32.ofInt x5))]) (st' := [.int (Int32.ofInt r39)]) rfl ?_
    refine lf_sipush 187 1000 rfl rfl (by decide) (by decide) ?_
    obtain ⟨o40, h⟩ := h
    refine lf_icmp_lt 192 190 rfl rfl rfl o40 ⟨by decide, by decide⟩ (fun c => ?_) (fun c => ?_)
    · have h := h.1 c
      refine lf_seg 2 (pc' := 194) (lv' := [(6, .int (Int32.ofInt r39)), (0, .ref 95), (3, .int (Int32.ofInt x3)), (4, .int (Int32.ofInt x4)), (5, .int (Int32.ofInt x5))]) (st' := [.int (Int32.ofInt (-1)), .int (Int32.ofInt x3)]) rfl ?_
      obtain ⟨o41, h⟩ := h
      refine lf_icmp_ne 200 197 rfl rfl rfl o41 ⟨by decide, by decide⟩ (fun c => ?_) (fun c => ?_)
      · have h := h.1 c
        refine lf_seg 2 (pc' := 203) (lv' := [(7, .int (Int32.ofInt 0)), (6, .int (Int32.ofInt r39)), (0, .ref 95), (3, .int (Int32.ofInt x3)), (4, .int (Int32.ofInt x4)), (5, .int (Int32.ofInt x5))]) (st' := []) rfl ?_
        refine lf_sub (l := [(0, .ref 95), (3, .int (Int32.ofInt x3)), (7, .int (Int32.ofInt 0))]) (lf_sb1 rfl (lf_sb1 rfl (lf_sb1 rfl lf_sb0))) ?_
        exact gm_300_p203L h
      · have h := h.2 c
        refine lf_seg 1 (pc' := 199) (lv' := [(6, .int (Int32.ofInt r39)), (0, .ref 95), (3, .int (Int32.ofInt x3)), (4, .int (Int32.ofInt x4)), (5, .int (Int32.ofInt x5))]) (st' := [.int (Int32.ofInt r39)]) rfl ?_
        exact lf_retI rfl rfl h
    · have h := h.2 c
      refine lf_seg 1 (pc' := 191) (lv' := [(6, .int (Int32.ofInt r39)), (0, .ref 95), (3, .int (Int32.ofInt x3)), (4, .int (Int32.ofInt x4)), (5, .int (Int32.ofInt x5))]) (st' := [.int (Int32.ofInt (-1))]) rfl ?_
      exact lf_retI rfl rfl h
  · have h := h.2 c
    refine lf_seg 4 (pc' := 109) (lv' := [(0, .ref 95), (3, .int (Int32.ofInt x3)), (4, .int (Int32.ofInt x4)), (5, .int (Int32.ofInt x5)), (6, .int (Int32.ofInt x6))]) (st' := [.int (Int32.ofInt x6), .ref 114, .ref 95]) rfl ?_
    obtain ⟨o47, h⟩ := h
    refine lf_iald 110 12 rfl rfl rfl rfl rfl rfl o47 ?_
    refine lf_seg 1 (pc' := 111) (lv' := [(0, .ref 95), (3, .int (Int32.ofInt x3)), (4, .int (Int32.ofInt x4)), (5, .int (Int32.ofInt x5)), (6, .int (Int32.ofInt x6))]) (st' := [.int (Int32.ofInt 1), .int (Int32.ofInt (s.1 114 x6)), .ref 95]) rfl ?_
    refine lf_callV 114 rfl rfl rfl rfl (gm_261 h) (fun s48 h => ?_)
    refine lf_seg 2 (pc' := 117) (lv' := [(7, .int (Int32.ofInt 0)), (0, .ref 95), (3, .int (Int32.ofInt x3)), (4, .int (Int32.ofInt x4)), (5, .int (Int32.ofInt x5)), (6, .int (Int32.ofInt x6))]) (st' := []) rfl ?_
    refine lf_sub (l := [(0, .ref 95), (3, .int (Int32.ofInt x3)), (4, .int (Int32.ofInt x4)), (5, .int (Int32.ofInt x5)), (6, .int (Int32.ofInt x6)), (7, .int (Int32.ofInt 0))]) (lf_sb1 rfl (lf_sb1 rfl (lf_sb1 rfl (lf_sb1 rfl (lf_sb1 rfl (lf_sb1 rfl lf_sb0)))))) ?_
    exact gm_300_p117L hX95 h
theorem gm_300_p95L {L : Nat} {xs : Nat → Int32} {d : Nat} {Q : Int → lf_Z → Prop} {x3 : Int} {x4 : Int} {x5 : Int} {x6 : Int} {s : lf_Z} (h : fm_300_p95L Q x3 x4 x5 x6 s) : lf_E (px_ro L xs) (d + 4) 300 95 [(0, .ref 95), (3, .int (Int32.ofInt x3)), (4, .int (Int32.ofInt x4)), (5, .int (Int32.ofInt x5)), (6, .int (Int32.ofInt x6))] [] s (lf_qi Q) :=
  h (fun x6 s => lf_E (px_ro L xs) (d + 4) 300 95 [(0, .ref 95), (3, .int (Int32.ofInt x3)), (4, .int (Int32.ofInt x4)), (5, .int (Int32.ofInt x5)), (6, .int (Int32.ofInt x6))] [] s (lf_qi Q)) (fun x6 s hb => gm_300_p95 (fun _ _ h => h) hb)
def fm_300_p72 (Q : Int → lf_Z → Prop) (x1 : Int) (x2 : Int) (x3 : Int) (s : lf_Z) : Prop := fm_301 x1 (fun r33 s32 => (fm_301b x2 (fun r35 s34 => (fm_300_p95L Q x3 r33 r35 0 s34)) s32)) s
set_option maxRecDepth 100000 in
theorem gm_300_p72 {L : Nat} {xs : Nat → Int32} {d : Nat} {Q : Int → lf_Z → Prop} {x1 : Int} {x2 : Int} {x3 : Int} {s : lf_Z} (h : fm_300_p72 Q x1 x2 x3 s) : lf_E (px_ro L xs) (d + 4) 300 72 [(0, .ref 95), (1, .int (Int32.ofInt x1)), (2, .int (Int32.ofInt x2)), (3, .int (Int32.ofInt x3))] [] s (lf_qi Q) := by
  unfold fm_300_p72 at h
  refine lf_seg 3 (pc' := 77) (lv' := [(0, .ref 95), (1, .int (Int32.ofInt x1)), (2, .int (Int32.ofInt x2)), (3, .int (Int32.ofInt x3))]) (st' := [.ref 113, .int (Int32.ofInt x1)]) rfl ?_
  refine lf_callI 80 rfl rfl rfl rfl (gm_301 h) (fun r33 s32 h => ?_)
  refine lf_seg 4 (pc' := 87) (lv' := [(4, .int (Int32.ofInt r33)), (0, .ref 95), (1, .int (Int32.ofInt x1)), (2, .int (Int32.ofInt x2)), (3, .int (Int32.ofInt x3))]) (st' := [.ref 114, .int (Int32.ofInt x2)]) rfl ?_
  refine lf_callI 90 rfl rfl rfl rfl (gm_301b h) (fun r35 s34 h => ?_)
  refine lf_seg 3 (pc' := 95) (lv' := [(6, .int (Int32.ofInt 0)), (5, .int (Int32.ofInt r35)), (4, .int (Int32.ofInt r33)), (0, .ref 95), (1, .int (Int32.ofInt x1)), (2, .int (Int32.ofInt x2)), (3, .int (Int32.ofInt x3))]) (st' := []) rfl ?_
  refine lf_sub (l := [(0, .ref 95), (3, .int (Int32.ofInt x3)), (4, .int (Int32.ofInt r33)), (5, .int (Int32.ofInt r35)), (6, .int (Int32.ofInt 0))]) (lf_sb1 rfl (lf_sb1 rfl (lf_sb1 rfl (lf_sb1 rfl (lf_sb1 rfl lf_sb0))))) ?_
  exact gm_300_p95L h
def fm_300 (a1 : Int) (a2 : Int) (a3 : Int) (Q : Int → lf_Z → Prop) (s : lf_Z) : Prop := fm_183 a1 1 ((lf_shl 1 (s.1 96 2)) - 1) (fun z22 s21 => ((z22 = false → (Q (-1) s21)) ∧ (z22 = true → (fm_183 a2 1 ((lf_shl 1 (s21.1 96 0)) - 1) (fun z24 s23 => ((z24 = false → (Q (-1) s23)) ∧ (z24 = true → (fm_188 a2 (fun r26 s25 => (fm_188 a1 (fun r28 s27 => (lf_R r26 ∧ (lf_R r28 ∧ ((r26 ≤ r28 → (lf_R a3 ∧ ((a3 = (-1) → (fm_300_p72 Q a1 a2 a3 s27)) ∧ (¬ (a3 = (-1)) → (fm_185 a3 (fun z58 s57 => ((z58 = false → (Q (-1) s57)) ∧ (z58 = true → (fm_210 a2 a3 (fun z60 s59 => ((z60 = true → (fm_300_p72 Q a1 a2 a3 s59)) ∧ (z60 = false → (Q (-1) s59)))) s57)))) s27))))) ∧ (¬ (r26 ≤ r28) → (Q (-1) s27)))))) s25)) s23)))) s21)))) s
set_option maxRecDepth 100000 in
theorem gm_300 {L : Nat} {xs : Nat → Int32} {d : Nat} {a1 : Int} {a2 : Int} {a3 : Int} {Q : Int → lf_Z → Prop} {s : lf_Z} (h : fm_300 a1 a2 a3 Q s) : lf_M (px_ro L xs) (d + 4) 300 [.ref 95, .int (Int32.ofInt a1), .int (Int32.ofInt a2), .int (Int32.ofInt a3)] s (lf_qi Q) := by
  unfold fm_300 at h
  show lf_E (px_ro L xs) (d + 4) 300 0 [(0, .ref 95), (1, .int (Int32.ofInt a1)), (2, .int (Int32.ofInt a2)), (3, .int (Int32.ofInt a3))] [] s _
  refine lf_seg 6 (pc' := 8) (lv' := [(0, .ref 95), (1, .int (Int32.ofInt a1)), (2, .int (Int32.ofInt a2)), (3, .int (Int32.ofInt a3))]) (st' := [.int (Int32.ofInt 2), .ref 96, .int (Int32.ofInt 1), .int (Int32.ofInt 1), .int (Int32.ofInt a1)]) rfl ?_
  refine lf_iald 9 1538 rfl rfl rfl rfl rfl rfl ⟨by decide, by decide⟩ ?_
  refine lf_ishl 10 rfl rfl ?_
  refine lf_seg 1 (pc' := 11) (lv' := [(0, .ref 95), (1, .int (Int32.ofInt a1)), (2, .int (Int32.ofInt a2)), (3, .int (Int32.ofInt a3))]) (st' := [.int (Int32.ofInt 1), .int (Int32.ofInt (lf_shl 1 (s.1 96 2))), .int (Int32.ofInt 1), .int (Int32.ofInt a1)]) rfl ?_
  refine lf_isub 12 rfl rfl ?_
  refine lf_callZ 15 rfl rfl rfl rfl (gm_183 h) (fun z22 s21 h => ?_)
  refine lf_ifz_eq 47 18 rfl rfl rfl (fun c => ?_) (fun c => ?_)
  · have h := h.1 c
    refine lf_seg 1 (pc' := 48) (lv' := [(0, .ref 95), (1, .int (Int32.ofInt a1)), (2, .int (Int32.ofInt a2)), (3, .int (Int32.ofInt a3))]) (st' := [.int (Int32.ofInt (-1))]) rfl ?_
    exact lf_retI rfl rfl h
  · have h := h.2 c
    refine lf_seg 6 (pc' := 26) (lv' := [(0, .ref 95), (1, .int (Int32.ofInt a1)), (2, .int (Int32.ofInt a2)), (3, .int (Int32.ofInt a3))]) (st' := [.int (Int32.ofInt 0), .ref 96, .int (Int32.ofInt 1), .int (Int32.ofInt 1), .int (Int32.ofInt a2)]) rfl ?_
    refine lf_iald 27 1538 rfl rfl rfl rfl rfl rfl ⟨by decide, by decide⟩ ?_
    refine lf_ishl 28 rfl rfl ?_
    refine lf_seg 1 (pc' := 29) (lv' := [(0, .ref 95), (1, .int (Int32.ofInt a1)), (2, .int (Int32.ofInt a2)), (3, .int (Int32.ofInt a3))]) (st' := [.int (Int32.ofInt 1), .int (Int32.ofInt (lf_shl 1 (s21.1 96 0))), .int (Int32.ofInt 1), .int (Int32.ofInt a2)]) rfl ?_
    refine lf_isub 30 rfl rfl ?_
    refine lf_callZ 33 rfl rfl rfl rfl (gm_183 h) (fun z24 s23 h => ?_)
    refine lf_ifz_eq 47 36 rfl rfl rfl (fun c => ?_) (fun c => ?_)
    · have h := h.1 c
      refine lf_seg 1 (pc' := 48) (lv' := [(0, .ref 95), (1, .int (Int32.ofInt a1)), (2, .int (Int32.ofInt a2)), (3, .int (Int32.ofInt a3))]) (st' := [.int (Int32.ofInt (-1))]) rfl ?_
      exact lf_retI rfl rfl h
    · have h := h.2 c
      refine lf_seg 1 (pc' := 37) (lv' := [(0, .ref 95), (1, .int (Int32.ofInt a1)), (2, .int (Int32.ofInt a2)), (3, .int (Int32.ofInt a3))]) (st' := [.int (Int32.ofInt a2)]) rfl ?_
      refine lf_callI 40 rfl rfl rfl rfl (gm_188 h) (fun r26 s25 h => ?_)
      refine lf_seg 1 (pc' := 41) (lv' := [(0, .ref 95), (1, .int (Int32.ofInt a1)), (2, .int (Int32.ofInt a2)), (3, .int (Int32.ofInt a3))]) (st' := [.int (Int32.ofInt a1), .int (Int32.ofInt r26)]) rfl ?_
      refine lf_callI 44 rfl rfl rfl rfl (gm_188 h) (fun r28 s27 h => ?_)
      obtain ⟨o29, h⟩ := h
      obtain ⟨o30, h⟩ := h
      refine lf_icmp_le 49 47 rfl rfl rfl o29 o30 (fun c => ?_) (fun c => ?_)
      · have h := h.1 c
        refine lf_seg 2 (pc' := 51) (lv' := [(0, .ref 95), (1, .int (Int32.ofInt a1)), (2, .int (Int32.ofInt a2)), (3, .int (Int32.ofInt a3))]) (st' := [.int (Int32.ofInt (-1)), .int (Int32.ofInt a3)]) rfl ?_
        obtain ⟨o31, h⟩ := h
        refine lf_icmp_eq 72 54 rfl rfl rfl o31 ⟨by decide, by decide⟩ (fun c => ?_) (fun c => ?_)
        · have h := h.1 c
          refine lf_sub (l := [(0, .ref 95), (1, .int (Int32.ofInt a1)), (2, .int (Int32.ofInt a2)), (3, .int (Int32.ofInt a3))]) (lf_sb1 rfl (lf_sb1 rfl (lf_sb1 rfl (lf_sb1 rfl lf_sb0)))) ?_
          exact gm_300_p72 h
        · have h := h.2 c
          refine lf_seg 2 (pc' := 56) (lv' := [(0, .ref 95), (1, .int (Int32.ofInt a1)), (2, .int (Int32.ofInt a2)), (3, .int (Int32.ofInt a3))]) (st' := [.int (Int32.ofInt a3), .ref 95]) rfl ?_
          refine lf_callZ 59 rfl rfl rfl rfl (gm_185 h) (fun z58 s57 h => ?_)
          refine lf_ifz_eq 70 62 rfl rfl rfl (fun c => ?_) (fun c => ?_)
          · have h := h.1 c
            refine lf_seg 1 (pc' := 71) (lv' := [(0, .ref 95), (1, .int (Int32.ofInt a1)), (2, .int (Int32.ofInt a2)), (3, .int (Int32.ofInt a3))]) (st' := [.int (Int32.ofInt (-1))]) rfl ?_
            exact lf_retI rfl rfl h
          · have h := h.2 c
            refine lf_seg 2 (pc' := 64) (lv' := [(0, .ref 95), (1, .int (Int32.ofInt a1)), (2, .int (Int32.ofInt a2)), (3, .int (Int32.ofInt a3))]) (st' := [.int (Int32.ofInt a3), .int (Int32.ofInt a2)]) rfl ?_
            refine lf_callZ 67 rfl rfl rfl rfl (gm_210 h) (fun z60 s59 h => ?_)
            refine lf_ifz_ne 72 70 rfl rfl rfl (fun c => ?_) (fun c => ?_)
            · have h := h.1 c
              refine lf_sub (l := [(0, .ref 95), (1, .int (Int32.ofInt a1)), (2, .int (Int32.ofInt a2)), (3, .int (Int32.ofInt a3))]) (lf_sb1 rfl (lf_sb1 rfl (lf_sb1 rfl (lf_sb1 rfl lf_sb0)))) ?_
              exact gm_300_p72 h
            · have h := h.2 c
              refine lf_seg 1 (pc' := 71) (lv' := [(0, .ref 95), (1, .int (Int32.ofInt a1)), (2, .int (Int32.ofInt a2)), (3, .int (Int32.ofInt a3))]) (st' := [.int (Int32.ofInt (-1))]) rfl ?_
              exact lf_retI rfl rfl h
      · have h := h.2 c
        refine lf_seg 1 (pc' := 48) (lv' := [(0, .ref 95), (1, .int (Int32.ofInt a1)), (2, .int (Int32.ofInt a2)), (3, .int (Int32.ofInt a3))]) (st' := [.int (Int32.ofInt (-1))]) rfl ?_
        exact lf_retI rfl rfl h
-- fm_144 Walk.openGates 68
def fm_144_p43 (X4 : Int → Int → lf_Z → Prop) (Q : Int → lf_Z → Prop) (x1 : Int) (x2 : Int) (s : lf_Z) : Prop := X4 x1 (x2 + 1) s
set_option maxRecDepth 100000 in
theorem gm_144_p43 {L : Nat} {xs : Nat → Int32} {d : Nat} {X4 : Int → Int → lf_Z → Prop} {Q : Int → lf_Z → Prop} {x1 : Int} {x2 : Int} {s : lf_Z} (hX4 : ∀ x1 x2 s, X4 x1 x2 s → lf_E (px_ro L xs) (d + 2) 144 4 [(0, .ref 68), (1, .int (Int32.ofInt x1)), (2, .int (Int32.ofInt x2))] [] s (lf_qi Q)) (h : fm_144_p43 X4 Q x1 x2 s) : lf_E (px_ro L xs) (d + 2) 144 43 [(0, .ref 68), (1, .int (Int32.ofInt x1)), (2, .int (Int32.ofInt x2))] [] s (lf_qi Q) := by
  unfold fm_144_p43 at h
  refine lf_iinc 46 rfl rfl rfl rfl ?_
  refine lf_seg 1 (pc' := 4) (lv' := [(2, .int (Int32.ofInt (x2 + 1))), (0, .ref 68), (1, .int (Int32.ofInt x1))]) (st' := []) rfl ?_
  refine lf_sub (l := [(0, .ref 68), (1, .int (Int32.ofInt x1)), (2, .int (Int32.ofInt (x2 + 1)))]) (lf_sb1 rfl (lf_sb1 rfl (lf_sb1 rfl lf_sb0))) ?_
  exact hX4 _ _ _ h
def fm_144_p4 (Q : Int → lf_Z → Prop) (X4 : Int → Int → lf_Z → Prop) (x1 : Int) (x2 : Int) (s : lf_Z) : Prop := lf_R x2 ∧ (lf_R (s.1 1 1) ∧ ((s.1 1 1 ≤ x2 → (Q x1 s)) ∧ (¬ (s.1 1 1 ≤ x2) → (fm_89 x2 (fun z24 s23 => ((z24 = false → (fm_144_p43 X4 Q x1 x2 s23)) ∧ (z24 = true → (fm_90 x2 (fun z26 s25 => ((z26 = false → (fm_144_p43 X4 Q x1 x2 s25)) ∧ (z26 = true → (fm_144_p43 X4 Q (lf_or x1 (lf_shl 1 x2)) x2 s25)))) s23)))) s))))
def fm_144_p4L (Q : Int → lf_Z → Prop) (x1 : Int) (x2 : Int) (s : lf_Z) : Prop := ∀ X4 : Int → Int → lf_Z → Prop, (∀ (x1 : Int) (x2 : Int) (s : lf_Z), fm_144_p4 Q X4 x1 x2 s → X4 x1 x2 s) → X4 x1 x2 s
set_option maxRecDepth 100000 in
theorem gm_144_p4 {L : Nat} {xs : Nat → Int32} {d : Nat} {Q : Int → lf_Z → Prop} {x1 : Int} {x2 : Int} {s : lf_Z} {X4 : Int → Int → lf_Z → Prop} (hX4 : ∀ x1 x2 s, X4 x1 x2 s → lf_E (px_ro L xs) (d + 2) 144 4 [(0, .ref 68), (1, .int (Int32.ofInt x1)), (2, .int (Int32.ofInt x2))] [] s (lf_qi Q)) (h : fm_144_p4 Q X4 x1 x2 s) : lf_E (px_ro L xs) (d + 2) 144 4 [(0, .ref 68), (1, .int (Int32.ofInt x1)), (2, .int (Int32.ofInt x2))] [] s (lf_qi Q) := by
  unfold fm_144_p4 at h
  refine lf_seg 3 (pc' := 9) (lv' := [(0, .ref 68), (1, .int (Int32.ofInt x1)), (2, .int (Int32.ofInt x2))]) (st' := [.ref 1, .int (Int32.ofInt x2)]) rfl ?_
  refine lf_getI 12 1 rfl rfl rfl rfl rfl rfl rfl ?_
  obtain ⟨o21, h⟩ := h
  obtain ⟨o22, h⟩ := h
  refine lf_icmp_ge 49 15 rfl rfl rfl o21 o22 (fun c => ?_) (fun c => ?_)
  · have h := h.1 c
    refine lf_seg 1 (pc' := 50) (lv' := [(0, .ref 68), (1, .int (Int32.ofInt x1)), (2, .int (Int32.ofInt x2))]) (st' := [.int (Int32.ofInt x1)]) rfl ?_
    exact lf_retI rfl rfl h
  · have h := h.2 c
    refine lf_seg 3 (pc' := 20) (lv' := [(0, .ref 68), (1, .int (Int32.ofInt x1)), (2, .int (Int32.ofInt x2))]) (st' := [.int (Int32.ofInt x2), .ref 1]) rfl ?_
    refine lf_callZ 23 rfl rfl rfl rfl (gm_89 h) (fun z24 s23 h => ?_)
    refine lf_ifz_eq 43 26 rfl rfl rfl (fun c => ?_) (fun c => ?_)
    · have h := h.1 c
      refine lf_sub (l := [(0, .ref 68), (1, .int (Int32.ofInt x1)), (2, .int (Int32.ofInt x2))]) (lf_sb1 rfl (lf_sb1 rfl (lf_sb1 rfl lf_sb0))) ?_
      exact gm_144_p43 hX4 h
    · have h := h.2 c
      refine lf_seg 3 (pc' := 31) (lv' := [(0, .ref 68), (1, .int (Int32.ofInt x1)), (2, .int (Int32.ofInt x2))]) (st' := [.int (Int32.ofInt x2), .ref 15]) rfl ?_
      refine lf_callZ 34 rfl rfl rfl rfl (gm_90 h) (fun z26 s25 h => ?_)
      refine lf_ifz_eq 43 37 rfl rfl rfl (fun c => ?_) (fun c => ?_)
      · have h := h.1 c
        refine lf_sub (l := [(0, .ref 68), (1, .int (Int32.ofInt x1)), (2, .int (Int32.ofInt x2))]) (lf_sb1 rfl (lf_sb1 rfl (lf_sb1 rfl lf_sb0))) ?_
        exact gm_144_p43 hX4 h
      · have h := h.2 c
        refine lf_seg 3 (pc' := 40) (lv' := [(0, .ref 68), (1, .int (Int32.ofInt x1)), (2, .int (Int32.ofInt x2))]) (st' := [.int (Int32.ofInt x2), .int (Int32.ofInt 1), .int (Int32.ofInt x1)]) rfl ?_
        refine lf_ishl 41 rfl rfl ?_
        refine lf_ior 42 rfl rfl ?_
        refine lf_seg 1 (pc' := 43) (lv' := [(1, .int (Int32.ofInt (lf_or x1 (lf_shl 1 x2)))), (0, .ref 68), (2, .int (Int32.ofInt x2))]) (st' := []) rfl ?_
        refine lf_sub (l := [(0, .ref 68), (1, .int (Int32.ofInt (lf_or x1 (lf_shl 1 x2)))), (2, .int (Int32.ofInt x2))]) (lf_sb1 rfl (lf_sb1 rfl (lf_sb1 rfl lf_sb0))) ?_
        exact gm_144_p43 hX4 h
theorem gm_144_p4L {L : Nat} {xs : Nat → Int32} {d : Nat} {Q : Int → lf_Z → Prop} {x1 : Int} {x2 : Int} {s : lf_Z} (h : fm_144_p4L Q x1 x2 s) : lf_E (px_ro L xs) (d + 2) 144 4 [(0, .ref 68), (1, .int (Int32.ofInt x1)), (2, .int (Int32.ofInt x2))] [] s (lf_qi Q) :=
  h (fun x1 x2 s => lf_E (px_ro L xs) (d + 2) 144 4 [(0, .ref 68), (1, .int (Int32.ofInt x1)), (2, .int (Int32.ofInt x2))] [] s (lf_qi Q)) (fun x1 x2 s hb => gm_144_p4 (fun _ _ _ h => h) hb)
def fm_144 (Q : Int → lf_Z → Prop) (s : lf_Z) : Prop := fm_144_p4L Q 0 0 s
set_option maxRecDepth 100000 in
theorem gm_144 {L : Nat} {xs : Nat → Int32} {d : Nat} {Q : Int → lf_Z → Prop} {s : lf_Z} (h : fm_144 Q s) : lf_M (px_ro L xs) (d + 2) 144 [.ref 68] s (lf_qi Q) := by
  unfold fm_144 at h
  show lf_E (px_ro L xs) (d + 2) 144 0 [(0, .ref 68)] [] s _
  refine lf_seg 4 (pc' := 4) (lv' := [(2, .int (Int32.ofInt 0)), (1, .int (Int32.ofInt 0)), (0, .ref 68)]) (st' := []) rfl ?_
  refine lf_sub (l := [(0, .ref 68), (1, .int (Int32.ofInt 0)), (2, .int (Int32.ofInt 0))]) (lf_sb1 rfl (lf_sb1 rfl (lf_sb1 rfl lf_sb0))) ?_
  exact gm_144_p4L h
-- fm_143 Walk.fewestToShut 68 i
def fm_143_p152 (X53 : Int → lf_Z → Prop) (Q : Int → lf_Z → Prop) (x1 : Int) (x2 : Int) (x3 : Int) (x4 : Int) (x5 : Int) (x6 : Int) (s : lf_Z) : Prop := X53 (x6 + 1) s
set_option maxRecDepth 100000 in
theorem gm_143_p152 {L : Nat} {xs : Nat → Int32} {d : Nat} {X53 : Int → lf_Z → Prop} {Q : Int → lf_Z → Prop} {x1 : Int} {x2 : Int} {x3 : Int} {x4 : Int} {x5 : Int} {x6 : Int} {s : lf_Z} (hX53 : ∀ x6 s, X53 x6 s → lf_E (px_ro L xs) (d + 7) 143 53 [(0, .ref 68), (1, .int (Int32.ofInt x1)), (2, .int (Int32.ofInt x2)), (3, .int (Int32.ofInt x3)), (4, .int (Int32.ofInt x4)), (5, .int (Int32.ofInt x5)), (6, .int (Int32.ofInt x6))] [] s (lf_qi Q)) (h : fm_143_p152 X53 Q x1 x2 x3 x4 x5 x6 s) : lf_E (px_ro L xs) (d + 7) 143 152 [(0, .ref 68), (1, .int (Int32.ofInt x1)), (2, .int (Int32.ofInt x2)), (3, .int (Int32.ofInt x3)), (4, .int (Int32.ofInt x4)), (5, .int (Int32.ofInt x5)), (6, .int (Int32.ofInt x6))] [] s (lf_qi Q) := by
  unfold fm_143_p152 at h
  refine lf_iinc 155 rfl rfl rfl rfl ?_
  refine lf_seg 1 (pc' := 53) (lv' := [(6, .int (Int32.ofInt (x6 + 1))), (0, .ref 68), (1, .int (Int32.ofInt x1)), (2, .int (Int32.ofInt x2)), (3, .int (Int32.ofInt x3)), (4, .int (Int32.ofInt x4)), (5, .int (Int32.ofInt x5))]) (st' := []) rfl ?_
  refine lf_sub (l := [(0, .ref 68), (1, .int (Int32.ofInt x1)), (2, .int (Int32.ofInt x2)), (3, .int (Int32.ofInt x3)), (4, .int (Int32.ofInt x4)), (5, .int (Int32.ofInt x5)), (6, .int (Int32.ofInt (x6 + 1)))]) (lf_sb1 rfl (lf_sb1 rfl (lf_sb1 rfl (lf_sb1 rfl (lf_sb1 rfl (lf_sb1 rfl (lf_sb1 rfl lf_sb0))))))) ?_
  exact hX53 _ _ h
def fm_143_p144 (X53 : Int → lf_Z → Prop) (X70 : Int → Int → lf_Z → Prop) (Q : Int → lf_Z → Prop) (x1 : Int) (x2 : Int) (x3 : Int) (x4 : Int) (x5 : Int) (x6 : Int) (x8 : Int) (y0 : Int) (s : lf_Z) : Prop := X70 y0 (x8 + 1) s
set_option maxRecDepth 100000 in
theorem gm_143_p144 {L : Nat} {xs : Nat → Int32} {d : Nat} {X53 : Int → lf_Z → Prop} {X70 : Int → Int → lf_Z → Prop} {Q : Int → lf_Z → Prop} {x1 : Int} {x2 : Int} {x3 : Int} {x4 : Int} {x5 : Int} {x6 : Int} {x8 : Int} {y0 : Int} {s : lf_Z} (hX53 : ∀ x6 s, X53 x6 s → lf_E (px_ro L xs) (d + 7) 143 53 [(0, .ref 68), (1, .int (Int32.ofInt x1)), (2, .int (Int32.ofInt x2)), (3, .int (Int32.ofInt x3)), (4, .int (Int32.ofInt x4)), (5, .int (Int32.ofInt x5)), (6, .int (Int32.ofInt x6))] [] s (lf_qi Q)) (hX70 : ∀ x7 x8 s, X70 x7 x8 s → lf_E (px_ro L xs) (d + 7) 143 70 [(0, .ref 68), (1, .int (Int32.ofInt x1)), (2, .int (Int32.ofInt x2)), (3, .int (Int32.ofInt x3)), (4, .int (Int32.ofInt x4)), (5, .int (Int32.ofInt x5)), (6, .int (Int32.ofInt x6)), (7, .int (Int32.ofInt x7)), (8, .int (Int32.ofInt x8))] [] s (lf_qi Q)) (h : fm_143_p144 X53 X70 Q x1 x2 x3 x4 x5 x6 x8 y0 s) : lf_E (px_ro L xs) (d + 7) 143 144 [(0, .ref 68), (1, .int (Int32.ofInt x1)), (2, .int (Int32.ofInt x2)), (3, .int (Int32.ofInt x3)), (4, .int (Int32.ofInt x4)), (5, .int (Int32.ofInt x5)), (6, .int (Int32.ofInt x6)), (8, .int (Int32.ofInt x8))] [.int (Int32.ofInt y0)] s (lf_qi Q) := by
  unfold fm_143_p144 at h
  refine lf_seg 1 (pc' := 146) (lv' := [(7, .int (Int32.ofInt y0)), (0, .ref 68), (1, .int (Int32.ofInt x1)), (2, .int (Int32.ofInt x2)), (3, .int (Int32.ofInt x3)), (4, .int (Int32.ofInt x4)), (5, .int (Int32.ofInt x5)), (6, .int (Int32.ofInt x6)), (8, .int (Int32.ofInt x8))]) (st' := []) rfl ?_
  refine lf_iinc 149 rfl rfl rfl rfl ?_
  refine lf_seg 1 (pc' := 70) (lv' := [(8, .int (Int32.ofInt (x8 + 1))), (7, .int (Int32.ofInt y0)), (0, .ref 68), (1, .int (Int32.ofInt x1)), (2, .int (Int32.ofInt x2)), (3, .int (Int32.ofInt x3)), (4, .int (Int32.ofInt x4)), (5, .int (Int32.ofInt x5)), (6, .int (Int32.ofInt x6))]) (st' := []) rfl ?_
  refine lf_sub (l := [(0, .ref 68), (1, .int (Int32.ofInt x1)), (2, .int (Int32.ofInt x2)), (3, .int (Int32.ofInt x3)), (4, .int (Int32.ofInt x4)), (5, .int (Int32.ofInt x5)), (6, .int (Int32.ofInt x6)), (7, .int (Int32.ofInt y0)), (8, .int (Int32.ofInt (x8 + 1)))]) (lf_sb1 rfl (lf_sb1 rfl (lf_sb1 rfl (lf_sb1 rfl (lf_sb1 rfl (lf_sb1 rfl (lf_sb1 rfl (lf_sb1 rfl (lf_sb1 rfl lf_sb0))))))))) ?_
  exact hX70 _ _ _ h
def fm_143_p129 (X53 : Int → lf_Z → Prop) (X70 : Int → Int → lf_Z → Prop) (Q : Int → lf_Z → Prop) (x1 : Int) (x2 : Int) (x3 : Int) (x4 : Int) (x5 : Int) (x6 : Int) (x7 : Int) (x8 : Int) (s : lf_Z) : Prop := lf_R x6 ∧ ((x6 ≠ 0 → (fm_133 x7 (fun r36 s35 => (fm_143_p144 X53 X70 Q x1 x2 x3 x4 x5 x6 x8 r36 s35)) s)) ∧ (¬ (x6 ≠ 0) → (fm_143_p144 X53 X70 Q x1 x2 x3 x4 x5 x6 x8 x5 s)))
set_option maxRecDepth 100000 in
theorem gm_143_p129 {L : Nat} {xs : Nat → Int32} {d : Nat} {X53 : Int → lf_Z → Prop} {X70 : Int → Int → lf_Z → Prop} {Q : Int → lf_Z → Prop} {x1 : Int} {x2 : Int} {x3 : Int} {x4 : Int} {x5 : Int} {x6 : Int} {x7 : Int} {x8 : Int} {s : lf_Z} (hX53 : ∀ x6 s, X53 x6 s → lf_E (px_ro L xs) (d + 7) 143 53 [(0, .ref 68), (1, .int (Int32.ofInt x1)), (2, .int (Int32.ofInt x2)), (3, .int (Int32.ofInt x3)), (4, .int (Int32.ofInt x4)), (5, .int (Int32.ofInt x5)), (6, .int (Int32.ofInt x6))] [] s (lf_qi Q)) (hX70 : ∀ x7 x8 s, X70 x7 x8 s → lf_E (px_ro L xs) (d + 7) 143 70 [(0, .ref 68), (1, .int (Int32.ofInt x1)), (2, .int (Int32.ofInt x2)), (3, .int (Int32.ofInt x3)), (4, .int (Int32.ofInt x4)), (5, .int (Int32.ofInt x5)), (6, .int (Int32.ofInt x6)), (7, .int (Int32.ofInt x7)), (8, .int (Int32.ofInt x8))] [] s (lf_qi Q)) (h : fm_143_p129 X53 X70 Q x1 x2 x3 x4 x5 x6 x7 x8 s) : lf_E (px_ro L xs) (d + 7) 143 129 [(0, .ref 68), (1, .int (Int32.ofInt x1)), (2, .int (Int32.ofInt x2)), (3, .int (Int32.ofInt x3)), (4, .int (Int32.ofInt x4)), (5, .int (Int32.ofInt x5)), (6, .int (Int32.ofInt x6)), (7, .int (Int32.ofInt x7)), (8, .int (Int32.ofInt x8))] [] s (lf_qi Q) := by
  unfold fm_143_p129 at h
  refine lf_seg 1 (pc' := 131) (lv' := [(0, .ref 68), (1, .int (Int32.ofInt x1)), (2, .int (Int32.ofInt x2)), (3, .int (Int32.ofInt x3)), (4, .int (Int32.ofInt x4)), (5, .int (Int32.ofInt x5)), (6, .int (Int32.ofInt x6)), (7, .int (Int32.ofInt x7)), (8, .int (Int32.ofInt x8))]) (st' := [.int (Int32.ofInt x6)]) rfl ?_
  obtain ⟨o34, h⟩ := h
  refine lf_if_ne 139 134 rfl rfl rfl o34 (fun c => ?_) (fun c => ?_)
  · have h := h.1 c
    refine lf_seg 1 (pc' := 141) (lv' := [(0, .ref 68), (1, .int (Int32.ofInt x1)), (2, .int (Int32.ofInt x2)), (3, .int (Int32.ofInt x3)), (4, .int (Int32.ofInt x4)), (5, .int (Int32.ofInt x5)), (6, .int (Int32.ofInt x6)), (7, .int (Int32.ofInt x7)), (8, .int (Int32.ofInt x8))]) (st' := [.int (Int32.ofInt x7)]) rfl ?_
    refine lf_callI 144 rfl rfl rfl rfl (gm_133 h) (fun r36 s35 h => ?_)
    refine lf_sub (l := [(0, .ref 68), (1, .int (Int32.ofInt x1)), (2, .int (Int32.ofInt x2)), (3, .int (Int32.ofInt x3)), (4, .int (Int32.ofInt x4)), (5, .int (Int32.ofInt x5)), (6, .int (Int32.ofInt x6)), (8, .int (Int32.ofInt x8))]) (lf_sb1 rfl (lf_sb1 rfl (lf_sb1 rfl (lf_sb1 rfl (lf_sb1 rfl (lf_sb1 rfl (lf_sb1 rfl (lf_sb1 rfl lf_sb0)))))))) ?_
    exact gm_143_p144 hX53 hX70 h
  · have h := h.2 c
    refine lf_seg 2 (pc' := 144) (lv' := [(0, .ref 68), (1, .int (Int32.ofInt x1)), (2, .int (Int32.ofInt x2)), (3, .int (Int32.ofInt x3)), (4, .int (Int32.ofInt x4)), (5, .int (Int32.ofInt x5)), (6, .int (Int32.ofInt x6)), (7, .int (Int32.ofInt x7)), (8, .int (Int32.ofInt x8))]) (st' := [.int (Int32.ofInt x5)]) rfl ?_
    refine lf_sub (l := [(0, .ref 68), (1, .int (Int32.ofInt x1)), (2, .int (Int32.ofInt x2)), (3, .int (Int32.ofInt x3)), (4, .int (Int32.ofInt x4)), (5, .int (Int32.ofInt x5)), (6, .int (Int32.ofInt x6)), (8, .int (Int32.ofInt x8))]) (lf_sb1 rfl (lf_sb1 rfl (lf_sb1 rfl (lf_sb1 rfl (lf_sb1 rfl (lf_sb1 rfl (lf_sb1 rfl (lf_sb1 rfl lf_sb0)))))))) ?_
    exact gm_143_p144 hX53 hX70 h
def fm_143_p110 (X53 : Int → lf_Z → Prop) (X70 : Int → Int → lf_Z → Prop) (Q : Int → lf_Z → Prop) (x1 : Int) (x2 : Int) (x3 : Int) (x4 : Int) (x5 : Int) (x6 : Int) (x7 : Int) (x8 : Int) (y0 : Int) (s : lf_Z) : Prop := (lf_and y0 x3 ≠ 0 → (fm_143_p129 X53 X70 Q x1 x2 x3 x4 x5 x6 x7 x8 s)) ∧ (¬ (lf_and y0 x3 ≠ 0) → ((lf_and y0 x2 = 0 → (fm_143_p129 X53 X70 Q x1 x2 x3 x4 x5 x6 x7 x8 s)) ∧ (¬ (lf_and y0 x2 = 0) → (Q x7 s))))
set_option maxRecDepth 100000 in
theorem gm_143_p110 {L : Nat} {xs : Nat → Int32} {d : Nat} {X53 : Int → lf_Z → Prop} {X70 : Int → Int → lf_Z → Prop} {Q : Int → lf_Z → Prop} {x1 : Int} {x2 : Int} {x3 : Int} {x4 : Int} {x5 : Int} {x6 : Int} {x7 : Int} {x8 : Int} {y0 : Int} {s : lf_Z} (hX53 : ∀ x6 s, X53 x6 s → lf_E (px_ro L xs) (d + 7) 143 53 [(0, .ref 68), (1, .int (Int32.ofInt x1)), (2, .int (Int32.ofInt x2)), (3, .int (Int32.ofInt x3)), (4, .int (Int32.ofInt x4)), (5, .int (Int32.ofInt x5)), (6, .int (Int32.ofInt x6))] [] s (lf_qi Q)) (hX70 : ∀ x7 x8 s, X70 x7 x8 s → lf_E (px_ro L xs) (d + 7) 143 70 [(0, .ref 68), (1, .int (Int32.ofInt x1)), (2, .int (Int32.ofInt x2)), (3, .int (Int32.ofInt x3)), (4, .int (Int32.ofInt x4)), (5, .int (Int32.ofInt x5)), (6, .int (Int32.ofInt x6)), (7, .int (Int32.ofInt x7)), (8, .int (Int32.ofInt x8))] [] s (lf_qi Q)) (h : fm_143_p110 X53 X70 Q x1 x2 x3 x4 x5 x6 x7 x8 y0 s) : lf_E (px_ro L xs) (d + 7) 143 110 [(0, .ref 68), (1, .int (Int32.ofInt x1)), (2, .int (Int32.ofInt x2)), (3, .int (Int32.ofInt x3)), (4, .int (Int32.ofInt x4)), (5, .int (Int32.ofInt x5)), (6, .int (Int32.ofInt x6)), (7, .int (Int32.ofInt x7)), (8, .int (Int32.ofInt x8))] [.int (Int32.ofInt y0)] s (lf_qi Q) := by
  unfold fm_143_p110 at h
  refine lf_seg 3 (pc' := 115) (lv' := [(9, .int (Int32.ofInt y0)), (0, .ref 68), (1, .int (Int32.ofInt x1)), (2, .int (Int32.ofInt x2)), (3, .int (Int32.ofInt x3)), (4, .int (Int32.ofInt x4)), (5, .int (Int32.ofInt x5)), (6, .int (Int32.ofInt x6)), (7, .int (Int32.ofInt x7)), (8, .int (Int32.ofInt x8))]) (st' := [.int (Int32.ofInt x3), .int (Int32.ofInt y0)]) rfl ?_
  refine lf_iand 116 rfl rfl ?_
  refine lf_if_ne 129 119 rfl rfl rfl lf_Rand (fun c => ?_) (fun c => ?_)
  · have h := h.1 c
    refine lf_sub (l := [(0, .ref 68), (1, .int (Int32.ofInt x1)), (2, .int (Int32.ofInt x2)), (3, .int (Int32.ofInt x3)), (4, .int (Int32.ofInt x4)), (5, .int (Int32.ofInt x5)), (6, .int (Int32.ofInt x6)), (7, .int (Int32.ofInt x7)), (8, .int (Int32.ofInt x8))]) (lf_sb1 rfl (lf_sb1 rfl (lf_sb1 rfl (lf_sb1 rfl (lf_sb1 rfl (lf_sb1 rfl (lf_sb1 rfl (lf_sb1 rfl (lf_sb1 rfl lf_sb0))))))))) ?_
    exact gm_143_p129 hX53 hX70 h
  · have h := h.2 c
    refine lf_seg 2 (pc' := 122) (lv' := [(9, .int (Int32.ofInt y0)), (0, .ref 68), (1, .int (Int32.ofInt x1)), (2, .int (Int32.ofInt x2)), (3, .int (Int32.ofInt x3)), (4, .int (Int32.ofInt x4)), (5, .int (Int32.ofInt x5)), (6, .int (Int32.ofInt x6)), (7, .int (Int32.ofInt x7)), (8, .int (Int32.ofInt x8))]) (st' := [.int (Int32.ofInt x2), .int (Int32.ofInt y0)]) rfl ?_
    refine lf_iand 123 rfl rfl ?_
    refine lf_if_eq 129 126 rfl rfl rfl lf_Rand (fun c => ?_) (fun c => ?_)
    · have h := h.1 c
      refine lf_sub (l := [(0, .ref 68), (1, .int (Int32.ofInt x1)), (2, .int (Int32.ofInt x2)), (3, .int (Int32.ofInt x3)), (4, .int (Int32.ofInt x4)), (5, .int (Int32.ofInt x5)), (6, .int (Int32.ofInt x6)), (7, .int (Int32.ofInt x7)), (8, .int (Int32.ofInt x8))]) (lf_sb1 rfl (lf_sb1 rfl (lf_sb1 rfl (lf_sb1 rfl (lf_sb1 rfl (lf_sb1 rfl (lf_sb1 rfl (lf_sb1 rfl (lf_sb1 rfl lf_sb0))))))))) ?_
      exact gm_143_p129 hX53 hX70 h
    · have h := h.2 c
      refine lf_seg 1 (pc' := 128) (lv' := [(9, .int (Int32.ofInt y0)), (0, .ref 68), (1, .int (Int32.ofInt x1)), (2, .int (Int32.ofInt x2)), (3, .int (Int32.ofInt x3)), (4, .int (Int32.ofInt x4)), (5, .int (Int32.ofInt x5)), (6, .int (Int32.ofInt x6)), (7, .int (Int32.ofInt x7)), (8, .int (Int32.ofInt x8))]) (st' := [.int (Int32.ofInt x7)]) rfl ?_
      exact lf_retI rfl rfl h
def fm_143_p70 (X53 : Int → lf_Z → Prop) (Q : Int → lf_Z → Prop) (x1 : Int) (x2 : Int) (x3 : Int) (x4 : Int) (x5 : Int) (x6 : Int) (X70 : Int → Int → lf_Z → Prop) (x7 : Int) (x8 : Int) (s : lf_Z) : Prop := lf_R x8 ∧ ((1000 ≤ x8 → (fm_143_p152 X53 Q x1 x2 x3 x4 x5 x6 s)) ∧ (¬ (1000 ≤ x8) → (lf_R x7 ∧ (lf_R x5 ∧ ((x5 ≤ x7 → (fm_143_p152 X53 Q x1 x2 x3 x4 x5 x6 s)) ∧ (¬ (x5 ≤ x7) → ((lf_and x7 (lf_xor x4 (-1)) ≠ 0 → (fm_143_p110 X53 X70 Q x1 x2 x3 x4 x5 x6 x7 x8 x3 (lf_up s.1 68 9 x7, s.2.1, s.2.2))) ∧ (¬ (lf_and x7 (lf_xor x4 (-1)) ≠ 0) → (fm_128 x1 (fun r38 s37 => (fm_143_p110 X53 X70 Q x1 x2 x3 x4 x5 x6 x7 x8 r38 s37)) (lf_up s.1 68 9 x7, s.2.1, s.2.2))))))))))
def fm_143_p70L (X53 : Int → lf_Z → Prop) (Q : Int → lf_Z → Prop) (x1 : Int) (x2 : Int) (x3 : Int) (x4 : Int) (x5 : Int) (x6 : Int) (x7 : Int) (x8 : Int) (s : lf_Z) : Prop := ∀ X70 : Int → Int → lf_Z → Prop, (∀ (x7 : Int) (x8 : Int) (s : lf_Z), fm_143_p70 X53 Q x1 x2 x3 x4 x5 x6 X70 x7 x8 s → X70 x7 x8 s) → X70 x7 x8 s
set_option maxRecDepth 100000 in
theorem gm_143_p70 {L : Nat} {xs : Nat → Int32} {d : Nat} {X53 : Int → lf_Z → Prop} {Q : Int → lf_Z → Prop} {x1 : Int} {x2 : Int} {x3 : Int} {x4 : Int} {x5 : Int} {x6 : Int} {x7 : Int} {x8 : Int} {s : lf_Z} {X70 : Int → Int → lf_Z → Prop} (hX53 : ∀ x6 s, X53 x6 s → lf_E (px_ro L xs) (d + 7) 143 53 [(0, .ref 68), (1, .int (Int32.ofInt x1)), (2, .int (Int32.ofInt x2)), (3, .int (Int32.ofInt x3)), (4, .int (Int32.ofInt x4)), (5, .int (Int32.ofInt x5)), (6, .int (Int32.ofInt x6))] [] s (lf_qi Q)) (hX70 : ∀ x7 x8 s, X70 x7 x8 s → lf_E (px_ro L xs) (d + 7) 143 70 [(0, .ref 68), (1, .int (Int32.ofInt x1)), (2, .int (Int32.ofInt x2)), (3, .int (Int32.ofInt x3)), (4, .int (Int32.ofInt x4)), (5, .int (Int32.ofInt x5)), (6, .int (Int32.ofInt x6)), (7, .int (Int32.ofInt x7)), (8, .int (Int32.ofInt x8))] [] s (lf_qi Q)) (h : fm_143_p70 X53 Q x1 x2 x3 x4 x5 x6 X70 x7 x8 s) : lf_E (px_ro L xs) (d + 7) 143 70 [(0, .ref 68), (1, .int (Int32.ofInt x1)), (2, .int (Int32.ofInt x2)), (3, .int (Int32.ofInt x3)), (4, .int (Int32.ofInt x4)), (5, .int (Int32.ofInt x5)), (6, .int (Int32.ofInt x6)), (7, .int (Int32.ofInt x7)), (8, .int (Int32.ofInt x8))] [] s (lf_qi Q) := by
  unfold fm_143_p70 at h
  refine lf_seg 1 (pc' := 72) (lv' := [(0, .ref 68), (1, .int (Int32.ofInt x1)), (2, .int (Int32.ofInt x2)), (3, .int (Int32.ofInt x3)), (4, .int (Int32.ofInt x4)), (5, .int (Int32.ofInt x5)), (6, .int (Int32.ofInt x6)), (7, .int (Int32.ofInt x7)), (8, .int (Int32.ofInt x8))]) (st' := [.int (Int32.ofInt x8)]) rfl ?_
  refine lf_sipush 75 1000 rfl rfl (by decide) (by decide) ?_
  obtain ⟨o31, h⟩ := h
  refine lf_icmp_ge 152 78 rfl rfl rfl o31 ⟨by decide, by decide⟩ (fun c => ?_) (fun c => ?_)
  · have h := h.1 c
    refine lf_sub (l := [(0, .ref 68), (1, .int (Int32.ofInt x1)), (2, .int (Int32.ofInt x2)), (3, .int (Int32.ofInt x3)), (4, .int (Int32.ofInt x4)), (5, .int (Int32.ofInt x5)), (6, .int (Int32.ofInt x6))]) (lf_sb1 rfl (lf_sb1 rfl (lf_sb1 rfl (lf_sb1 rfl (lf_sb1 rfl (lf_sb1 rfl (lf_sb1 rfl lf_sb0))))))) ?_
    exact gm_143_p152 hX53 h
  · have h := h.2 c
    refine lf_seg 2 (pc' := 82) (lv' := [(0, .ref 68), (1, .int (Int32.ofInt x1)), (2, .int (Int32.ofInt x2)), (3, .int (Int32.ofInt x3)), (4, .int (Int32.ofInt x4)), (5, .int (Int32.ofInt x5)), (6, .int (Int32.ofInt x6)), (7, .int (Int32.ofInt x7)), (8, .int (Int32.ofInt x8))]) (st' := [.int (Int32.ofInt x5), .int (Int32.ofInt x7)]) rfl ?_
    obtain ⟨o32, h⟩ := h
    obtain ⟨o33, h⟩ := h
    refine lf_icmp_ge 152 85 rfl rfl rfl o32 o33 (fun c => ?_) (fun c => ?_)
    · have h := h.1 c
      refine lf_sub (l := [(0, .ref 68), (1, .int (Int32.ofInt x1)), (2, .int (Int32.ofInt x2)), (3, .int (Int32.ofInt x3)), (4, .int (Int32.ofInt x4)), (5, .int (Int32.ofInt x5)), (6, .int (Int32.ofInt x6))]) (lf_sb1 rfl (lf_sb1 rfl (lf_sb1 rfl (lf_sb1 rfl (lf_sb1 rfl (lf_sb1 rfl (lf_sb1 rfl lf_sb0))))))) ?_
      exact gm_143_p152 hX53 h
    · have h := h.2 c
      refine lf_seg 2 (pc' := 88) (lv' := [(0, .ref 68), (1, .int (Int32.ofInt x1)), (2, .int (Int32.ofInt x2)), (3, .int (Int32.ofInt x3)), (4, .int (Int32.ofInt x4)), (5, .int (Int32.ofInt x5)), (6, .int (Int32.ofInt x6)), (7, .int (Int32.ofInt x7)), (8, .int (Int32.ofInt x8))]) (st' := [.int (Int32.ofInt x7), .ref 68]) rfl ?_
      refine lf_putI 91 9 rfl rfl rfl rfl rfl rfl rfl rfl ?_
      refine lf_as (lf_up s.1 68 9 x7, s.2.1, s.2.2) rfl ?_
      refine lf_seg 3 (pc' := 96) (lv' := [(0, .ref 68), (1, .int (Int32.ofInt x1)), (2, .int (Int32.ofInt x2)), (3, .int (Int32.ofInt x3)), (4, .int (Int32.ofInt x4)), (5, .int (Int32.ofInt x5)), (6, .int (Int32.ofInt x6)), (7, .int (Int32.ofInt x7)), (8, .int (Int32.ofInt x8))]) (st' := [.int (Int32.ofInt (-1)), .int (Int32.ofInt x4), .int (Int32.ofInt x7)]) rfl ?_
      refine lf_ixor 97 rfl rfl ?_
      refine lf_iand 98 rfl rfl ?_
      refine lf_if_ne 109 101 rfl rfl rfl lf_Rand (fun c => ?_) (fun c => ?_)
      · have h := h.1 c
        refine lf_seg 1 (pc' := 110) (lv' := [(0, .ref 68), (1, .int (Int32.ofInt x1)), (2, .int (Int32.ofInt x2)), (3, .int (Int32.ofInt x3)), (4, .int (Int32.ofInt x4)), (5, .int (Int32.ofInt x5)), (6, .int (Int32.ofInt x6)), (7, .int (Int32.ofInt x7)), (8, .int (Int32.ofInt x8))]) (st' := [.int (Int32.ofInt x3)]) rfl ?_
        refine lf_sub (l := [(0, .ref 68), (1, .int (Int32.ofInt x1)), (2, .int (Int32.ofInt x2)), (3, .int (Int32.ofInt x3)), (4, .int (Int32.ofInt x4)), (5, .int (Int32.ofInt x5)), (6, .int (Int32.ofInt x6)), (7, .int (Int32.ofInt x7)), (8, .int (Int32.ofInt x8))]) (lf_sb1 rfl (lf_sb1 rfl (lf_sb1 rfl (lf_sb1 rfl (lf_sb1 rfl (lf_sb1 rfl (lf_sb1 rfl (lf_sb1 rfl (lf_sb1 rfl lf_sb0))))))))) ?_
        exact gm_143_p110 hX53 hX70 h
      · have h := h.2 c
        refine lf_seg 2 (pc' := 103) (lv' := [(0, .ref 68), (1, .int (Int32.ofInt x1)), (2, .int (Int32.ofInt x2)), (3, .int (Int32.ofInt x3)), (4, .int (Int32.ofInt x4)), (5, .int (Int32.ofInt x5)), (6, .int (Int32.ofInt x6)), (7, .int (Int32.ofInt x7)), (8, .int (Int32.ofInt x8))]) (st' := [.int (Int32.ofInt x1), .ref 68]) rfl ?_
        refine lf_callI 106 rfl rfl rfl rfl (gm_128 h) (fun r38 s37 h => ?_)
        refine lf_seg 1 (pc' := 110) (lv' := [(0, .ref 68), (1, .int (Int32.ofInt x1)), (2, .int (Int32.ofInt x2)), (3, .int (Int32.ofInt x3)), (4, .int (Int32.ofInt x4)), (5, .int (Int32.ofInt x5)), (6, .int (Int32.ofInt x6)), (7, .int (Int32.ofInt x7)), (8, .int (Int32.ofInt x8))]) (st' := [.int (Int32.ofInt r38)]) rfl ?_
        refine lf_sub (l := [(0, .ref 68), (1, .int (Int32.ofInt x1)), (2, .int (Int32.ofInt x2)), (3, .int (Int32.ofInt x3)), (4, .int (Int32.ofInt x4)), (5, .int (Int32.ofInt x5)), (6, .int (Int32.ofInt x6)), (7, .int (Int32.ofInt x7)), (8, .int (Int32.ofInt x8))]) (lf_sb1 rfl (lf_sb1 rfl (lf_sb1 rfl (lf_sb1 rfl (lf_sb1 rfl (lf_sb1 rfl (lf_sb1 rfl (lf_sb1 rfl (lf_sb1 rfl lf_sb0))))))))) ?_
        exact gm_143_p110 hX53 hX70 h
theorem gm_143_p70L {L : Nat} {xs : Nat → Int32} {d : Nat} {X53 : Int → lf_Z → Prop} {Q : Int → lf_Z → Prop} {x1 : Int} {x2 : Int} {x3 : Int} {x4 : Int} {x5 : Int} {x6 : Int} {x7 : Int} {x8 : Int} {s : lf_Z} (hX53 : ∀ x6 s, X53 x6 s → lf_E (px_ro L xs) (d + 7) 143 53 [(0, .ref 68), (1, .int (Int32.ofInt x1)), (2, .int (Int32.ofInt x2)), (3, .int (Int32.ofInt x3)), (4, .int (Int32.ofInt x4)), (5, .int (Int32.ofInt x5)), (6, .int (Int32.ofInt x6))] [] s (lf_qi Q)) (h : fm_143_p70L X53 Q x1 x2 x3 x4 x5 x6 x7 x8 s) : lf_E (px_ro L xs) (d + 7) 143 70 [(0, .ref 68), (1, .int (Int32.ofInt x1)), (2, .int (Int32.ofInt x2)), (3, .int (Int32.ofInt x3)), (4, .int (Int32.ofInt x4)), (5, .int (Int32.ofInt x5)), (6, .int (Int32.ofInt x6)), (7, .int (Int32.ofInt x7)), (8, .int (Int32.ofInt x8))] [] s (lf_qi Q) :=
  h (fun x7 x8 s => lf_E (px_ro L xs) (d + 7) 143 70 [(0, .ref 68), (1, .int (Int32.ofInt x1)), (2, .int (Int32.ofInt x2)), (3, .int (Int32.ofInt x3)), (4, .int (Int32.ofInt x4)), (5, .int (Int32.ofInt x5)), (6, .int (Int32.ofInt x6)), (7, .int (Int32.ofInt x7)), (8, .int (Int32.ofInt x8))] [] s (lf_qi Q)) (fun x7 x8 s hb => gm_143_p70 hX53 (fun _ _ _ h => h) hb)
def fm_143_p53 (Q : Int → lf_Z → Prop) (x1 : Int) (x2 : Int) (x3 : Int) (x4 : Int) (x5 : Int) (X53 : Int → lf_Z → Prop) (x6 : Int) (s : lf_Z) : Prop := lf_R x6 ∧ ((3 < x6 → (Q (-1) s)) ∧ (¬ (3 < x6) → (fm_143_p70L X53 Q x1 x2 x3 x4 x5 x6 ((lf_shl 1 x6) - 1) 0 s)))
def fm_143_p53L (Q : Int → lf_Z → Prop) (x1 : Int) (x2 : Int) (x3 : Int) (x4 : Int) (x5 : Int) (x6 : Int) (s : lf_Z) : Prop := ∀ X53 : Int → lf_Z → Prop, (∀ (x6 : Int) (s : lf_Z), fm_143_p53 Q x1 x2 x3 x4 x5 X53 x6 s → X53 x6 s) → X53 x6 s
set_option maxRecDepth 100000 in
theorem gm_143_p53 {L : Nat} {xs : Nat → Int32} {d : Nat} {Q : Int → lf_Z → Prop} {x1 : Int} {x2 : Int} {x3 : Int} {x4 : Int} {x5 : Int} {x6 : Int} {s : lf_Z} {X53 : Int → lf_Z → Prop} (hX53 : ∀ x6 s, X53 x6 s → lf_E (px_ro L xs) (d + 7) 143 53 [(0, .ref 68), (1, .int (Int32.ofInt x1)), (2, .int (Int32.ofInt x2)), (3, .int (Int32.ofInt x3)), (4, .int (Int32.ofInt x4)), (5, .int (Int32.ofInt x5)), (6, .int (Int32.ofInt x6))] [] s (lf_qi Q)) (h : fm_143_p53 Q x1 x2 x3 x4 x5 X53 x6 s) : lf_E (px_ro L xs) (d + 7) 143 53 [(0, .ref 68), (1, .int (Int32.ofInt x1)), (2, .int (Int32.ofInt x2)), (3, .int (Int32.ofInt x3)), (4, .int (Int32.ofInt x4)), (5, .int (Int32.ofInt x5)), (6, .int (Int32.ofInt x6))] [] s (lf_qi Q) := by
  unfold fm_143_p53 at h
  refine lf_seg 2 (pc' := 56) (lv' := [(0, .ref 68), (1, .int (Int32.ofInt x1)), (2, .int (Int32.ofInt x2)), (3, .int (Int32.ofInt x3)), (4, .int (Int32.ofInt x4)), (5, .int (Int32.ofInt x5)), (6, .int (Int32.ofInt x6))]) (st' := [.int (Int32.ofInt 3), .int (Int32.ofInt x6)]) rfl ?_
  obtain ⟨o30, h⟩ := h
  refine lf_icmp_gt 158 59 rfl rfl rfl o30 ⟨by decide, by decide⟩ (fun c => ?_) (fun c => ?_)
  · have h := h.1 c
    refine lf_seg 1 (pc' := 159) (lv' := [(0, .ref 68), (1, .int (Int32.ofInt x1)), (2, .int (Int32.ofInt x2)), (3, .int (Int32.ofInt x3)), (4, .int (Int32.ofInt x4)), (5, .int (Int32.ofInt x5)), (6, .int (Int32.ofInt x6))]) (st' := [.int (Int32.ofInt (-1))]) rfl ?_
    exact lf_retI rfl rfl h
  · have h := h.2 c
    refine lf_seg 2 (pc' := 62) (lv' := [(0, .ref 68), (1, .int (Int32.ofInt x1)), (2, .int (Int32.ofInt x2)), (3, .int (Int32.ofInt x3)), (4, .int (Int32.ofInt x4)), (5, .int (Int32.ofInt x5)), (6, .int (Int32.ofInt x6))]) (st' := [.int (Int32.ofInt x6), .int (Int32.ofInt 1)]) rfl ?_
    refine lf_ishl 63 rfl rfl ?_
    refine lf_seg 1 (pc' := 64) (lv' := [(0, .ref 68), (1, .int (Int32.ofInt x1)), (2, .int (Int32.ofInt x2)), (3, .int (Int32.ofInt x3)), (4, .int (Int32.ofInt x4)), (5, .int (Int32.ofInt x5)), (6, .int (Int32.ofInt x6))]) (st' := [.int (Int32.ofInt 1), .int (Int32.ofInt (lf_shl 1 x6))]) rfl ?_
    refine lf_isub 65 rfl rfl ?_
    refine lf_seg 3 (pc' := 70) (lv' := [(8, .int (Int32.ofInt 0)), (7, .int (Int32.ofInt ((lf_shl 1 x6) - 1))), (0, .ref 68), (1, .int (Int32.ofInt x1)), (2, .int (Int32.ofInt x2)), (3, .int (Int32.ofInt x3)), (4, .int (Int32.ofInt x4)), (5, .int (Int32.ofInt x5)), (6, .int (Int32.ofInt x6))]) (st' := []) rfl ?_
    refine lf_sub (l := [(0, .ref 68), (1, .int (Int32.ofInt x1)), (2, .int (Int32.ofInt x2)), (3, .int (Int32.ofInt x3)), (4, .int (Int32.ofInt x4)), (5, .int (Int32.ofInt x5)), (6, .int (Int32.ofInt x6)), (7, .int (Int32.ofInt ((lf_shl 1 x6) - 1))), (8, .int (Int32.ofInt 0))]) (lf_sb1 rfl (lf_sb1 rfl (lf_sb1 rfl (lf_sb1 rfl (lf_sb1 rfl (lf_sb1 rfl (lf_sb1 rfl (lf_sb1 rfl (lf_sb1 rfl lf_sb0))))))))) ?_
    exact gm_143_p70L hX53 h
theorem gm_143_p53L {L : Nat} {xs : Nat → Int32} {d : Nat} {Q : Int → lf_Z → Prop} {x1 : Int} {x2 : Int} {x3 : Int} {x4 : Int} {x5 : Int} {x6 : Int} {s : lf_Z} (h : fm_143_p53L Q x1 x2 x3 x4 x5 x6 s) : lf_E (px_ro L xs) (d + 7) 143 53 [(0, .ref 68), (1, .int (Int32.ofInt x1)), (2, .int (Int32.ofInt x2)), (3, .int (Int32.ofInt x3)), (4, .int (Int32.ofInt x4)), (5, .int (Int32.ofInt x5)), (6, .int (Int32.ofInt x6))] [] s (lf_qi Q) :=
  h (fun x6 s => lf_E (px_ro L xs) (d + 7) 143 53 [(0, .ref 68), (1, .int (Int32.ofInt x1)), (2, .int (Int32.ofInt x2)), (3, .int (Int32.ofInt x3)), (4, .int (Int32.ofInt x4)), (5, .int (Int32.ofInt x5)), (6, .int (Int32.ofInt x6))] [] s (lf_qi Q)) (fun x6 s hb => gm_143_p53 (fun _ _ h => h) hb)
def fm_143 (a1 : Int) (Q : Int → lf_Z → Prop) (s : lf_Z) : Prop := fm_118 a1 0 (fun s21 => (fm_132 3 (fun r23 s22 => (fm_132 1 (fun r25 s24 => (fm_132 2 (fun r27 s26 => (fm_144 (fun r29 s28 => (fm_143_p53L Q a1 r23 (lf_or r25 r27) r29 (lf_shl 1 (s28.1 1 1)) 0 s28)) s26)) s24)) s22)) s21)) s
set_option maxRecDepth 100000 in
theorem gm_143 {L : Nat} {xs : Nat → Int32} {d : Nat} {a1 : Int} {Q : Int → lf_Z → Prop} {s : lf_Z} (h : fm_143 a1 Q s) : lf_M (px_ro L xs) (d + 7) 143 [.ref 68, .int (Int32.ofInt a1)] s (lf_qi Q) := by
  unfold fm_143 at h
  show lf_E (px_ro L xs) (d + 7) 143 0 [(0, .ref 68), (1, .int (Int32.ofInt a1))] [] s _
  refine lf_seg 3 (pc' := 3) (lv' := [(0, .ref 68), (1, .int (Int32.ofInt a1))]) (st' := [.int (Int32.ofInt 0), .int (Int32.ofInt a1), .ref 68]) rfl ?_
  refine lf_callV 6 rfl rfl rfl rfl (gm_118 h) (fun s21 h => ?_)
  refine lf_seg 3 (pc' := 11) (lv' := [(0, .ref 68), (1, .int (Int32.ofInt a1))]) (st' := [.int (Int32.ofInt 3), .ref 1]) rfl ?_
  refine lf_callI 14 rfl rfl rfl rfl (gm_132 h) (fun r23 s22 h => ?_)
  refine lf_seg 4 (pc' := 20) (lv' := [(2, .int (Int32.ofInt r23)), (0, .ref 68), (1, .int (Int32.ofInt a1))]) (st' := [.int (Int32.ofInt 1), .ref 1]) rfl ?_
  refine lf_callI 23 rfl rfl rfl rfl (gm_132 h) (fun r25 s24 h => ?_)
  refine lf_seg 3 (pc' := 28) (lv' := [(2, .int (Int32.ofInt r23)), (0, .ref 68), (1, .int (Int32.ofInt a1))]) (st' := [.int (Int32.ofInt 2), .ref 1, .int (Int32.ofInt r25)]) rfl ?_
  refine lf_callI 31 rfl rfl rfl rfl (gm_132 h) (fun r27 s26 h => ?_)
  refine lf_ior 32 rfl rfl ?_
  refine lf_seg 2 (pc' := 34) (lv' := [(3, .int (Int32.ofInt (lf_or r25 r27))), (2, .int (Int32.ofInt r23)), (0, .ref 68), (1, .int (Int32.ofInt a1))]) (st' := [.ref 68]) rfl ?_
  refine lf_callI 37 rfl rfl rfl rfl (gm_144 h) (fun r29 s28 h => ?_)
  refine lf_seg 4 (pc' := 44) (lv' := [(4, .int (Int32.ofInt r29)), (3, .int (Int32.ofInt (lf_or r25 r27))), (2, .int (Int32.ofInt r23)), (0, .ref 68), (1, .int (Int32.ofInt a1))]) (st' := [.ref 1, .int (Int32.ofInt 1)]) rfl ?_
  refine lf_getI 47 1 rfl rfl rfl rfl rfl rfl rfl ?_
  refine lf_ishl 48 rfl rfl ?_
  refine lf_seg 3 (pc' := 53) (lv' := [(6, .int (Int32.ofInt 0)), (5, .int (Int32.ofInt (lf_shl 1 (s28.1 1 1)))), (4, .int (Int32.ofInt r29)), (3, .int (Int32.ofInt (lf_or r25 r27))), (2, .int (Int32.ofInt r23)), (0, .ref 68), (1, .int (Int32.ofInt a1))]) (st' := []) rfl ?_
  refine lf_sub (l := [(0, .ref 68), (1, .int (Int32.ofInt a1)), (2, .int (Int32.ofInt r23)), (3, .int (Int32.ofInt (lf_or r25 r27))), (4, .int (Int32.ofInt r29)), (5, .int (Int32.ofInt (lf_shl 1 (s28.1 1 1)))), (6, .int (Int32.ofInt 0))]) (lf_sb1 rfl (lf_sb1 rfl (lf_sb1 rfl (lf_sb1 rfl (lf_sb1 rfl (lf_sb1 rfl (lf_sb1 rfl lf_sb0))))))) ?_
  exact gm_143_p53L h
-- fm_142 ElevenBullocks.home 0 i
def fm_142 (a1 : Int) (Q : Int → lf_Z → Prop) (s : lf_Z) : Prop := fm_80 a1 (fun z22 s21 => ((z22 = false → (Q (-1) s21)) ∧ (z22 = true → (fm_143 a1 (fun r24 s23 => (Q r24 s23)) s21)))) s
set_option maxRecDepth 100000 in
theorem gm_142 {L : Nat} {xs : Nat → Int32} {d : Nat} {a1 : Int} {Q : Int → lf_Z → Prop} {s : lf_Z} (h : fm_142 a1 Q s) : lf_M (px_ro L xs) (d + 8) 142 [.ref 0, .int (Int32.ofInt a1)] s (lf_qi Q) := by
  unfold fm_142 at h
  show lf_E (px_ro L xs) (d + 8) 142 0 [(0, .ref 0), (1, .int (Int32.ofInt a1))] [] s _
  refine lf_seg 3 (pc' := 5) (lv' := [(0, .ref 0), (1, .int (Int32.ofInt a1))]) (st' := [.int (Int32.ofInt a1), .ref 15]) rfl ?_
  refine lf_callZ 8 rfl rfl rfl rfl (gm_80 h) (fun z22 s21 h => ?_)
  refine lf_ifz_eq 22 11 rfl rfl rfl (fun c => ?_) (fun c => ?_)
  · have h := h.1 c
    refine lf_seg 1 (pc' := 23) (lv' := [(0, .ref 0), (1, .int (Int32.ofInt a1))]) (st' := [.int (Int32.ofInt (-1))]) rfl ?_
    exact lf_retI rfl rfl h
  · have h := h.2 c
    refine lf_seg 3 (pc' := 16) (lv' := [(0, .ref 0), (1, .int (Int32.ofInt a1))]) (st' := [.int (Int32.ofInt a1), .ref 68]) rfl ?_
    refine lf_callI 19 rfl rfl rfl rfl (gm_143 h) (fun r24 s23 h => ?_)
    refine lf_seg 1 (pc' := 23) (lv' := [(0, .ref 0), (1, .int (Int32.ofInt a1))]) (st' := [.int (Int32.ofInt r24)]) rfl ?_
    exact lf_retI rfl rfl h
-- fm_297 Model.home 95 i
def fm_297_p176 (Q : Int → lf_Z → Prop) (x2 : Int) (s : lf_Z) : Prop := Q x2 (lf_up s.1 95 31 0, s.2.1, s.2.2)
set_option maxRecDepth 100000 in
theorem gm_297_p176 {L : Nat} {xs : Nat → Int32} {d : Nat} {Q : Int → lf_Z → Prop} {x2 : Int} {s : lf_Z} (h : fm_297_p176 Q x2 s) : lf_E (px_ro L xs) (d + 7) 297 176 [(0, .ref 95), (2, .int (Int32.ofInt x2))] [] s (lf_qi Q) := by
  unfold fm_297_p176 at h
  refine lf_seg 2 (pc' := 178) (lv' := [(0, .ref 95), (2, .int (Int32.ofInt x2))]) (st' := [.int (Int32.ofInt 0), .ref 95]) rfl ?_
  refine lf_putI 181 31 rfl rfl rfl rfl rfl rfl rfl rfl ?_
  refine lf_as (lf_up s.1 95 31 0, s.2.1, s.2.2) rfl ?_
  refine lf_seg 1 (pc' := 182) (lv' := [(0, .ref 95), (2, .int (Int32.ofInt x2))]) (st' := [.int (Int32.ofInt x2)]) rfl ?_
  exact lf_retI rfl rfl h
def fm_297_p170 (X66 : Int → Int → lf_Z → Prop) (Q : Int → lf_Z → Prop) (x1 : Int) (x2 : Int) (x3 : Int) (x4 : Int) (s : lf_Z) : Prop := X66 x2 (x4 + 1) s
set_option maxRecDepth 100000 in
theorem gm_297_p170 {L : Nat} {xs : Nat → Int32} {d : Nat} {X66 : Int → Int → lf_Z → Prop} {Q : Int → lf_Z → Prop} {x1 : Int} {x2 : Int} {x3 : Int} {x4 : Int} {s : lf_Z} (hX66 : ∀ x2 x4 s, X66 x2 x4 s → lf_E (px_ro L xs) (d + 7) 297 66 [(0, .ref 95), (1, .int (Int32.ofInt x1)), (2, .int (Int32.ofInt x2)), (3, .int (Int32.ofInt x3)), (4, .int (Int32.ofInt x4))] [] s (lf_qi Q)) (h : fm_297_p170 X66 Q x1 x2 x3 x4 s) : lf_E (px_ro L xs) (d + 7) 297 170 [(0, .ref 95), (1, .int (Int32.ofInt x1)), (2, .int (Int32.ofInt x2)), (3, .int (Int32.ofInt x3)), (4, .int (Int32.ofInt x4))] [] s (lf_qi Q) := by
  unfold fm_297_p170 at h
  refine lf_iinc 173 rfl rfl rfl rfl ?_
  refine lf_seg 1 (pc' := 66) (lv' := [(4, .int (Int32.ofInt (x4 + 1))), (0, .ref 95), (1, .int (Int32.ofInt x1)), (2, .int (Int32.ofInt x2)), (3, .int (Int32.ofInt x3))]) (st' := []) rfl ?_
  refine lf_sub (l := [(0, .ref 95), (1, .int (Int32.ofInt x1)), (2, .int (Int32.ofInt x2)), (3, .int (Int32.ofInt x3)), (4, .int (Int32.ofInt (x4 + 1)))]) (lf_sb1 rfl (lf_sb1 rfl (lf_sb1 rfl (lf_sb1 rfl (lf_sb1 rfl lf_sb0))))) ?_
  exact hX66 _ _ _ h
def fm_297_p164 (X66 : Int → Int → lf_Z → Prop) (X79 : Int → Int → lf_Z → Prop) (Q : Int → lf_Z → Prop) (x1 : Int) (x2 : Int) (x3 : Int) (x4 : Int) (x5 : Int) (s : lf_Z) : Prop := X79 x2 (x5 + 1) s
set_option maxRecDepth 100000 in
theorem gm_297_p164 {L : Nat} {xs : Nat → Int32} {d : Nat} {X66 : Int → Int → lf_Z → Prop} {X79 : Int → Int → lf_Z → Prop} {Q : Int → lf_Z → Prop} {x1 : Int} {x2 : Int} {x3 : Int} {x4 : Int} {x5 : Int} {s : lf_Z} (hX66 : ∀ x2 x4 s, X66 x2 x4 s → lf_E (px_ro L xs) (d + 7) 297 66 [(0, .ref 95), (1, .int (Int32.ofInt x1)), (2, .int (Int32.ofInt x2)), (3, .int (Int32.ofInt x3)), (4, .int (Int32.ofInt x4))] [] s (lf_qi Q)) (hX79 : ∀ x2 x5 s, X79 x2 x5 s → lf_E (px_ro L xs) (d + 7) 297 79 [(0, .ref 95), (1, .int (Int32.ofInt x1)), (2, .int (Int32.ofInt x2)), (3, .int (Int32.ofInt x3)), (4, .int (Int32.ofInt x4)), (5, .int (Int32.ofInt x5))] [] s (lf_qi Q)) (h : fm_297_p164 X66 X79 Q x1 x2 x3 x4 x5 s) : lf_E (px_ro L xs) (d + 7) 297 164 [(0, .ref 95), (1, .int (Int32.ofInt x1)), (2, .int (Int32.ofInt x2)), (3, .int (Int32.ofInt x3)), (4, .int (Int32.ofInt x4)), (5, .int (Int32.ofInt x5))] [] s (lf_qi Q) := by
  unfold fm_297_p164 at h
  refine lf_iinc 167 rfl rfl rfl rfl ?_
  refine lf_seg 1 (pc' := 79) (lv' := [(5, .int (Int32.ofInt (x5 + 1))), (0, .ref 95), (1, .int (Int32.ofInt x1)), (2, .int (Int32.ofInt x2)), (3, .int (Int32.ofInt x3)), (4, .int (Int32.ofInt x4))]) (st' := []) rfl ?_
  refine lf_sub (l := [(0, .ref 95), (1, .int (Int32.ofInt x1)), (2, .int (Int32.ofInt x2)), (3, .int (Int32.ofInt x3)), (4, .int (Int32.ofInt x4)), (5, .int (Int32.ofInt (x5 + 1)))]) (lf_sb1 rfl (lf_sb1 rfl (lf_sb1 rfl (lf_sb1 rfl (lf_sb1 rfl (lf_sb1 rfl lf_sb0)))))) ?_
  exact hX79 _ _ _ h
def fm_297_p79 (X66 : Int → Int → lf_Z → Prop) (Q : Int → lf_Z → Prop) (x1 : Int) (x3 : Int) (x4 : Int) (X79 : Int → Int → lf_Z → Prop) (x2 : Int) (x5 : Int) (s : lf_Z) : Prop := lf_R x5 ∧ ((lf_shl 1 (s.1 96 1) ≤ x5 → (fm_297_p170 X66 Q x1 x2 x3 x4 s)) ∧ (¬ (lf_shl 1 (s.1 96 1) ≤ x5) → (lf_R x2 ∧ ((0 ≤ x2 → (fm_297_p170 X66 Q x1 x2 x3 x4 s)) ∧ (¬ (0 ≤ x2) → (fm_188 x5 (fun r30 s29 => (lf_R r30 ∧ (lf_R x4 ∧ ((r30 ≠ x4 → (fm_297_p164 X66 X79 Q x1 x2 x3 x4 x5 s29)) ∧ (¬ (r30 ≠ x4) → ((lf_and x5 (lf_xor x3 (-1)) = 0 → (fm_294 x1 (fun r34 s33 => (fm_296 r34 3 (fun r36 s35 => (lf_R r36 ∧ ((r36 = 0 → (fm_297_p164 X66 X79 Q x1 x2 x3 x4 x5 s35)) ∧ (¬ (r36 = 0) → (fm_296 r34 1 (fun r39 s38 => (lf_R r39 ∧ ((r39 ≠ 0 → (fm_297_p164 X66 X79 Q x1 x2 x3 x4 x5 s38)) ∧ (¬ (r39 ≠ 0) → (fm_296 r34 2 (fun r42 s41 => (lf_R r42 ∧ ((r42 ≠ 0 → (fm_297_p164 X66 X79 Q x1 x2 x3 x4 x5 s41)) ∧ (¬ (r42 ≠ 0) → (fm_297_p164 X66 X79 Q x1 x5 x3 x4 x5 s41))))) s38))))) s35))))) s33)) (lf_up s29.1 95 31 x5, s29.2.1, s29.2.2))) ∧ (¬ (lf_and x5 (lf_xor x3 (-1)) = 0) → (fm_297_p164 X66 X79 Q x1 x2 x3 x4 x5 s29)))))))) s))))))
def fm_297_p79L (X66 : Int → Int → lf_Z → Prop) (Q : Int → lf_Z → Prop) (x1 : Int) (x2 : Int) (x3 : Int) (x4 : Int) (x5 : Int) (s : lf_Z) : Prop := ∀ X79 : Int → Int → lf_Z → Prop, (∀ (x2 : Int) (x5 : Int) (s : lf_Z), fm_297_p79 X66 Q x1 x3 x4 X79 x2 x5 s → X79 x2 x5 s) → X79 x2 x5 s
set_option maxRecDepth 100000 in
theorem gm_297_p79 {L : Nat} {xs : Nat → Int32} {d : Nat} {X66 : Int → Int → lf_Z → Prop} {Q : Int → lf_Z → Prop} {x1 : Int} {x2 : Int} {x3 : Int} {x4 : Int} {x5 : Int} {s : lf_Z} {X79 : Int → Int → lf_Z → Prop} (hX66 : ∀ x2 x4 s, X66 x2 x4 s → lf_E (px_ro L xs) (d + 7) 297 66 [(0, .ref 95), (1, .int (Int32.ofInt x1)), (2, .int (Int32.ofInt x2)), (3, .int (Int32.ofInt x3)), (4, .int (Int32.ofInt x4))] [] s (lf_qi Q)) (hX79 : ∀ x2 x5 s, X79 x2 x5 s → lf_E (px_ro L xs) (d + 7) 297 79 [(0, .ref 95), (1, .int (Int32.ofInt x1)), (2, .int (Int32.ofInt x2)), (3, .int (Int32.ofInt x3)), (4, .int (Int32.ofInt x4)), (5, .int (Int32.ofInt x5))] [] s (lf_qi Q)) (h : fm_297_p79 X66 Q x1 x3 x4 X79 x2 x5 s) : lf_E (px_ro L xs) (d + 7) 297 79 [(0, .ref 95), (1, .int (Int32.ofInt x1)), (2, .int (Int32.ofInt x2)), (3, .int (Int32.ofInt x3)), (4, .int (Int32.ofInt x4)), (5, .int (Int32.ofInt x5))] [] s (lf_qi Q) := by
  unfold fm_297_p79 at h
  refine lf_seg 5 (pc' := 87) (lv' := [(0, .ref 95), (1, .int (Int32.ofInt x1)), (2, .int (Int32.ofInt x2)), (3, .int (Int32.ofInt x3)), (4, .int (Int32.ofInt x4)), (5, .int (Int32.ofInt x5))]) (st' := [.int (Int32.ofInt 1), .ref 96, .int (Int32.ofInt 1), .int (Int32.ofInt x5)]) rfl ?_
  refine lf_iald 88 1538 rfl rfl rfl rfl rfl rfl ⟨by decide, by decide⟩ ?_
  refine lf_ishl 89 rfl rfl ?_
  obtain ⟨o27, h⟩ := h
  refine lf_icmp_ge 170 92 rfl rfl rfl o27 lf_Rshl (fun c => ?_) (fun c => ?_)
  · have h := h.1 c
    refine lf_sub (l := [(0, .ref 95), (1, .int (Int32.ofInt x1)), (2, .int (Int32.ofInt x2)), (3, .int (Int32.ofInt x3)), (4, .int (Int32.ofInt x4))]) (lf_sb1 rfl (lf_sb1 rfl (lf_sb1 rfl (lf_sb1 rfl (lf_sb1 rfl lf_sb0))))) ?_
    exact gm_297_p170 hX66 h
  · have h := h.2 c
    refine lf_seg 1 (pc' := 93) (lv' := [(0, .ref 95), (1, .int (Int32.ofInt x1)), (2, .int (Int32.ofInt x2)), (3, .int (Int32.ofInt x3)), (4, .int (Int32.ofInt x4)), (5, .int (Int32.ofInt x5))]) (st' := [.int (Int32.ofInt x2)]) rfl ?_
    obtain ⟨o28, h⟩ := h
    refine lf_if_ge 170 96 rfl rfl rfl o28 (fun c => ?_) (fun c => ?_)
    · have h := h.1 c
      refine lf_sub (l := [(0, .ref 95), (1, .int (Int32.ofInt x1)), (2, .int (Int32.ofInt x2)), (3, .int (Int32.ofInt x3)), (4, .int (Int32.ofInt x4))]) (lf_sb1 rfl (lf_sb1 rfl (lf_sb1 rfl (lf_sb1 rfl (lf_sb1 rfl lf_sb0))))) ?_
      exact gm_297_p170 hX66 h
    · have h := h.2 c
      refine lf_seg 1 (pc' := 98) (lv' := [(0, .ref 95), (1, .int (Int32.ofInt x1)), (2, .int (Int32.ofInt x2)), (3, .int (Int32.ofInt x3)), (4, .int (Int32.ofInt x4)), (5, .int (Int32.ofInt x5))]) (st' := [.int (Int32.ofInt x5)]) rfl ?_
      refine lf_callI 101 rfl rfl rfl rfl (gm_188 h) (fun r30 s29 h => ?_)
      refine lf_seg 1 (pc' := 103) (lv' := [(0, .ref 95), (1, .int (Int32.ofInt x1)), (2, .int (Int32.ofInt x2)), (3, .int (Int32.ofInt x3)), (4, .int (Int32.ofInt x4)), (5, .int (Int32.ofInt x5))]) (st' := [.int (Int32.ofInt x4), .int (Int32.ofInt r30)]) rfl ?_
      obtain ⟨o31, h⟩ := h
      obtain ⟨o32, h⟩ := h
      refine lf_icmp_ne 164 106 rfl rfl rfl o31 o32 (fun c => ?_) (fun c => ?_)
      · have h := h.1 c
        refine lf_sub (l := [(0, .ref 95), (1, .int (Int32.ofInt x1)), (2, .int (Int32.ofInt x2)), (3, .int (Int32.ofInt x3)), (4, .int (Int32.ofInt x4)), (5, .int (Int32.ofInt x5))]) (lf_sb1 rfl (lf_sb1 rfl (lf_sb1 rfl (lf_sb1 rfl (lf_sb1 rfl (lf_sb1 rfl lf_sb0)))))) ?_
        exact gm_297_p164 hX66 hX79 h
      · have h := h.2 c
        refine lf_seg 3 (pc' := 110) (lv' := [(0, .ref 95), (1, .int (Int32.ofInt x1)), (2, .int (Int32.ofInt x2)), (3, .int (Int32.ofInt x3)), (4, .int (Int32.ofInt x4)), (5, .int (Int32.ofInt x5))]) (st' := [.int (Int32.ofInt (-1)), .int (Int32.ofInt x3), .int (Int32.ofInt x5)]) rfl ?_
        refine lf_ixor 111 rfl rfl ?_
        refine lf_iand 112 rfl rfl ?_
        refine lf_if_eq 118 115 rfl rfl rfl lf_Rand (fun c => ?_) (fun c => ?_)
        · have h := h.1 c
          refine lf_seg 2 (pc' := 121) (lv' := [(0, .ref 95), (1, .int (Int32.ofInt x1)), (2, .int (Int32.ofInt x2)), (3, .int (Int32.ofInt x3)), (4, .int (Int32.ofInt x4)), (5, .int (Int32.ofInt x5))]) (st' := [.int (Int32.ofInt x5), .ref 95]) rfl ?_
          refine lf_putI 124 31 rfl rfl rfl rfl rfl rfl rfl rfl ?_
          refine lf_as (lf_up s29.1 95 31 x5, s29.2.1, s29.2.2) rfl ?_
          refine lf_seg 2 (pc' := 126) (lv' := [(0, .ref 95), (1, .int (Int32.ofInt x1)), (2, .int (Int32.ofInt x2)), (3, .int (Int32.ofInt x3)), (4, .int (Int32.ofInt x4)), (5, .int (Int32.ofInt x5))]) (st' := [.int (Int32.ofInt x1), .ref 95]) rfl ?_
          refine lf_callI 129 rfl rfl rfl rfl (gm_294 h) (fun r34 s33 h => ?_)
          refine lf_seg 4 (pc' := 135) (lv' := [(6, .int (Int32.ofInt r34)), (0, .ref 95), (1, .int (Int32.ofInt x1)), (2, .int (Int32.ofInt x2)), (3, .int (Int32.ofInt x3)), (4, .int (Int32.ofInt x4)), (5, .int (Int32.ofInt x5))]) (st' := [.int (Int32.ofInt 3), .int (Int32.ofInt r34), .ref 95]) rfl ?_
          refine lf_callI 138 rfl rfl rfl rfl (gm_296 h) (fun r36 s35 h => ?_)
          obtain ⟨o37, h⟩ := h
          refine lf_if_eq 164 141 rfl rfl rfl o37 (fun c => ?_) (fun c => ?_)
          · have h := h.1 c
            refine lf_sub (l := [(0, .ref 95), (1, .int (Int32.ofInt x1)), (2, .int (Int32.ofInt x2)), (3, .int (Int32.ofInt x3)), (4, .int (Int32.ofInt x4)), (5, .int (Int32.ofInt x5))]) (lf_sb1 rfl (lf_sb1 rfl (lf_sb1 rfl (lf_sb1 rfl (lf_sb1 rfl (lf_sb1 rfl lf_sb0)))))) ?_
            exact gm_297_p164 hX66 hX79 h
          · have h := h.2 c
            refine lf_seg 3 (pc' := 145) (lv' := [(6, .int (Int32.ofInt r34)), (0, .ref 95), (1, .int (Int32.ofInt x1)), (2, .int (Int32.ofInt x2)), (3, .int (Int32.ofInt x3)), (4, .int (Int32.ofInt x4)), (5, .int (Int32.ofInt x5))]) (st' := [.int (Int32.ofInt 1), .int (Int32.ofInt r34), .ref 95]) rfl ?_
            refine lf_callI 148 rfl rfl rfl rfl (gm_296 h) (fun r39 s38 h => ?_)
            obtain ⟨o40, h⟩ := h
            refine lf_if_ne 164 151 rfl rfl rfl o40 (fun c => ?_) (fun c => ?_)
            · have h := h.1 c
              refine lf_sub (l := [(0, .ref 95), (1, .int (Int32.ofInt x1)), (2, .int (Int32.ofInt x2)), (3, .int (Int32.ofInt x3)), (4, .int (Int32.ofInt x4)), (5, .int (Int32.ofInt x5))]) (lf_sb1 rfl (lf_sb1 rfl (lf_sb1 rfl (lf_sb1 rfl (lf_sb1 rfl (lf_sb1 rfl lf_sb0)))))) ?_
              exact gm_297_p164 hX66 hX79 h
            · have h := h.2 c
              refine lf_seg 3 (pc' := 155) (lv' := [(6, .int (Int32.ofInt r34)), (0, .ref 95), (1, .int (Int32.ofInt x1)), (2, .int (Int32.ofInt x2)), (3, .int (Int32.ofInt x3)), (4, .int (Int32.ofInt x4)), (5, .int (Int32.ofInt x5))]) (st' := [.int (Int32.ofInt 2), .int (Int32.ofInt r34), .ref 95]) rfl ?_
              refine lf_callI 158 rfl rfl rfl rfl (gm_296 h) (fun r42 s41 h => ?_)
              obtain ⟨o43, h⟩ := h
              refine lf_if_ne 164 161 rfl rfl rfl o43 (fun c => ?_) (fun c => ?_)
              · have h := h.1 c
                refine lf_sub (l := [(0, .ref 95), (1, .int (Int32.ofInt x1)), (2, .int (Int32.ofInt x2)), (3, .int (Int32.ofInt x3)), (4, .int (Int32.ofInt x4)), (5, .int (Int32.ofInt x5))]) (lf_sb1 rfl (lf_sb1 rfl (lf_sb1 rfl (lf_sb1 rfl (lf_sb1 rfl (lf_sb1 rfl lf_sb0)))))) ?_
                exact gm_297_p164 hX66 hX79 h
              · have h := h.2 c
                refine lf_seg 2 (pc' := 164) (lv' := [(2, .int (Int32.ofInt x5)), (6, .int (Int32.ofInt r34)), (0, .ref 95), (1, .int (Int32.ofInt x1)), (3, .int (Int32.ofInt x3)), (4, .int (Int32.ofInt x4)), (5, .int (Int32.ofInt x5))]) (st' := []) rfl ?_
                refine lf_sub (l := [(0, .ref 95), (1, .int (Int32.ofInt x1)), (2, .int (Int32.ofInt x5)), (3, .int (Int32.ofInt x3)), (4, .int (Int32.ofInt x4)), (5, .int (Int32.ofInt x5))]) (lf_sb1 rfl (lf_sb1 rfl (lf_sb1 rfl (lf_sb1 rfl (lf_sb1 rfl (lf_sb1 rfl lf_sb0)))))) ?_
                exact gm_297_p164 hX66 hX79 h
        · have h := h.2 c
          refine lf_seg 1 (pc' := 164) (lv' := [(0, .ref 95), (1, .int (Int32.ofInt x1)), (2, .int (Int32.ofInt x2)), (3, .int (Int32.ofInt x3)), (4, .int (Int32.ofInt x4)), (5, .int (Int32.ofInt x5))]) (st' := []) rfl ?_
          refine lf_sub (l := [(0, .ref 95), (1, .int (Int32.ofInt x1)), (2, .int (Int32.ofInt x2)), (3, .int (Int32.ofInt x3)), (4, .int (Int32.ofInt x4)), (5, .int (Int32.ofInt x5))]) (lf_sb1 rfl (lf_sb1 rfl (lf_sb1 rfl (lf_sb1 rfl (lf_sb1 rfl (lf_sb1 rfl lf_sb0)))))) ?_
          exact gm_297_p164 hX66 hX79 h
theorem gm_297_p79L {L : Nat} {xs : Nat → Int32} {d : Nat} {X66 : Int → Int → lf_Z → Prop} {Q : Int → lf_Z → Prop} {x1 : Int} {x2 : Int} {x3 : Int} {x4 : Int} {x5 : Int} {s : lf_Z} (hX66 : ∀ x2 x4 s, X66 x2 x4 s → lf_E (px_ro L xs) (d + 7) 297 66 [(0, .ref 95), (1, .int (Int32.ofInt x1)), (2, .int (Int32.ofInt x2)), (3, .int (Int32.ofInt x3)), (4, .int (Int32.ofInt x4))] [] s (lf_qi Q)) (h : fm_297_p79L X66 Q x1 x2 x3 x4 x5 s) : lf_E (px_ro L xs) (d + 7) 297 79 [(0, .ref 95), (1, .int (Int32.ofInt x1)), (2, .int (Int32.ofInt x2)), (3, .int (Int32.ofInt x3)), (4, .int (Int32.ofInt x4)), (5, .int (Int32.ofInt x5))] [] s (lf_qi Q) :=
  h (fun x2 x5 s => lf_E (px_ro L xs) (d + 7) 297 79 [(0, .ref 95), (1, .int (Int32.ofInt x1)), (2, .int (Int32.ofInt x2)), (3, .int (Int32.ofInt x3)), (4, .int (Int32.ofInt x4)), (5, .int (Int32.ofInt x5))] [] s (lf_qi Q)) (fun x2 x5 s hb => gm_297_p79 hX66 (fun _ _ _ h => h) hb)
def fm_297_p66 (Q : Int → lf_Z → Prop) (x1 : Int) (x3 : Int) (X66 : Int → Int → lf_Z → Prop) (x2 : Int) (x4 : Int) (s : lf_Z) : Prop := lf_R x4 ∧ ((3 < x4 → (fm_297_p176 Q x2 s)) ∧ (¬ (3 < x4) → (lf_R x2 ∧ ((0 ≤ x2 → (fm_297_p176 Q x2 s)) ∧ (¬ (0 ≤ x2) → (fm_297_p79L X66 Q x1 x2 x3 x4 0 s))))))
def fm_297_p66L (Q : Int → lf_Z → Prop) (x1 : Int) (x2 : Int) (x3 : Int) (x4 : Int) (s : lf_Z) : Prop := ∀ X66 : Int → Int → lf_Z → Prop, (∀ (x2 : Int) (x4 : Int) (s : lf_Z), fm_297_p66 Q x1 x3 X66 x2 x4 s → X66 x2 x4 s) → X66 x2 x4 s
set_option maxRecDepth 100000 in
theorem gm_297_p66 {L : Nat} {xs : Nat → Int32} {d : Nat} {Q : Int → lf_Z → Prop} {x1 : Int} {x2 : Int} {x3 : Int} {x4 : Int} {s : lf_Z} {X66 : Int → Int → lf_Z → Prop} (hX66 : ∀ x2 x4 s, X66 x2 x4 s → lf_E (px_ro L xs) (d + 7) 297 66 [(0, .ref 95), (1, .int (Int32.ofInt x1)), (2, .int (Int32.ofInt x2)), (3, .int (Int32.ofInt x3)), (4, .int (Int32.ofInt x4))] [] s (lf_qi Q)) (h : fm_297_p66 Q x1 x3 X66 x2 x4 s) : lf_E (px_ro L xs) (d + 7) 297 66 [(0, .ref 95), (1, .int (Int32.ofInt x1)), (2, .int (Int32.ofInt x2)), (3, .int (Int32.ofInt x3)), (4, .int (Int32.ofInt x4))] [] s (lf_qi Q) := by
  unfold fm_297_p66 at h
  refine lf_seg 2 (pc' := 69) (lv' := [(0, .ref 95), (1, .int (Int32.ofInt x1)), (2, .int (Int32.ofInt x2)), (3, .int (Int32.ofInt x3)), (4, .int (Int32.ofInt x4))]) (st' := [.int (Int32.ofInt 3), .int (Int32.ofInt x4)]) rfl ?_
  obtain ⟨o25, h⟩ := h
  refine lf_icmp_gt 176 72 rfl rfl rfl o25 ⟨by decide, by decide⟩ (fun c => ?_) (fun c => ?_)
  · have h := h.1 c
    refine lf_sub (l := [(0, .ref 95), (2, .int (Int32.ofInt x2))]) (lf_sb1 rfl (lf_sb1 rfl lf_sb0)) ?_
    exact gm_297_p176 h
  · have h := h.2 c
    refine lf_seg 1 (pc' := 73) (lv' := [(0, .ref 95), (1, .int (Int32.ofInt x1)), (2, .int (Int32.ofInt x2)), (3, .int (Int32.ofInt x3)), (4, .int (Int32.ofInt x4))]) (st' := [.int (Int32.ofInt x2)]) rfl ?_
    obtain ⟨o26, h⟩ := h
    refine lf_if_ge 176 76 rfl rfl rfl o26 (fun c => ?_) (fun c => ?_)
    · have h := h.1 c
      refine lf_sub (l := [(0, .ref 95), (2, .int (Int32.ofInt x2))]) (lf_sb1 rfl (lf_sb1 rfl lf_sb0)) ?_
      exact gm_297_p176 h
    · have h := h.2 c
      refine lf_seg 2 (pc' := 79) (lv' := [(5, .int (Int32.ofInt 0)), (0, .ref 95), (1, .int (Int32.ofInt x1)), (2, .int (Int32.ofInt x2)), (3, .int (Int32.ofInt x3)), (4, .int (Int32.ofInt x4))]) (st' := []) rfl ?_
      refine lf_sub (l := [(0, .ref 95), (1, .int (Int32.ofInt x1)), (2, .int (Int32.ofInt x2)), (3, .int (Int32.ofInt x3)), (4, .int (Int32.ofInt x4)), (5, .int (Int32.ofInt 0))]) (lf_sb1 rfl (lf_sb1 rfl (lf_sb1 rfl (lf_sb1 rfl (lf_sb1 rfl (lf_sb1 rfl lf_sb0)))))) ?_
      exact gm_297_p79L hX66 h
theorem gm_297_p66L {L : Nat} {xs : Nat → Int32} {d : Nat} {Q : Int → lf_Z → Prop} {x1 : Int} {x2 : Int} {x3 : Int} {x4 : Int} {s : lf_Z} (h : fm_297_p66L Q x1 x2 x3 x4 s) : lf_E (px_ro L xs) (d + 7) 297 66 [(0, .ref 95), (1, .int (Int32.ofInt x1)), (2, .int (Int32.ofInt x2)), (3, .int (Int32.ofInt x3)), (4, .int (Int32.ofInt x4))] [] s (lf_qi Q) :=
  h (fun x2 x4 s => lf_E (px_ro L xs) (d + 7) 297 66 [(0, .ref 95), (1, .int (Int32.ofInt x1)), (2, .int (Int32.ofInt x2)), (3, .int (Int32.ofInt x3)), (4, .int (Int32.ofInt x4))] [] s (lf_qi Q)) (fun x2 x4 s hb => gm_297_p66 (fun _ _ _ h => h) hb)
def fm_297_p55 (X17 : Int → Int → lf_Z → Prop) (Q : Int → lf_Z → Prop) (x1 : Int) (x2 : Int) (x4 : Int) (y0 : Int) (y1 : Int) (s : lf_Z) : Prop := X17 (lf_or y0 y1) (x4 + 1) s
set_option maxRecDepth 100000 in
theorem gm_297_p55 {L : Nat} {xs : Nat → Int32} {d : Nat} {X17 : Int → Int → lf_Z → Prop} {Q : Int → lf_Z → Prop} {x1 : Int} {x2 : Int} {x4 : Int} {y0 : Int} {y1 : Int} {s : lf_Z} (hX17 : ∀ x3 x4 s, X17 x3 x4 s → lf_E (px_ro L xs) (d + 7) 297 17 [(0, .ref 95), (1, .int (Int32.ofInt x1)), (2, .int (Int32.ofInt x2)), (3, .int (Int32.ofInt x3)), (4, .int (Int32.ofInt x4))] [] s (lf_qi Q)) (h : fm_297_p55 X17 Q x1 x2 x4 y0 y1 s) : lf_E (px_ro L xs) (d + 7) 297 55 [(0, .ref 95), (1, .int (Int32.ofInt x1)), (2, .int (Int32.ofInt x2)), (4, .int (Int32.ofInt x4))] [.int (Int32.ofInt y1), .int (Int32.ofInt y0)] s (lf_qi Q) := by
  unfold fm_297_p55 at h
  refine lf_ior 56 rfl rfl ?_
  refine lf_seg 1 (pc' := 57) (lv' := [(3, .int (Int32.ofInt (lf_or y0 y1))), (0, .ref 95), (1, .int (Int32.ofInt x1)), (2, .int (Int32.ofInt x2)), (4, .int (Int32.ofInt x4))]) (st' := []) rfl ?_
  refine lf_iinc 60 rfl rfl rfl rfl ?_
  refine lf_seg 1 (pc' := 17) (lv' := [(4, .int (Int32.ofInt (x4 + 1))), (3, .int (Int32.ofInt (lf_or y0 y1))), (0, .ref 95), (1, .int (Int32.ofInt x1)), (2, .int (Int32.ofInt x2))]) (st' := []) rfl ?_
  refine lf_sub (l := [(0, .ref 95), (1, .int (Int32.ofInt x1)), (2, .int (Int32.ofInt x2)), (3, .int (Int32.ofInt (lf_or y0 y1))), (4, .int (Int32.ofInt (x4 + 1)))]) (lf_sb1 rfl (lf_sb1 rfl (lf_sb1 rfl (lf_sb1 rfl (lf_sb1 rfl lf_sb0))))) ?_
  exact hX17 _ _ _ h
def fm_297_p54 (X17 : Int → Int → lf_Z → Prop) (Q : Int → lf_Z → Prop) (x1 : Int) (x2 : Int) (x4 : Int) (y0 : Int) (s : lf_Z) : Prop := fm_297_p55 X17 Q x1 x2 x4 y0 0 s
set_option maxRecDepth 100000 in
theorem gm_297_p54 {L : Nat} {xs : Nat → Int32} {d : Nat} {X17 : Int → Int → lf_Z → Prop} {Q : Int → lf_Z → Prop} {x1 : Int} {x2 : Int} {x4 : Int} {y0 : Int} {s : lf_Z} (hX17 : ∀ x3 x4 s, X17 x3 x4 s → lf_E (px_ro L xs) (d + 7) 297 17 [(0, .ref 95), (1, .int (Int32.ofInt x1)), (2, .int (Int32.ofInt x2)), (3, .int (Int32.ofInt x3)), (4, .int (Int32.ofInt x4))] [] s (lf_qi Q)) (h : fm_297_p54 X17 Q x1 x2 x4 y0 s) : lf_E (px_ro L xs) (d + 7) 297 54 [(0, .ref 95), (1, .int (Int32.ofInt x1)), (2, .int (Int32.ofInt x2)), (4, .int (Int32.ofInt x4))] [.int (Int32.ofInt y0)] s (lf_qi Q) := by
  unfold fm_297_p54 at h
  refine lf_seg 1 (pc' := 55) (lv' := [(0, .ref 95), (1, .int (Int32.ofInt x1)), (2, .int (Int32.ofInt x2)), (4, .int (Int32.ofInt x4))]) (st' := [.int (Int32.ofInt 0), .int (Int32.ofInt y0)]) rfl ?_
  refine lf_sub (l := [(0, .ref 95), (1, .int (Int32.ofInt x1)), (2, .int (Int32.ofInt x2)), (4, .int (Int32.ofInt x4))]) (lf_sb1 rfl (lf_sb1 rfl (lf_sb1 rfl (lf_sb1 rfl lf_sb0)))) ?_
  exact gm_297_p55 hX17 h
def fm_297_p17 (Q : Int → lf_Z → Prop) (x1 : Int) (x2 : Int) (X17 : Int → Int → lf_Z → Prop) (x3 : Int) (x4 : Int) (s : lf_Z) : Prop := lf_R x4 ∧ (lf_R (s.1 96 1) ∧ ((s.1 96 1 ≤ x4 → (fm_297_p66L Q x1 x2 x3 0 s)) ∧ (¬ (s.1 96 1 ≤ x4) → (fm_245 x4 (fun z45 s44 => ((z45 = false → (fm_297_p54 X17 Q x1 x2 x4 x3 s44)) ∧ (z45 = true → (fm_252 x4 (fun z47 s46 => ((z47 = true → (fm_297_p54 X17 Q x1 x2 x4 x3 s46)) ∧ (z47 = false → (fm_297_p55 X17 Q x1 x2 x4 x3 (lf_shl 1 x4) s46)))) s44)))) s))))
def fm_297_p17L (Q : Int → lf_Z → Prop) (x1 : Int) (x2 : Int) (x3 : Int) (x4 : Int) (s : lf_Z) : Prop := ∀ X17 : Int → Int → lf_Z → Prop, (∀ (x3 : Int) (x4 : Int) (s : lf_Z), fm_297_p17 Q x1 x2 X17 x3 x4 s → X17 x3 x4 s) → X17 x3 x4 s
set_option maxRecDepth 100000 in
theorem gm_297_p17 {L : Nat} {xs : Nat → Int32} {d : Nat} {Q : Int → lf_Z → Prop} {x1 : Int} {x2 : Int} {x3 : Int} {x4 : Int} {s : lf_Z} {X17 : Int → Int → lf_Z → Prop} (hX17 : ∀ x3 x4 s, X17 x3 x4 s → lf_E (px_ro L xs) (d + 7) 297 17 [(0, .ref 95), (1, .int (Int32.ofInt x1)), (2, .int (Int32.ofInt x2)), (3, .int (Int32.ofInt x3)), (4, .int (Int32.ofInt x4))] [] s (lf_qi Q)) (h : fm_297_p17 Q x1 x2 X17 x3 x4 s) : lf_E (px_ro L xs) (d + 7) 297 17 [(0, .ref 95), (1, .int (Int32.ofInt x1)), (2, .int (Int32.ofInt x2)), (3, .int (Int32.ofInt x3)), (4, .int (Int32.ofInt x4))] [] s (lf_qi Q) := by
  unfold fm_297_p17 at h
  refine lf_seg 4 (pc' := 24) (lv' := [(0, .ref 95), (1, .int (Int32.ofInt x1)), (2, .int (Int32.ofInt x2)), (3, .int (Int32.ofInt x3)), (4, .int (Int32.ofInt x4))]) (st' := [.int (Int32.ofInt 1), .ref 96, .int (Int32.ofInt x4)]) rfl ?_
  refine lf_iald 25 1538 rfl rfl rfl rfl rfl rfl ⟨by decide, by decide⟩ ?_
  obtain ⟨o23, h⟩ := h
  obtain ⟨o24, h⟩ := h
  refine lf_icmp_ge 63 28 rfl rfl rfl o23 o24 (fun c => ?_) (fun c => ?_)
  · have h := h.1 c
    refine lf_seg 2 (pc' := 66) (lv' := [(4, .int (Int32.ofInt 0)), (0, .ref 95), (1, .int (Int32.ofInt x1)), (2, .int (Int32.ofInt x2)), (3, .int (Int32.ofInt x3))]) (st' := []) rfl ?_
    refine lf_sub (l := [(0, .ref 95), (1, .int (Int32.ofInt x1)), (2, .int (Int32.ofInt x2)), (3, .int (Int32.ofInt x3)), (4, .int (Int32.ofInt 0))]) (lf_sb1 rfl (lf_sb1 rfl (lf_sb1 rfl (lf_sb1 rfl (lf_sb1 rfl lf_sb0))))) ?_
    exact gm_297_p66L h
  · have h := h.2 c
    refine lf_seg 3 (pc' := 32) (lv' := [(0, .ref 95), (1, .int (Int32.ofInt x1)), (2, .int (Int32.ofInt x2)), (3, .int (Int32.ofInt x3)), (4, .int (Int32.ofInt x4))]) (st' := [.int (Int32.ofInt x4), .ref 95, .int (Int32.ofInt x3)]) rfl ?_
    refine lf_callZ 35 rfl rfl rfl rfl (gm_245 h) (fun z45 s44 h => ?_)
    refine lf_ifz_eq 54 38 rfl rfl rfl (fun c => ?_) (fun c => ?_)
    · have h := h.1 c
      refine lf_sub (l := [(0, .ref 95), (1, .int (Int32.ofInt x1)), (2, .int (Int32.ofInt x2)), (4, .int (Int32.ofInt x4))]) (lf_sb1 rfl (lf_sb1 rfl (lf_sb1 rfl (lf_sb1 rfl lf_sb0)))) ?_
      exact gm_297_p54 hX17 h
    · have h := h.2 c
      refine lf_seg 2 (pc' := 41) (lv' := [(0, .ref 95), (1, .int (Int32.ofInt x1)), (2, .int (Int32.ofInt x2)), (3, .int (Int32.ofInt x3)), (4, .int (Int32.ofInt x4))]) (st' := [.int (Int32.ofInt x4), .ref 95, .int (Int32.ofInt x3)]) rfl ?_
      refine lf_callZ 44 rfl rfl rfl rfl (gm_252 h) (fun z47 s46 h => ?_)
      refine lf_ifz_ne 54 47 rfl rfl rfl (fun c => ?_) (fun c => ?_)
      · have h := h.1 c
        refine lf_sub (l := [(0, .ref 95), (1, .int (Int32.ofInt x1)), (2, .int (Int32.ofInt x2)), (4, .int (Int32.ofInt x4))]) (lf_sb1 rfl (lf_sb1 rfl (lf_sb1 rfl (lf_sb1 rfl lf_sb0)))) ?_
        exact gm_297_p54 hX17 h
      · have h := h.2 c
        refine lf_seg 2 (pc' := 50) (lv' := [(0, .ref 95), (1, .int (Int32.ofInt x1)), (2, .int (Int32.ofInt x2)), (3, .int (Int32.ofInt x3)), (4, .int (Int32.ofInt x4))]) (st' := [.int (Int32.ofInt x4), .int (Int32.ofInt 1), .int (Int32.ofInt x3)]) rfl ?_
        refine lf_ishl 51 rfl rfl ?_
        refine lf_seg 1 (pc' := 55) (lv' := [(0, .ref 95), (1, .int (Int32.ofInt x1)), (2, .int (Int32.ofInt x2)), (3, .int (Int32.ofInt x3)), (4, .int (Int32.ofInt x4))]) (st' := [.int (Int32.ofInt (lf_shl 1 x4)), .int (Int32.ofInt x3)]) rfl ?_
        refine lf_sub (l := [(0, .ref 95), (1, .int (Int32.ofInt x1)), (2, .int (Int32.ofInt x2)), (4, .int (Int32.ofInt x4))]) (lf_sb1 rfl (lf_sb1 rfl (lf_sb1 rfl (lf_sb1 rfl lf_sb0)))) ?_
        exact gm_297_p55 hX17 h
theorem gm_297_p17L {L : Nat} {xs : Nat → Int32} {d : Nat} {Q : Int → lf_Z → Prop} {x1 : Int} {x2 : Int} {x3 : Int} {x4 : Int} {s : lf_Z} (h : fm_297_p17L Q x1 x2 x3 x4 s) : lf_E (px_ro L xs) (d + 7) 297 17 [(0, .ref 95), (1, .int (Int32.ofInt x1)), (2, .int (Int32.ofInt x2)), (3, .int (Int32.ofInt x3)), (4, .int (Int32.ofInt x4))] [] s (lf_qi Q) :=
  h (fun x3 x4 s => lf_E (px_ro L xs) (d + 7) 297 17 [(0, .ref 95), (1, .int (Int32.ofInt x1)), (2, .int (Int32.ofInt x2)), (3, .int (Int32.ofInt x3)), (4, .int (Int32.ofInt x4))] [] s (lf_qi Q)) (fun x3 x4 s hb => gm_297_p17 (fun _ _ _ h => h) hb)
def fm_297 (a1 : Int) (Q : Int → lf_Z → Prop) (s : lf_Z) : Prop := fm_254 a1 (fun z22 s21 => ((z22 = true → (fm_297_p17L Q a1 (-1) 0 0 s21)) ∧ (z22 = false → (Q (-1) s21)))) s
set_option maxRecDepth 100000 in
theorem gm_297 {L : Nat} {xs : Nat → Int32} {d : Nat} {a1 : Int} {Q : Int → lf_Z → Prop} {s : lf_Z} (h : fm_297 a1 Q s) : lf_M (px_ro L xs) (d + 7) 297 [.ref 95, .int (Int32.ofInt a1)] s (lf_qi Q) := by
  unfold fm_297 at h
  show lf_E (px_ro L xs) (d + 7) 297 0 [(0, .ref 95), (1, .int (Int32.ofInt a1))] [] s _
  refine lf_seg 2 (pc' := 2) (lv' := [(0, .ref 95), (1, .int (Int32.ofInt a1))]) (st' := [.int (Int32.ofInt a1), .ref 95]) rfl ?_
  refine lf_callZ 5 rfl rfl rfl rfl (gm_254 h) (fun z22 s21 h => ?_)
  refine lf_ifz_ne 10 8 rfl rfl rfl (fun c => ?_) (fun c => ?_)
  · have h := h.1 c
    refine lf_seg 6 (pc' := 17) (lv' := [(4, .int (Int32.ofInt 0)), (3, .int (Int32.ofInt 0)), (2, .int (Int32.ofInt (-1))), (0, .ref 95), (1, .int (Int32.ofInt a1))]) (st' := []) rfl ?_
    refine lf_sub (l := [(0, .ref 95), (1, .int (Int32.ofInt a1)), (2, .int (Int32.ofInt (-1))), (3, .int (Int32.ofInt 0)), (4, .int (Int32.ofInt 0))]) (lf_sb1 rfl (lf_sb1 rfl (lf_sb1 rfl (lf_sb1 rfl (lf_sb1 rfl lf_sb0))))) ?_
    exact gm_297_p17L h
  · have h := h.2 c
    refine lf_seg 1 (pc' := 9) (lv' := [(0, .ref 95), (1, .int (Int32.ofInt a1))]) (st' := [.int (Int32.ofInt (-1))]) rfl ?_
    exact lf_retI rfl rfl h
-- fm_146 Notes.addSight 25 i i
def fm_146 (a1 : Int) (a2 : Int) (Q : Int → lf_Z → Prop) (s : lf_Z) : Prop := lf_R (s.1 25 2) ∧ ((s.1 25 2 < 6 → ((0 ≤ s.1 25 2 ∧ s.1 25 2 < 6) ∧ (Q ((s.1 25 2) + 1) (lf_up (lf_up (lf_up s.1 26 (s.1 25 2) a1) 27 (s.1 25 2) a2) 25 2 ((s.1 25 2) + 1), s.2.1, s.2.2)))) ∧ (¬ (s.1 25 2 < 6) → (Q (-2) s)))
set_option maxRecDepth 100000 in
theorem gm_146 {L : Nat} {xs : Nat → Int32} {d : Nat} {a1 : Int} {a2 : Int} {Q : Int → lf_Z → Prop} {s : lf_Z} (h : fm_146 a1 a2 Q s) : lf_M (px_ro L xs) (d + 1) 146 [.ref 25, .int (Int32.ofInt a1), .int (Int32.ofInt a2)] s (lf_qi Q) := by
  unfold fm_146 at h
  show lf_E (px_ro L xs) (d + 1) 146 0 [(0, .ref 25), (1, .int (Int32.ofInt a1)), (2, .int (Int32.ofInt a2))] [] s _
  refine lf_seg 1 (pc' := 1) (lv' := [(0, .ref 25), (1, .int (Int32.ofInt a1)), (2, .int (Int32.ofInt a2))]) (st' := [.ref 25]) rfl ?_
  refine lf_getI 4 2 rfl rfl rfl rfl rfl rfl rfl ?_
  refine lf_bipush 6 6 rfl rfl (by decide) (by decide) ?_
  obtain ⟨o21, h⟩ := h
  refine lf_icmp_lt 12 9 rfl rfl rfl o21 ⟨by decide, by decide⟩ (fun c => ?_) (fun c => ?_)
  · have h := h.1 c
    refine lf_seg 3 (pc' := 17) (lv' := [(0, .ref 25), (1, .int (Int32.ofInt a1)), (2, .int (Int32.ofInt a2))]) (st' := [.ref 25, .ref 26]) rfl ?_
    refine lf_getI 20 2 rfl rfl rfl rfl rfl rfl rfl ?_
    refine lf_seg 1 (pc' := 21) (lv' := [(0, .ref 25), (1, .int (Int32.ofInt a1)), (2, .int (Int32.ofInt a2))]) (st' := [.int (Int32.ofInt a1), .int (Int32.ofInt (s.1 25 2)), .ref 26]) rfl ?_
    obtain ⟨o22, h⟩ := h
    refine lf_iast 22 6 rfl rfl rfl rfl rfl rfl o22 ?_
    refine lf_as (lf_up s.1 26 (s.1 25 2) a1, s.2.1, s.2.2) rfl ?_
    refine lf_seg 3 (pc' := 27) (lv' := [(0, .ref 25), (1, .int (Int32.ofInt a1)), (2, .int (Int32.ofInt a2))]) (st' := [.ref 25, .ref 27]) rfl ?_
    refine lf_getI 30 2 rfl rfl rfl rfl rfl rfl rfl ?_
    refine lf_seg 1 (pc' := 31) (lv' := [(0, .ref 25), (1, .int (Int32.ofInt a1)), (2, .int (Int32.ofInt a2))]) (st' := [.int (Int32.ofInt a2), .int (Int32.ofInt (s.1 25 2)), .ref 27]) rfl ?_
    refine lf_iast 32 6 rfl rfl rfl rfl rfl rfl o22 ?_
    refine lf_as (lf_up (lf_up s.1 26 (s.1 25 2) a1) 27 (s.1 25 2) a2, s.2.1, s.2.2) rfl ?_
    refine lf_seg 2 (pc' := 34) (lv' := [(0, .ref 25), (1, .int (Int32.ofInt a1)), (2, .int (Int32.ofInt a2))]) (st' := [.ref 25, .ref 25]) rfl ?_
    refine lf_getI 37 2 rfl rfl rfl rfl rfl rfl rfl ?_
    refine lf_seg 1 (pc' := 38) (lv' := [(0, .ref 25), (1, .int (Int32.ofInt a1)), (2, .int (Int32.ofInt a2))]) (st' := [.int (Int32.ofInt 1), .int (Int32.ofInt (s.1 25 2)), .ref 25]) rfl ?_
    refine lf_iadd 39 rfl rfl ?_
    refine lf_putI 42 2 rfl rfl rfl rfl rfl rfl rfl rfl ?_
    refine lf_as (lf_up (lf_up (lf_up s.1 26 (s.1 25 2) a1) 27 (s.1 25 2) a2) 25 2 ((s.1 25 2) + 1), s.2.1, s.2.2) rfl ?_
    refine lf_seg 1 (pc' := 43) (lv' := [(0, .ref 25), (1, .int (Int32.ofInt a1)), (2, .int (Int32.ofInt a2))]) (st' := [.ref 25]) rfl ?_
    refine lf_getI 46 2 rfl rfl rfl rfl rfl rfl rfl ?_
    refine lf_seg 0 (pc' := 46) (lv' := [(0, .ref 25), (1, .int (Int32.ofInt a1)), (2, .int (Int32.ofInt a2))]) (st' := [.int (Int32.ofInt ((s.1 25 2) + 1))]) rfl ?_
    exact lf_retI rfl rfl h
  · have h := h.2 c
    refine lf_bipush 11 (-2) rfl rfl (by decide) (by decide) ?_
    exact lf_retI rfl rfl h
-- fm_145 ElevenBullocks.seen 0 i i
def fm_145 (a1 : Int) (a2 : Int) (Q : Int → lf_Z → Prop) (s : lf_Z) : Prop := lf_R a1 ∧ ((a1 ≠ (-1) → (fm_18 a1 (fun z23 s22 => ((z23 = false → (Q (-2) s22)) ∧ (z23 = true → (fm_15 a2 0 60 (fun z25 s24 => ((z25 = true → (fm_146 a1 a2 (fun r27 s26 => (Q r27 s26)) s24)) ∧ (z25 = false → (Q (-2) s24)))) s22)))) s)) ∧ (¬ (a1 ≠ (-1)) → (Q 0 (lf_up s.1 25 2 0, s.2.1, s.2.2))))
set_option maxRecDepth 100000 in
theorem gm_145 {L : Nat} {xs : Nat → Int32} {d : Nat} {a1 : Int} {a2 : Int} {Q : Int → lf_Z → Prop} {s : lf_Z} (h : fm_145 a1 a2 Q s) : lf_M (px_ro L xs) (d + 2) 145 [.ref 0, .int (Int32.ofInt a1), .int (Int32.ofInt a2)] s (lf_qi Q) := by
  unfold fm_145 at h
  show lf_E (px_ro L xs) (d + 2) 145 0 [(0, .ref 0), (1, .int (Int32.ofInt a1)), (2, .int (Int32.ofInt a2))] [] s _
  refine lf_seg 2 (pc' := 2) (lv' := [(0, .ref 0), (1, .int (Int32.ofInt a1)), (2, .int (Int32.ofInt a2))]) (st' := [.int (Int32.ofInt (-1)), .int (Int32.ofInt a1)]) rfl ?_
  obtain ⟨o21, h⟩ := h
  refine lf_icmp_ne 15 5 rfl rfl rfl o21 ⟨by decide, by decide⟩ (fun c => ?_) (fun c => ?_)
  · have h := h.1 c
    refine lf_seg 3 (pc' := 20) (lv' := [(0, .ref 0), (1, .int (Int32.ofInt a1)), (2, .int (Int32.ofInt a2))]) (st' := [.int (Int32.ofInt a1), .ref 1]) rfl ?_
    refine lf_callZ 23 rfl rfl rfl rfl (gm_18 h) (fun z23 s22 h => ?_)
    refine lf_ifz_eq 36 26 rfl rfl rfl (fun c => ?_) (fun c => ?_)
    · have h := h.1 c
      refine lf_bipush 38 (-2) rfl rfl (by decide) (by decide) ?_
      exact lf_retI rfl rfl h
    · have h := h.2 c
      refine lf_seg 2 (pc' := 28) (lv' := [(0, .ref 0), (1, .int (Int32.ofInt a1)), (2, .int (Int32.ofInt a2))]) (st' := [.int (Int32.ofInt 0), .int (Int32.ofInt a2)]) rfl ?_
      refine lf_bipush 30 60 rfl rfl (by decide) (by decide) ?_
      refine lf_callZ 33 rfl rfl rfl rfl (gm_15 h) (fun z25 s24 h => ?_)
      refine lf_ifz_ne 39 36 rfl rfl rfl (fun c => ?_) (fun c => ?_)
      · have h := h.1 c
        refine lf_seg 4 (pc' := 45) (lv' := [(0, .ref 0), (1, .int (Int32.ofInt a1)), (2, .int (Int32.ofInt a2))]) (st' := [.int (Int32.ofInt a2), .int (Int32.ofInt a1), .ref 25]) rfl ?_
        refine lf_callI 48 rfl rfl rfl rfl (gm_146 h) (fun r27 s26 h => ?_)
        exact lf_retI rfl rfl h
      · have h := h.2 c
        refine lf_bipush 38 (-2) rfl rfl (by decide) (by decide) ?_
        exact lf_retI rfl rfl h
  · have h := h.2 c
    refine lf_seg 3 (pc' := 10) (lv' := [(0, .ref 0), (1, .int (Int32.ofInt a1)), (2, .int (Int32.ofInt a2))]) (st' := [.int (Int32.ofInt 0), .ref 25]) rfl ?_
    refine lf_putI 13 2 rfl rfl rfl rfl rfl rfl rfl rfl ?_
    refine lf_as (lf_up s.1 25 2 0, s.2.1, s.2.2) rfl ?_
    refine lf_seg 1 (pc' := 14) (lv' := [(0, .ref 0), (1, .int (Int32.ofInt a1)), (2, .int (Int32.ofInt a2))]) (st' := [.int (Int32.ofInt 0)]) rfl ?_
    exact lf_retI rfl rfl h
-- fm_305 Model.seen 95 i i
def fm_305 (a1 : Int) (a2 : Int) (Q : Int → lf_Z → Prop) (s : lf_Z) : Prop := lf_R a1 ∧ ((a1 ≠ (-1) → (fm_185 a1 (fun z23 s22 => ((z23 = false → (Q (-2) s22)) ∧ (z23 = true → (fm_183 a2 0 60 (fun z25 s24 => ((z25 = false → (Q (-2) s24)) ∧ (z25 = true → (lf_R (s24.1 96 10) ∧ ((s24.1 96 10 ≠ 6 → ((0 ≤ 162 + (2 * (s24.1 96 10)) ∧ 162 + (2 * (s24.1 96 10)) < 1538) ∧ ((0 ≤ (162 + (2 * ((lf_up s24.1 96 (162 + (2 * (s24.1 96 10))) a1) 96 10))) + 1 ∧ (162 + (2 * ((lf_up s24.1 96 (162 + (2 * (s24.1 96 10))) a1) 96 10))) + 1 < 1538) ∧ (Q (((lf_up (lf_up s24.1 96 (162 + (2 * (s24.1 96 10))) a1) 96 ((162 + (2 * ((lf_up s24.1 96 (162 + (2 * (s24.1 96 10))) a1) 96 10))) + 1) a2) 96 10) + 1) (lf_up (lf_up (lf_up s24.1 96 (162 + (2 * (s24.1 96 10))) a1) 96 ((162 + (2 * ((lf_up s24.1 96 (162 + (2 * (s24.1 96 10))) a1) 96 10))) + 1) a2) 96 10 (((lf_up (lf_up s24.1 96 (162 + (2 * (s24.1 96 10))) a1) 96 ((162 + (2 * ((lf_up s24.1 96 (162 + (2 * (s24.1 96 10))) a1) 96 10))) + 1) a2) 96 10) + 1), s24.2.1, s24.2.2))))) ∧ (¬ (s24.1 96 10 ≠ 6) → (Q (-2) s24))))))) s22)))) s)) ∧ (¬ (a1 ≠ (-1)) → (Q 0 (lf_up s.1 96 10 0, s.2.1, s.2.2))))
set_option maxRecDepth 100000 in
theorem gm_305 {L : Nat} {xs : Nat → Int32} {d : Nat} {a1 : Int} {a2 : Int} {Q : Int → lf_Z → Prop} {s : lf_Z} (h : fm_305 a1 a2 Q s) : lf_M (px_ro L xs) (d + 3) 305 [.ref 95, .int (Int32.ofInt a1), .int (Int32.ofInt a2)] s (lf_qi Q) := by
  unfold fm_305 at h
  show lf_E (px_ro L xs) (d + 3) 305 0 [(0, .ref 95), (1, .int (Int32.ofInt a1)), (2, .int (Int32.ofInt a2))] [] s _
  refine lf_seg 2 (pc' := 2) (lv' := [(0, .ref 95), (1, .int (Int32.ofInt a1)), (2, .int (Int32.ofInt a2))]) (st' := [.int (Int32.ofInt (-1)), .int (Int32.ofInt a1)]) rfl ?_
  obtain ⟨o21, h⟩ := h
  refine lf_icmp_ne 15 5 rfl rfl rfl o21 ⟨by decide, by decide⟩ (fun c => ?_) (fun c => ?_)
  · have h := h.1 c
    refine lf_seg 2 (pc' := 17) (lv' := [(0, .ref 95), (1, .int (Int32.ofInt a1)), (2, .int (Int32.ofInt a2))]) (st' := [.int (Int32.ofInt a1), .ref 95]) rfl ?_
    refine lf_callZ 20 rfl rfl rfl rfl (gm_185 h) (fun z23 s22 h => ?_)
    refine lf_ifz_eq 45 23 rfl rfl rfl (fun c => ?_) (fun c => ?_)
    · have h := h.1 c
      refine lf_bipush 47 (-2) rfl rfl (by decide) (by decide) ?_
      exact lf_retI rfl rfl h
    · have h := h.2 c
      refine lf_seg 2 (pc' := 25) (lv' := [(0, .ref 95), (1, .int (Int32.ofInt a1)), (2, .int (Int32.ofInt a2))]) (st' := [.int (Int32.ofInt 0), .int (Int32.ofInt a2)]) rfl ?_
      refine lf_bipush 27 60 rfl rfl (by decide) (by decide) ?_
      refine lf_callZ 30 rfl rfl rfl rfl (gm_183 h) (fun z25 s24 h => ?_)
      refine lf_ifz_eq 45 33 rfl rfl rfl (fun c => ?_) (fun c => ?_)
      · have h := h.1 c
        refine lf_bipush 47 (-2) rfl rfl (by decide) (by decide) ?_
        exact lf_retI rfl rfl h
      · have h := h.2 c
        refine lf_seg 2 (pc' := 37) (lv' := [(0, .ref 95), (1, .int (Int32.ofInt a1)), (2, .int (Int32.ofInt a2))]) (st' := [.ref 96]) rfl ?_
        refine lf_bipush 39 10 rfl rfl (by decide) (by decide) ?_
        refine lf_iald 40 1538 rfl rfl rfl rfl rfl rfl ⟨by decide, by decide⟩ ?_
        refine lf_bipush 42 6 rfl rfl (by decide) (by decide) ?_
        obtain ⟨o26, h⟩ := h
        refine lf_icmp_ne 48 45 rfl rfl rfl o26 ⟨by decide, by decide⟩ (fun c => ?_) (fun c => ?_)
        · have h := h.1 c
          refine lf_seg 2 (pc' := 52) (lv' := [(0, .ref 95), (1, .int (Int32.ofInt a1)), (2, .int (Int32.ofInt a2))]) (st' := [.ref 96]) rfl ?_
          refine lf_sipush 55 162 rfl rfl (by decide) (by decide) ?_
          refine lf_seg 3 (pc' := 60) (lv' := [(0, .ref 95), (1, .int (Int32.ofInt a1)), (2, .int (Int32.ofInt a2))]) (st' := [.ref 96, .int (Int32.ofInt 2), .int (Int32.ofInt 162), .ref 96]) rfl ?_
          refine lf_bipush 62 10 rfl rfl (by decide) (by decide) ?_
          refine lf_iald 63 1538 rfl rfl rfl rfl rfl rfl ⟨by decide, by decide⟩ ?_
          refine lf_imul 64 rfl rfl ?_
          refine lf_iadd 65 rfl rfl ?_
          refine lf_seg 1 (pc' := 66) (lv' := [(0, .ref 95), (1, .int (Int32.ofInt a1)), (2, .int (Int32.ofInt a2))]) (st' := [.int (Int32.ofInt a1), .int (Int32.ofInt (162 + (2 * (s24.1 96 10)))), .ref 96]) rfl ?_
          obtain ⟨o27, h⟩ := h
          refine lf_iast 67 1538 rfl rfl rfl rfl rfl rfl o27 ?_
          refine lf_as (lf_up s24.1 96 (162 + (2 * (s24.1 96 10))) a1, s24.2.1, s24.2.2) rfl ?_
          refine lf_seg 2 (pc' := 71) (lv' := [(0, .ref 95), (1, .int (Int32.ofInt a1)), (2, .int (Int32.ofInt a2))]) (st' := [.ref 96]) rfl ?_
          refine lf_sipush 74 162 rfl rfl (by decide) (by decide) ?_
          refine lf_seg 3 (pc' := 79) (lv' := [(0, .ref 95), (1, .int (Int32.ofInt a1)), (2, .int (Int32.ofInt a2))]) (st' := [.ref 96, .int (Int32.ofInt 2), .int (Int32.ofInt 162), .ref 96]) rfl ?_
          refine lf_bipush 81 10 rfl rfl (by decide) (by decide) ?_
          refine lf_iald 82 1538 rfl rfl rfl rfl rfl rfl ⟨by decide, by decide⟩ ?_
          refine lf_imul 83 rfl rfl ?_
          refine lf_iadd 84 rfl rfl ?_
          refine lf_seg 1 (pc' := 85) (lv' := [(0, .ref 95), (1, .int (Int32.ofInt a1)), (2, .int (Int32.ofInt a2))]) (st' := [.int (Int32.ofInt 1), .int (Int32.ofInt (162 + (2 * ((lf_up s24.1 96 (162 + (2 * (s24.1 96 10))) a1) 96 10)))), .ref 96]) rfl ?_
          refine lf_iadd 86 rfl rfl ?_
          refine lf_seg 1 (pc' := 87) (lv' := [(0, .ref 95), (1, .int (Int32.ofInt a1)), (2, .int (Int32.ofInt a2))]) (st' := [.int (Int32.ofInt a2), .int (Int32.ofInt ((162 + (2 * ((lf_up s24.1 96 (162 + (2 * (s24.1 96 10))) a1) 96 10))) + 1)), .ref 96]) rfl ?_
          obtain ⟨o28, h⟩ := h
          refine lf_iast 88 1538 rfl rfl rfl rfl rfl rfl o28 ?_
          refine lf_as (lf_up (lf_up s24.1 96 (162 + (2 * (s24.1 96 10))) a1) 96 ((162 + (2 * ((lf_up s24.1 96 (162 + (2 * (s24.1 96 10))) a1) 96 10))) + 1) a2, s24.2.1, s24.2.2) rfl ?_
          refine lf_seg 2 (pc' := 92) (lv' := [(0, .ref 95), (1, .int (Int32.ofInt a1)), (2, .int (Int32.ofInt a2))]) (st' := [.ref 96]) rfl ?_
          refine lf_bipush 94 10 rfl rfl (by decide) (by decide) ?_
          refine lf_seg 1 (pc' := 95) (lv' := [(0, .ref 95), (1, .int (Int32.ofInt a1)), (2, .int (Int32.ofInt a2))]) (st' := [.int (Int32.ofInt 10), .ref 96, .int (Int32.ofInt 10), .ref 96]) rfl ?_
          refine lf_iald 96 1538 rfl rfl rfl rfl rfl rfl ⟨by decide, by decide⟩ ?_
          refine lf_seg 1 (pc' := 97) (lv' := [(0, .ref 95), (1, .int (Int32.ofInt a1)), (2, .int (Int32.ofInt a2))]) (st' := [.int (Int32.ofInt 1), .int (Int32.ofInt ((lf_up (lf_up s24.1 96 (162 + (2 * (s24.1 96 10))) a1) 96 ((162 + (2 * ((lf_up s24.1 96 (162 + (2 * (s24.1 96 10))) a1) 96 10))) + 1) a2) 96 10)), .int (Int32.ofInt 10), .ref 96]) rfl ?_
          refine lf_iadd 98 rfl rfl ?_
          refine lf_iast 99 1538 rfl rfl rfl rfl rfl rfl ⟨by decide, by decide⟩ ?_
          refine lf_as (lf_up (lf_up (lf_up s24.1 96 (162 + (2 * (s24.1 96 10))) a1) 96 ((162 + (2 * ((lf_up s24.1 96 (162 + (2 * (s24.1 96 10))) a1) 96 10))) + 1) a2) 96 10 (((lf_up (lf_up s24.1 96 (162 + (2 * (s24.1 96 10))) a1) 96 ((162 + (2 * ((lf_up s24.1 96 (162 + (2 * (s24.1 96 10))) a1) 96 10))) + 1) a2) 96 10) + 1), s24.2.1, s24.2.2) rfl ?_
          refine lf_seg 2 (pc' := 103) (lv' := [(0, .ref 95), (1, .int (Int32.ofInt a1)), (2, .int (Int32.ofInt a2))]) (st' := [.ref 96]) rfl ?_
          refine lf_bipush 105 10 rfl rfl (by decide) (by decide) ?_
          refine lf_iald 106 1538 rfl rfl rfl rfl rfl rfl ⟨by decide, by decide⟩ ?_
          refine lf_seg 0 (pc' := 106) (lv' := [(0, .ref 95), (1, .int (Int32.ofInt a1)), (2, .int (Int32.ofInt a2))]) (st' := [.int (Int32.ofInt (((lf_up (lf_up s24.1 96 (162 + (2 * (s24.1 96 10))) a1) 96 ((162 + (2 * ((lf_up s24.1 96 (162 + (2 * (s24.1 96 10))) a1) 96 10))) + 1) a2) 96 10) + 1))]) rfl ?_
          exact lf_retI rfl rfl h
        · have h := h.2 c
          refine lf_bipush 47 (-2) rfl rfl (by decide) (by decide) ?_
          exact lf_retI rfl rfl h
  · have h := h.2 c
    refine lf_seg 2 (pc' := 9) (lv' := [(0, .ref 95), (1, .int (Int32.ofInt a1)), (2, .int (Int32.ofInt a2))]) (st' := [.ref 96]) rfl ?_
    refine lf_bipush 11 10 rfl rfl (by decide) (by decide) ?_
    refine lf_seg 1 (pc' := 12) (lv' := [(0, .ref 95), (1, .int (Int32.ofInt a1)), (2, .int (Int32.ofInt a2))]) (st' := [.int (Int32.ofInt 0), .int (Int32.ofInt 10), .ref 96]) rfl ?_
    refine lf_iast 13 1538 rfl rfl rfl rfl rfl rfl ⟨by decide, by decide⟩ ?_
    refine lf_as (lf_up s.1 96 10 0, s.2.1, s.2.2) rfl ?_
    refine lf_seg 1 (pc' := 14) (lv' := [(0, .ref 95), (1, .int (Int32.ofInt a1)), (2, .int (Int32.ofInt a2))]) (st' := [.int (Int32.ofInt 0)]) rfl ?_
    exact lf_retI rfl rfl h
