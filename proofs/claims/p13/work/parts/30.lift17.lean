-- fm_300 Model.whom 95 i i i
def fm_300_p203 (Q : Int → lf_Z → Prop) (x3 : Int) (X203 : Int → lf_Z → Prop) (x7 : Int) (s : lf_Z) : Prop := (0 ≤ x7 ∧ x7 < 12) ∧ (lf_R (s.1 114 x7) ∧ (lf_R x3 ∧ ((s.1 114 x7 = x3 → ((0 ≤ x7 ∧ x7 < 6) ∧ ((0 ≤ s.1 117 x7 ∧ s.1 117 x7 < 6) ∧ (Q (s.1 113 (s.1 117 x7)) s)))) ∧ (¬ (s.1 114 x7 = x3) → (X203 (x7 + 1) s)))))
def fm_300_p203L (Q : Int → lf_Z → Prop) (x3 : Int) (x7 : Int) (s : lf_Z) : Prop := ∀ X203 : Int → lf_Z → Prop, (∀ (x7 : Int) (s : lf_Z), fm_300_p203 Q x3 X203 x7 s → X203 x7 s) → X203 x7 s
set_option maxRecDepth 100000 in
theorem gm_300_p203 {L : Nat} {xs : Nat → Int32} {d : Nat} {Q : Int → lf_Z → Prop} {x3 : Int} {x7 : Int} {s : lf_Z} {X203 : Int → lf_Z → Prop} (hX203 : ∀ x7 s, X203 x7 s → lf_E (px_ro L xs) (d + 4) 300 203 [(0, .ref 95), (3, .int (Int32.ofInt x3)), (7, .int (Int32.ofInt x7))] [] s (lf_qi Q)) (h : fm_300_p203 Q x3 X203 x7 s) : lf_E (px_ro L xs) (d + 4) 300 203 [(0, .ref 95), (3, .int (Int32.ofInt x3)), (7, .int (Int32.ofInt x7))] [] s (lf_qi Q) := by
  unfold fm_300_p203 at h
  refine lf_seg 3 (pc' := 209) (lv' := [(0, .ref 95), (3, .int (Int32.ofInt x3)), (7, .int (Int32.ofInt x7))]) (st' := [.int (Int32.ofInt x7), .ref 114]) rfl ?_
  obtain ⟨o42, h⟩ := h
  refine lf_iald 210 12 rfl rfl rfl rfl rfl rfl o42 ?_
  refine lf_seg 1 (pc' := 211) (lv' := [(0, .ref 95), (3, .int (Int32.ofInt x3)), (7, .int (Int32.ofInt x7))]) (st' := [.int (Int32.ofInt x3), .int (Int32.ofInt (s.1 114 x7))]) rfl ?_
  obtain ⟨o43, h⟩ := h
  obtain ⟨o44, h⟩ := h
  refine lf_icmp_eq 220 214 rfl rfl rfl o43 o44 (fun c => ?_) (fun c => ?_)
  · have h := h.1 c
    refine lf_seg 5 (pc' := 230) (lv' := [(0, .ref 95), (3, .int (Int32.ofInt x3)), (7, .int (Int32.ofInt x7))]) (st' := [.int (Int32.ofInt x7), .ref 117, .ref 113]) rfl ?_
    obtain ⟨o45, h⟩ := h
    refine lf_iald 231 6 rfl rfl rfl rfl rfl rfl o45 ?_
    obtain ⟨o46, h⟩ := h
    refine lf_iald 232 6 rfl rfl rfl rfl rfl rfl o46 ?_
    exact lf_retI rfl rfl h
  · have h := h.2 c
    refine lf_iinc 217 rfl rfl rfl rfl ?_
    refine lf_seg 1 (pc' := 203) (lv' := [(7, .int (Int32.ofInt (x7 + 1))), (0, .ref 95), (3, .int (Int32.ofInt x3))]) (st' := []) rfl ?_
    refine lf_sub (l := [(0, .ref 95), (3, .int (Int32.ofInt x3)), (7, .int (Int32.ofInt (x7 + 1)))]) (lf_sb1 rfl (lf_sb1 rfl (lf_sb1 rfl lf_sb0))) ?_
    exact hX203 _ _ h
theorem gm_300_p203L {L : Nat} {xs : Nat → Int32} {d : Nat} {Q : Int → lf_Z → Prop} {x3 : Int} {x7 : Int} {s : lf_Z} (h : fm_300_p203L Q x3 x7 s) : lf_E (px_ro L xs) (d + 4) 300 203 [(0, .ref 95), (3, .int (Int32.ofInt x3)), (7, .int (Int32.ofInt x7))] [] s (lf_qi Q) :=
  h (fun x7 s => lf_E (px_ro L xs) (d + 4) 300 203 [(0, .ref 95), (3, .int (Int32.ofInt x3)), (7, .int (Int32.ofInt x7))] [] s (lf_qi Q)) (fun x7 s hb => gm_300_p203 (fun _ _ h => h) hb)
def fm_300_p117 (X95 : Int → lf_Z → Prop) (Q : Int → lf_Z → Prop) (x3 : Int) (x4 : Int) (x5 : Int) (x6 : Int) (X117 : Int → lf_Z → Prop) (x7 : Int) (s : lf_Z) : Prop := lf_R x7 ∧ (lf_R x4 ∧ ((x4 ≤ x7 → (X95 (x6 + 1) s)) ∧ (¬ (x4 ≤ x7) → ((0 ≤ x7 ∧ x7 < 6) ∧ (fm_239 (s.1 113 x7) (fun r53 s52 => (fm_299 (s.1 113 x7) r53 (fun r55 s54 => ((0 ≤ (12 * x7) + x6 ∧ (12 * x7) + x6 < 72) ∧ (X117 (x7 + 1) (lf_up s54.1 115 ((12 * x7) + x6) r55, s54.2.1, s54.2.2)))) s52)) s)))))
def fm_300_p117L (X95 : Int → lf_Z → Prop) (Q : Int → lf_Z → Prop) (x3 : Int) (x4 : Int) (x5 : Int) (x6 : Int) (x7 : Int) (s : lf_Z) : Prop := ∀ X117 : Int → lf_Z → Prop, (∀ (x7 : Int) (s : lf_Z), fm_300_p117 X95 Q x3 x4 x5 x6 X117 x7 s → X117 x7 s) → X117 x7 s
set_option maxRecDepth 100000 in
theorem gm_300_p117 {L : Nat} {xs : Nat → Int32} {d : Nat} {X95 : Int → lf_Z → Prop} {Q : Int → lf_Z → Prop} {x3 : Int} {x4 : Int} {x5 : Int} {x6 : Int} {x7 : Int} {s : lf_Z} {X117 : Int → lf_Z → Prop} (hX95 : ∀ x6 s, X95 x6 s → lf_E (px_ro L xs) (d + 4) 300 95 [(0, .ref 95), (3, .int (Int32.ofInt x3)), (4, .int (Int32.ofInt x4)), (5, .int (Int32.ofInt x5)), (6, .int (Int32.ofInt x6))] [] s (lf_qi Q)) (hX117 : ∀ x7 s, X117 x7 s → lf_E (px_ro L xs) (d + 4) 300 117 [(0, .ref 95), (3, .int (Int32.ofInt x3)), (4, .int (Int32.ofInt x4)), (5, .int (Int32.ofInt x5)), (6, .int (Int32.ofInt x6)), (7, .int (Int32.ofInt x7))] [] s (lf_qi Q)) (h : fm_300_p117 X95 Q x3 x4 x5 x6 X117 x7 s) : lf_E (px_ro L xs) (d + 4) 300 117 [(0, .ref 95), (3, .int (Int32.ofInt x3)), (4, .int (Int32.ofInt x4)), (5, .int (Int32.ofInt x5)), (6, .int (Int32.ofInt x6)), (7, .int (Int32.ofInt x7))] [] s (lf_qi Q) := by
  unfold fm_300_p117 at h
  refine lf_seg 2 (pc' := 121) (lv' := [(0, .ref 95), (3, .int (Int32.ofInt x3)), (4, .int (Int32.ofInt x4)), (5, .int (Int32.ofInt x5)), (6, .int (Int32.ofInt x6)), (7, .int (Int32.ofInt x7))]) (st' := [.int (Int32.ofInt x4), .int (Int32.ofInt x7)]) rfl ?_
  obtain ⟨o49, h⟩ := h
  obtain ⟨o50, h⟩ := h
  refine lf_icmp_ge 166 124 rfl rfl rfl o49 o50 (fun c => ?_) (fun c => ?_)
  · have h := h.1 c
    refine lf_iinc 169 rfl rfl rfl rfl ?_
    refine lf_seg 1 (pc' := 95) (lv' := [(6, .int (Int32.ofInt (x6 + 1))), (0, .ref 95), (3, .int (Int32.ofInt x3)), (4, .int (Int32.ofInt x4)), (5, .int (Int32.ofInt x5)), (7, .int (Int32.ofInt x7))]) (st' := []) rfl ?_
    refine lf_sub (l := [(0, .ref 95), (3, .int (Int32.ofInt x3)), (4, .int (Int32.ofInt x4)), (5, .int (Int32.ofInt x5)), (6, .int (Int32.ofInt (x6 + 1)))]) (lf_sb1 rfl (lf_sb1 rfl (lf_sb1 rfl (lf_sb1 rfl (lf_sb1 rfl lf_sb0))))) ?_
    exact hX95 _ _ h
  · have h := h.2 c
    refine lf_seg 2 (pc' := 128) (lv' := [(0, .ref 95), (3, .int (Int32.ofInt x3)), (4, .int (Int32.ofInt x4)), (5, .int (Int32.ofInt x5)), (6, .int (Int32.ofInt x6)), (7, .int (Int32.ofInt x7))]) (st' := [.ref 115]) rfl ?_
    refine lf_bipush 130 12 rfl rfl (by decide) (by decide) ?_
    refine lf_seg 1 (pc' := 132) (lv' := [(0, .ref 95), (3, .int (Int32.ofInt x3)), (4, .int (Int32.ofInt x4)), (5, .int (Int32.ofInt x5)), (6, .int (Int32.ofInt x6)), (7, .int (Int32.ofInt x7))]) (st' := [.int (Int32.ofInt x7), .int (Int32.ofInt 12), .ref 115]) rfl ?_
    refine lf_imul 133 rfl rfl ?_
    refine lf_seg 1 (pc' := 135) (lv' := [(0, .ref 95), (3, .int (Int32.ofInt x3)), (4, .int (Int32.ofInt x4)), (5, .int (Int32.ofInt x5)), (6, .int (Int32.ofInt x6)), (7, .int (Int32.ofInt x7))]) (st' := [.int (Int32.ofInt x6), .int (Int32.ofInt (12 * x7)), .ref 115]) rfl ?_
    refine lf_iadd 136 rfl rfl ?_
    refine lf_seg 4 (pc' := 143) (lv' := [(0, .ref 95), (3, .int (Int32.ofInt x3)), (4, .int (Int32.ofInt x4)), (5, .int (Int32.ofInt x5)), (6, .int (Int32.ofInt x6)), (7, .int (Int32.ofInt x7))]) (st' := [.int (Int32.ofInt x7), .ref 113, .ref 95, .int (Int32.ofInt ((12 * x7) + x6)), .ref 115]) rfl ?_
    obtain ⟨o51, h⟩ := h
    refine lf_iald 144 6 rfl rfl rfl rfl rfl rfl o51 ?_
    refine lf_seg 4 (pc' := 151) (lv' := [(0, .ref 95), (3, .int (Int32.ofInt x3)), (4, .int (Int32.ofInt x4)), (5, .int (Int32.ofInt x5)), (6, .int (Int32.ofInt x6)), (7, .int (Int32.ofInt x7))]) (st' := [.int (Int32.ofInt x7), .ref 113, .ref 95, .int (Int32.ofInt (s.1 113 x7)), .ref 95, .int (Int32.ofInt ((12 * x7) + x6)), .ref 115]) rfl ?_
    refine lf_iald 152 6 rfl rfl rfl rfl rfl rfl o51 ?_
    refine lf_seg 1 (pc' := 153) (lv' := [(0, .ref 95), (3, .int (Int32.ofInt x3)), (4, .int (Int32.ofInt x4)), (5, .int (Int32.ofInt x5)), (6, .int (Int32.ofInt x6)), (7, .int (Int32.ofInt x7))]) (st' := [.int (Int32.ofInt 3), .int (Int32.ofInt (s.1 113 x7)), .ref 95, .int (Int32.ofInt (s.1 113 x7)), .ref 95, .int (Int32.ofInt ((12 * x7) + x6)), .ref 115]) rfl ?_
    refine lf_callI 156 rfl rfl rfl rfl (gm_239 h) (fun r53 s52 h => ?_)
    refine lf_callI 159 rfl rfl rfl rfl (gm_299 h) (fun r55 s54 h => ?_)
    obtain ⟨o56, h⟩ := h
    refine lf_iast 160 72 rfl rfl rfl rfl rfl rfl o56 ?_
    refine lf_as (lf_up s54.1 115 ((12 * x7) + x6) r55, s54.2.1, s54.2.2) rfl ?_
    refine lf_iinc 163 rfl rfl rfl rfl ?_
    refine lf_seg 1 (pc' := 117) (lv' := [(7, .int (Int32.ofInt (x7 + 1))), (0, .ref 95), (3, .int (Int32.ofInt x3)), (4, .int (Int32.ofInt x4)), (5, .int (Int32.ofInt x5)), (6, .int (Int32.ofInt x6))]) (st' := []) rfl ?_
    refine lf_sub (l := [(0, .ref 95), (3, .int (Int32.ofInt x3)), (4, .int (Int32.ofInt x4)), (5, .int (Int32.ofInt x5)), (6, .int (Int32.ofInt x6)), (7, .int (Int32.ofInt (x7 + 1)))]) (lf_sb1 rfl (lf_sb1 rfl (lf_sb1 rfl (lf_sb1 rfl (lf_sb1 rfl (lf_sb1 rfl lf_sb0)))))) ?_
    exact hX117 _ _ h
theorem gm_300_p117L {L : Nat} {xs : Nat → Int32} {d : Nat} {X95 : Int → lf_Z → Prop} {Q : Int → lf_Z → Prop} {x3 : Int} {x4 : Int} {x5 : Int} {x6 : Int} {x7 : Int} {s : lf_Z} (hX95 : ∀ x6 s, X95 x6 s → lf_E (px_ro L xs) (d + 4) 300 95 [(0, .ref 95), (3, .int (Int32.ofInt x3)), (4, .int (Int32.ofInt x4)), (5, .int (Int32.ofInt x5)), (6, .int (Int32.ofInt x6))] [] s (lf_qi Q)) (h : fm_300_p117L X95 Q x3 x4 x5 x6 x7 s) : lf_E (px_ro L xs) (d + 4) 300 117 [(0, .ref 95), (3, .int (Int32.ofInt x3)), (4, .int (Int32.ofInt x4)), (5, .int (Int32.ofInt x5)), (6, .int (Int32.ofInt x6)), (7, .int (Int32.ofInt x7))] [] s (lf_qi Q) :=
  h (fun x7 s => lf_E (px_ro L xs) (d + 4) 300 117 [(0, .ref 95), (3, .int (Int32.ofInt x3)), (4, .int (Int32.ofInt x4)), (5, .int (Int32.ofInt x5)), (6, .int (Int32.ofInt x6)), (7, .int (Int32.ofInt x7))] [] s (lf_qi Q)) (fun x7 s hb => gm_300_p117 hX95 (fun _ _ h => h) hb)
def fm_300_p95 (Q : Int → lf_Z → Prop) (x3 : Int) (x4 : Int) (x5 : Int) (X95 : Int → lf_Z → Prop) (x6 : Int) (s : lf_Z) : Prop := lf_R x6 ∧ (lf_R x5 ∧ ((x5 ≤ x6 → (fm_302 x5 x4 (fun r39 s38 => (lf_R r39 ∧ ((r39 < 1000 → (lf_R x3 ∧ ((x3 ≠ (-1) → (fm_300_p203L Q x3 0 s38)) ∧ (¬ (x3 ≠ (-1)) → (Q r39 s38))))) ∧ (¬ (r39 < 1000) → (Q (-1) s38))))) s)) ∧ (¬ (x5 ≤ x6) → ((0 ≤ x6 ∧ x6 < 12) ∧ (fm_261 (s.1 114 x6) 1 (fun s48 => (fm_300_p117L X95 Q x3 x4 x5 x6 0 s48)) s)))))
def fm_300_p95L (Q : Int → lf_Z → Prop) (x3 : Int) (x4 : Int) (x5 : Int) (x6 : Int) (s : lf_Z) : Prop := ∀ X95 : Int → lf_Z → Prop, (∀ (x6 : Int) (s : lf_Z), fm_300_p95 Q x3 x4 x5 X95 x6 s → X95 x6 s) → X95 x6 s
set_option maxRecDepth 100000 in
theorem gm_300_p95 {L : Nat} {xs : Nat → Int32} {d : Nat} {Q : Int → lf_Z → Prop} {x3 : Int} {x4 : Int} {x5 : Int} {x6 : Int} {s : lf_Z} {X95 : Int → lf_Z → Prop} (hX95 : ∀ x6 s, X95 x6 s → lf_E (px_ro L xs) (d + 4) 300 95 [(0, .ref 95), (3, .int (Int32.ofInt x3)), (4, .int (Int32.ofInt x4)), (5, .int (Int32.ofInt x5)), (6, .int (Int32.ofInt x6))] [] s (lf_qi Q)) (h : fm_300_p95 Q x3 x4 x5 X95 x6 s) : lf_E (px_ro L xs) (d + 4) 300 95 [(0, .ref 95), (3, .int (Int32.ofInt x3)), (4, .int (Int32.ofInt x4)), (5, .int (Int32.ofInt x5)), (6, .int (Int32.ofInt x6))] [] s (lf_qi Q) := by
  unfold fm_300_p95 at h
  refine lf_seg 2 (pc' := 99) (lv' := [(0, .ref 95), (3, .int (Int32.ofInt x3)), (4, .int (Int32.ofInt x4)), (5, .int (Int32.ofInt x5)), (6, .int (Int32.ofInt x6))]) (st' := [.int (Int32.ofInt x5), .int (Int32.ofInt x6)]) rfl ?_
  obtain ⟨o36, h⟩ := h
  obtain ⟨o37, h⟩ := h
  refine lf_icmp_ge 172 102 rfl rfl rfl o36 o37 (fun c => ?_) (fun c => ?_)
  · have h := h.1 c
    refine lf_seg 3 (pc' := 177) (lv' := [(0, .ref 95), (3, .int (Int32.ofInt x3)), (4, .int (Int32.ofInt x4)), (5, .int (Int32.ofInt x5)), (6, .int (Int32.ofInt x6))]) (st' := [.int (Int32.ofInt x4), .int (Int32.ofInt x5), .ref 95]) rfl ?_
    refine lf_callI 180 rfl rfl rfl rfl (gm_302 h) (fun r39 s38 h => ?_)
    refine lf_seg 2 (pc' := 184) (lv' := [(6, .int (Int32.ofInt r39)), (0, .ref 95), (3, .int (Int32.ofInt x3)), (4, .int (Int32.ofInt x4)), (5, .int (Int32.ofInt x5))]) (st' := [.int (Int32.ofInt r39)]) rfl ?_
    refine lf_sipush 187 1000 rfl rfl (by decide) (by decide) ?_
    obtain ⟨o40, h⟩ := h
    refine lf_icmp_lt 192 190 rfl rfl rfl o40 ⟨by decide, by decide⟩ (fun c => ?_) (fun c => ?_)
    · have h := h.1 c
      refine lf_seg 2 (pc' := 194) (lv' := [(6, .int (Int32.ofInt r39)), (0, .ref 95), (3, .int (Int32.ofInt x3)), (4, .int (Int32.ofInt x4)), (5, .int (Int32.ofInt x5))]) (st' := [.int (Int32.ofInt (-1)), .int (Int32.ofInt x3)]) rfl ?_
      obtain ⟨o41, h⟩ := h
      refine lf_icmp_ne 200 197 rfl rfl rfl o41 ⟨by decide, by decide⟩ (fun c => ?_) (fun c => ?_)
      · have h := h.1 c
        refine lf_seg 2 (pc' := 203) (lv' := [(7, .int (Int32.ofInt 0)), (6, .int (Int32.ofInt r39)), (0, .ref 95), (3, .int (Int32.ofInt x3)), (4, .int (Int32.ofInt x4)), (5, .int (Int32.ofInt x5))]) (st' := []) rfl ?_
        refine lf_sub (l := [(0, .ref 95), (3, .int (Int32.ofInt x3)), (7, .int (Int32.ofInt 0))]) (lf_sb1 rfl (lf_sb1 rfl (lf_sb1 rfl lf_sb0))) ?_
        exact gm_300_p203L h
      · have h := h.2 c
        refine lf_seg 1 (pc' := 199) (lv' := [(6, .int (Int32.ofInt r39)), (0, .ref 95), (3, .int (Int32.ofInt x3)), (4, .int (Int32.ofInt x4)), (5, .int (Int32.ofInt x5))]) (st' := [.int (Int32.ofInt r39)]) rfl ?_
        exact lf_retI rfl rfl h
    · have h := h.2 c
      refine lf_seg 1 (pc' := 191) (lv' := [(6, .int (Int32.ofInt r39)), (0, .ref 95), (3, .int (Int32.ofInt x3)), (4, .int (Int32.ofInt x4)), (5, .int (Int32.ofInt x5))]) (st' := [.int (Int32.ofInt (-1))]) rfl ?_
      exact lf_retI rfl rfl h
  · have h := h.2 c
    refine lf_seg 4 (pc' := 109) (lv' := [(0, .ref 95), (3, .int (Int32.ofInt x3)), (4, .int (Int32.ofInt x4)), (5, .int (Int32.ofInt x5)), (6, .int (Int32.ofInt x6))]) (st' := [.int (Int32.ofInt x6), .ref 114, .ref 95]) rfl ?_
    obtain ⟨o47, h⟩ := h
    refine lf_iald 110 12 rfl rfl rfl rfl rfl rfl o47 ?_
    refine lf_seg 1 (pc' := 111) (lv' := [(0, .ref 95), (3, .int (Int32.ofInt x3)), (4, .int (Int32.ofInt x4)), (5, .int (Int32.ofInt x5)), (6, .int (Int32.ofInt x6))]) (st' := [.int (Int32.ofInt 1), .int (Int32.ofInt (s.1 114 x6)), .ref 95]) rfl ?_
    refine lf_callV 114 rfl rfl rfl rfl (gm_261 h) (fun s48 h => ?_)
    refine lf_seg 2 (pc' := 117) (lv' := [(7, .int (Int32.ofInt 0)), (0, .ref 95), (3, .int (Int32.ofInt x3)), (4, .int (Int32.ofInt x4)), (5, .int (Int32.ofInt x5)), (6, .int (Int32.ofInt x6))]) (st' := []) rfl ?_
    refine lf_sub (l := [(0, .ref 95), (3, .int (Int32.ofInt x3)), (4, .int (Int32.ofInt x4)), (5, .int (Int32.ofInt x5)), (6, .int (Int32.ofInt x6)), (7, .int (Int32.ofInt 0))]) (lf_sb1 rfl (lf_sb1 rfl (lf_sb1 rfl (lf_sb1 rfl (lf_sb1 rfl (lf_sb1 rfl lf_sb0)))))) ?_
    exact gm_300_p117L hX95 h
theorem gm_300_p95L {L : Nat} {xs : Nat → Int32} {d : Nat} {Q : Int → lf_Z → Prop} {x3 : Int} {x4 : Int} {x5 : Int} {x6 : Int} {s : lf_Z} (h : fm_300_p95L Q x3 x4 x5 x6 s) : lf_E (px_ro L xs) (d + 4) 300 95 [(0, .ref 95), (3, .int (Int32.ofInt x3)), (4, .int (Int32.ofInt x4)), (5, .int (Int32.ofInt x5)), (6, .int (Int32.ofInt x6))] [] s (lf_qi Q) :=
  h (fun x6 s => lf_E (px_ro L xs) (d + 4) 300 95 [(0, .ref 95), (3, .int (Int32.ofInt x3)), (4, .int (Int32.ofInt x4)), (5, .int (Int32.ofInt x5)), (6, .int (Int32.ofInt x6))] [] s (lf_qi Q)) (fun x6 s hb => gm_300_p95 (fun _ _ h => h) hb)
def fm_300_p72 (Q : Int → lf_Z → Prop) (x1 : Int) (x2 : Int) (x3 : Int) (s : lf_Z) : Prop := fm_301 x1 (fun r33 s32 => (fm_301b x2 (fun r35 s34 => (fm_300_p95L Q x3 r33 r35 0 s34)) s32)) s
set_option maxRecDepth 100000 in
theorem gm_300_p72 {L : Nat} {xs : Nat → Int32} {d : Nat} {Q : Int → lf_Z → Prop} {x1 : Int} {x2 : Int} {x3 : Int} {s : lf_Z} (h : fm_300_p72 Q x1 x2 x3 s) : lf_E (px_ro L xs) (d + 4) 300 72 [(0, .ref 95), (1, .int (Int32.ofInt x1)), (2, .int (Int32.ofInt x2)), (3, .int (Int32.ofInt x3))] [] s (lf_qi Q) := by
  unfold fm_300_p72 at h
  refine lf_seg 3 (pc' := 77) (lv' := [(0, .ref 95), (1, .int (Int32.ofInt x1)), (2, .int (Int32.ofInt x2)), (3, .int (Int32.ofInt x3))]) (st' := [.ref 113, .int (Int32.ofInt x1)]) rfl ?_
  refine lf_callI 80 rfl rfl rfl rfl (gm_301 h) (fun r33 s32 h => ?_)
  refine lf_seg 4 (pc' := 87) (lv' := [(4, .int (Int32.ofInt r33)), (0, .ref 95), (1, .int (Int32.ofInt x1)), (2, .int (Int32.ofInt x2)), (3, .int (Int32.ofInt x3))]) (st' := [.ref 114, .int (Int32.ofInt x2)]) rfl ?_
  refine lf_callI 90 rfl rfl rfl rfl (gm_301b h) (fun r35 s34 h => ?_)
  refine lf_seg 3 (pc' := 95) (lv' := [(6, .int (Int32.ofInt 0)), (5, .int (Int32.ofInt r35)), (4, .int (Int32.ofInt r33)), (0, .ref 95), (1, .int (Int32.ofInt x1)), (2, .int (Int32.ofInt x2)), (3, .int (Int32.ofInt x3))]) (st' := []) rfl ?_
  refine lf_sub (l := [(0, .ref 95), (3, .int (Int32.ofInt x3)), (4, .int (Int32.ofInt r33)), (5, .int (Int32.ofInt r35)), (6, .int (Int32.ofInt 0))]) (lf_sb1 rfl (lf_sb1 rfl (lf_sb1 rfl (lf_sb1 rfl (lf_sb1 rfl lf_sb0))))) ?_
  exact gm_300_p95L h
def fm_300 (a1 : Int) (a2 : Int) (a3 : Int) (Q : Int → lf_Z → Prop) (s : lf_Z) : Prop := fm_183 a1 1 ((lf_shl 1 (s.1 96 2)) - 1) (fun z22 s21 => ((z22 = false → (Q (-1) s21)) ∧ (z22 = true → (fm_183 a2 1 ((lf_shl 1 (s21.1 96 0)) - 1) (fun z24 s23 => ((z24 = false → (Q (-1) s23)) ∧ (z24 = true → (fm_188 a2 (fun r26 s25 => (fm_188 a1 (fun r28 s27 => (lf_R r26 ∧ (lf_R r28 ∧ ((r26 ≤ r28 → (lf_R a3 ∧ ((a3 = (-1) → (fm_300_p72 Q a1 a2 a3 s27)) ∧ (¬ (a3 = (-1)) → (fm_185 a3 (fun z58 s57 => ((z58 = false → (Q (-1) s57)) ∧ (z58 = true → (fm_210 a2 a3 (fun z60 s59 => ((z60 = true → (fm_300_p72 Q a1 a2 a3 s59)) ∧ (z60 = false → (Q (-1) s59)))) s57)))) s27))))) ∧ (¬ (r26 ≤ r28) → (Q (-1) s27)))))) s25)) s23)))) s21)))) s
set_option maxRecDepth 100000 in
theorem gm_300 {L : Nat} {xs : Nat → Int32} {d : Nat} {a1 : Int} {a2 : Int} {a3 : Int} {Q : Int → lf_Z → Prop} {s : lf_Z} (h : fm_300 a1 a2 a3 Q s) : lf_M (px_ro L xs) (d + 4) 300 [.ref 95, .int (Int32.ofInt a1), .int (Int32.ofInt a2), .int (Int32.ofInt a3)] s (lf_qi Q) := by
  unfold fm_300 at h
  show lf_E (px_ro L xs) (d + 4) 300 0 [(0, .ref 95), (1, .int (Int32.ofInt a1)), (2, .int (Int32.ofInt a2)), (3, .int (Int32.ofInt a3))] [] s _
  refine lf_seg 6 (pc' := 8) (lv' := [(0, .ref 95), (1, .int (Int32.ofInt a1)), (2, .int (Int32.ofInt a2)), (3, .int (Int32.ofInt a3))]) (st' := [.int (Int32.ofInt 2), .ref 96, .int (Int32.ofInt 1), .int (Int32.ofInt 1), .int (Int32.ofInt a1)]) rfl ?_
  refine lf_iald 9 1538 rfl rfl rfl rfl rfl rfl ⟨by decide, by decide⟩ ?_
  refine lf_ishl 10 rfl rfl ?_
  refine lf_seg 1 (pc' := 11) (lv' := [(0, .ref 95), (1, .int (Int32.ofInt a1)), (2, .int (Int32.ofInt a2)), (3, .int (Int32.ofInt a3))]) (st' := [.int (Int32.ofInt 1), .int (Int32.ofInt (lf_shl 1 (s.1 96 2))), .int (Int32.ofInt 1), .int (Int32.ofInt a1)]) rfl ?_
  refine lf_isub 12 rfl rfl ?_
  refine lf_callZ 15 rfl rfl rfl rfl (gm_183 h) (fun z22 s21 h => ?_)
  refine lf_ifz_eq 47 18 rfl rfl rfl (fun c => ?_) (fun c => ?_)
  · have h := h.1 c
    refine lf_seg 1 (pc' := 48) (lv' := [(0, .ref 95), (1, .int (Int32.ofInt a1)), (2, .int (Int32.ofInt a2)), (3, .int (Int32.ofInt a3))]) (st' := [.int (Int32.ofInt (-1))]) rfl ?_
    exact lf_retI rfl rfl h
  · have h := h.2 c
    refine lf_seg 6 (pc' := 26) (lv' := [(0, .ref 95), (1, .int (Int32.ofInt a1)), (2, .int (Int32.ofInt a2)), (3, .int (Int32.ofInt a3))]) (st' := [.int (Int32.ofInt 0), .ref 96, .int (Int32.ofInt 1), .int (Int32.ofInt 1), .int (Int32.ofInt a2)]) rfl ?_
    refine lf_iald 27 1538 rfl rfl rfl rfl rfl rfl ⟨by decide, by decide⟩ ?_
    refine lf_ishl 28 rfl rfl ?_
    refine lf_seg 1 (pc' := 29) (lv' := [(0, .ref 95), (1, .int (Int32.ofInt a1)), (2, .int (Int32.ofInt a2)), (3, .int (Int32.ofInt a3))]) (st' := [.int (Int32.ofInt 1), .int (Int32.ofInt (lf_shl 1 (s21.1 96 0))), .int (Int32.ofInt 1), .int (Int32.ofInt a2)]) rfl ?_
    refine lf_isub 30 rfl rfl ?_
    refine lf_callZ 33 rfl rfl rfl rfl (gm_183 h) (fun z24 s23 h => ?_)
    refine lf_ifz_eq 47 36 rfl rfl rfl (fun c => ?_) (fun c => ?_)
    · have h := h.1 c
      refine lf_seg 1 (pc' := 48) (lv' := [(0, .ref 95), (1, .int (Int32.ofInt a1)), (2, .int (Int32.ofInt a2)), (3, .int (Int32.ofInt a3))]) (st' := [.int (Int32.ofInt (-1))]) rfl ?_
      exact lf_retI rfl rfl h
    · have h := h.2 c
      refine lf_seg 1 (pc' := 37) (lv' := [(0, .ref 95), (1, .int (Int32.ofInt a1)), (2, .int (Int32.ofInt a2)), (3, .int (Int32.ofInt a3))]) (st' := [.int (Int32.ofInt a2)]) rfl ?_
      refine lf_callI 40 rfl rfl rfl rfl (gm_188 h) (fun r26 s25 h => ?_)
      refine lf_seg 1 (pc' := 41) (lv' := [(0, .ref 95), (1, .int (Int32.ofInt a1)), (2, .int (Int32.ofInt a2)), (3, .int (Int32.ofInt a3))]) (st' := [.int (Int32.ofInt a1), .int (Int32.ofInt r26)]) rfl ?_
      refine lf_callI 44 rfl rfl rfl rfl (gm_188 h) (fun r28 s27 h => ?_)
      obtain ⟨o29, h⟩ := h
      obtain ⟨o30, h⟩ := h
      refine lf_icmp_le 49 47 rfl rfl rfl o29 o30 (fun c => ?_) (fun c => ?_)
      · have h := h.1 c
        refine lf_seg 2 (pc' := 51) (lv' := [(0, .ref 95), (1, .int (Int32.ofInt a1)), (2, .int (Int32.ofInt a2)), (3, .int (Int32.ofInt a3))]) (st' := [.int (Int32.ofInt (-1)), .int (Int32.ofInt a3)]) rfl ?_
        obtain ⟨o31, h⟩ := h
        refine lf_icmp_eq 72 54 rfl rfl rfl o31 ⟨by decide, by decide⟩ (fun c => ?_) (fun c => ?_)
        · have h := h.1 c
          refine lf_sub (l := [(0, .ref 95), (1, .int (Int32.ofInt a1)), (2, .int (Int32.ofInt a2)), (3, .int (Int32.ofInt a3))]) (lf_sb1 rfl (lf_sb1 rfl (lf_sb1 rfl (lf_sb1 rfl lf_sb0)))) ?_
          exact gm_300_p72 h
        · have h := h.2 c
          refine lf_seg 2 (pc' := 56) (lv' := [(0, .ref 95), (1, .int (Int32.ofInt a1)), (2, .int (Int32.ofInt a2)), (3, .int (Int32.ofInt a3))]) (st' := [.int (Int32.ofInt a3), .ref 95]) rfl ?_
          refine lf_callZ 59 rfl rfl rfl rfl (gm_185 h) (fun z58 s57 h => ?_)
          refine lf_ifz_eq 70 62 rfl rfl rfl (fun c => ?_) (fun c => ?_)
          · have h := h.1 c
            refine lf_seg 1 (pc' := 71) (lv' := [(0, .ref 95), (1, .int (Int32.ofInt a1)), (2, .int (Int32.ofInt a2)), (3, .int (Int32.ofInt a3))]) (st' := [.int (Int32.ofInt (-1))]) rfl ?_
            exact lf_retI rfl rfl h
          · have h := h.2 c
            refine lf_seg 2 (pc' := 64) (lv' := [(0, .ref 95), (1, .int (Int32.ofInt a1)), (2, .int (Int32.ofInt a2)), (3, .int (Int32.ofInt a3))]) (st' := [.int (Int32.ofInt a3), .int (Int32.ofInt a2)]) rfl ?_
            refine lf_callZ 67 rfl rfl rfl rfl (gm_210 h) (fun z60 s59 h => ?_)
            refine lf_ifz_ne 72 70 rfl rfl rfl (fun c => ?_) (fun c => ?_)
            · have h := h.1 c
              refine lf_sub (l := [(0, .ref 95), (1, .int (Int32.ofInt a1)), (2, .int (Int32.ofInt a2)), (3, .int (Int32.ofInt a3))]) (lf_sb1 rfl (lf_sb1 rfl (lf_sb1 rfl (lf_sb1 rfl lf_sb0)))) ?_
              exact gm_300_p72 h
            · have h := h.2 c
              refine lf_seg 1 (pc' := 71) (lv' := [(0, .ref 95), (1, .int (Int32.ofInt a1)), (2, .int (Int32.ofInt a2)), (3, .int (Int32.ofInt a3))]) (st' := [.int (Int32.ofInt (-1))]) rfl ?_
              exact lf_retI rfl rfl h
      · have h := h.2 c
        refine lf_seg 1 (pc' := 48) (lv' := [(0, .ref 95), (1, .int (Int32.ofInt a1)), (2, .int (Int32.ofInt a2)), (3, .int (Int32.ofInt a3))]) (st' := [.int (Int32.ofInt (-1))]) rfl ?_
        exact lf_retI rfl rfl h
-- fm_144 Walk.openGates 68
def fm_144_p43 (X4 : Int → Int → lf_Z → Prop) (Q : Int → lf_Z → Prop) (x1 : Int) (x2 : Int) (s : lf_Z) : Prop := X4 x1 (x2 + 1) s
set_option maxRecDepth 100000 in
theorem gm_144_p43 {L : Nat} {xs : Nat → Int32} {d : Nat} {X4 : Int → Int → lf_Z → Prop} {Q : Int → lf_Z → Prop} {x1 : Int} {x2 : Int} {s : lf_Z} (hX4 : ∀ x1 x2 s, X4 x1 x2 s → lf_E (px_ro L xs) (d + 2) 144 4 [(0, .ref 68), (1, .int (Int32.ofInt x1)), (2, .int (Int32.ofInt x2))] [] s (lf_qi Q)) (h : fm_144_p43 X4 Q x1 x2 s) : lf_E (px_ro L xs) (d + 2) 144 43 [(0, .ref 68), (1, .int (Int32.ofInt x1)), (2, .int (Int32.ofInt x2))] [] s (lf_qi Q) := by
  unfold fm_144_p43 at h
  refine lf_iinc 46 rfl rfl rfl rfl ?_
  refine lf_seg 1 (pc' := 4) (lv' := [(2, .int (Int32.ofInt (x2 + 1))), (0, .ref 68), (1, .int (Int32.ofInt x1))]) (st' := []) rfl ?_
  refine lf_sub (l := [(0, .ref 68), (1, .int (Int32.ofInt x1)), (2, .int (Int32.ofInt (x2 + 1)))]) (lf_sb1 rfl (lf_sb1 rfl (lf_sb1 rfl lf_sb0))) ?_
  exact hX4 _ _ _ h
def fm_144_p4 (Q : Int → lf_Z → Prop) (X4 : Int → Int → lf_Z → Prop) (x1 : Int) (x2 : Int) (s : lf_Z) : Prop := lf_R x2 ∧ (lf_R (s.1 1 1) ∧ ((s.1 1 1 ≤ x2 → (Q x1 s)) ∧ (¬ (s.1 1 1 ≤ x2) → (fm_89 x2 (fun z24 s23 => ((z24 = false → (fm_144_p43 X4 Q x1 x2 s23)) ∧ (z24 = true → (fm_90 x2 (fun z26 s25 => ((z26 = false → (fm_144_p43 X4 Q x1 x2 s25)) ∧ (z26 = true → (fm_144_p43 X4 Q (lf_or x1 (lf_shl 1 x2)) x2 s25)))) s23)))) s))))
def fm_144_p4L (Q : Int → lf_Z → Prop) (x1 : Int) (x2 : Int) (s : lf_Z) : Prop := ∀ X4 : Int → Int → lf_Z → Prop, (∀ (x1 : Int) (x2 : Int) (s : lf_Z), fm_144_p4 Q X4 x1 x2 s → X4 x1 x2 s) → X4 x1 x2 s
set_option maxRecDepth 100000 in
theorem gm_144_p4 {L : Nat} {xs : Nat → Int32} {d : Nat} {Q : Int → lf_Z → Prop} {x1 : Int} {x2 : Int} {s : lf_Z} {X4 : Int → Int → lf_Z → Prop} (hX4 : ∀ x1 x2 s, X4 x1 x2 s → lf_E (px_ro L xs) (d + 2) 144 4 [(0, .ref 68), (1, .int (Int32.ofInt x1)), (2, .int (Int32.ofInt x2))] [] s (lf_qi Q)) (h : fm_144_p4 Q X4 x1 x2 s) : lf_E (px_ro L xs) (d + 2) 144 4 [(0, .ref 68), (1, .int (Int32.ofInt x1)), (2, .int (Int32.ofInt x2))] [] s (lf_qi Q) := by
  unfold fm_144_p4 at h
  refine lf_seg 3 (pc' := 9) (lv' := [(0, .ref 68), (1, .int (Int32.ofInt x1)), (2, .int (Int32.ofInt x2))]) (st' := [.ref 1, .int (Int32.ofInt x2)]) rfl ?_
  refine lf_getI 12 1 rfl rfl rfl rfl rfl rfl rfl ?_
  obtain ⟨o21, h⟩ := h
  obtain ⟨o22, h⟩ := h
  refine lf_icmp_ge 49 15 rfl rfl rfl o21 o22 (fun c => ?_) (fun c => ?_)
  · have h := h.1 c
    refine lf_seg 1 (pc' := 50) (lv' := [(0, .ref 68), (1, .int (Int32.ofInt x1)), (2, .int (Int32.ofInt x2))]) (st' := [.int (Int32.ofInt x1)]) rfl ?_
    exact lf_retI rfl rfl h
  · have h := h.2 c
    refine lf_seg 3 (pc' := 20) (lv' := [(0, .ref 68), (1, .int (Int32.ofInt x1)), (2, .int (Int32.ofInt x2))]) (st' := [.int (Int32.ofInt x2), .ref 1]) rfl ?_
    refine lf_callZ 23 rfl rfl rfl rfl (gm_89 h) (fun z24 s23 h => ?_)
    refine lf_ifz_eq 43 26 rfl rfl rfl (fun c => ?_) (fun c => ?_)
    · have h := h.1 c
      refine lf_sub (l := [(0, .ref 68), (1, .int (Int32.ofInt x1)), (2, .int (Int32.ofInt x2))]) (lf_sb1 rfl (lf_sb1 rfl (lf_sb1 rfl lf_sb0))) ?_
      exact gm_144_p43 hX4 h
    · have h := h.2 c
      refine lf_seg 3 (pc' := 31) (lv' := [(0, .ref 68), (1, .int (Int32.ofInt x1)), (2, .int (Int32.ofInt x2))]) (st' := [.int (Int32.ofInt x2), .ref 15]) rfl ?_
      refine lf_callZ 34 rfl rfl rfl rfl (gm_90 h) (fun z26 s25 h => ?_)
      refine lf_ifz_eq 43 37 rfl rfl rfl (fun c => ?_) (fun c => ?_)
      · have h := h.1 c
        refine lf_sub (l := [(0, .ref 68), (1, .int (Int32.ofInt x1)), (2, .int (Int32.ofInt x2))]) (lf_sb1 rfl (lf_sb1 rfl (lf_sb1 rfl lf_sb0))) ?_
        exact gm_144_p43 hX4 h
      · have h := h.2 c
        refine lf_seg 3 (pc' := 40) (lv' := [(0, .ref 68), (1, .int (Int32.ofInt x1)), (2, .int (Int32.ofInt x2))]) (st' := [.int (Int32.ofInt x2), .int (Int32.ofInt 1), .int (Int32.ofInt x1)]) rfl ?_
        refine lf_ishl 41 rfl rfl ?_
        refine lf_ior 42 rfl rfl ?_
        refine lf_seg 1 (pc' := 43) (lv' := [(1, .int (Int32.ofInt (lf_or x1 (lf_shl 1 x2)))), (0, .ref 68), (2, .int (Int32.ofInt x2))]) (st' := []) rfl ?_
        refine lf_sub (l := [(0, .ref 68), (1, .int (Int32.ofInt (lf_or x1 (lf_shl 1 x2)))), (2, .int (Int32.ofInt x2))]) (lf_sb1 rfl (lf_sb1 rfl (lf_sb1 rfl lf_sb0))) ?_
        exact gm_144_p43 hX4 h
theorem gm_144_p4L {L : Nat} {xs : Nat → Int32} {d : Nat} {Q : Int → lf_Z → Prop} {x1 : Int} {x2 : Int} {s : lf_Z} (h : fm_144_p4L Q x1 x2 s) : lf_E (px_ro L xs) (d + 2) 144 4 [(0, .ref 68), (1, .int (Int32.ofInt x1)), (2, .int (Int32.ofInt x2))] [] s (lf_qi Q) :=
  h (fun x1 x2 s => lf_E (px_ro L xs) (d + 2) 144 4 [(0, .ref 68), (1, .int (Int32.ofInt x1)), (2, .int (Int32.ofInt x2))] [] s (lf_qi Q)) (fun x1 x2 s hb => gm_144_p4 (fun _ _ _ h => h) hb)
def fm_144 (Q : Int → lf_Z → Prop) (s : lf_Z) : Prop := fm_144_p4L Q 0 0 s
set_option maxRecDepth 100000 in
theorem gm_144 {L : Nat} {xs : Nat → Int32} {d : Nat} {Q : Int → lf_Z → Prop} {s : lf_Z} (h : fm_144 Q s) : lf_M (px_ro L xs) (d + 2) 144 [.ref 68] s (lf_qi Q) := by
  unfold fm_144 at h
  show lf_E (px_ro L xs) (d + 2) 144 0 [(0, .ref 68)] [] s _
  refine lf_seg 4 (pc' := 4) (lv' := [(2, .int (Int32.ofInt 0)), (1, .int (Int32.ofInt 0)), (0, .ref 68)]) (st' := []) rfl ?_
  refine lf_sub (l := [(0, .ref 68), (1, .int (Int32.ofInt 0)), (2, .int (Int32.ofInt 0))]) (lf_sb1 rfl (lf_sb1 rfl (lf_sb1 rfl lf_sb0))) ?_
  exact gm_144_p4L h
-- fm_143 Walk.fewestToShut 68 i
def fm_143_p152 (X53 : Int → lf_Z → Prop) (Q : Int → lf_Z → Prop) (x1 : Int) (x2 : Int) (x3 : Int) (x4 : Int) (x5 : Int) (x6 : Int) (s : lf_Z) : Prop := X53 (x6 + 1) s
set_option maxRecDepth 100000 in
theorem gm_143_p152 {L : Nat} {xs : Nat → Int32} {d : Nat} {X53 : Int → lf_Z → Prop} {Q : Int → lf_Z → Prop} {x1 : Int} {x2 : Int} {x3 : Int} {x4 : Int} {x5 : Int} {x6 : Int} {s : lf_Z} (hX53 : ∀ x6 s, X53 x6 s → lf_E (px_ro L xs) (d + 7) 143 53 [(0, .ref 68), (1, .int (Int32.ofInt x1)), (2, .int (Int32.ofInt x2)), (3, .int (Int32.ofInt x3)), (4, .int (Int32.ofInt x4)), (5, .int (Int32.ofInt x5)), (6, .int (Int32.ofInt x6))] [] s (lf_qi Q)) (h : fm_143_p152 X53 Q x1 x2 x3 x4 x5 x6 s) : lf_E (px_ro L xs) (d + 7) 143 152 [(0, .ref 68), (1, .int (Int32.ofInt x1)), (2, .int (Int32.ofInt x2)), (3, .int (Int32.ofInt x3)), (4, .int (Int32.ofInt x4)), (5, .int (Int32.ofInt x5)), (6, .int (Int32.ofInt x6))] [] s (lf_qi Q) := by
  unfold fm_143_p152 at h
  refine lf_iinc 155 rfl rfl rfl rfl ?_
  refine lf_seg 1 (pc' := 53) (lv' := [(6, .int (Int32.ofInt (x6 + 1))), (0, .ref 68), (1, .int (Int32.ofInt x1)), (2, .int (Int32.ofInt x2)), (3, .int (Int32.ofInt x3)), (4, .int (Int32.ofInt x4)), (5, .int (Int32.ofInt x5))]) (st' := []) rfl ?_
  refine lf_sub (l := [(0, .ref 68), (1, .int (Int32.ofInt x1)), (2, .int (Int32.ofInt x2)), (3, .int (Int32.ofInt x3)), (4, .int (Int32.ofInt x4)), (5, .int (Int32.ofInt x5)), (6, .int (Int32.ofInt (x6 + 1)))]) (lf_sb1 rfl (lf_sb1 rfl (lf_sb1 rfl (lf_sb1 rfl (lf_sb1 rfl (lf_sb1 rfl (lf_sb1 rfl lf_sb0))))))) ?_
  exact hX53 _ _ h
def fm_143_p144 (X53 : Int → lf_Z → Prop) (X70 : Int → Int → lf_Z → Prop) (Q : Int → lf_Z → Prop) (x1 : Int) (x2 : Int) (x3 : Int) (x4 : Int) (x5 : Int) (x6 : Int) (x8 : Int) (y0 : Int) (s : lf_Z) : Prop := X70 y0 (x8 + 1) s
set_option maxRecDepth 100000 in
theorem gm_143_p144 {L : Nat} {xs : Nat → Int32} {d : Nat} {X53 : Int → lf_Z → Prop} {X70 : Int → Int → lf_Z → Prop} {Q : Int → lf_Z → Prop} {x1 : Int} {x2 : Int} {x3 : Int} {x4 : Int} {x5 : Int} {x6 : Int} {x8 : Int} {y0 : Int} {s : lf_Z} (hX53 : ∀ x6 s, X53 x6 s → lf_E (px_ro L xs) (d + 7) 143 53 [(0, .ref 68), (1, .int (Int32.ofInt x1)), (2, .int (Int32.ofInt x2)), (3, .int (Int32.ofInt x3)), (4, .int (Int32.ofInt x4)), (5, .int (Int32.ofInt x5)), (6, .int (Int32.ofInt x6))] [] s (lf_qi Q)) (hX70 : ∀ x7 x8 s, X70 x7 x8 s → lf_E (px_ro L xs) (d + 7) 143 70 [(0, .ref 68), (1, .int (Int32.ofInt x1)), (2, .int (Int32.ofInt x2)), (3, .int (Int32.ofInt x3)), (4, .int (Int32.ofInt x4)), (5, .int (Int32.ofInt x5)), (6, .int (Int32.ofInt x6)), (7, .int (Int32.ofInt x7)), (8, .int (Int32.ofInt x8))] [] s (lf_qi Q)) (h : fm_143_p144 X53 X70 Q x1 x2 x3 x4 x5 x6 x8 y0 s) : lf_E (px_ro L xs) (d + 7) 143 144 [(0, .ref 68), (1, .int (Int32.ofInt x1)), (2, .int (Int32.ofInt x2)), (3, .int (Int32.ofInt x3)), (4, .int (Int32.ofInt x4)), (5, .int (Int32.ofInt x5)), (6, .int (Int32.ofInt x6)), (8, .int (Int32.ofInt x8))] [.int (Int32.ofInt y0)] s (lf_qi Q) := by
  unfold fm_143_p144 at h
  refine lf_seg 1 (pc' := 146) (lv' := [(7, .int (Int32.ofInt y0)), (0, .ref 68), (1, .int (Int32.ofInt x1)), (2, .int (Int32.ofInt x2)), (3, .int (Int32.ofInt x3)), (4, .int (Int32.ofInt x4)), (5, .int (Int32.ofInt x5)), (6, .int (Int32.ofInt x6)), (8, .int (Int32.ofInt x8))]) (st' := []) rfl ?_
  refine lf_iinc 149 rfl rfl rfl rfl ?_
  refine lf_seg 1 (pc' := 70) (lv' := [(8, .int (Int32.ofInt (x8 + 1))), (7, .int (Int32.ofInt y0)), (0, .ref 68), (1, .int (Int32.ofInt x1)), (2, .int (Int32.ofInt x2)), (3, .int (Int32.ofInt x3)), (4, .int (Int32.ofInt x4)), (5, .int (Int32.ofInt x5)), (6, .int (Int32.ofInt x6))]) (st' := []) rfl ?_
  refine lf_sub (l := [(0, .ref 68), (1, .int (Int32.ofInt x1)), (2, .int (Int32.ofInt x2)), (3, .int (Int32.ofInt x3)), (4, .int (Int32.ofInt x4)), (5, .int (Int32.ofInt x5)), (6, .int (Int32.ofInt x6)), (7, .int (Int32.ofInt y0)), (8, .int (Int32.ofInt (x8 + 1)))]) (lf_sb1 rfl (lf_sb1 rfl (lf_sb1 rfl (lf_sb1 rfl (lf_sb1 rfl (lf_sb1 rfl (lf_sb1 rfl (lf_sb1 rfl (lf_sb1 rfl lf_sb0))))))))) ?_
  exact hX70 _ _ _ h
def fm_143_p129 (X53 : Int → lf_Z → Prop) (X70 : Int → Int → lf_Z → Prop) (Q : Int → lf_Z → Prop) (x1 : Int) (x2 : Int) (x3 : Int) (x4 : Int) (x5 : Int) (x6 : Int) (x7 : Int) (x8 : Int) (s : lf_Z) : Prop := lf_R x6 ∧ ((x6 ≠ 0 → (fm_133 x7 (fun r36 s35 => (fm_143_p144 X53 X70 Q x1 x2 x3 x4 x5 x6 x8 r36 s35)) s)) ∧ (¬ (x6 ≠ 0) → (fm_143_p144 X53 X70 Q x1 x2 x3 x4 x5 x6 x8 x5 s)))
set_option maxRecDepth 100000 in
theorem gm_143_p129 {L : Nat} {xs : Nat → Int32} {d : Nat} {X53 : Int → lf_Z → Prop} {X70 : Int → Int → lf_Z → Prop} {Q : Int → lf_Z → Prop} {x1 : Int} {x2 : Int} {x3 : Int} {x4 : Int} {x5 : Int} {x6 : Int} {x7 : Int} {x8 : Int} {s : lf_Z} (hX53 : ∀ x6 s, X53 x6 s → lf_E (px_ro L xs) (d + 7) 143 53 [(0, .ref 68), (1, .int (Int32.ofInt x1)), (2, .int (Int32.ofInt x2)), (3, .int (Int32.ofInt x3)), (4, .int (Int32.ofInt x4)), (5, .int (Int32.ofInt x5)), (6, .int (Int32.ofInt x6))] [] s (lf_qi Q)) (hX70 : ∀ x7 x8 s, X70 x7 x8 s → lf_E (px_ro L xs) (d + 7) 143 70 [(0, .ref 68), (1, .int (Int32.ofInt x1)), (2, .int (Int32.ofInt x2)), (3, .int (Int32.ofInt x3)), (4, .int (Int32.ofInt x4)), (5, .int (Int32.ofInt x5)), (6, .int (Int32.ofInt x6)), (7, .int (Int32.ofInt x7)), (8, .int (Int32.ofInt x8))] [] s (lf_qi Q)) (h : fm_143_p129 X53 X70 Q x1 x2 x3 x4 x5 x6 x7 x8 s) : lf_E (px_ro L xs) (d + 7) 143 129 [(0, .ref 68), (1, .int (Int32.ofInt x1)), (2, .int (Int32.ofInt x2)), (3, .int (Int32.ofInt x3)), (4, .int (Int32.ofInt x4)), (5, .int (Int32.ofInt x5)), (6, .int (Int32.ofInt x6)), (7, .int (Int32.ofInt x7)), (8, .int (Int32.ofInt x8))] [] s (lf_qi Q) := by
  unfold fm_143_p129 at h
  refine lf_seg 1 (pc' := 131) (lv' := [(0, .ref 68), (1, .int (Int32.ofInt x1)), (2, .int (Int32.ofInt x2)), (3, .int (Int32.ofInt x3)), (4, .int (Int32.ofInt x4)), (5, .int (Int32.ofInt x5)), (6, .int (Int32.ofInt x6)), (7, .int (Int32.ofInt x7)), (8, .int (Int32.ofInt x8))]) (st' := [.int (Int32.ofInt x6)]) rfl ?_
  obtain ⟨o34, h⟩ := h
  refine lf_if_ne 139 134 rfl rfl rfl o34 (fun c => ?_) (fun c => ?_)
  · have h := h.1 c
    refine lf_seg 1 (pc' := 141) (lv' := [(0, .ref 68), (1, .int (Int32.ofInt x1)), (2, .int (Int32.ofInt x2)), (3, .int (Int32.ofInt x3)), (4, .int (Int32.ofInt x4)), (5, .int (Int32.ofInt x5)), (6, .int (Int32.ofInt x6)), (7, .int (Int32.ofInt x7)), (8, .int (Int32.ofInt x8))]) (st' := [.int (Int32.ofInt x7)]) rfl ?_
    refine lf_callI 144 rfl rfl rfl rfl (gm_133 h) (fun r36 s35 h => ?_)
    refine lf_sub (l := [(0, .ref 68), (1, .int (Int32.ofInt x1)), (2, .int (Int32.ofInt x2)), (3, .int (Int32.ofInt x3)), (4, .int (Int32.ofInt x4)), (5, .int (Int32.ofInt x5)), (6, .int (Int32.ofInt x6)), (8, .int (Int32.ofInt x8))]) (lf_sb1 rfl (lf_sb1 rfl (lf_sb1 rfl (lf_sb1 rfl (lf_sb1 rfl (lf_sb1 rfl (lf_sb1 rfl (lf_sb1 rfl lf_sb0)))))))) ?_
    exact gm_143_p144 hX53 hX70 h
  · have h := h.2 c
    refine lf_seg 2 (pc' := 144) (lv' := [(0, .ref 68), (1, .int (Int32.ofInt x1)), (2, .int (Int32.ofInt x2)), (3, .int (Int32.ofInt x3)), (4, .int (Int32.ofInt x4)), (5, .int (Int32.ofInt x5)), (6, .int (Int32.ofInt x6)), (7, .int (Int32.ofInt x7)), (8, .int (Int32.ofInt x8))]) (st' := [.int (Int32.ofInt x5)]) rfl ?_
    refine lf_sub (l := [(0, .ref 68), (1, .int (Int32.ofInt x1)), (2, .int (Int32.ofInt x2)), (3, .int (Int32.ofInt x3)), (4, .int (Int32.ofInt x4)), (5, .int (Int32.ofInt x5)), (6, .int (Int32.ofInt x6)), (8, .int (Int32.ofInt x8))]) (lf_sb1 rfl (lf_sb1 rfl (lf_sb1 rfl (lf_sb1 rfl (lf_sb1 rfl (lf_sb1 rfl (lf_sb1 rfl (lf_sb1 rfl lf_sb0)))))))) ?_
    exact gm_143_p144 hX53 hX70 h
def fm_143_p110 (X53 : Int → lf_Z → Prop) (X70 : Int → Int → lf_Z → Prop) (Q : Int → lf_Z → Prop) (x1 : Int) (x2 : Int) (x3 : Int) (x4 : Int) (x5 : Int) (x6 : Int) (x7 : Int) (x8 : Int) (y0 : Int) (s : lf_Z) : Prop := (lf_and y0 x3 ≠ 0 → (fm_143_p129 X53 X70 Q x1 x2 x3 x4 x5 x6 x7 x8 s)) ∧ (¬ (lf_and y0 x3 ≠ 0) → ((lf_and y0 x2 = 0 → (fm_143_p129 X53 X70 Q x1 x2 x3 x4 x5 x6 x7 x8 s)) ∧ (¬ (lf_and y0 x2 = 0) → (Q x7 s))))
set_option maxRecDepth 100000 in
theorem gm_143_p110 {L : Nat} {xs : Nat → Int32} {d : Nat} {X53 : Int → lf_Z → Prop} {X70 : Int → Int → lf_Z → Prop} {Q : Int → lf_Z → Prop} {x1 : Int} {x2 : Int} {x3 : Int} {x4 : Int} {x5 : Int} {x6 : Int} {x7 : Int} {x8 : Int} {y0 : Int} {s : lf_Z} (hX53 : ∀ x6 s, X53 x6 s → lf_E (px_ro L xs) (d + 7) 143 53 [(0, .ref 68), (1, .int (Int32.ofInt x1)), (2, .int (Int32.ofInt x2)), (3, .int (Int32.ofInt x3)), (4, .int (Int32.ofInt x4)), (5, .int (Int32.ofInt x5)), (6, .int (Int32.ofInt x6))] [] s (lf_qi Q)) (hX70 : ∀ x7 x8 s, X70 x7 x8 s → lf_E (px_ro L xs) (d + 7) 143 70 [(0, .ref 68), (1, .int (Int32.ofInt x1)), (2, .int (Int32.ofInt x2)), (3, .int (Int32.ofInt x3)), (4, .int (Int32.ofInt x4)), (5, .int (Int32.ofInt x5)), (6, .int (Int32.ofInt x6)), (7, .int (Int32.ofInt x7)), (8, .int (Int32.ofInt x8))] [] s (lf_qi Q)) (h : fm_143_p110 X53 X70 Q x1 x2 x3 x4 x5 x6 x7 x8 y0 s) : lf_E (px_ro L xs) (d + 7) 143 110 [(0, .ref 68), (1, .int (Int32.ofInt x1)), (2, .int (Int32.ofInt x2)), (3, .int (Int32.ofInt x3)), (4, .int (Int32.ofInt x4)), (5, .int (Int32.ofInt x5)), (6, .int (Int32.ofInt x6)), (7, .int (Int32.ofInt x7)), (8, .int (Int32.ofInt x8))] [.int (Int32.ofInt y0)] s (lf_qi Q) := by
  unfold fm_143_p110 at h
  refine lf_seg 3 (pc' := 115) (lv' := [(9, .int (Int32.ofInt y0)), (0, .ref 68), (1, .int (Int32.ofInt x1)), (2, .int (Int32.ofInt x2)), (3, .int (Int32.ofInt x3)), (4, .int (Int32.ofInt x4)), (5, .int (Int32.ofInt x5)), (6, .int (Int32.ofInt x6)), (7, .int (Int32.ofInt x7)), (8, .int (Int32.ofInt x8))]) (st' := [.int (Int32.ofInt x3), .int (Int32.ofInt y0)]) rfl ?_
  refine lf_iand 116 rfl rfl ?_
  refine lf_if_ne 129 119 rfl rfl rfl lf_Rand (fun c => ?_) (fun c => ?_)
  · have h := h.1 c
    refine lf_sub (l := [(0, .ref 68), (1, .int (Int32.ofInt x1)), (2, .int (Int32.ofInt x2)), (3, .int (Int32.ofInt x3)), (4, .int (Int32.ofInt x4)), (5, .int (Int32.ofInt x5)), (6, .int (Int32.ofInt x6)), (7, .int (Int32.ofInt x7)), (8, .int (Int32.ofInt x8))]) (lf_sb1 rfl (lf_sb1 rfl (lf_sb1 rfl (lf_sb1 rfl (lf_sb1 rfl (lf_sb1 rfl (lf_sb1 rfl (lf_sb1 rfl (lf_sb1 rfl lf_sb0))))))))) ?_
    exact gm_143_p129 hX53 hX70 h
  · have h := h.2 c
    refine lf_seg 2 (pc' := 122) (lv' := [(9, .int (Int32.ofInt y0)), (0, .ref 68), (1, .int (Int32.ofInt x1)), (2, .int (Int32.ofInt x2)), (3, .int (Int32.ofInt x3)), (4, .int (Int32.ofInt x4)), (5, .int (Int32.ofInt x5)), (6, .int (Int32.ofInt x6)), (7, .int (Int32.ofInt x7)), (8, .int (Int32.ofInt x8))]) (st' := [.int (Int32.ofInt x2), .int (Int32.ofInt y0)]) rfl ?_
    refine lf_iand 123 rfl rfl ?_
    refine lf_if_eq 129 126 rfl rfl rfl lf_Rand (fun c => ?_) (fun c => ?_)
    · have h := h.1 c
      refine lf_sub (l := [(0, .ref 68), (1, .int (Int32.ofInt x1)), (2, .int (Int32.ofInt x2)), (3, .int (Int32.ofInt x3)), (4, .int (Int32.ofInt x4)), (5, .int (Int32.ofInt x5)), (6, .int (Int32.ofInt x6)), (7, .int (Int32.ofInt x7)), (8, .int (Int32.ofInt x8))]) (lf_sb1 rfl (lf_sb1 rfl (lf_sb1 rfl (lf_sb1 rfl (lf_sb1 rfl (lf_sb1 rfl (lf_sb1 rfl (lf_sb1 rfl (lf_sb1 rfl lf_sb0))))))))) ?_
      exact gm_143_p129 hX53 hX70 h
    · have h := h.2 c
      refine lf_seg 1 (pc' := 128) (lv' := [(9, .int (Int32.ofInt y0)), (0, .ref 68), (1, .int (Int32.ofInt x1)), (2, .int (Int32.ofInt x2)), (3, .int (Int32.ofInt x3)), (4, .int (Int32.ofInt x4)), (5, .int (Int32.ofInt x5)), (6, .int (Int32.ofInt x6)), (7, .int (Int32.ofInt x7)), (8, .int (Int32.ofInt x8))]) (st' := [.int (Int32.ofInt x7)]) rfl ?_
      exact lf_retI rfl rfl h
def fm_143_p70 (X53 : Int → lf_Z → Prop) (Q : Int → lf_Z → Prop) (x1 : Int) (x2 : Int) (x3 : Int) (x4 : Int) (x5 : Int) (x6 : Int) (X70 : Int → Int → lf_Z → Prop) (x7 : Int) (x8 : Int) (s : lf_Z) : Prop := lf_R x8 ∧ ((1000 ≤ x8 → (fm_143_p152 X53 Q x1 x2 x3 x4 x5 x6 s)) ∧ (¬ (1000 ≤ x8) → (lf_R x7 ∧ (lf_R x5 ∧ ((x5 ≤ x7 → (fm_143_p152 X53 Q x1 x2 x3 x4 x5 x6 s)) ∧ (¬ (x5 ≤ x7) → ((lf_and x7 (lf_xor x4 (-1)) ≠ 0 → (fm_143_p110 X53 X70 Q x1 x2 x3 x4 x5 x6 x7 x8 x3 (lf_up s.1 68 9 x7, s.2.1, s.2.2))) ∧ (¬ (lf_and x7 (lf_xor x4 (-1)) ≠ 0) → (fm_128 x1 (fun r38 s37 => (fm_143_p110 X53 X70 Q x1 x2 x3 x4 x5 x6 x7 x8 r38 s37)) (lf_up s.1 68 9 x7, s.2.1, s.2.2))))))))))
def fm_143_p70L (X53 : Int → lf_Z → Prop) (Q : Int → lf_Z → Prop) (x1 : Int) (x2 : Int) (x3 : Int) (x4 : Int) (x5 : Int) (x6 : Int) (x7 : Int) (x8 : Int) (s : lf_Z) : Prop := ∀ X70 : Int → Int → lf_Z → Prop, (∀ (x7 : Int) (x8 : Int) (s : lf_Z), fm_143_p70 X53 Q x1 x2 x3 x4 x5 x6 X70 x7 x8 s → X70 x7 x8 s) → X70 x7 x8 s
set_option maxRecDepth 100000 in
theorem gm_143_p70 {L : Nat} {xs : Nat → Int32} {d : Nat} {X53 : Int → lf_Z → Prop} {Q : Int → lf_Z → Prop} {x1 : Int} {x2 : Int} {x3 : Int} {x4 : Int} {x5 : Int} {x6 : Int} {x7 : Int} {x8 : Int} {s : lf_Z} {X70 : Int → Int → lf_Z → Prop} (hX53 : ∀ x6 s, X53 x6 s → lf_E (px_ro L xs) (d + 7) 143 53 [(0, .ref 68), (1, .int (Int32.ofInt x1)), (2, .int (Int32.ofInt x2)), (3, .int (Int32.ofInt x3)), (4, .int (Int32.ofInt x4)), (5, .int (Int32.ofInt x5)), (6, .int (Int32.ofInt x6))] [] s (lf_qi Q)) (hX70 : ∀ x7 x8 s, X70 x7 x8 s → lf_E (px_ro L xs) (d + 7) 143 70 [(0, .ref 68), (1, .int (Int32.ofInt x1)), (2, .int (Int32.ofInt x2)), (3, .int (Int32.ofInt x3)), (4, .int (Int32.ofInt x4)), (5, .int (Int32.ofInt x5)), (6, .int (Int32.ofInt x6)), (7, .int (Int32.ofInt x7)), (8, .int (Int32.ofInt x8))] [] s (lf_qi Q)) (h : fm_143_p70 X53 Q x1 x2 x3 x4 x5 x6 X70 x7 x8 s) : lf_E (px_ro L xs) (d + 7) 143 70 [(0, .ref 68), (1, .int (Int32.ofInt x1)), (2, .int (Int32.ofInt x2)), (3, .int (Int32.ofInt x3)), (4, .int (Int32.ofInt x4)), (5, .int (Int32.ofInt x5)), (6, .int (Int32.ofInt x6)), (7, .int (Int32.ofInt x7)), (8, .int (Int32.ofInt x8))] [] s (lf_qi Q) := by
  unfold fm_143_p70 at h
  refine lf_seg 1 (pc' := 72) (lv' := [(0, .ref 68), (1, .int (Int32.ofInt x1)), (2, .int (Int32.ofInt x2)), (3, .int (Int32.ofInt x3)), (4, .int (Int32.ofInt x4)), (5, .int (Int32.ofInt x5)), (6, .int (Int32.ofInt x6)), (7, .int (Int32.ofInt x7)), (8, .int (Int32.ofInt x8))]) (st' := [.int (Int32.ofInt x8)]) rfl ?_
  refine lf_sipush 75 1000 rfl rfl (by decide) (by decide) ?_
  obtain ⟨o31, h⟩ := h
  refine lf_icmp_ge 152 78 rfl rfl rfl o31 ⟨by decide, by decide⟩ (fun c => ?_) (fun c => ?_)
  · have h := h.1 c
    refine lf_sub (l := [(0, .ref 68), (1, .int (Int32.ofInt x1)), (2, .int (Int32.ofInt x2)), (3, .int (Int32.ofInt x3)), (4, .int (Int32.ofInt x4)), (5, .int (Int32.ofInt x5)), (6, .int (Int32.ofInt x6))]) (lf_sb1 rfl (lf_sb1 rfl (lf_sb1 rfl (lf_sb1 rfl (lf_sb1 rfl (lf_sb1 rfl (lf_sb1 rfl lf_sb0))))))) ?_
    exact gm_143_p152 hX53 h
  · have h := h.2 c
    refine lf_seg 2 (pc' := 82) (lv' := [(0, .ref 68), (1, .int (Int32.ofInt x1)), (2, .int (Int32.ofInt x2)), (3, .int (Int32.ofInt x3)), (4, .int (Int32.ofInt x4)), (5, .int (Int32.ofInt x5)), (6, .int (Int32.ofInt x6)), (7, .int (Int32.ofInt x7)), (8, .int (Int32.ofInt x8))]) (st' := [.int (Int32.ofInt x5), .int (Int32.ofInt x7)]) rfl ?_
    obtain ⟨o32, h⟩ := h
    obtain ⟨o33, h⟩ := h
    refine lf_icmp_ge 152 85 rfl rfl rfl o32 o33 (fun c => ?_) (fun c => ?_)
    · have h := h.1 c
      refine lf_sub (l := [(0, .ref 68), (1, .int (Int32.ofInt x1)), (2, .int (Int32.ofInt x2)), (3, .int (Int32.ofInt x3)), (4, .int (Int32.ofInt x4)), (5, .int (Int32.ofInt x5)), (6, .int (Int32.ofInt x6))]) (lf_sb1 rfl (lf_sb1 rfl (lf_sb1 rfl (lf_sb1 rfl (lf_sb1 rfl (lf_sb1 rfl (lf_sb1 rfl lf_sb0))))))) ?_
      exact gm_143_p152 hX53 h
    · have h := h.2 c
      refine lf_seg 2 (pc' := 88) (lv' := [(0, .ref 68), (1, .int (Int32.ofInt x1)), (2, .int (Int32.ofInt x2)), (3, .int (Int32.ofInt x3)), (4, .int (Int32.ofInt x4)), (5, .int (Int32.ofInt x5)), (6, .int (Int32.ofInt x6)), (7, .int (Int32.ofInt x7)), (8, .int (Int32.ofInt x8))]) (st' := [.int (Int32.ofInt x7), .ref 68]) rfl ?_
      refine lf_putI 91 9 rfl rfl rfl rfl rfl rfl rfl rfl ?_
      refine lf_as (lf_up s.1 68 9 x7, s.2.1, s.2.2) rfl ?_
      refine lf_seg 3 (pc' := 96) (lv' := [(0, .ref 68), (1, .int (Int32.ofInt x1)), (2, .int (Int32.ofInt x2)), (3, .int (Int32.ofInt x3)), (4, .int (Int32.ofInt x4)), (5, .int (Int32.ofInt x5)), (6, .int (Int32.ofInt x6)), (7, .int (Int32.ofInt x7)), (8, .int (Int32.ofInt x8))]) (st' := [.int (Int32.ofInt (-1)), .int (Int32.ofInt x4), .int (Int32.ofInt x7)]) rfl ?_
      refine lf_ixor 97 rfl rfl ?_
      refine lf_iand 98 rfl rfl ?_
      refine lf_if_ne 109 101 rfl rfl rfl lf_Rand (fun c => ?_) (fun c => ?_)
      · have h := h.1 c
        refine lf_seg 1 (pc' := 110) (lv' := [(0, .ref 68), (1, .int (Int32.ofInt x1)), (2, .int (Int32.ofInt x2)), (3, .int (Int32.ofInt x3)), (4, .int (Int32.ofInt x4)), (5, .int (Int32.ofInt x5)), (6, .int (Int32.ofInt x6)), (7, .int (Int32.ofInt x7)), (8, .int (Int32.ofInt x8))]) (st' := [.int (Int32.ofInt x3)]) rfl ?_
        refine lf_sub (l := [(0, .ref 68), (1, .int (Int32.ofInt x1)), (2, .int (Int32.ofInt x2)), (3, .int (Int32.ofInt x3)), (4, .int (Int32.ofInt x4)), (5, .int (Int32.ofInt x5)), (6, .int (Int32.ofInt x6)), (7, .int (Int32.ofInt x7)), (8, .int (Int32.ofInt x8))]) (lf_sb1 rfl (lf_sb1 rfl (lf_sb1 rfl (lf_sb1 rfl (lf_sb1 rfl (lf_sb1 rfl (lf_sb1 rfl (lf_sb1 rfl (lf_sb1 rfl lf_sb0))))))))) ?_
        exact gm_143_p110 hX53 hX70 h
      · have h := h.2 c
        refine lf_seg 2 (pc' := 103) (lv' := [(0, .ref 68), (1, .int (Int32.ofInt x1)), (2, .int (Int32.ofInt x2)), (3, .int (Int32.ofInt x3)), (4, .int (Int32.ofInt x4)), (5, .int (Int32.ofInt x5)), (6, .int (Int32.ofInt x6)), (7, .int (Int32.ofInt x7)), (8, .int (Int32.ofInt x8))]) (st' := [.int (Int32.ofInt x1), .ref 68]) rfl ?_
        refine lf_callI 106 rfl rfl rfl rfl (gm_128 h) (fun r38 s37 h => ?_)
        refine lf_seg 1 (pc' := 110) (lv' := [(0, .ref 68), (1, .int (Int32.ofInt x1)), (2, .int (Int32.ofInt x2)), (3, .int (Int32.ofInt x3)), (4, .int (Int32.ofInt x4)), (5, .int (Int32.ofInt x5)), (6, .int (Int32.ofInt x6)), (7, .int (Int32.ofInt x7)), (8, .int (Int32.ofInt x8))]) (st' := [.int (Int32.ofInt r38)]) rfl ?_
        refine lf_sub (l := [(0, .ref 68), (1, .int (Int32.ofInt x1)), (2, .int (Int32.ofInt x2)), (3, .int (Int32.ofInt x3)), (4, .int (Int32.ofInt x4)), (5, .int (Int32.ofInt x5)), (6, .int (Int32.ofInt x6)), (7, .int (Int32.ofInt x7)), (8, .int (Int32.ofInt x8))]) (lf_sb1 rfl (lf_sb1 rfl (lf_sb1 rfl (lf_sb1 rfl (lf_sb1 rfl (lf_sb1 rfl (lf_sb1 rfl (lf_sb1 rfl (lf_sb1 rfl lf_sb0))))))))) ?_
        exact gm_143_p110 hX53 hX70 h
theorem gm_143_p70L {L : Nat} {xs : Nat → Int32} {d : Nat} {X53 : Int → lf_Z → Prop} {Q : Int → lf_Z → Prop} {x1 : Int} {x2 : Int} {x3 : Int} {x4 : Int} {x5 : Int} {x6 : Int} {x7 : Int} {x8 : Int} {s : lf_Z} (hX53 : ∀ x6 s, X53 x6 s → lf_E (px_ro L xs) (d + 7) 143 53 [(0, .ref 68), (1, .int (Int32.ofInt x1)), (2, .int (Int32.ofInt x2)), (3, .int (Int32.ofInt x3)), (4, .int (Int32.ofInt x4)), (5, .int (Int32.ofInt x5)), (6, .int (Int32.ofInt x6))] [] s (lf_qi Q)) (h : fm_143_p70L X53 Q x1 x2 x3 x4 x5 x6 x7 x8 s) : lf_E (px_ro L xs) (d + 7) 143 70 [(0, .ref 68), (1, .int (Int32.ofInt x1)), (2, .int (Int32.ofInt x2)), (3, .int (Int32.ofInt x3)), (4, .int (Int32.ofInt x4)), (5, .int (Int32.ofInt x5)), (6, .int (Int32.ofInt x6)), (7, .int (Int32.ofInt x7)), (8, .int (Int32.ofInt x8))] [] s (lf_qi Q) :=
  h (fun x7 x8 s => lf_E (px_ro L xs) (d + 7) 143 70 [(0, .ref 68), (1, .int (Int32.ofInt x1)), (2, .int (Int32.ofInt x2)), (3, .int (Int32.ofInt x3)), (4, .int (Int32.ofInt x4)), (5, .int (Int32.ofInt x5)), (6, .int (Int32.ofInt x6)), (7, .int (Int32.ofInt x7)), (8, .int (Int32.ofInt x8))] [] s (lf_qi Q)) (fun x7 x8 s hb => gm_143_p70 hX53 (fun _ _ _ h => h) hb)
def fm_143_p53 (Q : Int → lf_Z → Prop) (x1 : Int) (x2 : Int) (x3 : Int) (x4 : Int) (x5 : Int) (X53 : Int → lf_Z → Prop) (x6 : Int) (s : lf_Z) : Prop := lf_R x6 ∧ ((3 < x6 → (Q (-1) s)) ∧ (¬ (3 < x6) → (fm_143_p70L X53 Q x1 x2 x3 x4 x5 x6 ((lf_shl 1 x6) - 1) 0 s)))
def fm_143_p53L (Q : Int → lf_Z → Prop) (x1 : Int) (x2 : Int) (x3 : Int) (x4 : Int) (x5 : Int) (x6 : Int) (s : lf_Z) : Prop := ∀ X53 : Int → lf_Z → Prop, (∀ (x6 : Int) (s : lf_Z), fm_143_p53 Q x1 x2 x3 x4 x5 X53 x6 s → X53 x6 s) → X53 x6 s
set_option maxRecDepth 100000 in
theorem gm_143_p53 {L : Nat} {xs : Nat → Int32} {d : Nat} {Q : Int → lf_Z → Prop} {x1 : Int} {x2 : Int} {x3 : Int} {x4 : Int} {x5 : Int} {x6 : Int} {s : lf_Z} {X53 : Int → lf_Z → Prop} (hX53 : ∀ x6 s, X53 x6 s → lf_E (px_ro L xs) (d + 7) 143 53 [(0, .ref 68), (1, .int (Int32.ofInt x1)), (2, .int (Int32.ofInt x2)), (3, .int (Int32.ofInt x3)), (4, .int (Int32.ofInt x4)), (5, .int (Int32.ofInt x5)), (6, .int (Int32.ofInt x6))] [] s (lf_qi Q)) (h : fm_143_p53 Q x1 x2 x3 x4 x5 X53 x6 s) : lf_E (px_ro L xs) (d + 7) 143 53 [(0, .ref 68), (1, .int (Int32.ofInt x1)), (2, .int (Int32.ofInt x2)), (3, .int (Int32.ofInt x3)), (4, .int (Int32.ofInt x4)), (5, .int (Int32.ofInt x5)), (6, .int (Int32.ofInt x6))] [] s (lf_qi Q) := by
  unfold fm_143_p53 at h
  refine lf_seg 2 (pc' := 56) (lv' := [(0, .ref 68), (1, .int (Int32.ofInt x1)), (2, .int (Int32.ofInt x2)), (3, .int (Int32.ofInt x3)), (4, .int (Int32.ofInt x4)), (5, .int (Int32.ofInt x5)), (6, .int (Int32.ofInt x6))]) (st' := [.int (Int32.ofInt 3), .int (Int32.ofInt x6)]) rfl ?_
  obtain ⟨o30, h⟩ := h
  refine lf_icmp_gt 158 59 rfl rfl rfl o30 ⟨by decide, by decide⟩ (fun c => ?_) (fun c => ?_)
  · have h := h.1 c
    refine lf_seg 1 (pc' := 159) (lv' := [(0, .ref 68), (1, .int (Int32.ofInt x1)), (2, .int (Int32.ofInt x2)), (3, .int (Int32.ofInt x3)), (4, .int (Int32.ofInt x4)), (5, .int (Int32.ofInt x5)), (6, .int (Int32.ofInt x6))]) (st' := [.int (Int32.ofInt (-1))]) rfl ?_
    exact lf_retI rfl rfl h
  · have h := h.2 c
    refine lf_seg 2 (pc' := 62) (lv' := [(0, .ref 68), (1, .int (Int32.ofInt x1)), (2, .int (Int32.ofInt x2)), (3, .int (Int32.ofInt x3)), (4, .int (Int32.ofInt x4)), (5, .int (Int32.ofInt x5)), (6, .int (Int32.ofInt x6))]) (st' := [.int (Int32.ofInt x6), .int (Int32.ofInt 1)]) rfl ?_
    refine lf_ishl 63 rfl rfl ?_
    refine lf_seg 1 (pc' := 64) (lv' := [(0, .ref 68), (1, .int (Int32.ofInt x1)), (2, .int (Int32.ofInt x2)), (3, .int (Int32.ofInt x3)), (4, .int (Int32.ofInt x4)), (5, .int (Int32.ofInt x5)), (6, .int (Int32.ofInt x6))]) (st' := [.int (Int32.ofInt 1), .int (Int32.ofInt (lf_shl 1 x6))]) rfl ?_
    refine lf_isub 65 rfl rfl ?_
    refine lf_seg 3 (pc' := 70) (lv' := [(8, .int (Int32.ofInt 0)), (7, .int (Int32.ofInt ((lf_shl 1 x6) - 1))), (0, .ref 68), (1, .int (Int32.ofInt x1)), (2, .int (Int32.ofInt x2)), (3, .int (Int32.ofInt x3)), (4, .int (Int32.ofInt x4)), (5, .int (Int32.ofInt x5)), (6, .int (Int32.ofInt x6))]) (st' := []) rfl ?_
    refine lf_sub (l := [(0, .ref 68), (1, .int (Int32.ofInt x1)), (2, .int (Int32.ofInt x2)), (3, .int (Int32.ofInt x3)), (4, .int (Int32.ofInt x4)), (5, .int (Int32.ofInt x5)), (6, .int (Int32.ofInt x6)), (7, .int (Int32.ofInt ((lf_shl 1 x6) - 1))), (8, .int (Int32.ofInt 0))]) (lf_sb1 rfl (lf_sb1 rfl (lf_sb1 rfl (lf_sb1 rfl (lf_sb1 rfl (lf_sb1 rfl (lf_sb1 rfl (lf_sb1 rfl (lf_sb1 rfl lf_sb0))))))))) ?_
    exact gm_143_p70L hX53 h
theorem gm_143_p53L {L : Nat} {xs : Nat → Int32} {d : Nat} {Q : Int → lf_Z → Prop} {x1 : Int} {x2 : Int} {x3 : Int} {x4 : Int} {x5 : Int} {x6 : Int} {s : lf_Z} (h : fm_143_p53L Q x1 x2 x3 x4 x5 x6 s) : lf_E (px_ro L xs) (d + 7) 143 53 [(0, .ref 68), (1, .int (Int32.ofInt x1)), (2, .int (Int32.ofInt x2)), (3, .int (Int32.ofInt x3)), (4, .int (Int32.ofInt x4)), (5, .int (Int32.ofInt x5)), (6, .int (Int32.ofInt x6))] [] s (lf_qi Q) :=
  h (fun x6 s => lf_E (px_ro L xs) (d + 7) 143 53 [(0, .ref 68), (1, .int (Int32.ofInt x1)), (2, .int (Int32.ofInt x2)), (3, .int (Int32.ofInt x3)), (4, .int (Int32.ofInt x4)), (5, .int (Int32.ofInt x5)), (6, .int (Int32.ofInt x6))] [] s (lf_qi Q)) (fun x6 s hb => gm_143_p53 (fun _ _ h => h) hb)
def fm_143 (a1 : Int) (Q : Int → lf_Z → Prop) (s : lf_Z) : Prop := fm_118 a1 0 (fun s21 => (fm_132 3 (fun r23 s22 => (fm_132 1 (fun r25 s24 => (fm_132 2 (fun r27 s26 => (fm_144 (fun r29 s28 => (fm_143_p53L Q a1 r23 (lf_or r25 r27) r29 (lf_shl 1 (s28.1 1 1)) 0 s28)) s26)) s24)) s22)) s21)) s
set_option maxRecDepth 100000 in
theorem gm_143 {L : Nat} {xs : Nat → Int32} {d : Nat} {a1 : Int} {Q : Int → lf_Z → Prop} {s : lf_Z} (h : fm_143 a1 Q s) : lf_M (px_ro L xs) (d + 7) 143 [.ref 68, .int (Int32.ofInt a1)] s (lf_qi Q) := by
  unfold fm_143 at h
  show lf_E (px_ro L xs) (d + 7) 143 0 [(0, .ref 68), (1, .int (Int32.ofInt a1))] [] s _
  refine lf_seg 3 (pc' := 3) (lv' := [(0, .ref 68), (1, .int (Int32.ofInt a1))]) (st' := [.int (Int32.ofInt 0), .int (Int32.ofInt a1), .ref 68]) rfl ?_
  refine lf_callV 6 rfl rfl rfl rfl (gm_118 h) (fun s21 h => ?_)
  refine lf_seg 3 (pc' := 11) (lv' := [(0, .ref 68), (1, .int (Int32.ofInt a1))]) (st' := [.int (Int32.ofInt 3), .ref 1]) rfl ?_
  refine lf_callI 14 rfl rfl rfl rfl (gm_132 h) (fun r23 s22 h => ?_)
  refine lf_seg 4 (pc' := 20) (lv' := [(2, .int (Int32.ofInt r23)), (0, .ref 68), (1, .int (Int32.ofInt a1))]) (st' := [.int (Int32.ofInt 1), .ref 1]) rfl ?_
  refine lf_callI 23 rfl rfl rfl rfl (gm_132 h) (fun r25 s24 h => ?_)
  refine lf_seg 3 (pc' := 28) (lv' := [(2, .int (Int32.ofInt r23)), (0, .ref 68), (1, .int (Int32.ofInt a1))]) (st' := [.int (Int32.ofInt 2), .ref 1, .int (Int32.ofInt r25)]) rfl ?_
  refine lf_callI 31 rfl rfl rfl rfl (gm_132 h) (fun r27 s26 h => ?_)
  refine lf_ior 32 rfl rfl ?_
  refine lf_seg 2 (pc' := 34) (lv' := [(3, .int (Int32.ofInt (lf_or r25 r27))), (2, .int (Int32.ofInt r23)), (0, .ref 68), (1, .int (Int32.ofInt a1))]) (st' := [.ref 68]) rfl ?_
  refine lf_callI 37 rfl rfl rfl rfl (gm_144 h) (fun r29 s28 h => ?_)
  refine lf_seg 4 (pc' := 44) (lv' := [(4, .int (Int32.ofInt r29)), (3, .int (Int32.ofInt (lf_or r25 r27))), (2, .int (Int32.ofInt r23)), (0, .ref 68), (1, .int (Int32.ofInt a1))]) (st' := [.ref 1, .int (Int32.ofInt 1)]) rfl ?_
  refine lf_getI 47 1 rfl rfl rfl rfl rfl rfl rfl ?_
  refine lf_ishl 48 rfl rfl ?_
  refine lf_seg 3 (pc' := 53) (lv' := [(6, .int (Int32.ofInt 0)), (5, .int (Int32.ofInt (lf_shl 1 (s28.1 1 1)))), (4, .int (Int32.ofInt r29)), (3, .int (Int32.ofInt (lf_or r25 r27))), (2, .int (Int32.ofInt r23)), (0, .ref 68), (1, .int (Int32.ofInt a1))]) (st' := []) rfl ?_
  refine lf_sub (l := [(0, .ref 68), (1, .int (Int32.ofInt a1)), (2, .int (Int32.ofInt r23)), (3, .int (Int32.ofInt (lf_or r25 r27))), (4, .int (Int32.ofInt r29)), (5, .int (Int32.ofInt (lf_shl 1 (s28.1 1 1)))), (6, .int (Int32.ofInt 0))]) (lf_sb1 rfl (lf_sb1 rfl (lf_sb1 rfl (lf_sb1 rfl (lf_sb1 rfl (lf_sb1 rfl (lf_sb1 rfl lf_sb0))))))) ?_
  exact gm_143_p53L h
-- fm_142 ElevenBullocks.home 0 i
def fm_142 (a1 : Int) (Q : Int → lf_Z → Prop) (s : lf_Z) : Prop := fm_80 a1 (fun z22 s21 => ((z22 = false → (Q (-1) s21)) ∧ (z22 = true → (fm_143 a1 (fun r24 s23 => (Q r24 s23)) s21)))) s
set_option maxRecDepth 100000 in
theorem gm_142 {L : Nat} {xs : Nat → Int32} {d : Nat} {a1 : Int} {Q : Int → lf_Z → Prop} {s : lf_Z} (h : fm_142 a1 Q s) : lf_M (px_ro L xs) (d + 8) 142 [.ref 0, .int (Int32.ofInt a1)] s (lf_qi Q) := by
  unfold fm_142 at h
  show lf_E (px_ro L xs) (d + 8) 142 0 [(0, .ref 0), (1, .int (Int32.ofInt a1))] [] s _
  refine lf_seg 3 (pc' := 5) (lv' := [(0, .ref 0), (1, .int (Int32.ofInt a1))]) (st' := [.int (Int32.ofInt a1), .ref 15]) rfl ?_
  refine lf_callZ 8 rfl rfl rfl rfl (gm_80 h) (fun z22 s21 h => ?_)
  refine lf_ifz_eq 22 11 rfl rfl rfl (fun c => ?_) (fun c => ?_)
  · have h := h.1 c
    refine lf_seg 1 (pc' := 23) (lv' := [(0, .ref 0), (1, .int (Int32.ofInt a1))]) (st' := [.int (Int32.ofInt (-1))]) rfl ?_
    exact lf_retI rfl rfl h
  · have h := h.2 c
    refine lf_seg 3 (pc' := 16) (lv' := [(0, .ref 0), (1, .int (Int32.ofInt a1))]) (st' := [.int (Int32.ofInt a1), .ref 68]) rfl ?_
    refine lf_callI 19 rfl rfl rfl rfl (gm_143 h) (fun r24 s23 h => ?_)
    refine lf_seg 1 (pc' := 23) (lv' := [(0, .ref 0), (1, .int (Int32.ofInt a1))]) (st' := [.int (Int32.ofInt r24)]) rfl ?_
    exact lf_retI rfl rfl h
-- fm_297 Model.home 95 i
def fm_297_p176 (Q : Int → lf_Z → Prop) (x2 : Int) (s : lf_Z) : Prop := Q x2 (lf_up s.1 95 31 0, s.2.1, s.2.2)
set_option maxRecDepth 100000 in
theorem gm_297_p176 {L : Nat} {xs : Nat → Int32} {d : Nat} {Q : Int → lf_Z → Prop} {x2 : Int} {s : lf_Z} (h : fm_297_p176 Q x2 s) : lf_E (px_ro L xs) (d + 7) 297 176 [(0, .ref 95), (2, .int (Int32.ofInt x2))] [] s (lf_qi Q) := by
  unfold fm_297_p176 at h
  refine lf_seg 2 (pc' := 178) (lv' := [(0, .ref 95), (2, .int (Int32.ofInt x2))]) (st' := [.int (Int32.ofInt 0), .ref 95]) rfl ?_
  refine lf_putI 181 31 rfl rfl rfl rfl rfl rfl rfl rfl ?_
  refine lf_as (lf_up s.1 95 31 0, s.2.1, s.2.2) rfl ?_
  refine lf_seg 1 (pc' := 182) (lv' := [(0, .ref 95), (2, .int (Int32.ofInt x2))]) (st' := [.int (Int32.ofInt x2)]) rfl ?_
  exact lf_retI rfl rfl h
def fm_297_p170 (X66 : Int → Int → lf_Z → Prop) (Q : Int → lf_Z → Prop) (x1 : Int) (x2 : Int) (x3 : Int) (x4 : Int) (s : lf_Z) : Prop := X66 x2 (x4 + 1) s
set_option maxRecDepth 100000 in
theorem gm_297_p170 {L : Nat} {xs : Nat → Int32} {d : Nat} {X66 : Int → Int → lf_Z → Prop} {Q : Int → lf_Z → Prop} {x1 : Int} {x2 : Int} {x3 : Int} {x4 : Int} {s : lf_Z} (hX66 : ∀ x2 x4 s, X66 x2 x4 s → lf_E (px_ro L xs) (d + 7) 297 66 [(0, .ref 95), (1, .int (Int32.ofInt x1)), (2, .int (Int32.ofInt x2)), (3, .int (Int32.ofInt x3)), (4, .int (Int32.ofInt x4))] [] s (lf_qi Q)) (h : fm_297_p170 X66 Q x1 x2 x3 x4 s) : lf_E (px_ro L xs) (d + 7) 297 170 [(0, .ref 95), (1, .int (Int32.ofInt x1)), (2, .int (Int32.ofInt x2)), (3, .int (Int32.ofInt x3)), (4, .int (Int32.ofInt x4))] [] s (lf_qi Q) := by
  unfold fm_297_p170 at h
  refine lf_iinc 173 rfl rfl rfl rfl ?_
  refine lf_seg 1 (pc' := 66) (lv' := [(4, .int (Int32.ofInt (x4 + 1))), (0, .ref 95), (1, .int (Int32.ofInt x1)), (2, .int (Int32.ofInt x2)), (3, .int (Int32.ofInt x3))]) (st' := []) rfl ?_
  refine lf_sub (l := [(0, .ref 95), (1, .int (Int32.ofInt x1)), (2, .int (Int32.ofInt x2)), (3, .int (Int32.ofInt x3)), (4, .int (Int32.ofInt (x4 + 1)))]) (lf_sb1 rfl (lf_sb1 rfl (lf_sb1 rfl (lf_sb1 rfl (lf_sb1 rfl lf_sb0))))) ?_
  exact hX66 _ _ _ h
def fm_297_p164 (X66 : Int → Int → lf_Z → Prop) (X79 : Int → Int → lf_Z → Prop) (Q : Int → lf_Z → Prop) (x1 : Int) (x2 : Int) (x3 : Int) (x4 : Int) (x5 : Int) (s : lf_Z) : Prop := X79 x2 (x5 + 1) s
set_option maxRecDepth 100000 in
theorem gm_297_p164 {L : Nat} {xs : Nat → Int32} {d : Nat} {X66 : Int → Int → lf_Z → Prop} {X79 : Int → Int → lf_Z → Prop} {Q : Int → lf_Z → Prop} {x1 : Int} {x2 : Int} {x3 : Int} {x4 : Int} {x5 : Int} {s : lf_Z} (hX66 : ∀ x2 x4 s, X66 x2 x4 s → lf_E (px_ro L xs) (d + 7) 297 66 [(0, .ref 95), (1, .int (Int32.ofInt x1)), (2, .int (Int32.ofInt x2)), (3, .int (Int32.ofInt x3)), (4, .int (Int32.ofInt x4))] [] s (lf_qi Q)) (hX79 : ∀ x2 x5 s, X79 x2 x5 s → lf_E (px_ro L xs) (d + 7) 297 79 [(0, .ref 95), (1, .int (Int32.ofInt x1)), (2, .int (Int32.ofInt x2)), (3, .int (Int32.ofInt x3)), (4, .int (Int32.ofInt x4)), (5, .int (Int32.ofInt x5))] [] s (lf_qi Q)) (h : fm_297_p164 X66 X79 Q x1 x2 x3 x4 x5 s) : lf_E (px_ro L xs) (d + 7) 297 164 [(0, .ref 95), (1, .int (Int32.ofInt x1)), (2, .int (Int32.ofInt x2)), (3, .int (Int32.ofInt x3)), (4, .int (Int32.ofInt x4)), (5, .int (Int32.ofInt x5))] [] s (lf_qi Q) := by
  unfold fm_297_p164 at h
  refine lf_iinc 167 rfl rfl rfl rfl ?_
  refine lf_seg 1 (pc' := 79) (lv' := [(5, .int (Int32.ofInt (x5 + 1))), (0, .ref 95), (1, .int (Int32.ofInt x1)), (2, .int (Int32.ofInt x2)), (3, .int (Int32.ofInt x3)), (4, .int (Int32.ofInt x4))]) (st' := []) rfl ?_
  refine lf_sub (l := [(0, .ref 95), (1, .int (Int32.ofInt x1)), (2, .int (Int32.ofInt x2)), (3, .int (Int32.ofInt x3)), (4, .int (Int32.ofInt x4)), (5, .int (Int32.ofInt (x5 + 1)))]) (lf_sb1 rfl (lf_sb1 rfl (lf_sb1 rfl (lf_sb1 rfl (lf_sb1 rfl (lf_sb1 rfl lf_sb0)))))) ?_
  exact hX79 _ _ _ h
def fm_297_p79 (X66 : Int → Int → lf_Z → Prop) (Q : Int → lf_Z → Prop) (x1 : Int) (x3 : Int) (x4 : Int) (X79 : Int → Int → lf_Z → Prop) (x2 : Int) (x5 : Int) (s : lf_Z) : Prop := lf_R x5 ∧ ((lf_shl 1 (s.1 96 1) ≤ x5 → (fm_297_p170 X66 Q x1 x2 x3 x4 s)) ∧ (¬ (lf_shl 1 (s.1 96 1) ≤ x5) → (lf_R x2 ∧ ((0 ≤ x2 → (fm_297_p170 X66 Q x1 x2 x3 x4 s)) ∧ (¬ (0 ≤ x2) → (fm_188 x5 (fun r30 s29 => (lf_R r30 ∧ (lf_R x4 ∧ ((r30 ≠ x4 → (fm_297_p164 X66 X79 Q x1 x2 x3 x4 x5 s29)) ∧ (¬ (r30 ≠ x4) → ((lf_and x5 (lf_xor x3 (-1)) = 0 → (fm_294 x1 (fun r34 s33 => (fm_296 r34 3 (fun r36 s35 => (lf_R r36 ∧ ((r36 = 0 → (fm_297_p164 X66 X79 Q x1 x2 x3 x4 x5 s35)) ∧ (¬ (r36 = 0) → (fm_296 r34 1 (fun r39 s38 => (lf_R r39 ∧ ((r39 ≠ 0 → (fm_297_p164 X66 X79 Q x1 x2 x3 x4 x5 s38)) ∧ (¬ (r39 ≠ 0) → (fm_296 r34 2 (fun r42 s41 => (lf_R r42 ∧ ((r42 ≠ 0 → (fm_297_p164 X66 X79 Q x1 x2 x3 x4 x5 s41)) ∧ (¬ (r42 ≠ 0) → (fm_297_p164 X66 X79 Q x1 x5 x3 x4 x5 s41))))) s38))))) s35))))) s33)) (lf_up s29.1 95 31 x5, s29.2.1, s29.2.2))) ∧ (¬ (lf_and x5 (lf_xor x3 (-1)) = 0) → (fm_297_p164 X66 X79 Q x1 x2 x3 x4 x5 s29)))))))) s))))))
def fm_297_p79L (X66 : Int → Int → lf_Z → Prop) (Q : Int → lf_Z → Prop) (x1 : Int) (x2 : Int) (x3 : Int) (x4 : Int) (x5 : Int) (s : lf_Z) : Prop := ∀ X79 : Int → Int → lf_Z → Prop, (∀ (x2 : Int) (x5 : Int) (s : lf_Z), fm_297_p79 X66 Q x1 x3 x4 X79 x2 x5 s → X79 x2 x5 s) → X79 x2 x5 s
set_option maxRecDepth 100000 in
theorem gm_297_p79 {L : Nat} {xs : Nat → Int32} {d : Nat} {X66 : Int → Int → lf_Z → Prop} {Q : Int → lf_Z → Prop} {x1 : Int} {x2 : Int} {x3 : Int} {x4 : Int} {x5 : Int} {s : lf_Z} {X79 : Int → Int → lf_Z → Prop} (hX66 : ∀ x2 x4 s, X66 x2 x4 s → lf_E (px_ro L xs) (d + 7) 297 66 [(0, .ref 95), (1, .int (Int32.ofInt x1)), (2, .int (Int32.ofInt x2)), (3, .int (Int32.ofInt x3)), (4, .int (Int32.ofInt x4))] [] s (lf_qi Q)) (hX79 : ∀ x2 x5 s, X79 x2 x5 s → lf_E (px_ro L xs) (d + 7) 297 79 [(0, .ref 95), (1, .int (Int32.ofInt x1)), (2, .int (Int32.ofInt x2)), (3, .int (Int32.ofInt x3)), (4, .int (Int32.ofInt x4)), (5, .int (Int32.ofInt x5))] [] s (lf_qi Q)) (h : fm_297_p79 X66 Q x1 x3 x4 X79 x2 x5 s) : lf_E (px_ro L xs) (d + 7) 297 79 [(0, .ref 95), (1, .int (Int32.ofInt x1)), (2, .int (Int32.ofInt x2)), (3, .int (Int32.ofInt x3)), (4, .int (Int32.ofInt x4)), (5, .int (Int32.ofInt x5))] [] s (lf_qi Q) := by
  unfold fm_297_p79 at h
  refine lf_seg 5 (pc' := 87) (lv' := [(0, .ref 95), (1, .int (Int32.ofInt x1)), (2, .int (Int32.ofInt x2)), (3, .int (Int32.ofInt x3)), (4, .int (Int32.ofInt x4)), (5, .int (Int32.ofInt x5))]) (st' := [.int (Int32.ofInt 1), .ref 96, .int (Int32.ofInt 1), .int (Int32.ofInt x5)]) rfl ?_
  refine lf_iald 88 1538 rfl rfl rfl rfl rfl rfl ⟨by decide, by decide⟩ ?_
  refine lf_ishl 89 rfl rfl ?_
  obtain ⟨o27, h⟩ := h
  refine lf_icmp_ge 170 92 rfl rfl rfl o27 lf_Rshl (fun c => ?_) (fun c => ?_)
  · have h := h.1 c
    refine lf_sub (l := [(0, .ref 95), (1, .int (Int32.ofInt x1)), (2, .int (Int32.ofInt x2)), (3, .int (Int32.ofInt x3)), (4, .int (Int32.ofInt x4))]) (lf_sb1 rfl (lf_sb1 rfl (lf_sb1 rfl (lf_sb1 rfl (lf_sb1 rfl lf_sb0))))) ?_
    exact gm_297_p170 hX66 h
  · have h := h.2 c
    refine lf_seg 1 (pc' := 93) (lv' := [(0, .ref 95), (1, .int (Int32.ofInt x1)), (2, .int (Int32.ofInt x2)), (3, .int (Int32.ofInt x3)), (4, .int (Int32.ofInt x4)), (5, .int (Int32.ofInt x5))]) (st' := [.int (Int32.ofInt x2)]) rfl ?_
    obtain ⟨o28, h⟩ := h
    refine lf_if_ge 170 96 rfl rfl rfl o28 (fun c => ?_) (fun c => ?_)
    · have h := h.1 c
      refine lf_sub (l := [(0, .ref 95), (1, .int (Int32.ofInt x1)), (2, .int (Int32.ofInt x2)), (3, .int (Int32.ofInt x3)), (4, .int (Int32.ofInt x4))]) (lf_sb1 rfl (lf_sb1 rfl (lf_sb1 rfl (lf_sb1 rfl (lf_sb1 rfl lf_sb0))))) ?_
      exact gm_297_p170 hX66 h
    · have h := h.2 c
      refine lf_seg 1 (pc' := 98) (lv' := [(0, .ref 95), (1, .int (Int32.ofInt x1)), (2, .int (Int32.ofInt x2)), (3, .int (Int32.ofInt x3)), (4, .int (Int32.ofInt x4)), (5, .int (Int32.ofInt x5))]) (st' := [.int (Int32.ofInt x5)]) rfl ?_
      refine lf_callI 101 rfl rfl rfl rfl (gm_188 h) (fun r30 s29 h => ?_)
      refine lf_seg 1 (pc' := 103) (lv' := [(0, .ref 95), (1, .int (Int32.ofInt x1)), (2, .int (Int32.ofInt x2)), (3, .int (Int32.ofInt x3)), (4, .int (Int32.ofInt x4)), (5, .int (Int32.ofInt x5))]) (st' := [.int (Int32.ofInt x4), .int (Int32.ofInt r30)]) rfl ?_
      obtain ⟨o31, h⟩ := h
      obtain ⟨o32, h⟩ := h
      refine lf_icmp_ne 164 106 rfl rfl rfl o31 o32 (fun c => ?_) (fun c => ?_)
      · have h := h.1 c
        refine lf_sub (l := [(0, .ref 95), (1, .int (Int32.ofInt x1)), (2, .int (Int32.ofInt x2)), (3, .int (Int32.ofInt x3)), (4, .int (Int32.ofInt x4)), (5, .int (Int32.ofInt x5))]) (lf_sb1 rfl (lf_sb1 rfl (lf_sb1 rfl (lf_sb1 rfl (lf_sb1 rfl (lf_sb1 rfl lf_sb0)))))) ?_
        exact gm_297_p164 hX66 hX79 h
      · have h := h.2 c
        refine lf_seg 3 (pc' := 110) (lv' := [(0, .ref 95), (1, .int (Int32.ofInt x1)), (2, .int (Int32.ofInt x2)), (3, .int (Int32.ofInt x3)), (4, .int (Int32.ofInt x4)), (5, .int (Int32.ofInt x5))]) (st' := [.int (Int32.ofInt (-1)), .int (Int32.ofInt x3), .int (Int32.ofInt x5)]) rfl ?_
        refine lf_ixor 111 rfl rfl ?_
        refine lf_iand 112 rfl rfl ?_
        refine lf_if_eq 118 115 rfl rfl rfl lf_Rand (fun c => ?_) (fun c => ?_)
        · have h := h.1 c
          refine lf_seg 2 (pc' := 121) (lv' := [(0, .ref 95), (1, .int (Int32.ofInt x1)), (2, .int (Int32.ofInt x2)), (3, .int (Int32.ofInt x3)), (4, .int (Int32.ofInt x4)), (5, .int (Int32.ofInt x5))]) (st' := [.int (Int32.ofInt x5), .ref 95]) rfl ?_
          refine lf_putI 124 31 rfl rfl rfl rfl rfl rfl rfl rfl ?_
          refine lf_as (lf_up s29.1 95 31 x5, s29.2.1, s29.2.2) rfl ?_
          refine lf_seg 2 (pc' := 126) (lv' := [(0, .ref 95), (1, .int (Int32.ofInt x1)), (2, .int (Int32.ofInt x2)), (3, .int (Int32.ofInt x3)), (4, .int (Int32.ofInt x4)), (5, .int (Int32.ofInt x5))]) (st' := [.int (Int32.ofInt x1), .ref 95]) rfl ?_
          refine lf_callI 129 rfl rfl rfl rfl (gm_294 h) (fun r34 s33 h => ?_)
          refine lf_seg 4 (pc' := 135) (lv' := [(6, .int (Int32.ofInt r34)), (0, .ref 95), (1, .int (Int32.ofInt x1)), (2, .int (Int32.ofInt x2)), (3, .int (Int32.ofInt x3)), (4, .int (Int32.ofInt x4)), (5, .int (Int32.ofInt x5))]) (st' := [.int (Int32.ofInt 3), .int (Int32.ofInt r34), .ref 95]) rfl ?_
          refine lf_callI 138 rfl rfl rfl rfl (gm_296 h) (fun r36 s35 h => ?_)
          obtain ⟨o37, h⟩ := h
          refine lf_if_eq 164 141 rfl rfl rfl o37 (fun c => ?_) (fun c => ?_)
          · have h := h.1 c
            refine lf_sub (l := [(0, .ref 95), (1, .int (Int32.ofInt x1)), (2, .int (Int32.ofInt x2)), (3, .int (Int32.ofInt x3)), (4, .int (Int32.ofInt x4)), (5, .int (Int32.ofInt x5))]) (lf_sb1 rfl (lf_sb1 rfl (lf_sb1 rfl (lf_sb1 rfl (lf_sb1 rfl (lf_sb1 rfl lf_sb0)))))) ?_
            exact gm_297_p164 hX66 hX79 h
          · have h := h.2 c
            refine lf_seg 3 (pc' := 145) (lv' := [(6, .int (Int32.ofInt r34)), (0, .ref 95), (1, .int (Int32.ofInt x1)), (2, .int (Int32.ofInt x2)), (3, .int (Int32.ofInt x3)), (4, .int (Int32.ofInt x4)), (5, .int (Int32.ofInt x5))]) (st' := [.int (Int32.ofInt 1), .int (Int32.ofInt r34), .ref 95]) rfl ?_
            refine lf_callI 148 rfl rfl rfl rfl (gm_296 h) (fun r39 s38 h => ?_)
            obtain ⟨o40, h⟩ := h
            refine lf_if_ne 164 151 rfl rfl rfl o40 (fun c => ?_) (fun c => ?_)
            · have h := h.1 c
              refine lf_sub (l := [(0, .ref 95), (1, .int (Int32.ofInt x1)), (2, .int (Int32.ofInt x2)), (3, .int (Int32.ofInt x3)), (4, .int (Int32.ofInt x4)), (5, .int (Int32.ofInt x5))]) (lf_sb1 rfl (lf_sb1 rfl (lf_sb1 rfl (lf_sb1 rfl (lf_sb1 rfl (lf_sb1 rfl lf_sb0)))))) ?_
              exact gm_297_p164 hX66 hX79 h
            · have h := h.2 c
              refine lf_seg 3 (pc' := 155) (lv' := [(6, .int (Int32.ofInt r34)), (0, .ref 95), (1, .int (Int32.ofInt x1)), (2, .int (Int32.ofInt x2)), (3, .int (Int32.ofInt x3)), (4, .int (Int32.ofInt x4)), (5, .int (Int32.ofInt x5))]) (st' := [.int (Int32.ofInt 2), .int (Int32.ofInt r34), .ref 95]) rfl ?_
              refine lf_callI 158 rfl rfl rfl rfl (gm_296 h) (fun r42 s41 h => ?_)
              obtain ⟨o43, h⟩ := h
              refine lf_if_ne 164 161 rfl rfl rfl o43 (fun c => ?_) (fun c => ?_)
              · have h := h.1 c
                refine lf_sub (l := [(0, .ref 95), (1, .int (Int32.ofInt x1)), (2, .int (Int32.ofInt x2)), (3, .int (Int32.ofInt x3)), (4, .int (Int32.ofInt x4)), (5, .int (Int32.ofInt x5))]) (lf_sb1 rfl (lf_sb1 rfl (lf_sb1 rfl (lf_sb1 rfl (lf_sb1 rfl (lf_sb1 rfl lf_sb0)))))) ?_
                exact gm_297_p164 hX66 hX79 h
              · have h := h.2 c
                refine lf_seg 2 (pc' := 164) (lv' := [(2, .int (Int32.ofInt x5)), (6, .int (Int32.ofInt r34)), (0, .ref 95), (1, .int (Int32.ofInt x1)), (3, .int (Int32.ofInt x3)), (4, .int (Int32.ofInt x4)), (5, .int (Int32.ofInt x5))]) (st' := []) rfl ?_
                refine lf_sub (l := [(0, .ref 95), (1, .int (Int32.ofInt x1)), (2, .int (Int32.ofInt x5)), (3, .int (Int32.ofInt x3)), (4, .int (Int32.ofInt x4)), (5, .int (Int32.ofInt x5))]) (lf_sb1 rfl (lf_sb1 rfl (lf_sb1 rfl (lf_sb1 rfl (lf_sb1 rfl (lf_sb1 rfl lf_sb0)))))) ?_
                exact gm_297_p164 hX66 hX79 h
        · have h := h.2 c
          refine lf_seg 1 (pc' := 164) (lv' := [(0, .ref 95), (1, .int (Int32.ofInt x1)), (2, .int (Int32.ofInt x2)), (3, .int (Int32.ofInt x3)), (4, .int (Int32.ofInt x4)), (5, .int (Int32.ofInt x5))]) (st' := []) rfl ?_
          refine lf_sub (l := [(0, .ref 95), (1, .int (Int32.ofInt x1)), (2, .int (Int32.ofInt x2)), (3, .int (Int32.ofInt x3)), (4, .int (Int32.ofInt x4)), (5, .int (Int32.ofInt x5))]) (lf_sb1 rfl (lf_sb1 rfl (lf_sb1 rfl (lf_sb1 rfl (lf_sb1 rfl (lf_sb1 rfl lf_sb0)))))) ?_
          exact gm_297_p164 hX66 hX79 h
theorem gm_297_p79L {L : Nat} {xs : Nat → Int32} {d : Nat} {X66 : Int → Int → lf_Z → Prop} {Q : Int → lf_Z → Prop} {x1 : Int} {x2 : Int} {x3 : Int} {x4 : Int} {x5 : Int} {s : lf_Z} (hX66 : ∀ x2 x4 s, X66 x2 x4 s → lf_E (px_ro L xs) (d + 7) 297 66 [(0, .ref 95), (1, .int (Int32.ofInt x1)), (2, .int (Int32.ofInt x2)), (3, .int (Int32.ofInt x3)), (4, .int (Int32.ofInt x4))] [] s (lf_qi Q)) (h : fm_297_p79L X66 Q x1 x2 x3 x4 x5 s) : lf_E (px_ro L xs) (d + 7) 297 79 [(0, .ref 95), (1, .int (Int32.ofInt x1)), (2, .int (Int32.ofInt x2)), (3, .int (Int32.ofInt x3)), (4, .int (Int32.ofInt x4)), (5, .int (Int32.ofInt x5))] [] s (lf_qi Q) :=
  h (fun x2 x5 s => lf_E (px_ro L xs) (d + 7) 297 79 [(0, .ref 95), (1, .int (Int32.ofInt x1)), (2, .int (Int32.ofInt x2)), (3, .int (Int32.ofInt x3)), (4, .int (Int32.ofInt x4)), (5, .int (Int32.ofInt x5))] [] s (lf_qi Q)) (fun x2 x5 s hb => gm_297_p79 hX66 (fun _ _ _ h => h) hb)
def fm_297_p66 (Q : Int → lf_Z → Prop) (x1 : Int) (x3 : Int) (X66 : Int → Int → lf_Z → Prop) (x2 : Int) (x4 : Int) (s : lf_Z) : Prop := lf_R x4 ∧ ((3 < x4 → (fm_297_p176 Q x2 s)) ∧ (¬ (3 < x4) → (lf_R x2 ∧ ((0 ≤ x2 → (fm_297_p176 Q x2 s)) ∧ (¬ (0 ≤ x2) → (fm_297_p79L X66 Q x1 x2 x3 x4 0 s))))))
def fm_297_p66L (Q : Int → lf_Z → Prop) (x1 : Int) (x2 : Int) (x3 : Int) (x4 : Int) (s : lf_Z) : Prop := ∀ X66 : Int → Int → lf_Z → Prop, (∀ (x2 : Int) (x4 : Int) (s : lf_Z), fm_297_p66 Q x1 x3 X66 x2 x4 s → X66 x2 x4 s) → X66 x2 x4 s
set_option maxRecDepth 100000 in
theorem gm_297_p66 {L : Nat} {xs : Nat → Int32} {d : Nat} {Q : Int → lf_Z → Prop} {x1 : Int} {x2 : Int} {x3 : Int} {x4 : Int} {s : lf_Z} {X66 : Int → Int → lf_Z → Prop} (hX66 : ∀ x2 x4 s, X66 x2 x4 s → lf_E (px_ro L xs) (d + 7) 297 66 [(0, .ref 95), (1, .int (Int32.ofInt x1)), (2, .int (Int32.ofInt x2)), (3, .int (Int32.ofInt x3)), (4, .int (Int32.ofInt x4))] [] s (lf_qi Q)) (h : fm_297_p66 Q x1 x3 X66 x2 x4 s) : lf_E (px_ro L xs) (d + 7) 297 66 [(0, .ref 95), (1, .int (Int32.ofInt x1)), (2, .int (Int32.ofInt x2)), (3, .int (Int32.ofInt x3)), (4, .int (Int32.ofInt x4))] [] s (lf_qi Q) := by
  unfold fm_297_p66 at h
  refine lf_seg 2 (pc' := 69) (lv' := [(0, .ref 95), (1, .int (Int32.ofInt x1)), (2, .int (Int32.ofInt x2)), (3, .int (Int32.ofInt x3)), (4, .int (Int32.ofInt x4))]) (st' := [.int (Int32.ofInt 3), .int (Int32.ofInt x4)]) rfl ?_
  obtain ⟨o25, h⟩ := h
  refine lf_icmp_gt 176 72 rfl rfl rfl o25 ⟨by decide, by decide⟩ (fun c => ?_) (fun c => ?_)
  · have h := h.1 c
    refine lf_sub (l := [(0, .ref 95), (2, .int (Int32.ofInt x2))]) (lf_sb1 rfl (lf_sb1 rfl lf_sb0)) ?_
    exact gm_297_p176 h
  · have h := h.2 c
    refine lf_seg 1 (pc' := 73) (lv' := [(0, .ref 95), (1, .int (Int32.ofInt x1)), (2, .int (Int32.ofInt x2)), (3, .int (Int32.ofInt x3)), (4, .int (Int32.ofInt x4))]) (st' := [.int (Int32.ofInt x2)]) rfl ?_
    obtain ⟨o26, h⟩ := h
    refine lf_if_ge 176 76 rfl rfl rfl o26 (fun c => ?_) (fun c => ?_)
    · have h := h.1 c
      refine lf_sub (l := [(0, .ref 95), (2, .int (Int32.ofInt x2))]) (lf_sb1 rfl (lf_sb1 rfl lf_sb0)) ?_
      exact gm_297_p176 h
    · have h := h.2 c
      refine lf_seg 2 (pc' := 79) (lv' := [(5, .int (Int32.ofInt 0)), (0, .ref 95), (1, .int (Int32.ofInt x1)), (2, .int (Int32.ofInt x2)), (3, .int (Int32.ofInt x3)), (4, .int (Int32.ofInt x4))]) (st' := []) rfl ?_
      refine lf_sub (l := [(0, .ref 95), (1, .int (Int32.ofInt x1)), (2, .int (Int32.ofInt x2)), (3, .int (Int32.ofInt x3)), (4, .int (Int32.ofInt x4)), (5, .int (Int32.ofInt 0))]) (lf_sb1 rfl (lf_sb1 rfl (lf_sb1 rfl (lf_sb1 rfl (lf_sb1 rfl (lf_sb1 rfl lf_sb0)))))) ?_
      exact gm_297_p79L hX66 h
theorem gm_297_p66L {L : Nat} {xs : Nat → Int32} {d : Nat} {Q : Int → lf_Z → Prop} {x1 : Int} {x2 : Int} {x3 : Int} {x4 : Int} {s : lf_Z} (h : fm_297_p66L Q x1 x2 x3 x4 s) : lf_E (px_ro L xs) (d + 7) 297 66 [(0, .ref 95), (1, .int (Int32.ofInt x1)), (2, .int (Int32.ofInt x2)), (3, .int (Int32.ofInt x3)), (4, .int (Int32.ofInt x4))] [] s (lf_qi Q) :=
  h (fun x2 x4 s => lf_E (px_ro L xs) (d + 7) 297 66 [(0, .ref 95), (1, .int (Int32.ofInt x1)), (2, .int (Int32.ofInt x2)), (3, .int (Int32.ofInt x3)), (4, .int (Int32.ofInt x4))] [] s (lf_qi Q)) (fun x2 x4 s hb => gm_297_p66 (fun _ _ _ h => h) hb)
def fm_297_p55 (X17 : Int → Int → lf_Z → Prop) (Q : Int → lf_Z → Prop) (x1 : Int) (x2 : Int) (x4 : Int) (y0 : Int) (y1 : Int) (s : lf_Z) : Prop := X17 (lf_or y0 y1) (x4 + 1) s
set_option maxRecDepth 100000 in
theorem gm_297_p55 {L : Nat} {xs : Nat → Int32} {d : Nat} {X17 : Int → Int → lf_Z → Prop} {Q : Int → lf_Z → Prop} {x1 : Int} {x2 : Int} {x4 : Int} {y0 : Int} {y1 : Int} {s : lf_Z} (hX17 : ∀ x3 x4 s, X17 x3 x4 s → lf_E (px_ro L xs) (d + 7) 297 17 [(0, .ref 95), (1, .int (Int32.ofInt x1)), (2, .int (Int32.ofInt x2)), (3, .int (Int32.ofInt x3)), (4, .int (Int32.ofInt x4))] [] s (lf_qi Q)) (h : fm_297_p55 X17 Q x1 x2 x4 y0 y1 s) : lf_E (px_ro L xs) (d + 7) 297 55 [(0, .ref 95), (1, .int (Int32.ofInt x1)), (2, .int (Int32.ofInt x2)), (4, .int (Int32.ofInt x4))] [.int (Int32.ofInt y1), .int (Int32.ofInt y0)] s (lf_qi Q) := by
  unfold fm_297_p55 at h
  refine lf_ior 56 rfl rfl ?_
  refine lf_seg 1 (pc' := 57) (lv' := [(3, .int (Int32.ofInt (lf_or y0 y1))), (0, .ref 95), (1, .int (Int32.ofInt x1)), (2, .int (Int32.ofInt x2)), (4, .int (Int32.ofInt x4))]) (st' := []) rfl ?_
  refine lf_iinc 60 rfl rfl rfl rfl ?_
  refine lf_seg 1 (pc' := 17) (lv' := [(4, .int (Int32.ofInt (x4 + 1))), (3, .int (Int32.ofInt (lf_or y0 y1))), (0, .ref 95), (1, .int (Int32.ofInt x1)), (2, .int (Int32.ofInt x2))]) (st' := []) rfl ?_
  refine lf_sub (l := [(0, .ref 95), (1, .int (Int32.ofInt x1)), (2, .int (Int32.ofInt x2)), (3, .int (Int32.ofInt (lf_or y0 y1))), (4, .int (Int32.ofInt (x4 + 1)))]) (lf_sb1 rfl (lf_sb1 rfl (lf_sb1 rfl (lf_sb1 rfl (lf_sb1 rfl lf_sb0))))) ?_
  exact hX17 _ _ _ h
def fm_297_p54 (X17 : Int → Int → lf_Z → Prop) (Q : Int → lf_Z → Prop) (x1 : Int) (x2 : Int) (x4 : Int) (y0 : Int) (s : lf_Z) : Prop := fm_297_p55 X17 Q x1 x2 x4 y0 0 s
set_option maxRecDepth 100000 in
theorem gm_297_p54 {L : Nat} {xs : Nat → Int32} {d : Nat} {X17 : Int → Int → lf_Z → Prop} {Q : Int → lf_Z → Prop} {x1 : Int} {x2 : Int} {x4 : Int} {y0 : Int} {s : lf_Z} (hX17 : ∀ x3 x4 s, X17 x3 x4 s → lf_E (px_ro L xs) (d + 7) 297 17 [(0, .ref 95), (1, .int (Int32.ofInt x1)), (2, .int (Int32.ofInt x2)), (3, .int (Int32.ofInt x3)), (4, .int (Int32.ofInt x4))] [] s (lf_qi Q)) (h : fm_297_p54 X17 Q x1 x2 x4 y0 s) : lf_E (px_ro L xs) (d + 7) 297 54 [(0, .ref 95), (1, .int (Int32.ofInt x1)), (2, .int (Int32.ofInt x2)), (4, .int (Int32.ofInt x4))] [.int (Int32.ofInt y0)] s (lf_qi Q) := by
  unfold fm_297_p54 at h
  refine lf_seg 1 (pc' := 55) (lv' := [(0, .ref 95), (1, .int (Int32.ofInt x1)), (2, .int (Int32.ofInt x2)), (4, .int (Int32.ofInt x4))]) (st' := [.int (Int32.ofInt 0), .int (Int32.ofInt y0)]) rfl ?_
  refine lf_sub (l := [(0, .ref 95), (1, .int (Int32.ofInt x1)), (2, .int (Int32.ofInt x2)), (4, .int (Int32.ofInt x4))]) (lf_sb1 rfl (lf_sb1 rfl (lf_sb1 rfl (lf_sb1 rfl lf_sb0)))) ?_
  exact gm_297_p55 hX17 h
def fm_297_p17 (Q : Int → lf_Z → Prop) (x1 : Int) (x2 : Int) (X17 : Int → Int → lf_Z → Prop) (x3 : Int) (x4 : Int) (s : lf_Z) : Prop := lf_R x4 ∧ (lf_R (s.1 96 1) ∧ ((s.1 96 1 ≤ x4 → (fm_297_p66L Q x1 x2 x3 0 s)) ∧ (¬ (s.1 96 1 ≤ x4) → (fm_245 x4 (fun z45 s44 => ((z45 = false → (fm_297_p54 X17 Q x1 x2 x4 x3 s44)) ∧ (z45 = true → (fm_252 x4 (fun z47 s46 => ((z47 = true → (fm_297_p54 X17 Q x1 x2 x4 x3 s46)) ∧ (z47 = false → (fm_297_p55 X17 Q x1 x2 x4 x3 (lf_shl 1 x4) s46)))) s44)))) s))))
def fm_297_p17L (Q : Int → lf_Z → Prop) (x1 : Int) (x2 : Int) (x3 : Int) (x4 : Int) (s : lf_Z) : Prop := ∀ X17 : Int → Int → lf_Z → Prop, (∀ (x3 : Int) (x4 : Int) (s : lf_Z), fm_297_p17 Q x1 x2 X17 x3 x4 s → X17 x3 x4 s) → X17 x3 x4 s
set_option maxRecDepth 100000 in
theorem gm_297_p17 {L : Nat} {xs : Nat → Int32} {d : Nat} {Q : Int → lf_Z → Prop} {x1 : Int} {x2 : Int} {x3 : Int} {x4 : Int} {s : lf_Z} {X17 : Int → Int → lf_Z → Prop} (hX17 : ∀ x3 x4 s, X17 x3 x4 s → lf_E (px_ro L xs) (d + 7) 297 17 [(0, .ref 95), (1, .int (Int32.ofInt x1)), (2, .int (Int32.ofInt x2)), (3, .int (Int32.ofInt x3)), (4, .int (Int32.ofInt x4))] [] s (lf_qi Q)) (h : fm_297_p17 Q x1 x2 X17 x3 x4 s) : lf_E (px_ro L xs) (d + 7) 297 17 [(0, .ref 95), (1, .int (Int32.ofInt x1)), (2, .int (Int32.ofInt x2)), (3, .int (Int32.ofInt x3)), (4, .int (Int32.ofInt x4))] [] s (lf_qi Q) := by
  unfold fm_297_p17 at h
  refine lf_seg 4 (pc' := 24) (lv' := [(0, .ref 95), (1, .int (Int32.ofInt x1)), (2, .int (Int32.ofInt x2)), (3, .int (Int32.ofInt x3)), (4, .int (Int32.ofInt x4))]) (st' := [.int (Int32.ofInt 1), .ref 96, .int (Int32.ofInt x4)]) rfl ?_
  refine lf_iald 25 1538 rfl rfl rfl rfl rfl rfl ⟨by decide, by decide⟩ ?_
  obtain ⟨o23, h⟩ := h
  obtain ⟨o24, h⟩ := h
  refine lf_icmp_ge 63 28 rfl rfl rfl o23 o24 (fun c => ?_) (fun c => ?_)
  · have h := h.1 c
    refine lf_seg 2 (pc' := 66) (lv' := [(4, .int (Int32.ofInt 0)), (0, .ref 95), (1, .int (Int32.ofInt x1)), (2, .int (Int32.ofInt x2)), (3, .int (Int32.ofInt x3))]) (st' := []) rfl ?_
    refine lf_sub (l := [(0, .ref 95), (1, .int (Int32.ofInt x1)), (2, .int (Int32.ofInt x2)), (3, .int (Int32.ofInt x3)), (4, .int (Int32.ofInt 0))]) (lf_sb1 rfl (lf_sb1 rfl (lf_sb1 rfl (lf_sb1 rfl (lf_sb1 rfl lf_sb0))))) ?_
    exact gm_297_p66L h
  · have h := h.2 c
    refine lf_seg 3 (pc' := 32) (lv' := [(0, .ref 95), (1, .int (Int32.ofInt x1)), (2, .int (Int32.ofInt x2)), (3, .int (Int32.ofInt x3)), (4, .int (Int32.ofInt x4))]) (st' := [.int (Int32.ofInt x4), .ref 95, .int (Int32.ofInt x3)]) rfl ?_
    refine lf_callZ 35 rfl rfl rfl rfl (gm_245 h) (fun z45 s44 h => ?_)
    refine lf_ifz_eq 54 38 rfl rfl rfl (fun c => ?_) (fun c => ?_)
    · have h := h.1 c
      refine lf_sub (l := [(0, .ref 95), (1, .int (Int32.ofInt x1)), (2, .int (Int32.ofInt x2)), (4, .int (Int32.ofInt x4))]) (lf_sb1 rfl (lf_sb1 rfl (lf_sb1 rfl (lf_sb1 rfl lf_sb0)))) ?_
      exact gm_297_p54 hX17 h
    · have h := h.2 c
      refine lf_seg 2 (pc' := 41) (lv' := [(0, .ref 95), (1, .int (Int32.ofInt x1)), (2, .int (Int32.ofInt x2)), (3, .int (Int32.ofInt x3)), (4, .int (Int32.ofInt x4))]) (st' := [.int (Int32.ofInt x4), .ref 95, .int (Int32.ofInt x3)]) rfl ?_
      refine lf_callZ 44 rfl rfl rfl rfl (gm_252 h) (fun z47 s46 h => ?_)
      refine lf_ifz_ne 54 47 rfl rfl rfl (fun c => ?_) (fun c => ?_)
      · have h := h.1 c
        refine lf_sub (l := [(0, .ref 95), (1, .int (Int32.ofInt x1)), (2, .int (Int32.ofInt x2)), (4, .int (Int32.ofInt x4))]) (lf_sb1 rfl (lf_sb1 rfl (lf_sb1 rfl (lf_sb1 rfl lf_sb0)))) ?_
        exact gm_297_p54 hX17 h
      · have h := h.2 c
        refine lf_seg 2 (pc' := 50) (lv' := [(0, .ref 95), (1, .int (Int32.ofInt x1)), (2, .int (Int32.ofInt x2)), (3, .int (Int32.ofInt x3)), (4, .int (Int32.ofInt x4))]) (st' := [.int (Int32.ofInt x4), .int (Int32.ofInt 1), .int (Int32.ofInt x3)]) rfl ?_
        refine lf_ishl 51 rfl rfl ?_
        refine lf_seg 1 (pc' := 55) (lv' := [(0, .ref 95), (1, .int (Int32.ofInt x1)), (2, .int (Int32.ofInt x2)), (3, .int (Int32.ofInt x3)), (4, .int (Int32.ofInt x4))]) (st' := [.int (Int32.ofInt (lf_shl 1 x4)), .int (Int32.ofInt x3)]) rfl ?_
        refine lf_sub (l := [(0, .ref 95), (1, .int (Int32.ofInt x1)), (2, .int (Int32.ofInt x2)), (4, .int (Int32.ofInt x4))]) (lf_sb1 rfl (lf_sb1 rfl (lf_sb1 rfl (lf_sb1 rfl lf_sb0)))) ?_
        exact gm_297_p55 hX17 h
theorem gm_297_p17L {L : Nat} {xs : Nat → Int32} {d : Nat} {Q : Int → lf_Z → Prop} {x1 : Int} {x2 : Int} {x3 : Int} {x4 : Int} {s : lf_Z} (h : fm_297_p17L Q x1 x2 x3 x4 s) : lf_E (px_ro L xs) (d + 7) 297 17 [(0, .ref 95), (1, .int (Int32.ofInt x1)), (2, .int (Int32.ofInt x2)), (3, .int (Int32.ofInt x3)), (4, .int (Int32.ofInt x4))] [] s (lf_qi Q) :=
  h (fun x3 x4 s => lf_E (px_ro L xs) (d + 7) 297 17 [(0, .ref 95), (1, .int (Int32.ofInt x1)), (2, .int (Int32.ofInt x2)), (3, .int (Int32.ofInt x3)), (4, .int (Int32.ofInt x4))] [] s (lf_qi Q)) (fun x3 x4 s hb => gm_297_p17 (fun _ _ _ h => h) hb)
def fm_297 (a1 : Int) (Q : Int → lf_Z → Prop) (s : lf_Z) : Prop := fm_254 a1 (fun z22 s21 => ((z22 = true → (fm_297_p17L Q a1 (-1) 0 0 s21)) ∧ (z22 = false → (Q (-1) s21)))) s
set_option maxRecDepth 100000 in
theorem gm_297 {L : Nat} {xs : Nat → Int32} {d : Nat} {a1 : Int} {Q : Int → lf_Z → Prop} {s : lf_Z} (h : fm_297 a1 Q s) : lf_M (px_ro L xs) (d + 7) 297 [.ref 95, .int (Int32.ofInt a1)] s (lf_qi Q) := by
  unfold fm_297 at h
  show lf_E (px_ro L xs) (d + 7) 297 0 [(0, .ref 95), (1, .int (Int32.ofInt a1))] [] s _
  refine lf_seg 2 (pc' := 2) (lv' := [(0, .ref 95), (1, .int (Int32.ofInt a1))]) (st' := [.int (Int32.ofInt a1), .ref 95]) rfl ?_
  refine lf_callZ 5 rfl rfl rfl rfl (gm_254 h) (fun z22 s21 h => ?_)
  refine lf_ifz_ne 10 8 rfl rfl rfl (fun c => ?_) (fun c => ?_)
  · have h := h.1 c
    refine lf_seg 6 (pc' := 17) (lv' := [(4, .int (Int32.ofInt 0)), (3, .int (Int32.ofInt 0)), (2, .int (Int32.ofInt (-1))), (0, .ref 95), (1, .int (Int32.ofInt a1))]) (st' := []) rfl ?_
    refine lf_sub (l := [(0, .ref 95), (1, .int (Int32.ofInt a1)), (2, .int (Int32.ofInt (-1))), (3, .int (Int32.ofInt 0)), (4, .int (Int32.ofInt 0))]) (lf_sb1 rfl (lf_sb1 rfl (lf_sb1 rfl (lf_sb1 rfl (lf_sb1 rfl lf_sb0))))) ?_
    exact gm_297_p17L h
  · have h := h.2 c
    refine lf_seg 1 (pc' := 9) (lv' := [(0, .ref 95), (1, .int (Int32.ofInt a1))]) (st' := [.int (Int32.ofInt (-1))]) rfl ?_
    exact lf_retI rfl rfl h
-- fm_146 Notes.addSight 25 i i
def fm_146 (a1 : Int) (a2 : Int) (Q : Int → lf_Z → Prop) (s : lf_Z) : Prop := lf_R (s.1 25 2) ∧ ((s.1 25 2 < 6 → ((0 ≤ s.1 25 2 ∧ s.1 25 2 < 6) ∧ (Q ((s.1 25 2) + 1) (lf_up (lf_up (lf_up s.1 26 (s.1 25 2) a1) 27 (s.1 25 2) a2) 25 2 ((s.1 25 2) + 1), s.2.1, s.2.2)))) ∧ (¬ (s.1 25 2 < 6) → (Q (-2) s)))
set_option maxRecDepth 100000 in
theorem gm_146 {L : Nat} {xs : Nat → Int32} {d : Nat} {a1 : Int} {a2 : Int} {Q : Int → lf_Z → Prop} {s : lf_Z} (h : fm_146 a1 a2 Q s) : lf_M (px_ro L xs) (d + 1) 146 [.ref 25, .int (Int32.ofInt a1), .int (Int32.ofInt a2)] s (lf_qi Q) := by
  unfold fm_146 at h
  show lf_E (px_ro L xs) (d + 1) 146 0 [(0, .ref 25), (1, .int (Int32.ofInt a1)), (2, .int (Int32.ofInt a2))] [] s _
  refine lf_seg 1 (pc' := 1) (lv' := [(0, .ref 25), (1, .int (Int32.ofInt a1)), (2, .int (Int32.ofInt a2))]) (st' := [.ref 25]) rfl ?_
  refine lf_getI 4 2 rfl rfl rfl rfl rfl rfl rfl ?_
  refine lf_bipush 6 6 rfl rfl (by decide) (by decide) ?_
  obtain ⟨o21, h⟩ := h
  refine lf_icmp_lt 12 9 rfl rfl rfl o21 ⟨by decide, by decide⟩ (fun c => ?_) (fun c => ?_)
  · have h := h.1 c
    refine lf_seg 3 (pc' := 17) (lv' := [(0, .ref 25), (1, .int (Int32.ofInt a1)), (2, .int (Int32.ofInt a2))]) (st' := [.ref 25, .ref 26]) rfl ?_
    refine lf_getI 20 2 rfl rfl rfl rfl rfl rfl rfl ?_
    refine lf_seg 1 (pc' := 21) (lv' := [(0, .ref 25), (1, .int (Int32.ofInt a1)), (2, .int (Int32.ofInt a2))]) (st' := [.int (Int32.ofInt a1), .int (Int32.ofInt (s.1 25 2)), .ref 26]) rfl ?_
    obtain ⟨o22, h⟩ := h
    refine lf_iast 22 6 rfl rfl rfl rfl rfl rfl o22 ?_
    refine lf_as (lf_up s.1 26 (s.1 25 2) a1, s.2.1, s.2.2) rfl ?_
    refine lf_seg 3 (pc' := 27) (lv' := [(0, .ref 25), (1, .int (Int32.ofInt a1)), (2, .int (Int32.ofInt a2))]) (st' := [.ref 25, .ref 27]) rfl ?_
    refine lf_getI 30 2 rfl rfl rfl rfl rfl rfl rfl ?_
    refine lf_seg 1 (pc' := 31) (lv' := [(0, .ref 25), (1, .int (Int32.ofInt a1)), (2, .int (Int32.ofInt a2))]) (st' := [.int (Int32.ofInt a2), .int (Int32.ofInt (s.1 25 2)), .ref 27]) rfl ?_
    refine lf_iast 32 6 rfl rfl rfl rfl rfl rfl o22 ?_
    refine lf_as (lf_up (lf_up s.1 26 (s.1 25 2) a1) 27 (s.1 25 2) a2, s.2.1, s.2.2) rfl ?_
    refine lf_seg 2 (pc' := 34) (lv' := [(0, .ref 25), (1, .int (Int32.ofInt a1)), (2, .int (Int32.ofInt a2))]) (st' := [.ref 25, .ref 25]) rfl ?_
    refine lf_getI 37 2 rfl rfl rfl rfl rfl rfl rfl ?_
    refine lf_seg 1 (pc' := 38) (lv' := [(0, .ref 25), (1, .int (Int32.ofInt a1)), (2, .int (Int32.ofInt a2))]) (st' := [.int (Int32.ofInt 1), .int (Int32.ofInt (s.1 25 2)), .ref 25]) rfl ?_
    refine lf_iadd 39 rfl rfl ?_
    refine lf_putI 42 2 rfl rfl rfl rfl rfl rfl rfl rfl ?_
    refine lf_as (lf_up (lf_up (lf_up s.1 26 (s.1 25 2) a1) 27 (s.1 25 2) a2) 25 2 ((s.1 25 2) + 1), s.2.1, s.2.2) rfl ?_
    refine lf_seg 1 (pc' := 43) (lv' := [(0, .ref 25), (1, .int (Int32.ofInt a1)), (2, .int (Int32.ofInt a2))]) (st' := [.ref 25]) rfl ?_
    refine lf_getI 46 2 rfl rfl rfl rfl rfl rfl rfl ?_
    refine lf_seg 0 (pc' := 46) (lv' := [(0, .ref 25), (1, .int (Int32.ofInt a1)), (2, .int (Int32.ofInt a2))]) (st' := [.int (Int32.ofInt ((s.1 25 2) + 1))]) rfl ?_
    exact lf_retI rfl rfl h
  · have h := h.2 c
    refine lf_bipush 11 (-2) rfl rfl (by decide) (by decide) ?_
    exact lf_retI rfl rfl h
-- fm_145 ElevenBullocks.seen 0 i i
def fm_145 (a1 : Int) (a2 : Int) (Q : Int → lf_Z → Prop) (s : lf_Z) : Prop := lf_R a1 ∧ ((a1 ≠ (-1) → (fm_18 a1 (fun z23 s22 => ((z23 = false → (Q (-2) s22)) ∧ (z23 = true → (fm_15 a2 0 60 (fun z25 s24 => ((z25 = true → (fm_146 a1 a2 (fun r27 s26 => (Q r27 s26)) s24)) ∧ (z25 = false → (Q (-2) s24)))) s22)))) s)) ∧ (¬ (a1 ≠ (-1)) → (Q 0 (lf_up s.1 25 2 0, s.2.1, s.2.2))))
set_option maxRecDepth 100000 in
theorem gm_145 {L : Nat} {xs : Nat → Int32} {d : Nat} {a1 : Int} {a2 : Int} {Q : Int → lf_Z → Prop} {s : lf_Z} (h : fm_145 a1 a2 Q s) : lf_M (px_ro L xs) (d + 2) 145 [.ref 0, .int (Int32.ofInt a1), .int (Int32.ofInt a2)] s (lf_qi Q) := by
  unfold fm_145 at h
  show lf_E (px_ro L xs) (d + 2) 145 0 [(0, .ref 0), (1, .int (Int32.ofInt a1)), (2, .int (Int32.ofInt a2))] [] s _
  refine lf_seg 2 (pc' := 2) (lv' := [(0, .ref 0), (1, .int (Int32.ofInt a1)), (2, .int (Int32.ofInt a2))]) (st' := [.int (Int32.ofInt (-1)), .int (Int32.ofInt a1)]) rfl ?_
  obtain ⟨o21, h⟩ := h
  refine lf_icmp_ne 15 5 rfl rfl rfl o21 ⟨by decide, by decide⟩ (fun c => ?_) (fun c => ?_)
  · have h := h.1 c
    refine lf_seg 3 (pc' := 20) (lv' := [(0, .ref 0), (1, .int (Int32.ofInt a1)), (2, .int (Int32.ofInt a2))]) (st' := [.int (Int32.ofInt a1), .ref 1]) rfl ?_
    refine lf_callZ 23 rfl rfl rfl rfl (gm_18 h) (fun z23 s22 h => ?_)
    refine lf_ifz_eq 36 26 rfl rfl rfl (fun c => ?_) (fun c => ?_)
    · have h := h.1 c
      refine lf_bipush 38 (-2) rfl rfl (by decide) (by decide) ?_
      exact lf_retI rfl rfl h
    · have h := h.2 c
      refine lf_seg 2 (pc' := 28) (lv' := [(0, .ref 0), (1, .int (Int32.ofInt a1)), (2, .int (Int32.ofInt a2))]) (st' := [.int (Int32.ofInt 0), .int (Int32.ofInt a2)]) rfl ?_
      refine lf_bipush 30 60 rfl rfl (by decide) (by decide) ?_
      refine lf_callZ 33 rfl rfl rfl rfl (gm_15 h) (fun z25 s24 h => ?_)
      refine lf_ifz_ne 39 36 rfl rfl rfl (fun c => ?_) (fun c => ?_)
      · have h := h.1 c
        refine lf_seg 4 (pc' := 45) (lv' := [(0, .ref 0), (1, .int (Int32.ofInt a1)), (2, .int (Int32.ofInt a2))]) (st' := [.int (Int32.ofInt a2), .int (Int32.ofInt a1), .ref 25]) rfl ?_
        refine lf_callI 48 rfl rfl rfl rfl (gm_146 h) (fun r27 s26 h => ?_)
        exact lf_retI rfl rfl h
      · have h := h.2 c
        refine lf_bipush 38 (-2) rfl rfl (by decide) (by decide) ?_
        exact lf_retI rfl rfl h
  · have h := h.2 c
    refine lf_seg 3 (pc' := 10) (lv' := [(0, .ref 0), (1, .int (Int32.ofInt a1)), (2, .int (Int32.ofInt a2))]) (st' := [.int (Int32.ofInt 0), .ref 25]) rfl ?_
    refine lf_putI 13 2 rfl rfl rfl rfl rfl rfl rfl rfl ?_
    refine lf_as (lf_up s.1 25 2 0, s.2.1, s.2.2) rfl ?_
    refine lf_seg 1 (pc' := 14) (lv' := [(0, .ref 0), (1, .int (Int32.ofInt a1)), (2, .int (Int32.ofInt a2))]) (st' := [.int (Int32.ofInt 0)]) rfl ?_
    exact lf_retI rfl rfl h
-- fm_305 Model.seen 95 i i
def fm_305 (a1 : Int) (a2 : Int) (Q : Int → lf_Z → Prop) (s : lf_Z) : Prop := lf_R a1 ∧ ((a1 ≠ (-1) → (fm_185 a1 (fun z23 s22 => ((z23 = false → (Q (-2) s22)) ∧ (z23 = true → (fm_183 a2 0 60 (fun z25 s24 => ((z25 = false → (Q (-2) s24)) ∧ (z25 = true → (lf_R (s24.1 96 10) ∧ ((s24.1 96 10 ≠ 6 → ((0 ≤ 162 + (2 * (s24.1 96 10)) ∧ 162 + (2 * (s24.1 96 10)) < 1538) ∧ ((0 ≤ (162 + (2 * ((lf_up s24.1 96 (162 + (2 * (s24.1 96 10))) a1) 96 10))) + 1 ∧ (162 + (2 * ((lf_up s24.1 96 (162 + (2 * (s24.1 96 10))) a1) 96 10))) + 1 < 1538) ∧ (Q (((lf_up (lf_up s24.1 96 (162 + (2 * (s24.1 96 10))) a1) 96 ((162 + (2 * ((lf_up s24.1 96 (162 + (2 * (s24.1 96 10))) a1) 96 10))) + 1) a2) 96 10) + 1) (lf_up (lf_up (lf_up s24.1 96 (162 + (2 * (s24.1 96 10))) a1) 96 ((162 + (2 * ((lf_up s24.1 96 (162 + (2 * (s24.1 96 10))) a1) 96 10))) + 1) a2) 96 10 (((lf_up (lf_up s24.1 96 (162 + (2 * (s24.1 96 10))) a1) 96 ((162 + (2 * ((lf_up s24.1 96 (162 + (2 * (s24.1 96 10))) a1) 96 10))) + 1) a2) 96 10) + 1), s24.2.1, s24.2.2))))) ∧ (¬ (s24.1 96 10 ≠ 6) → (Q (-2) s24))))))) s22)))) s)) ∧ (¬ (a1 ≠ (-1)) → (Q 0 (lf_up s.1 96 10 0, s.2.1, s.2.2))))
set_option maxRecDepth 100000 in
theorem gm_305 {L : Nat} {xs : Nat → Int32} {d : Nat} {a1 : Int} {a2 : Int} {Q : Int → lf_Z → Prop} {s : lf_Z} (h : fm_305 a1 a2 Q s) : lf_M (px_ro L xs) (d + 3) 305 [.ref 95, .int (Int32.ofInt a1), .int (Int32.ofInt a2)] s (lf_qi Q) := by
  unfold fm_305 at h
  show lf_E (px_ro L xs) (d + 3) 305 0 [(0, .ref 95), (1, .int (Int32.ofInt a1)), (2, .int (Int32.ofInt a2))] [] s _
  refine lf_seg 2 (pc' := 2) (lv' := [(0, .ref 95), (1, .int (Int32.ofInt a1)), (2, .int (Int32.ofInt a2))]) (st' := [.int (Int32.ofInt (-1)), .int (Int32.ofInt a1)]) rfl ?_
  obtain ⟨o21, h⟩ := h
  refine lf_icmp_ne 15 5 rfl rfl rfl o21 ⟨by decide, by decide⟩ (fun c => ?_) (fun c => ?_)
  · have h := h.1 c
    refine lf_seg 2 (pc' := 17) (lv' := [(0, .ref 95), (1, .int (Int32.ofInt a1)), (2, .int (Int32.ofInt a2))]) (st' := [.int (Int32.ofInt a1), .ref 95]) rfl ?_
    refine lf_callZ 20 rfl rfl rfl rfl (gm_185 h) (fun z23 s22 h => ?_)
    refine lf_ifz_eq 45 23 rfl rfl rfl (fun c => ?_) (fun c => ?_)
    · have h := h.1 c
      refine lf_bipush 47 (-2) rfl rfl (by decide) (by decide) ?_
      exact lf_retI rfl rfl h
    · have h := h.2 c
      refine lf_seg 2 (pc' := 25) (lv' := [(0, .ref 95), (1, .int (Int32.ofInt a1)), (2, .int (Int32.ofInt a2))]) (st' := [.int (Int32.ofInt 0), .int (Int32.ofInt a2)]) rfl ?_
      refine lf_bipush 27 60 rfl rfl (by decide) (by decide) ?_
      refine lf_callZ 30 rfl rfl rfl rfl (gm_183 h) (fun z25 s24 h => ?_)
      refine lf_ifz_eq 45 33 rfl rfl rfl (fun c => ?_) (fun c => ?_)
      · have h := h.1 c
        refine lf_bipush 47 (-2) rfl rfl (by decide) (by decide) ?_
        exact lf_retI rfl rfl h
      · have h := h.2 c
        refine lf_seg 2 (pc' := 37) (lv' := [(0, .ref 95), (1, .int (Int32.ofInt a1)), (2, .int (Int32.ofInt a2))]) (st' := [.ref 96]) rfl ?_
        refine lf_bipush 39 10 rfl rfl (by decide) (by decide) ?_
        refine lf_iald 40 1538 rfl rfl rfl rfl rfl rfl ⟨by decide, by decide⟩ ?_
        refine lf_bipush 42 6 rfl rfl (by decide) (by decide) ?_
        obtain ⟨o26, h⟩ := h
        refine lf_icmp_ne 48 45 rfl rfl rfl o26 ⟨by decide, by decide⟩ (fun c => ?_) (fun c => ?_)
        · have h := h.1 c
          refine lf_seg 2 (pc' := 52) (lv' := [(0, .ref 95), (1, .int (Int32.ofInt a1)), (2, .int (Int32.ofInt a2))]) (st' := [.ref 96]) rfl ?_
          refine lf_sipush 55 162 rfl rfl (by decide) (by decide) ?_
          refine lf_seg 3 (pc' := 60) (lv' := [(0, .ref 95), (1, .int (Int32.ofInt a1)), (2, .int (Int32.ofInt a2))]) (st' := [.ref 96, .int (Int32.ofInt 2), .int (Int32.ofInt 162), .ref 96]) rfl ?_
          refine lf_bipush 62 10 rfl rfl (by decide) (by decide) ?_
          refine lf_iald 63 1538 rfl rfl rfl rfl rfl rfl ⟨by decide, by decide⟩ ?_
          refine lf_imul 64 rfl rfl ?_
          refine lf_iadd 65 rfl rfl ?_
          refine lf_seg 1 (pc' := 66) (lv' := [(0, .ref 95), (1, .int (Int32.ofInt a1)), (2, .int (Int32.ofInt a2))]) (st' := [.int (Int32.ofInt a1), .int (Int32.ofInt (162 + (2 * (s24.1 96 10)))), .ref 96]) rfl ?_
          obtain ⟨o27, h⟩ := h
          refine lf_iast 67 1538 rfl rfl rfl rfl rfl rfl o27 ?_
          refine lf_as (lf_up s24.1 96 (162 + (2 * (s24.1 96 10))) a1, s24.2.1, s24.2.2) rfl ?_
          refine lf_seg 2 (pc' := 71) (lv' := [(0, .ref 95), (1, .int (Int32.ofInt a1)), (2, .int (Int32.ofInt a2))]) (st' := [.ref 96]) rfl ?_
          refine lf_sipush 74 162 rfl rfl (by decide) (by decide) ?_
          refine lf_seg 3 (pc' := 79) (lv' := [(0, .ref 95), (1, .int (Int32.ofInt a1)), (2, .int (Int32.ofInt a2))]) (st' := [.ref 96, .int (Int32.ofInt 2), .int (Int32.ofInt 162), .ref 96]) rfl ?_
          refine lf_bipush 81 10 rfl rfl (by decide) (by decide) ?_
          refine lf_iald 82 1538 rfl rfl rfl rfl rfl rfl ⟨by decide, by decide⟩ ?_
          refine lf_imul 83 rfl rfl ?_
          refine lf_iadd 84 rfl rfl ?_
          refine lf_seg 1 (pc' := 85) (lv' := [(0, .ref 95), (1, .int (Int32.ofInt a1)), (2, .int (Int32.ofInt a2))]) (st' := [.int (Int32.ofInt 1), .int (Int32.ofInt (162 + (2 * ((lf_up s24.1 96 (162 + (2 * (s24.1 96 10))) a1) 96 10)))), .ref 96]) rfl ?_
          refine lf_iadd 86 rfl rfl ?_
          refine lf_seg 1 (pc' := 87) (lv' := [(0, .ref 95), (1, .int (Int32.ofInt a1)), (2, .int (Int32.ofInt a2))]) (st' := [.int (Int32.ofInt a2), .int (Int32.ofInt ((162 + (2 * ((lf_up s24.1 96 (162 + (2 * (s24.1 96 10))) a1) 96 10))) + 1)), .ref 96]) rfl ?_
          obtain ⟨o28, h⟩ := h
          refine lf_iast 88 1538 rfl rfl rfl rfl rfl rfl o28 ?_
          refine lf_as (lf_up (lf_up s24.1 96 (162 + (2 * (s24.1 96 10))) a1) 96 ((162 + (2 * ((lf_up s24.1 96 (162 + (2 * (s24.1 96 10))) a1) 96 10))) + 1) a2, s24.2.1, s24.2.2) rfl ?_
          refine lf_seg 2 (pc' := 92) (lv' := [(0, .ref 95), (1, .int (Int32.ofInt a1)), (2, .int (Int32.ofInt a2))]) (st' := [.ref 96]) rfl ?_
          refine lf_bipush 94 10 rfl rfl (by decide) (by decide) ?_
          refine lf_seg 1 (pc' := 95) (lv' := [(0, .ref 95), (1, .int (Int32.ofInt a1)), (2, .int (Int32.ofInt a2))]) (st' := [.int (Int32.ofInt 10), .ref 96, .int (Int32.ofInt 10), .ref 96]) rfl ?_
          refine lf_iald 96 1538 rfl rfl rfl rfl rfl rfl ⟨by decide, by decide⟩ ?_
          refine lf_seg 1 (pc' := 97) (lv' := [(0, .ref 95), (1, .int (Int32.ofInt a1)), (2, .int (Int32.ofInt a2))]) (st' := [.int (Int32.ofInt 1), .int (Int32.ofInt ((lf_up (lf_up s24.1 96 (162 + (2 * (s24.1 96 10))) a1) 96 ((162 + (2 * ((lf_up s24.1 96 (162 + (2 * (s24.1 96 10))) a1) 96 10))) + 1) a2) 96 10)), .int (Int32.ofInt 10), .ref 96]) rfl ?_
          refine lf_iadd 98 rfl rfl ?_
          refine lf_iast 99 1538 rfl rfl rfl rfl rfl rfl ⟨by decide, by decide⟩ ?_
          refine lf_as (lf_up (lf_up (lf_up s24.1 96 (162 + (2 * (s24.1 96 10))) a1) 96 ((162 + (2 * ((lf_up s24.1 96 (162 + (2 * (s24.1 96 10))) a1) 96 10))) + 1) a2) 96 10 (((lf_up (lf_up s24.1 96 (162 + (2 * (s24.1 96 10))) a1) 96 ((162 + (2 * ((lf_up s24.1 96 (162 + (2 * (s24.1 96 10))) a1) 96 10))) + 1) a2) 96 10) + 1), s24.2.1, s24.2.2) rfl ?_
          refine lf_seg 2 (pc' := 103) (lv' := [(0, .ref 95), (1, .int (Int32.ofInt a1)), (2, .int (Int32.ofInt a2))]) (st' := [.ref 96]) rfl ?_
          refine lf_bipush 105 10 rfl rfl (by decide) (by decide) ?_
          refine lf_iald 106 1538 rfl rfl rfl rfl rfl rfl ⟨by decide, by decide⟩ ?_
          refine lf_seg 0 (pc' := 106) (lv' := [(0, .ref 95), (1, .int (Int32.ofInt a1)), (2, .int (Int32.ofInt a2))]) (st' := [.int (Int32.ofInt (((lf_up (lf_up s24.1 96 (162 + (2 * (s24.1 96 10))) a1) 96 ((162 + (2 * ((lf_up s24.1 96 (162 + (2 * (s24.1 96 10))) a1) 96 10))) + 1) a2) 96 10) + 1))]) rfl ?_
          exact lf_retI rfl rfl h
        · have h := h.2 c
          refine lf_bipush 47 (-2) rfl rfl (by decide) (by decide) ?_
          exact lf_retI rfl rfl h
  · have h := h.2 c
    refine lf_seg 2 (pc' := 9) (lv' := [(0, .ref 95), (1, .int (Int32.ofInt a1)), (2, .int (Int32.ofInt a2))]) (st' := [.ref 96]) rfl ?_
    refine lf_bipush 11 10 rfl rfl (by decide) (by decide) ?_
    refine lf_seg 1 (pc' := 12) (lv' := [(0, .ref 95), (1, .int (Int32.ofInt a1)), (2, .int (Int32.ofInt a2))]) (st' := [.int (Int32.ofInt 0), .int (Int32.ofInt 10), .ref 96]) rfl ?_
    refine lf_iast 13 1538 rfl rfl rfl rfl rfl rfl ⟨by decide, by decide⟩ ?_
    refine lf_as (lf_up s.1 96 10 0, s.2.1, s.2.2) rfl ?_
    refine lf_seg 1 (pc' := 14) (lv' := [(0, .ref 95), (1, .int (Int32.ofInt a1)), (2, .int (Int32.ofInt a2))]) (st' := [.int (Int32.ofInt 0)]) rfl ?_
    exact lf_retI rfl rfl h
-- fm_2 Land.setApart 14
def fm_2_p9 (Q : lf_Z → Prop) (X9 : Int → lf_Z → Prop) (x1 : Int) (s : lf_Z) : Prop := lf_R x1 ∧ ((12 ≤ x1 → (Q s)) ∧ (¬ (12 ≤ x1) → ((0 ≤ (x1 * 12) + x1 ∧ (x1 * 12) + x1 < 144) ∧ (X9 (x1 + 1) (lf_up s.1 14 ((x1 * 12) + x1) 0, s.2.1, s.2.2)))))
def fm_2_p9L (Q : lf_Z → Prop) (x1 : Int) (s : lf_Z) : Prop := ∀ X9 : Int → lf_Z → Prop, (∀ (x1 : Int) (s : lf_Z), fm_2_p9 Q X9 x1 s → X9 x1 s) → X9 x1 s
set_option maxRecDepth 100000 in
theorem gm_2_p9 {L : Nat} {xs : Nat → Int32} {d : Nat} {Q : lf_Z → Prop} {x1 : Int} {s : lf_Z} {X9 : Int → lf_Z → Prop} (hX9 : ∀ x1 s, X9 x1 s → lf_E (px_ro L xs) (d + 2) 2 9 [(0, .ref 14), (1, .int (Int32.ofInt x1))] [] s (lf_qv Q)) (h : fm_2_p9 Q X9 x1 s) : lf_E (px_ro L xs) (d + 2) 2 9 [(0, .ref 14), (1, .int (Int32.ofInt x1))] [] s (lf_qv Q) := by
  unfold fm_2_p9 at h
  refine lf_seg 1 (pc' := 10) (lv' := [(0, .ref 14), (1, .int (Int32.ofInt x1))]) (st' := [.int (Int32.ofInt x1)]) rfl ?_
  refine lf_bipush 12 12 rfl rfl (by decide) (by decide) ?_
  obtain ⟨o21, h⟩ := h
  refine lf_icmp_ge 30 15 rfl rfl rfl o21 ⟨by decide, by decide⟩ (fun c => ?_) (fun c => ?_)
  · have h := h.1 c
    exact lf_retV rfl rfl h
  · have h := h.2 c
    refine lf_seg 2 (pc' := 17) (lv' := [(0, .ref 14), (1, .int (Int32.ofInt x1))]) (st' := [.int (Int32.ofInt x1), .ref 14]) rfl ?_
    refine lf_bipush 19 12 rfl rfl (by decide) (by decide) ?_
    refine lf_imul 20 rfl rfl ?_
    refine lf_seg 1 (pc' := 21) (lv' := [(0, .ref 14), (1, .int (Int32.ofInt x1))]) (st' := [.int (Int32.ofInt x1), .int (Int32.ofInt (x1 * 12)), .ref 14]) rfl ?_
    refine lf_iadd 22 rfl rfl ?_
    refine lf_seg 1 (pc' := 23) (lv' := [(0, .ref 14), (1, .int (Int32.ofInt x1))]) (st' := [.int (Int32.ofInt 0), .int (Int32.ofInt ((x1 * 12) + x1)), .ref 14]) rfl ?_
    obtain ⟨o22, h⟩ := h
    refine lf_iast 24 144 rfl rfl rfl rfl rfl rfl o22 ?_
    refine lf_as (lf_up s.1 14 ((x1 * 12) + x1) 0, s.2.1, s.2.2) rfl ?_
    refine lf_iinc 27 rfl rfl rfl rfl ?_
    refine lf_seg 1 (pc' := 9) (lv' := [(1, .int (Int32.ofInt (x1 + 1))), (0, .ref 14)]) (st' := []) rfl ?_
    refine lf_sub (l := [(0, .ref 14), (1, .int (Int32.ofInt (x1 + 1)))]) (lf_sb1 rfl (lf_sb1 rfl lf_sb0)) ?_
    exact hX9 _ _ h
theorem gm_2_p9L {L : Nat} {xs : Nat → Int32} {d : Nat} {Q : lf_Z → Prop} {x1 : Int} {s : lf_Z} (h : fm_2_p9L Q x1 s) : lf_E (px_ro L xs) (d + 2) 2 9 [(0, .ref 14), (1, .int (Int32.ofInt x1))] [] s (lf_qv Q) :=
  h (fun x1 s => lf_E (px_ro L xs) (d + 2) 2 9 [(0, .ref 14), (1, .int (Int32.ofInt x1))] [] s (lf_qv Q)) (fun x1 s hb => gm_2_p9 (fun _ _ h => h) hb)
def fm_2 (Q : lf_Z → Prop) (s : lf_Z) : Prop := fm_2_p9L Q 0 (lf_fl s.1 14 144 1000, s.2.1, s.2.2)
set_option maxRecDepth 100000 in
theorem gm_2 {L : Nat} {xs : Nat → Int32} {d : Nat} {Q : lf_Z → Prop} {s : lf_Z} (h : fm_2 Q s) : lf_M (px_ro L xs) (d + 2) 2 [.ref 14] s (lf_qv Q) := by
  unfold fm_2 at h
  show lf_E (px_ro L xs) (d + 2) 2 0 [(0, .ref 14)] [] s _
  refine lf_seg 1 (pc' := 1) (lv' := [(0, .ref 14)]) (st' := [.ref 14]) rfl ?_
  refine lf_sipush 4 1000 rfl rfl (by decide) (by decide) ?_
  refine lf_callV (Q1 := fun s1 => s1 = (lf_fl s.1 14 144 1000, s.2.1, s.2.2)) 7 rfl rfl rfl rfl (lf_fill (m := 144) rfl rfl rfl rfl rfl rfl) (fun s1 hs1 => ?_)
  refine lf_as (lf_fl s.1 14 144 1000, s.2.1, s.2.2) hs1 ?_
  refine lf_seg 2 (pc' := 9) (lv' := [(1, .int (Int32.ofInt 0)), (0, .ref 14)]) (st' := []) rfl ?_
  refine lf_sub (l := [(0, .ref 14), (1, .int (Int32.ofInt 0))]) (lf_sb1 rfl (lf_sb1 rfl lf_sb0)) ?_
  exact gm_2_p9L h
-- fm_22b Land.bringNear 1 14 i i
def fm_22b_p22 (X3 : Int → lf_Z → Prop) (Q : lf_Z → Prop) (x2 : Int) (x3 : Int) (x4 : Int) (x5 : Int) (X22 : Int → lf_Z → Prop) (x6 : Int) (s : lf_Z) : Prop := lf_R x6 ∧ (lf_R (s.1 1 0) ∧ ((s.1 1 0 ≤ x6 → (X3 (x4 + 1) s)) ∧ (¬ (s.1 1 0 ≤ x6) → ((0 ≤ x5 + x2 ∧ x5 + x2 < 144) ∧ ((0 ≤ (x3 * 12) + x6 ∧ (x3 * 12) + x6 < 144) ∧ ((0 ≤ x5 + x3 ∧ x5 + x3 < 144) ∧ ((0 ≤ (x2 * 12) + x6 ∧ (x2 * 12) + x6 < 144) ∧ ((0 ≤ x5 + x6 ∧ x5 + x6 < 144) ∧ (lf_R (((s.1 14 (x5 + x2)) + 1) + (s.1 14 ((x3 * 12) + x6))) ∧ (lf_R (((s.1 14 (x5 + x3)) + 1) + (s.1 14 ((x2 * 12) + x6))) ∧ (lf_R (s.1 14 (x5 + x6)) ∧ (lf_R (min (((s.1 14 (x5 + x2)) + 1) + (s.1 14 ((x3 * 12) + x6))) (((s.1 14 (x5 + x3)) + 1) + (s.1 14 ((x2 * 12) + x6)))) ∧ (X22 (x6 + 1) (lf_up s.1 14 (x5 + x6) (min (s.1 14 (x5 + x6)) (min (((s.1 14 (x5 + x2)) + 1) + (s.1 14 ((x3 * 12) + x6))) (((s.1 14 (x5 + x3)) + 1) + (s.1 14 ((x2 * 12) + x6))))), s.2.1, s.2.2))))))))))))))
def fm_22b_p22L (X3 : Int → lf_Z → Prop) (Q : lf_Z → Prop) (x2 : Int) (x3 : Int) (x4 : Int) (x5 : Int) (x6 : Int) (s : lf_Z) : Prop := ∀ X22 : Int → lf_Z → Prop, (∀ (x6 : Int) (s : lf_Z), fm_22b_p22 X3 Q x2 x3 x4 x5 X22 x6 s → X22 x6 s) → X22 x6 s
set_option maxRecDepth 100000 in
theorem gm_22b_p22 {L : Nat} {xs : Nat → Int32} {d : Nat} {X3 : Int → lf_Z → Prop} {Q : lf_Z → Prop} {x2 : Int} {x3 : Int} {x4 : Int} {x5 : Int} {x6 : Int} {s : lf_Z} {X22 : Int → lf_Z → Prop} (hX3 : ∀ x4 s, X3 x4 s → lf_E (px_ro L xs) (d + 1) 22 3 [(0, .ref 1), (1, .ref 14), (2, .int (Int32.ofInt x2)), (3, .int (Int32.ofInt x3)), (4, .int (Int32.ofInt x4))] [] s (lf_qv Q)) (hX22 : ∀ x6 s, X22 x6 s → lf_E (px_ro L xs) (d + 1) 22 22 [(0, .ref 1), (1, .ref 14), (2, .int (Int32.ofInt x2)), (3, .int (Int32.ofInt x3)), (4, .int (Int32.ofInt x4)), (5, .int (Int32.ofInt x5)), (6, .int (Int32.ofInt x6))] [] s (lf_qv Q)) (h : fm_22b_p22 X3 Q x2 x3 x4 x5 X22 x6 s) : lf_E (px_ro L xs) (d + 1) 22 22 [(0, .ref 1), (1, .ref 14), (2, .int (Int32.ofInt x2)), (3, .int (Int32.ofInt x3)), (4, .int (Int32.ofInt x4)), (5, .int (Int32.ofInt x5)), (6, .int (Int32.ofInt x6))] [] s (lf_qv Q) := by
  unfold fm_22b_p22 at h
  refine lf_seg 2 (pc' := 25) (lv' := [(0, .ref 1), (1, .ref 14), (2, .int (Int32.ofInt x2)), (3, .int (Int32.ofInt x3)), (4, .int (Int32.ofInt x4)), (5, .int (Int32.ofInt x5)), (6, .int (Int32.ofInt x6))]) (st' := [.ref 1, .int (Int32.ofInt x6)]) rfl ?_
  refine lf_getI 28 0 rfl rfl rfl rfl rfl rfl rfl ?_
  obtain ⟨o23, h⟩ := h
  obtain ⟨o24, h⟩ := h
  refine lf_icmp_ge 101 31 rfl rfl rfl o23 o24 (fun c => ?_) (fun c => ?_)
  · have h := h.1 c
    refine lf_iinc 104 rfl rfl rfl rfl ?_
    refine lf_seg 1 (pc' := 3) (lv' := [(4, .int (Int32.ofInt (x4 + 1))), (0, .ref 1), (1, .ref 14), (2, .int (Int32.ofInt x2)), (3, .int (Int32.ofInt x3)), (5, .int (Int32.ofInt x5)), (6, .int (Int32.ofInt x6))]) (st' := []) rfl ?_
    refine lf_sub (l := [(0, .ref 1), (1, .ref 14), (2, .int (Int32.ofInt x2)), (3, .int (Int32.ofInt x3)), (4, .int (Int32.ofInt (x4 + 1)))]) (lf_sb1 rfl (lf_sb1 rfl (lf_sb1 rfl (lf_sb1 rfl (lf_sb1 rfl lf_sb0))))) ?_
    exact hX3 _ _ h
  · have h := h.2 c
    refine lf_seg 3 (pc' := 35) (lv' := [(0, .ref 1), (1, .ref 14), (2, .int (Int32.ofInt x2)), (3, .int (Int32.ofInt x3)), (4, .int (Int32.ofInt x4)), (5, .int (Int32.ofInt x5)), (6, .int (Int32.ofInt x6))]) (st' := [.int (Int32.ofInt x2), .int (Int32.ofInt x5), .ref 14]) rfl ?_
    refine lf_iadd 36 rfl rfl ?_
    obtain ⟨o25, h⟩ := h
    refine lf_iald 37 144 rfl rfl rfl rfl rfl rfl o25 ?_
    refine lf_seg 1 (pc' := 38) (lv' := [(0, .ref 1), (1, .ref 14), (2, .int (Int32.ofInt x2)), (3, .int (Int32.ofInt x3)), (4, .int (Int32.ofInt x4)), (5, .int (Int32.ofInt x5)), (6, .int (Int32.ofInt x6))]) (st' := [.int (Int32.ofInt 1), .int (Int32.ofInt (s.1 14 (x5 + x2)))]) rfl ?_
    refine lf_iadd 39 rfl rfl ?_
    refine lf_seg 2 (pc' := 41) (lv' := [(0, .ref 1), (1, .ref 14), (2, .int (Int32.ofInt x2)), (3, .int (Int32.ofInt x3)), (4, .int (Int32.ofInt x4)), (5, .int (Int32.ofInt x5)), (6, .int (Int32.ofInt x6))]) (st' := [.int (Int32.ofInt x3), .ref 14, .int (Int32.ofInt ((s.1 14 (x5 + x2)) + 1))]) rfl ?_
    refine lf_bipush 43 12 rfl rfl (by decide) (by decide) ?_
    refine lf_imul 44 rfl rfl ?_
    refine lf_seg 1 (pc' := 46) (lv' := [(0, .ref 1), (1, .ref 14), (2, .int (Int32.ofInt x2)), (3, .int (Int32.ofInt x3)), (4, .int (Int32.ofInt x4)), (5, .int (Int32.ofInt x5)), (6, .int (Int32.ofInt x6))]) (st' := [.int (Int32.ofInt x6), .int (Int32.ofInt (x3 * 12)), .ref 14, .int (Int32.ofInt ((s.1 14 (x5 + x2)) + 1))]) rfl ?_
    refine lf_iadd 47 rfl rfl ?_
    obtain ⟨o26, h⟩ := h
    refine lf_iald 48 144 rfl rfl rfl rfl rfl rfl o26 ?_
    refine lf_iadd 49 rfl rfl ?_
    refine lf_seg 4 (pc' := 55) (lv' := [(7, .int (Int32.ofInt (((s.1 14 (x5 + x2)) + 1) + (s.1 14 ((x3 * 12) + x6))))), (0, .ref 1), (1, .ref 14), (2, .int (Int32.ofInt x2)), (3, .int (Int32.ofInt x3)), (4, .int (Int32.ofInt x4)), (5, .int (Int32.ofInt x5)), (6, .int (Int32.ofInt x6))]) (st' := [.int (Int32.ofInt x3), .int (Int32.ofInt x5), .ref 14]) rfl ?_
    refine lf_iadd 56 rfl rfl ?_
    obtain ⟨o27, h⟩ := h
    refine lf_iald 57 144 rfl rfl rfl rfl rfl rfl o27 ?_
    refine lf_seg 1 (pc' := 58) (lv' := [(7, .int (Int32.ofInt (((s.1 14 (x5 + x2)) + 1) + (s.1 14 ((x3 * 12) + x6))))), (0, .ref 1), (1, .ref 14), (2, .int (Int32.ofInt x2)), (3, .int (Int32.ofInt x3)), (4, .int (Int32.ofInt x4)), (5, .int (Int32.ofInt x5)), (6, .int (Int32.ofInt x6))]) (st' := [.int (Int32.ofInt 1), .int (Int32.ofInt (s.1 14 (x5 + x3)))]) rfl ?_
    refine lf_iadd 59 rfl rfl ?_
    refine lf_seg 2 (pc' := 61) (lv' := [(7, .int (Int32.ofInt (((s.1 14 (x5 + x2)) + 1) + (s.1 14 ((x3 * 12) + x6))))), (0, .ref 1), (1, .ref 14), (2, .int (Int32.ofInt x2)), (3, .int (Int32.ofInt x3)), (4, .int (Int32.ofInt x4)), (5, .int (Int32.ofInt x5)), (6, .int (Int32.ofInt x6))]) (st' := [.int (Int32.ofInt x2), .ref 14, .int (Int32.ofInt ((s.1 14 (x5 + x3)) + 1))]) rfl ?_
    refine lf_bipush 63 12 rfl rfl (by decide) (by decide) ?_
    refine lf_imul 64 rfl rfl ?_
    refine lf_seg 1 (pc' := 66) (lv' := [(7, .int (Int32.ofInt (((s.1 14 (x5 + x2)) + 1) + (s.1 14 ((x3 * 12) + x6))))), (0, .ref 1), (1, .ref 14), (2, .int (Int32.ofInt x2)), (3, .int (Int32.ofInt x3)), (4, .int (Int32.ofInt x4)), (5, .int (Int32.ofInt x5)), (6, .int (Int32.ofInt x6))]) (st' := [.int (Int32.ofInt x6), .int (Int32.ofInt (x2 * 12)), .ref 14, .int (Int32.ofInt ((s.1 14 (x5 + x3)) + 1))]) rfl ?_
    refine lf_iadd 67 rfl rfl ?_
    obtain ⟨o28, h⟩ := h
    refine lf_iald 68 144 rfl rfl rfl rfl rfl rfl o28 ?_
    refine lf_iadd 69 rfl rfl ?_
    refine lf_seg 4 (pc' := 76) (lv' := [(8, .int (Int32.ofInt (((s.1 14 (x5 + x3)) + 1) + (s.1 14 ((x2 * 12) + x6))))), (7, .int (Int32.ofInt (((s.1 14 (x5 + x2)) + 1) + (s.1 14 ((x3 * 12) + x6))))), (0, .ref 1), (1, .ref 14), (2, .int (Int32.ofInt x2)), (3, .int (Int32.ofInt x3)), (4, .int (Int32.ofInt x4)), (5, .int (Int32.ofInt x5)), (6, .int (Int32.ofInt x6))]) (st' := [.int (Int32.ofInt x6), .int (Int32.ofInt x5), .ref 14]) rfl ?_
    refine lf_iadd 77 rfl rfl ?_
    refine lf_seg 3 (pc' := 82) (lv' := [(8, .int (Int32.ofInt (((s.1 14 (x5 + x3)) + 1) + (s.1 14 ((x2 * 12) + x6))))), (7, .int (Int32.ofInt (((s.1 14 (x5 + x2)) + 1) + (s.1 14 ((x3 * 12) + x6))))), (0, .ref 1), (1, .ref 14), (2, .int (Int32.ofInt x2)), (3, .int (Int32.ofInt x3)), (4, .int (Int32.ofInt x4)), (5, .int (Int32.ofInt x5)), (6, .int (Int32.ofInt x6))]) (st' := [.int (Int32.ofInt x6), .int (Int32.ofInt x5), .ref 14, .int (Int32.ofInt (x5 + x6)), .ref 14]) rfl ?_
    refine lf_iadd 83 rfl rfl ?_
    obtain ⟨o29, h⟩ := h
    refine lf_iald 84 144 rfl rfl rfl rfl rfl rfl o29 ?_
    refine lf_seg 2 (pc' := 88) (lv' := [(8, .int (Int32.ofInt (((s.1 14 (x5 + x3)) + 1) + (s.1 14 ((x2 * 12) + x6))))), (7, .int (Int32.ofInt (((s.1 14 (x5 + x2)) + 1) + (s.1 14 ((x3 * 12) + x6))))), (0, .ref 1), (1, .ref 14), (2, .int (Int32.ofInt x2)), (3, .int (Int32.ofInt x3)), (4, .int (Int32.ofInt x4)), (5, .int (Int32.ofInt x5)), (6, .int (Int32.ofInt x6))]) (st' := [.int (Int32.ofInt (((s.1 14 (x5 + x3)) + 1) + (s.1 14 ((x2 * 12) + x6)))), .int (Int32.ofInt (((s.1 14 (x5 + x2)) + 1) + (s.1 14 ((x3 * 12) + x6)))), .int (Int32.ofInt (s.1 14 (x5 + x6))), .int (Int32.ofInt (x5 + x6)), .ref 14]) rfl ?_
    obtain ⟨o30, h⟩ := h
    obtain ⟨o31, h⟩ := h
    refine lf_imin 91 rfl rfl rfl rfl o30 o31 ?_
    obtain ⟨o32, h⟩ := h
    obtain ⟨o33, h⟩ := h
    refine lf_imin 94 rfl rfl rfl rfl o32 o33 ?_
    refine lf_iast 95 144 rfl rfl rfl rfl rfl rfl o29 ?_
    refine lf_as (lf_up s.1 14 (x5 + x6) (min (s.1 14 (x5 + x6)) (min (((s.1 14 (x5 + x2)) + 1) + (s.1 14 ((x3 * 12) + x6))) (((s.1 14 (x5 + x3)) + 1) + (s.1 14 ((x2 * 12) + x6))))), s.2.1, s.2.2) rfl ?_
    refine lf_iinc 98 rfl rfl rfl rfl ?_
    refine lf_seg 1 (pc' := 22) (lv' := [(6, .int (Int32.ofInt (x6 + 1))), (8, .int (Int32.ofInt (((s.1 14 (x5 + x3)) + 1) + (s.1 14 ((x2 * 12) + x6))))), (7, .int (Int32.ofInt (((s.1 14 (x5 + x2)) + 1) + (s.1 14 ((x3 * 12) + x6))))), (0, .ref 1), (1, .ref 14), (2, .int (Int32.ofInt x2)), (3, .int (Int32.ofInt x3)), (4, .int (Int32.ofInt x4)), (5, .int (Int32.ofInt x5))]) (st' := []) rfl ?_
    refine lf_sub (l := [(0, .ref 1), (1, .ref 14), (2, .int (Int32.ofInt x2)), (3, .int (Int32.ofInt x3)), (4, .int (Int32.ofInt x4)), (5, .int (Int32.ofInt x5)), (6, .int (Int32.ofInt (x6 + 1)))]) (lf_sb1 rfl (lf_sb1 rfl (lf_sb1 rfl (lf_sb1 rfl (lf_sb1 rfl (lf_sb1 rfl (lf_sb1 rfl lf_sb0))))))) ?_
    exact hX22 _ _ h
theorem gm_22b_p22L {L : Nat} {xs : Nat → Int32} {d : Nat} {X3 : Int → lf_Z → Prop} {Q : lf_Z → Prop} {x2 : Int} {x3 : Int} {x4 : Int} {x5 : Int} {x6 : Int} {s : lf_Z} (hX3 : ∀ x4 s, X3 x4 s → lf_E (px_ro L xs) (d + 1) 22 3 [(0, .ref 1), (1, .ref 14), (2, .int (Int32.ofInt x2)), (3, .int (Int32.ofInt x3)), (4, .int (Int32.ofInt x4))] [] s (lf_qv Q)) (h : fm_22b_p22L X3 Q x2 x3 x4 x5 x6 s) : lf_E (px_ro L xs) (d + 1) 22 22 [(0, .ref 1), (1, .ref 14), (2, .int (Int32.ofInt x2)), (3, .int (Int32.ofInt x3)), (4, .int (Int32.ofInt x4)), (5, .int (Int32.ofInt x5)), (6, .int (Int32.ofInt x6))] [] s (lf_qv Q) :=
  h (fun x6 s => lf_E (px_ro L xs) (d + 1) 22 22 [(0, .ref 1), (1, .ref 14), (2, .int (Int32.ofInt x2)), (3, .int (Int32.ofInt x3)), (4, .int (Int32.ofInt x4)), (5, .int (Int32.ofInt x5)), (6, .int (Int32.ofInt x6))] [] s (lf_qv Q)) (fun x6 s hb => gm_22b_p22 hX3 (fun _ _ h => h) hb)
def fm_22b_p3 (Q : lf_Z → Prop) (x2 : Int) (x3 : Int) (X3 : Int → lf_Z → Prop) (x4 : Int) (s : lf_Z) : Prop := lf_R x4 ∧ (lf_R (s.1 1 0) ∧ ((s.1 1 0 ≤ x4 → (Q s)) ∧ (¬ (s.1 1 0 ≤ x4) → (fm_22b_p22L X3 Q x2 x3 x4 (x4 * 12) 0 s))))
def fm_22b_p3L (Q : lf_Z → Prop) (x2 : Int) (x3 : Int) (x4 : Int) (s : lf_Z) : Prop := ∀ X3 : Int → lf_Z → Prop, (∀ (x4 : Int) (s : lf_Z), fm_22b_p3 Q x2 x3 X3 x4 s → X3 x4 s) → X3 x4 s
set_option maxRecDepth 100000 in
theorem gm_22b_p3 {L : Nat} {xs : Nat → Int32} {d : Nat} {Q : lf_Z → Prop} {x2 : Int} {x3 : Int} {x4 : Int} {s : lf_Z} {X3 : Int → lf_Z → Prop} (hX3 : ∀ x4 s, X3 x4 s → lf_E (px_ro L xs) (d + 1) 22 3 [(0, .ref 1), (1, .ref 14), (2, .int (Int32.ofInt x2)), (3, .int (Int32.ofInt x3)), (4, .int (Int32.ofInt x4))] [] s (lf_qv Q)) (h : fm_22b_p3 Q x2 x3 X3 x4 s) : lf_E (px_ro L xs) (d + 1) 22 3 [(0, .ref 1), (1, .ref 14), (2, .int (Int32.ofInt x2)), (3, .int (Int32.ofInt x3)), (4, .int (Int32.ofInt x4))] [] s (lf_qv Q) := by
  unfold fm_22b_p3 at h
  refine lf_seg 2 (pc' := 6) (lv' := [(0, .ref 1), (1, .ref 14), (2, .int (Int32.ofInt x2)), (3, .int (Int32.ofInt x3)), (4, .int (Int32.ofInt x4))]) (st' := [.ref 1, .int (Int32.ofInt x4)]) rfl ?_
  refine lf_getI 9 0 rfl rfl rfl rfl rfl rfl rfl ?_
  obtain ⟨o21, h⟩ := h
  obtain ⟨o22, h⟩ := h
  refine lf_icmp_ge 107 12 rfl rfl rfl o21 o22 (fun c => ?_) (fun c => ?_)
  · have h := h.1 c
    exact lf_retV rfl rfl h
  · have h := h.2 c
    refine lf_seg 1 (pc' := 14) (lv' := [(0, .ref 1), (1, .ref 14), (2, .int (Int32.ofInt x2)), (3, .int (Int32.ofInt x3)), (4, .int (Int32.ofInt x4))]) (st' := [.int (Int32.ofInt x4)]) rfl ?_
    refine lf_bipush 16 12 rfl rfl (by decide) (by decide) ?_
    refine lf_imul 17 rfl rfl ?_
    refine lf_seg 3 (pc' := 22) (lv' := [(6, .int (Int32.ofInt 0)), (5, .int (Int32.ofInt (x4 * 12))), (0, .ref 1), (1, .ref 14), (2, .int (Int32.ofInt x2)), (3, .int (Int32.ofInt x3)), (4, .int (Int32.ofInt x4))]) (st' := []) rfl ?_
    refine lf_sub (l := [(0, .ref 1), (1, .ref 14), (2, .int (Int32.ofInt x2)), (3, .int (Int32.ofInt x3)), (4, .int (Int32.ofInt x4)), (5, .int (Int32.ofInt (x4 * 12))), (6, .int (Int32.ofInt 0))]) (lf_sb1 rfl (lf_sb1 rfl (lf_sb1 rfl (lf_sb1 rfl (lf_sb1 rfl (lf_sb1 rfl (lf_sb1 rfl lf_sb0))))))) ?_
    exact gm_22b_p22L hX3 h
theorem gm_22b_p3L {L : Nat} {xs : Nat → Int32} {d : Nat} {Q : lf_Z → Prop} {x2 : Int} {x3 : Int} {x4 : Int} {s : lf_Z} (h : fm_22b_p3L Q x2 x3 x4 s) : lf_E (px_ro L xs) (d + 1) 22 3 [(0, .ref 1), (1, .ref 14), (2, .int (Int32.ofInt x2)), (3, .int (Int32.ofInt x3)), (4, .int (Int32.ofInt x4))] [] s (lf_qv Q) :=
  h (fun x4 s => lf_E (px_ro L xs) (d + 1) 22 3 [(0, .ref 1), (1, .ref 14), (2, .int (Int32.ofInt x2)), (3, .int (Int32.ofInt x3)), (4, .int (Int32.ofInt x4))] [] s (lf_qv Q)) (fun x4 s hb => gm_22b_p3 (fun _ _ h => h) hb)
def fm_22b (a2 : Int) (a3 : Int) (Q : lf_Z → Prop) (s : lf_Z) : Prop := fm_22b_p3L Q a2 a3 0 s
set_option maxRecDepth 100000 in
theorem gm_22b {L : Nat} {xs : Nat → Int32} {d : Nat} {a2 : Int} {a3 : Int} {Q : lf_Z → Prop} {s : lf_Z} (h : fm_22b a2 a3 Q s) : lf_M (px_ro L xs) (d + 1) 22 [.ref 1, .ref 14, .int (Int32.ofInt a2), .int (Int32.ofInt a3)] s (lf_qv Q) := by
  unfold fm_22b at h
  show lf_E (px_ro L xs) (d + 1) 22 0 [(0, .ref 1), (1, .ref 14), (2, .int (Int32.ofInt a2)), (3, .int (Int32.ofInt a3))] [] s _
  refine lf_seg 2 (pc' := 3) (lv' := [(4, .int (Int32.ofInt 0)), (0, .ref 1), (1, .ref 14), (2, .int (Int32.ofInt a2)), (3, .int (Int32.ofInt a3))]) (st' := []) rfl ?_
  refine lf_sub (l := [(0, .ref 1), (1, .ref 14), (2, .int (Int32.ofInt a2)), (3, .int (Int32.ofInt a3)), (4, .int (Int32.ofInt 0))]) (lf_sb1 rfl (lf_sb1 rfl (lf_sb1 rfl (lf_sb1 rfl (lf_sb1 rfl lf_sb0))))) ?_
  exact gm_22b_p3L h
-- fm_148 Land.measureGates 1
def fm_148_p46 (X9 : Int → lf_Z → Prop) (Q : lf_Z → Prop) (x1 : Int) (s : lf_Z) : Prop := X9 (x1 + 1) s
set_option maxRecDepth 100000 in
theorem gm_148_p46 {L : Nat} {xs : Nat → Int32} {d : Nat} {X9 : Int → lf_Z → Prop} {Q : lf_Z → Prop} {x1 : Int} {s : lf_Z} (hX9 : ∀ x1 s, X9 x1 s → lf_E (px_ro L xs) (d + 3) 148 9 [(0, .ref 1), (1, .int (Int32.ofInt x1))] [] s (lf_qv Q)) (h : fm_148_p46 X9 Q x1 s) : lf_E (px_ro L xs) (d + 3) 148 46 [(0, .ref 1), (1, .int (Int32.ofInt x1))] [] s (lf_qv Q) := by
  unfold fm_148_p46 at h
  refine lf_iinc 49 rfl rfl rfl rfl ?_
  refine lf_seg 1 (pc' := 9) (lv' := [(1, .int (Int32.ofInt (x1 + 1))), (0, .ref 1)]) (st' := []) rfl ?_
  refine lf_sub (l := [(0, .ref 1), (1, .int (Int32.ofInt (x1 + 1)))]) (lf_sb1 rfl (lf_sb1 rfl lf_sb0)) ?_
  exact hX9 _ _ h
def fm_148_p9 (Q : lf_Z → Prop) (X9 : Int → lf_Z → Prop) (x1 : Int) (s : lf_Z) : Prop := lf_R x1 ∧ (lf_R (s.1 1 1) ∧ ((s.1 1 1 ≤ x1 → (Q s)) ∧ (¬ (s.1 1 1 ≤ x1) → ((0 ≤ x1 ∧ x1 < 16) ∧ (lf_R (s.1 6 x1) ∧ ((s.1 6 x1 ≠ 0 → (fm_148_p46 X9 Q x1 s)) ∧ (¬ (s.1 6 x1 ≠ 0) → (fm_22b (s.1 4 x1) (s.1 5 x1) (fun s26 => (fm_148_p46 X9 Q x1 s26)) s))))))))
def fm_148_p9L (Q : lf_Z → Prop) (x1 : Int) (s : lf_Z) : Prop := ∀ X9 : Int → lf_Z → Prop, (∀ (x1 : Int) (s : lf_Z), fm_148_p9 Q X9 x1 s → X9 x1 s) → X9 x1 s
set_option maxRecDepth 100000 in
theorem gm_148_p9 {L : Nat} {xs : Nat → Int32} {d : Nat} {Q : lf_Z → Prop} {x1 : Int} {s : lf_Z} {X9 : Int → lf_Z → Prop} (hX9 : ∀ x1 s, X9 x1 s → lf_E (px_ro L xs) (d + 3) 148 9 [(0, .ref 1), (1, .int (Int32.ofInt x1))] [] s (lf_qv Q)) (h : fm_148_p9 Q X9 x1 s) : lf_E (px_ro L xs) (d + 3) 148 9 [(0, .ref 1), (1, .int (Int32.ofInt x1))] [] s (lf_qv Q) := by
  unfold fm_148_p9 at h
  refine lf_seg 2 (pc' := 11) (lv' := [(0, .ref 1), (1, .int (Int32.ofInt x1))]) (st' := [.ref 1, .int (Int32.ofInt x1)]) rfl ?_
  refine lf_getI 14 1 rfl rfl rfl rfl rfl rfl rfl ?_
  obtain ⟨o22, h⟩ := h
  obtain ⟨o23, h⟩ := h
  refine lf_icmp_ge 52 17 rfl rfl rfl o22 o23 (fun c => ?_) (fun c => ?_)
  · have h := h.1 c
    exact lf_retV rfl rfl h
  · have h := h.2 c
    refine lf_seg 3 (pc' := 22) (lv' := [(0, .ref 1), (1, .int (Int32.ofInt x1))]) (st' := [.int (Int32.ofInt x1), .ref 6]) rfl ?_
    obtain ⟨o24, h⟩ := h
    refine lf_zald 23 16 rfl rfl rfl rfl rfl rfl o24 ?_
    obtain ⟨o25, h⟩ := h
    refine lf_if_ne 46 26 rfl rfl rfl o25 (fun c => ?_) (fun c => ?_)
    · have h := h.1 c
      refine lf_sub (l := [(0, .ref 1), (1, .int (Int32.ofInt x1))]) (lf_sb1 rfl (lf_sb1 rfl lf_sb0)) ?_
      exact gm_148_p46 hX9 h
    · have h := h.2 c
      refine lf_seg 6 (pc' := 36) (lv' := [(0, .ref 1), (1, .int (Int32.ofInt x1))]) (st' := [.int (Int32.ofInt x1), .ref 4, .ref 14, .ref 1]) rfl ?_
      refine lf_iald 37 16 rfl rfl rfl rfl rfl rfl o24 ?_
      refine lf_seg 3 (pc' := 42) (lv' := [(0, .ref 1), (1, .int (Int32.ofInt x1))]) (st' := [.int (Int32.ofInt x1), .ref 5, .int (Int32.ofInt (s.1 4 x1)), .ref 14, .ref 1]) rfl ?_
      refine lf_iald 43 16 rfl rfl rfl rfl rfl rfl o24 ?_
      refine lf_callV 46 rfl rfl rfl rfl (gm_22b h) (fun s26 h => ?_)
      refine lf_sub (l := [(0, .ref 1), (1, .int (Int32.ofInt x1))]) (lf_sb1 rfl (lf_sb1 rfl lf_sb0)) ?_
      exact gm_148_p46 hX9 h
theorem gm_148_p9L {L : Nat} {xs : Nat → Int32} {d : Nat} {Q : lf_Z → Prop} {x1 : Int} {s : lf_Z} (h : fm_148_p9L Q x1 s) : lf_E (px_ro L xs) (d + 3) 148 9 [(0, .ref 1), (1, .int (Int32.ofInt x1))] [] s (lf_qv Q) :=
  h (fun x1 s => lf_E (px_ro L xs) (d + 3) 148 9 [(0, .ref 1), (1, .int (Int32.ofInt x1))] [] s (lf_qv Q)) (fun x1 s hb => gm_148_p9 (fun _ _ h => h) hb)
def fm_148 (Q : lf_Z → Prop) (s : lf_Z) : Prop := fm_2 (fun s21 => (fm_148_p9L Q 0 s21)) s
set_option maxRecDepth 100000 in
theorem gm_148 {L : Nat} {xs : Nat → Int32} {d : Nat} {Q : lf_Z → Prop} {s : lf_Z} (h : fm_148 Q s) : lf_M (px_ro L xs) (d + 3) 148 [.ref 1] s (lf_qv Q) := by
  unfold fm_148 at h
  show lf_E (px_ro L xs) (d + 3) 148 0 [(0, .ref 1)] [] s _
  refine lf_seg 2 (pc' := 4) (lv' := [(0, .ref 1)]) (st' := [.ref 14]) rfl ?_
  refine lf_callV 7 rfl rfl rfl rfl (gm_2 h) (fun s21 h => ?_)
  refine lf_seg 2 (pc' := 9) (lv' := [(1, .int (Int32.ofInt 0)), (0, .ref 1)]) (st' := []) rfl ?_
  refine lf_sub (l := [(0, .ref 1), (1, .int (Int32.ofInt 0))]) (lf_sb1 rfl (lf_sb1 rfl lf_sb0)) ?_
  exact gm_148_p9L h
-- fm_149 Land.outsideOf 1 i
def fm_149_p51 (Q : Int → lf_Z → Prop) (x1 : Int) (x2 : Int) (y0 : Int) (s : lf_Z) : Prop := lf_R x2 ∧ (lf_R y0 ∧ ((x2 ≠ y0 → ((x2 = 0 → ((0 ≤ x1 ∧ x1 < 16) ∧ (Q (s.1 4 x1) s))) ∧ (¬ (x2 = 0) → ((0 ≤ x1 ∧ x1 < 16) ∧ (Q (s.1 5 x1) s))))) ∧ (¬ (x2 ≠ y0) → (Q (-1) s))))
set_option maxRecDepth 100000 in
theorem gm_149_p51 {L : Nat} {xs : Nat → Int32} {d : Nat} {Q : Int → lf_Z → Prop} {x1 : Int} {x2 : Int} {y0 : Int} {s : lf_Z} (h : fm_149_p51 Q x1 x2 y0 s) : lf_E (px_ro L xs) (d + 2) 149 51 [(0, .ref 1), (1, .int (Int32.ofInt x1)), (2, .int (Int32.ofInt x2))] [.int (Int32.ofInt y0)] s (lf_qi Q) := by
  unfold fm_149_p51 at h
  refine lf_seg 3 (pc' := 54) (lv' := [(3, .int (Int32.ofInt y0)), (0, .ref 1), (1, .int (Int32.ofInt x1)), (2, .int (Int32.ofInt x2))]) (st' := [.int (Int32.ofInt y0), .int (Int32.ofInt x2)]) rfl ?_
  obtain ⟨o29, h⟩ := h
  obtain ⟨o30, h⟩ := h
  refine lf_icmp_ne 59 57 rfl rfl rfl o29 o30 (fun c => ?_) (fun c => ?_)
  · have h := h.1 c
    refine lf_seg 1 (pc' := 60) (lv' := [(3, .int (Int32.ofInt y0)), (0, .ref 1), (1, .int (Int32.ofInt x1)), (2, .int (Int32.ofInt x2))]) (st' := [.int (Int32.ofInt x2)]) rfl ?_
    refine lf_if_eq 72 63 rfl rfl rfl o29 (fun c => ?_) (fun c => ?_)
    · have h := h.1 c
      refine lf_seg 3 (pc' := 77) (lv' := [(3, .int (Int32.ofInt y0)), (0, .ref 1), (1, .int (Int32.ofInt x1)), (2, .int (Int32.ofInt x2))]) (st' := [.int (Int32.ofInt x1), .ref 4]) rfl ?_
      obtain ⟨o31, h⟩ := h
      refine lf_iald 78 16 rfl rfl rfl rfl rfl rfl o31 ?_
      exact lf_retI rfl rfl h
    · have h := h.2 c
      refine lf_seg 3 (pc' := 68) (lv' := [(3, .int (Int32.ofInt y0)), (0, .ref 1), (1, .int (Int32.ofInt x1)), (2, .int (Int32.ofInt x2))]) (st' := [.int (Int32.ofInt x1), .ref 5]) rfl ?_
      obtain ⟨o32, h⟩ := h
      refine lf_iald 69 16 rfl rfl rfl rfl rfl rfl o32 ?_
      refine lf_seg 1 (pc' := 78) (lv' := [(3, .int (Int32.ofInt y0)), (0, .ref 1), (1, .int (Int32.ofInt x1)), (2, .int (Int32.ofInt x2))]) (st' := [.int (Int32.ofInt (s.1 5 x1))]) rfl ?_
      exact lf_retI rfl rfl h
  · have h := h.2 c
    refine lf_seg 1 (pc' := 58) (lv' := [(3, .int (Int32.ofInt y0)), (0, .ref 1), (1, .int (Int32.ofInt x1)), (2, .int (Int32.ofInt x2))]) (st' := [.int (Int32.ofInt (-1))]) rfl ?_
    exact lf_retI rfl rfl h
def fm_149_p30 (Q : Int → lf_Z → Prop) (x1 : Int) (y0 : Int) (s : lf_Z) : Prop := (0 ≤ x1 ∧ x1 < 16) ∧ ((0 ≤ s.1 5 x1 ∧ s.1 5 x1 < 12) ∧ (lf_R (s.1 2 (s.1 5 x1)) ∧ ((s.1 2 (s.1 5 x1) ≠ 3 → (fm_149_p51 Q x1 y0 0 s)) ∧ (¬ (s.1 2 (s.1 5 x1) ≠ 3) → (fm_149_p51 Q x1 y0 1 s)))))
set_option maxRecDepth 100000 in
theorem gm_149_p30 {L : Nat} {xs : Nat → Int32} {d : Nat} {Q : Int → lf_Z → Prop} {x1 : Int} {y0 : Int} {s : lf_Z} (h : fm_149_p30 Q x1 y0 s) : lf_E (px_ro L xs) (d + 2) 149 30 [(0, .ref 1), (1, .int (Int32.ofInt x1))] [.int (Int32.ofInt y0)] s (lf_qi Q) := by
  unfold fm_149_p30 at h
  refine lf_seg 6 (pc' := 40) (lv' := [(2, .int (Int32.ofInt y0)), (0, .ref 1), (1, .int (Int32.ofInt x1))]) (st' := [.int (Int32.ofInt x1), .ref 5, .ref 2]) rfl ?_
  obtain ⟨o26, h⟩ := h
  refine lf_iald 41 16 rfl rfl rfl rfl rfl rfl o26 ?_
  obtain ⟨o27, h⟩ := h
  refine lf_iald 42 12 rfl rfl rfl rfl rfl rfl o27 ?_
  refine lf_seg 1 (pc' := 43) (lv' := [(2, .int (Int32.ofInt y0)), (0, .ref 1), (1, .int (Int32.ofInt x1))]) (st' := [.int (Int32.ofInt 3), .int (Int32.ofInt (s.1 2 (s.1 5 x1)))]) rfl ?_
  obtain ⟨o28, h⟩ := h
  refine lf_icmp_ne 50 46 rfl rfl rfl o28 ⟨by decide, by decide⟩ (fun c => ?_) (fun c => ?_)
  · have h := h.1 c
    refine lf_seg 1 (pc' := 51) (lv' := [(2, .int (Int32.ofInt y0)), (0, .ref 1), (1, .int (Int32.ofInt x1))]) (st' := [.int (Int32.ofInt 0)]) rfl ?_
    refine lf_sub (l := [(0, .ref 1), (1, .int (Int32.ofInt x1)), (2, .int (Int32.ofInt y0))]) (lf_sb1 rfl (lf_sb1 rfl (lf_sb1 rfl lf_sb0))) ?_
    exact gm_149_p51 h
  · have h := h.2 c
    refine lf_seg 2 (pc' := 51) (lv' := [(2, .int (Int32.ofInt y0)), (0, .ref 1), (1, .int (Int32.ofInt x1))]) (st' := [.int (Int32.ofInt 1)]) rfl ?_
    refine lf_sub (l := [(0, .ref 1), (1, .int (Int32.ofInt x1)), (2, .int (Int32.ofInt y0))]) (lf_sb1 rfl (lf_sb1 rfl (lf_sb1 rfl lf_sb0))) ?_
    exact gm_149_p51 h
def fm_149 (a1 : Int) (Q : Int → lf_Z → Prop) (s : lf_Z) : Prop := fm_89 a1 (fun z22 s21 => ((z22 = true → ((0 ≤ a1 ∧ a1 < 16) ∧ ((0 ≤ s21.1 4 a1 ∧ s21.1 4 a1 < 12) ∧ (lf_R (s21.1 2 (s21.1 4 a1)) ∧ ((s21.1 2 (s21.1 4 a1) ≠ 3 → (fm_149_p30 Q a1 0 s21)) ∧ (¬ (s21.1 2 (s21.1 4 a1) ≠ 3) → (fm_149_p30 Q a1 1 s21))))))) ∧ (z22 = false → (Q (-1) s21)))) s
set_option maxRecDepth 100000 in
theorem gm_149 {L : Nat} {xs : Nat → Int32} {d : Nat} {a1 : Int} {Q : Int → lf_Z → Prop} {s : lf_Z} (h : fm_149 a1 Q s) : lf_M (px_ro L xs) (d + 2) 149 [.ref 1, .int (Int32.ofInt a1)] s (lf_qi Q) := by
  unfold fm_149 at h
  show lf_E (px_ro L xs) (d + 2) 149 0 [(0, .ref 1), (1, .int (Int32.ofInt a1))] [] s _
  refine lf_seg 2 (pc' := 2) (lv' := [(0, .ref 1), (1, .int (Int32.ofInt a1))]) (st' := [.int (Int32.ofInt a1), .ref 1]) rfl ?_
  refine lf_callZ 5 rfl rfl rfl rfl (gm_89 h) (fun z22 s21 h => ?_)
  refine lf_ifz_ne 10 8 rfl rfl rfl (fun c => ?_) (fun c => ?_)
  · have h := h.1 c
    refine lf_seg 5 (pc' := 19) (lv' := [(0, .ref 1), (1, .int (Int32.ofInt a1))]) (st' := [.int (Int32.ofInt a1), .ref 4, .ref 2]) rfl ?_
    obtain ⟨o23, h⟩ := h
    refine lf_iald 20 16 rfl rfl rfl rfl rfl rfl o23 ?_
    obtain ⟨o24, h⟩ := h
    refine lf_iald 21 12 rfl rfl rfl rfl rfl rfl o24 ?_
    refine lf_seg 1 (pc' := 22) (lv' := [(0, .ref 1), (1, .int (Int32.ofInt a1))]) (st' := [.int (Int32.ofInt 3), .int (Int32.ofInt (s21.1 2 (s21.1 4 a1)))]) rfl ?_
    obtain ⟨o25, h⟩ := h
    refine lf_icmp_ne 29 25 rfl rfl rfl o25 ⟨by decide, by decide⟩ (fun c => ?_) (fun c => ?_)
    · have h := h.1 c
      refine lf_seg 1 (pc' := 30) (lv' := [(0, .ref 1), (1, .int (Int32.ofInt a1))]) (st' := [.int (Int32.ofInt 0)]) rfl ?_
      refine lf_sub (l := [(0, .ref 1), (1, .int (Int32.ofInt a1))]) (lf_sb1 rfl (lf_sb1 rfl lf_sb0)) ?_
      exact gm_149_p30 h
    · have h := h.2 c
      refine lf_seg 2 (pc' := 30) (lv' := [(0, .ref 1), (1, .int (Int32.ofInt a1))]) (st' := [.int (Int32.ofInt 1)]) rfl ?_
      refine lf_sub (l := [(0, .ref 1), (1, .int (Int32.ofInt a1))]) (lf_sb1 rfl (lf_sb1 rfl lf_sb0)) ?_
      exact gm_149_p30 h
  · have h := h.2 c
    refine lf_seg 1 (pc' := 9) (lv' := [(0, .ref 1), (1, .int (Int32.ofInt a1))]) (st' := [.int (Int32.ofInt (-1))]) rfl ?_
    exact lf_retI rfl rfl h
-- fm_151 Land.distanceByGates 1 i i
def fm_151 (a1 : Int) (a2 : Int) (Q : Int → lf_Z → Prop) (s : lf_Z) : Prop := fm_18 a1 (fun z22 s21 => ((z22 = false → (Q 1000 s21)) ∧ (z22 = true → (fm_18 a2 (fun z24 s23 => ((z24 = false → (Q 1000 s23)) ∧ (z24 = true → ((0 ≤ (a1 * 12) + a2 ∧ (a1 * 12) + a2 < 144) ∧ (Q (s23.1 14 ((a1 * 12) + a2)) s23))))) s21)))) s
set_option maxRecDepth 100000 in
theorem gm_151 {L : Nat} {xs : Nat → Int32} {d : Nat} {a1 : Int} {a2 : Int} {Q : Int → lf_Z → Prop} {s : lf_Z} (h : fm_151 a1 a2 Q s) : lf_M (px_ro L xs) (d + 2) 151 [.ref 1, .int (Int32.ofInt a1), .int (Int32.ofInt a2)] s (lf_qi Q) := by
  unfold fm_151 at h
  show lf_E (px_ro L xs) (d + 2) 151 0 [(0, .ref 1), (1, .int (Int32.ofInt a1)), (2, .int (Int32.ofInt a2))] [] s _
  refine lf_seg 2 (pc' := 2) (lv' := [(0, .ref 1), (1, .int (Int32.ofInt a1)), (2, .int (Int32.ofInt a2))]) (st' := [.int (Int32.ofInt a1), .ref 1]) rfl ?_
  refine lf_callZ 5 rfl rfl rfl rfl (gm_18 h) (fun z22 s21 h => ?_)
  refine lf_ifz_eq 30 8 rfl rfl rfl (fun c => ?_) (fun c => ?_)
  · have h := h.1 c
    refine lf_sipush 33 1000 rfl rfl (by decide) (by decide) ?_
    exact lf_retI rfl rfl h
  · have h := h.2 c
    refine lf_seg 2 (pc' := 10) (lv' := [(0, .ref 1), (1, .int (Int32.ofInt a1)), (2, .int (Int32.ofInt a2))]) (st' := [.int (Int32.ofInt a2), .ref 1]) rfl ?_
    refine lf_callZ 13 rfl rfl rfl rfl (gm_18 h) (fun z24 s23 h => ?_)
    refine lf_ifz_eq 30 16 rfl rfl rfl (fun c => ?_) (fun c => ?_)
    · have h := h.1 c
      refine lf_sipush 33 1000 rfl rfl (by decide) (by decide) ?_
      exact lf_retI rfl rfl h
    · have h := h.2 c
      refine lf_seg 3 (pc' := 21) (lv' := [(0, .ref 1), (1, .int (Int32.ofInt a1)), (2, .int (Int32.ofInt a2))]) (st' := [.int (Int32.ofInt a1), .ref 14]) rfl ?_
      refine lf_bipush 23 12 rfl rfl (by decide) (by decide) ?_
      refine lf_imul 24 rfl rfl ?_
      refine lf_seg 1 (pc' := 25) (lv' := [(0, .ref 1), (1, .int (Int32.ofInt a1)), (2, .int (Int32.ofInt a2))]) (st' := [.int (Int32.ofInt a2), .int (Int32.ofInt (a1 * 12)), .ref 14]) rfl ?_
      refine lf_iadd 26 rfl rfl ?_
      obtain ⟨o25, h⟩ := h
      refine lf_iald 27 144 rfl rfl rfl rfl rfl rfl o25 ?_
      refine lf_seg 1 (pc' := 33) (lv' := [(0, .ref 1), (1, .int (Int32.ofInt a1)), (2, .int (Int32.ofInt a2))]) (st' := [.int (Int32.ofInt (s23.1 14 ((a1 * 12) + a2)))]) rfl ?_
      exact lf_retI rfl rfl h
-- fm_150 Notes.couldAllBeFrom 25 i 1
def fm_150_p2 (Q : Bool → lf_Z → Prop) (x1 : Int) (X2 : Int → lf_Z → Prop) (x3 : Int) (s : lf_Z) : Prop := lf_R x3 ∧ (lf_R (s.1 25 2) ∧ ((s.1 25 2 ≤ x3 → (Q true s)) ∧ (¬ (s.1 25 2 ≤ x3) → ((0 ≤ x3 ∧ x3 < 6) ∧ (fm_151 x1 (s.1 26 x3) (fun r25 s24 => (lf_R r25 ∧ (lf_R (s24.1 27 x3) ∧ ((r25 ≤ s24.1 27 x3 → (X2 (x3 + 1) s24)) ∧ (¬ (r25 ≤ s24.1 27 x3) → (Q false s24)))))) s)))))
def fm_150_p2L (Q : Bool → lf_Z → Prop) (x1 : Int) (x3 : Int) (s : lf_Z) : Prop := ∀ X2 : Int → lf_Z → Prop, (∀ (x3 : Int) (s : lf_Z), fm_150_p2 Q x1 X2 x3 s → X2 x3 s) → X2 x3 s
set_option maxRecDepth 100000 in
theorem gm_150_p2 {L : Nat} {xs : Nat → Int32} {d : Nat} {Q : Bool → lf_Z → Prop} {x1 : Int} {x3 : Int} {s : lf_Z} {X2 : Int → lf_Z → Prop} (hX2 : ∀ x3 s, X2 x3 s → lf_E (px_ro L xs) (d + 3) 150 2 [(0, .ref 25), (1, .int (Int32.ofInt x1)), (2, .ref 1), (3, .int (Int32.ofInt x3))] [] s (lf_qz Q)) (h : fm_150_p2 Q x1 X2 x3 s) : lf_E (px_ro L xs) (d + 3) 150 2 [(0, .ref 25), (1, .int (Int32.ofInt x1)), (2, .ref 1), (3, .int (Int32.ofInt x3))] [] s (lf_qz Q) := by
  unfold fm_150_p2 at h
  refine lf_seg 2 (pc' := 4) (lv' := [(0, .ref 25), (1, .int (Int32.ofInt x1)), (2, .ref 1), (3, .int (Int32.ofInt x3))]) (st' := [.ref 25, .int (Int32.ofInt x3)]) rfl ?_
  refine lf_getI 7 2 rfl rfl rfl rfl rfl rfl rfl ?_
  obtain ⟨o21, h⟩ := h
  obtain ⟨o22, h⟩ := h
  refine lf_icmp_ge 38 10 rfl rfl rfl o21 o22 (fun c => ?_) (fun c => ?_)
  · have h := h.1 c
    refine lf_seg 1 (pc' := 39) (lv' := [(0, .ref 25), (1, .int (Int32.ofInt x1)), (2, .ref 1), (3, .int (Int32.ofInt x3))]) (st' := [.int (Int32.ofInt 1)]) rfl ?_
    exact lf_retZ true rfl rfl h
  · have h := h.2 c
    refine lf_seg 5 (pc' := 17) (lv' := [(0, .ref 25), (1, .int (Int32.ofInt x1)), (2, .ref 1), (3, .int (Int32.ofInt x3))]) (st' := [.int (Int32.ofInt x3), .ref 26, .int (Int32.ofInt x1), .ref 1]) rfl ?_
    obtain ⟨o23, h⟩ := h
    refine lf_iald 18 6 rfl rfl rfl rfl rfl rfl o23 ?_
    refine lf_callI 21 rfl rfl rfl rfl (gm_151 h) (fun r25 s24 h => ?_)
    refine lf_seg 3 (pc' := 26) (lv' := [(0, .ref 25), (1, .int (Int32.ofInt x1)), (2, .ref 1), (3, .int (Int32.ofInt x3))]) (st' := [.int (Int32.ofInt x3), .ref 27, .int (Int32.ofInt r25)]) rfl ?_
    refine lf_iald 27 6 rfl rfl rfl rfl rfl rfl o23 ?_
    obtain ⟨o26, h⟩ := h
    obtain ⟨o27, h⟩ := h
    refine lf_icmp_le 32 30 rfl rfl rfl o26 o27 (fun c => ?_) (fun c => ?_)
    · have h := h.1 c
      refine lf_iinc 35 rfl rfl rfl rfl ?_
      refine lf_seg 1 (pc' := 2) (lv' := [(3, .int (Int32.ofInt (x3 + 1))), (0, .ref 25), (1, .int (Int32.ofInt x1)), (2, .ref 1)]) (st' := []) rfl ?_
      refine lf_sub (l := [(0, .ref 25), (1, .int (Int32.ofInt x1)), (2, .ref 1), (3, .int (Int32.ofInt (x3 + 1)))]) (lf_sb1 rfl (lf_sb1 rfl (lf_sb1 rfl (lf_sb1 rfl lf_sb0)))) ?_
      exact hX2 _ _ h
    · have h := h.2 c
      refine lf_seg 1 (pc' := 31) (lv' := [(0, .ref 25), (1, .int (Int32.ofInt x1)), (2, .ref 1), (3, .int (Int32.ofInt x3))]) (st' := [.int (Int32.ofInt 0)]) rfl ?_
      exact lf_retZ false rfl rfl h
theorem gm_150_p2L {L : Nat} {xs : Nat → Int32} {d : Nat} {Q : Bool → lf_Z → Prop} {x1 : Int} {x3 : Int} {s : lf_Z} (h : fm_150_p2L Q x1 x3 s) : lf_E (px_ro L xs) (d + 3) 150 2 [(0, .ref 25), (1, .int (Int32.ofInt x1)), (2, .ref 1), (3, .int (Int32.ofInt x3))] [] s (lf_qz Q) :=
  h (fun x3 s => lf_E (px_ro L xs) (d + 3) 150 2 [(0, .ref 25), (1, .int (Int32.ofInt x1)), (2, .ref 1), (3, .int (Int32.ofInt x3))] [] s (lf_qz Q)) (fun x3 s hb => gm_150_p2 (fun _ _ h => h) hb)
def fm_150 (a1 : Int) (Q : Bool → lf_Z → Prop) (s : lf_Z) : Prop := fm_150_p2L Q a1 0 s
set_option maxRecDepth 100000 in
theorem gm_150 {L : Nat} {xs : Nat → Int32} {d : Nat} {a1 : Int} {Q : Bool → lf_Z → Prop} {s : lf_Z} (h : fm_150 a1 Q s) : lf_M (px_ro L xs) (d + 3) 150 [.ref 25, .int (Int32.ofInt a1), .ref 1] s (lf_qz Q) := by
  unfold fm_150 at h
  show lf_E (px_ro L xs) (d + 3) 150 0 [(0, .ref 25), (1, .int (Int32.ofInt a1)), (2, .ref 1)] [] s _
  refine lf_seg 2 (pc' := 2) (lv' := [(3, .int (Int32.ofInt 0)), (0, .ref 25), (1, .int (Int32.ofInt a1)), (2, .ref 1)]) (st' := []) rfl ?_
  refine lf_sub (l := [(0, .ref 25), (1, .int (Int32.ofInt a1)), (2, .ref 1), (3, .int (Int32.ofInt 0))]) (lf_sb1 rfl (lf_sb1 rfl (lf_sb1 rfl (lf_sb1 rfl lf_sb0)))) ?_
  exact gm_150_p2L h
-- fm_147 ElevenBullocks.which 0
def fm_147_p57 (X11 : Int → Int → lf_Z → Prop) (Q : Int → lf_Z → Prop) (x1 : Int) (x2 : Int) (s : lf_Z) : Prop := X11 x1 (x2 + 1) s
set_option maxRecDepth 100000 in
theorem gm_147_p57 {L : Nat} {xs : Nat → Int32} {d : Nat} {X11 : Int → Int → lf_Z → Prop} {Q : Int → lf_Z → Prop} {x1 : Int} {x2 : Int} {s : lf_Z} (hX11 : ∀ x1 x2 s, X11 x1 x2 s → lf_E (px_ro L xs) (d + 4) 147 11 [(0, .ref 0), (1, .int (Int32.ofInt x1)), (2, .int (Int32.ofInt x2))] [] s (lf_qi Q)) (h : fm_147_p57 X11 Q x1 x2 s) : lf_E (px_ro L xs) (d + 4) 147 57 [(0, .ref 0), (1, .int (Int32.ofInt x1)), (2, .int (Int32.ofInt x2))] [] s (lf_qi Q) := by
  unfold fm_147_p57 at h
  refine lf_iinc 60 rfl rfl rfl rfl ?_
  refine lf_seg 1 (pc' := 11) (lv' := [(2, .int (Int32.ofInt (x2 + 1))), (0, .ref 0), (1, .int (Int32.ofInt x1))]) (st' := []) rfl ?_
  refine lf_sub (l := [(0, .ref 0), (1, .int (Int32.ofInt x1)), (2, .int (Int32.ofInt (x2 + 1)))]) (lf_sb1 rfl (lf_sb1 rfl (lf_sb1 rfl lf_sb0))) ?_
  exact hX11 _ _ _ h
def fm_147_p11 (Q : Int → lf_Z → Prop) (X11 : Int → Int → lf_Z → Prop) (x1 : Int) (x2 : Int) (s : lf_Z) : Prop := lf_R x2 ∧ (lf_R (s.1 1 1) ∧ ((s.1 1 1 ≤ x2 → (Q x1 s)) ∧ (¬ (s.1 1 1 ≤ x2) → (fm_149 x2 (fun r25 s24 => (lf_R r25 ∧ ((r25 = (-1) → (fm_147_p57 X11 Q x1 x2 s24)) ∧ (¬ (r25 = (-1)) → (fm_150 r25 (fun z28 s27 => ((z28 = false → (fm_147_p57 X11 Q x1 x2 s27)) ∧ (z28 = true → (fm_147_p57 X11 Q (lf_or x1 (lf_shl 1 x2)) x2 s27)))) s24))))) s))))
def fm_147_p11L (Q : Int → lf_Z → Prop) (x1 : Int) (x2 : Int) (s : lf_Z) : Prop := ∀ X11 : Int → Int → lf_Z → Prop, (∀ (x1 : Int) (x2 : Int) (s : lf_Z), fm_147_p11 Q X11 x1 x2 s → X11 x1 x2 s) → X11 x1 x2 s
set_option maxRecDepth 100000 in
theorem gm_147_p11 {L : Nat} {xs : Nat → Int32} {d : Nat} {Q : Int → lf_Z → Prop} {x1 : Int} {x2 : Int} {s : lf_Z} {X11 : Int → Int → lf_Z → Prop} (hX11 : ∀ x1 x2 s, X11 x1 x2 s → lf_E (px_ro L xs) (d + 4) 147 11 [(0, .ref 0), (1, .int (Int32.ofInt x1)), (2, .int (Int32.ofInt x2))] [] s (lf_qi Q)) (h : fm_147_p11 Q X11 x1 x2 s) : lf_E (px_ro L xs) (d + 4) 147 11 [(0, .ref 0), (1, .int (Int32.ofInt x1)), (2, .int (Int32.ofInt x2))] [] s (lf_qi Q) := by
  unfold fm_147_p11 at h
  refine lf_seg 3 (pc' := 16) (lv' := [(0, .ref 0), (1, .int (Int32.ofInt x1)), (2, .int (Int32.ofInt x2))]) (st' := [.ref 1, .int (Int32.ofInt x2)]) rfl ?_
  refine lf_getI 19 1 rfl rfl rfl rfl rfl rfl rfl ?_
  obtain ⟨o22, h⟩ := h
  obtain ⟨o23, h⟩ := h
  refine lf_icmp_ge 63 22 rfl rfl rfl o22 o23 (fun c => ?_) (fun c => ?_)
  · have h := h.1 c
    refine lf_seg 1 (pc' := 64) (lv' := [(0, .ref 0), (1, .int (Int32.ofInt x1)), (2, .int (Int32.ofInt x2))]) (st' := [.int (Int32.ofInt x1)]) rfl ?_
    exact lf_retI rfl rfl h
  · have h := h.2 c
    refine lf_seg 3 (pc' := 27) (lv' := [(0, .ref 0), (1, .int (Int32.ofInt x1)), (2, .int (Int32.ofInt x2))]) (st' := [.int (Int32.ofInt x2), .ref 1]) rfl ?_
    refine lf_callI 30 rfl rfl rfl rfl (gm_149 h) (fun r25 s24 h => ?_)
    refine lf_seg 3 (pc' := 33) (lv' := [(3, .int (Int32.ofInt r25)), (0, .ref 0), (1, .int (Int32.ofInt x1)), (2, .int (Int32.ofInt x2))]) (st' := [.int (Int32.ofInt (-1)), .int (Int32.ofInt r25)]) rfl ?_
    obtain ⟨o26, h⟩ := h
    refine lf_icmp_eq 57 36 rfl rfl rfl o26 ⟨by decide, by decide⟩ (fun c => ?_) (fun c => ?_)
    · have h := h.1 c
      refine lf_sub (l := [(0, .ref 0), (1, .int (Int32.ofInt x1)), (2, .int (Int32.ofInt x2))]) (lf_sb1 rfl (lf_sb1 rfl (lf_sb1 rfl lf_sb0))) ?_
      exact gm_147_p57 hX11 h
    · have h := h.2 c
      refine lf_seg 5 (pc' := 45) (lv' := [(3, .int (Int32.ofInt r25)), (0, .ref 0), (1, .int (Int32.ofInt x1)), (2, .int (Int32.ofInt x2))]) (st' := [.ref 1, .int (Int32.ofInt r25), .ref 25]) rfl ?_
      refine lf_callZ 48 rfl rfl rfl rfl (gm_150 h) (fun z28 s27 h => ?_)
      refine lf_ifz_eq 57 51 rfl rfl rfl (fun c => ?_) (fun c => ?_)
      · have h := h.1 c
        refine lf_sub (l := [(0, .ref 0), (1, .int (Int32.ofInt x1)), (2, .int (Int32.ofInt x2))]) (lf_sb1 rfl (lf_sb1 rfl (lf_sb1 rfl lf_sb0))) ?_
        exact gm_147_p57 hX11 h
      · have h := h.2 c
        refine lf_seg 3 (pc' := 54) (lv' := [(3, .int (Int32.ofInt r25)), (0, .ref 0), (1, .int (Int32.ofInt x1)), (2, .int (Int32.ofInt x2))]) (st' := [.int (Int32.ofInt x2), .int (Int32.ofInt 1), .int (Int32.ofInt x1)]) rfl ?_
        refine lf_ishl 55 rfl rfl ?_
        refine lf_ior 56 rfl rfl ?_
        refine lf_seg 1 (pc' := 57) (lv' := [(1, .int (Int32.ofInt (lf_or x1 (lf_shl 1 x2)))), (3, .int (Int32.ofInt r25)), (0, .ref 0), (2, .int (Int32.ofInt x2))]) (st' := []) rfl ?_
        refine lf_sub (l := [(0, .ref 0), (1, .int (Int32.ofInt (lf_or x1 (lf_shl 1 x2)))), (2, .int (Int32.ofInt x2))]) (lf_sb1 rfl (lf_sb1 rfl (lf_sb1 rfl lf_sb0))) ?_
        exact gm_147_p57 hX11 h
theorem gm_147_p11L {L : Nat} {xs : Nat → Int32} {d : Nat} {Q : Int → lf_Z → Prop} {x1 : Int} {x2 : Int} {s : lf_Z} (h : fm_147_p11L Q x1 x2 s) : lf_E (px_ro L xs) (d + 4) 147 11 [(0, .ref 0), (1, .int (Int32.ofInt x1)), (2, .int (Int32.ofInt x2))] [] s (lf_qi Q) :=
  h (fun x1 x2 s => lf_E (px_ro L xs) (d + 4) 147 11 [(0, .ref 0), (1, .int (Int32.ofInt x1)), (2, .int (Int32.ofInt x2))] [] s (lf_qi Q)) (fun x1 x2 s hb => gm_147_p11 (fun _ _ _ h => h) hb)
def fm_147 (Q : Int → lf_Z → Prop) (s : lf_Z) : Prop := fm_148 (fun s21 => (fm_147_p11L Q 0 0 s21)) s
set_option maxRecDepth 100000 in
theorem gm_147 {L : Nat} {xs : Nat → Int32} {d : Nat} {Q : Int → lf_Z → Prop} {s : lf_Z} (h : fm_147 Q s) : lf_M (px_ro L xs) (d + 4) 147 [.ref 0] s (lf_qi Q) := by
  unfold fm_147 at h
  show lf_E (px_ro L xs) (d + 4) 147 0 [(0, .ref 0)] [] s _
  refine lf_seg 2 (pc' := 4) (lv' := [(0, .ref 0)]) (st' := [.ref 1]) rfl ?_
  refine lf_callV 7 rfl rfl rfl rfl (gm_148 h) (fun s21 h => ?_)
  refine lf_seg 4 (pc' := 11) (lv' := [(2, .int (Int32.ofInt 0)), (1, .int (Int32.ofInt 0)), (0, .ref 0)]) (st' := []) rfl ?_
  refine lf_sub (l := [(0, .ref 0), (1, .int (Int32.ofInt 0)), (2, .int (Int32.ofInt 0))]) (lf_sb1 rfl (lf_sb1 rfl (lf_sb1 rfl lf_sb0))) ?_
  exact gm_147_p11L h
-- fm_307 Model.isFrom 95 i
def fm_307_p8 (Q : Bool → lf_Z → Prop) (X8 : Int → lf_Z → Prop) (x2 : Int) (s : lf_Z) : Prop := lf_R x2 ∧ (lf_R (s.1 96 10) ∧ ((s.1 96 10 ≤ x2 → (Q true s)) ∧ (¬ (s.1 96 10 ≤ x2) → ((0 ≤ 162 + (2 * x2) ∧ 162 + (2 * x2) < 1538) ∧ ((0 ≤ s.1 96 (162 + (2 * x2)) ∧ s.1 96 (162 + (2 * x2)) < 12) ∧ ((0 ≤ (162 + (2 * x2)) + 1 ∧ (162 + (2 * x2)) + 1 < 1538) ∧ (lf_R (s.1 108 (s.1 96 (162 + (2 * x2)))) ∧ (lf_R (s.1 96 ((162 + (2 * x2)) + 1)) ∧ ((s.1 108 (s.1 96 (162 + (2 * x2))) ≤ s.1 96 ((162 + (2 * x2)) + 1) → (X8 (x2 + 1) s)) ∧ (¬ (s.1 108 (s.1 96 (162 + (2 * x2))) ≤ s.1 96 ((162 + (2 * x2)) + 1)) → (Q false s)))))))))))
def fm_307_p8L (Q : Bool → lf_Z → Prop) (x2 : Int) (s : lf_Z) : Prop := ∀ X8 : Int → lf_Z → Prop, (∀ (x2 : Int) (s : lf_Z), fm_307_p8 Q X8 x2 s → X8 x2 s) → X8 x2 s
set_option maxRecDepth 100000 in
theorem gm_307_p8 {L : Nat} {xs : Nat → Int32} {d : Nat} {Q : Bool → lf_Z → Prop} {x2 : Int} {s : lf_Z} {X8 : Int → lf_Z → Prop} (hX8 : ∀ x2 s, X8 x2 s → lf_E (px_ro L xs) (d + 3) 307 8 [(0, .ref 95), (2, .int (Int32.ofInt x2))] [] s (lf_qz Q)) (h : fm_307_p8 Q X8 x2 s) : lf_E (px_ro L xs) (d + 3) 307 8 [(0, .ref 95), (2, .int (Int32.ofInt x2))] [] s (lf_qz Q) := by
  unfold fm_307_p8 at h
  refine lf_seg 3 (pc' := 13) (lv' := [(0, .ref 95), (2, .int (Int32.ofInt x2))]) (st' := [.ref 96, .int (Int32.ofInt x2)]) rfl ?_
  refine lf_bipush 15 10 rfl rfl (by decide) (by decide) ?_
  refine lf_iald 16 1538 rfl rfl rfl rfl rfl rfl ⟨by decide, by decide⟩ ?_
  obtain ⟨o22, h⟩ := h
  obtain ⟨o23, h⟩ := h
  refine lf_icmp_ge 61 19 rfl rfl rfl o22 o23 (fun c => ?_) (fun c => ?_)
  · have h := h.1 c
    refine lf_seg 1 (pc' := 62) (lv' := [(0, .ref 95), (2, .int (Int32.ofInt x2))]) (st' := [.int (Int32.ofInt 1)]) rfl ?_
    exact lf_retZ true rfl rfl h
  · have h := h.2 c
    refine lf_seg 4 (pc' := 27) (lv' := [(0, .ref 95), (2, .int (Int32.ofInt x2))]) (st' := [.ref 96, .ref 108]) rfl ?_
    refine lf_sipush 30 162 rfl rfl (by decide) (by decide) ?_
    refine lf_seg 2 (pc' := 32) (lv' := [(0, .ref 95), (2, .int (Int32.ofInt x2))]) (st' := [.int (Int32.ofInt x2), .int (Int32.ofInt 2), .int (Int32.ofInt 162), .ref 96, .ref 108]) rfl ?_
    refine lf_imul 33 rfl rfl ?_
    refine lf_iadd 34 rfl rfl ?_
    obtain ⟨o24, h⟩ := h
    refine lf_iald 35 1538 rfl rfl rfl rfl rfl rfl o24 ?_
    obtain ⟨o25, h⟩ := h
    refine lf_iald 36 12 rfl rfl rfl rfl rfl rfl o25 ?_
    refine lf_seg 2 (pc' := 40) (lv' := [(0, .ref 95), (2, .int (Int32.ofInt x2))]) (st' := [.ref 96, .int (Int32.ofInt (s.1 108 (s.1 96 (162 + (2 * x2)))))]) rfl ?_
    refine lf_sipush 43 162 rfl rfl (by decide) (by decide) ?_
    refine lf_seg 2 (pc' := 45) (lv' := [(0, .ref 95), (2, .int (Int32.ofInt x2))]) (st' := [.int (Int32.ofInt x2), .int (Int32.ofInt 2), .int (Int32.ofInt 162), .ref 96, .int (Int32.ofInt (s.1 108 (s.1 96 (162 + (2 * x2)))))]) rfl ?_
    refine lf_imul 46 rfl rfl ?_
    refine lf_iadd 47 rfl rfl ?_
    refine lf_seg 1 (pc' := 48) (lv' := [(0, .ref 95), (2, .int (Int32.ofInt x2))]) (st' := [.int (Int32.ofInt 1), .int (Int32.ofInt (162 + (2 * x2))), .ref 96, .int (Int32.ofInt (s.1 108 (s.1 96 (162 + (2 * x2)))))]) rfl ?_
    refine lf_iadd 49 rfl rfl ?_
    obtain ⟨o26, h⟩ := h
    refine lf_iald 50 1538 rfl rfl rfl rfl rfl rfl o26 ?_
    obtain ⟨o27, h⟩ := h
    obtain ⟨o28, h⟩ := h
    refine lf_icmp_le 55 53 rfl rfl rfl o27 o28 (fun c => ?_) (fun c => ?_)
    · have h := h.1 c
      refine lf_iinc 58 rfl rfl rfl rfl ?_
      refine lf_seg 1 (pc' := 8) (lv' := [(2, .int (Int32.ofInt (x2 + 1))), (0, .ref 95)]) (st' := []) rfl ?_
      refine lf_sub (l := [(0, .ref 95), (2, .int (Int32.ofInt (x2 + 1)))]) (lf_sb1 rfl (lf_sb1 rfl lf_sb0)) ?_
      exact hX8 _ _ h
    · have h := h.2 c
      refine lf_seg 1 (pc' := 54) (lv' := [(0, .ref 95), (2, .int (Int32.ofInt x2))]) (st' := [.int (Int32.ofInt 0)]) rfl ?_
      exact lf_retZ false rfl rfl h
theorem gm_307_p8L {L : Nat} {xs : Nat → Int32} {d : Nat} {Q : Bool → lf_Z → Prop} {x2 : Int} {s : lf_Z} (h : fm_307_p8L Q x2 s) : lf_E (px_ro L xs) (d + 3) 307 8 [(0, .ref 95), (2, .int (Int32.ofInt x2))] [] s (lf_qz Q) :=
  h (fun x2 s => lf_E (px_ro L xs) (d + 3) 307 8 [(0, .ref 95), (2, .int (Int32.ofInt x2))] [] s (lf_qz Q)) (fun x2 s hb => gm_307_p8 (fun _ _ h => h) hb)
def fm_307 (a1 : Int) (Q : Bool → lf_Z → Prop) (s : lf_Z) : Prop := fm_261 a1 0 (fun s21 => (fm_307_p8L Q 0 s21)) s
set_option maxRecDepth 100000 in
theorem gm_307 {L : Nat} {xs : Nat → Int32} {d : Nat} {a1 : Int} {Q : Bool → lf_Z → Prop} {s : lf_Z} (h : fm_307 a1 Q s) : lf_M (px_ro L xs) (d + 3) 307 [.ref 95, .int (Int32.ofInt a1)] s (lf_qz Q) := by
  unfold fm_307 at h
  show lf_E (px_ro L xs) (d + 3) 307 0 [(0, .ref 95), (1, .int (Int32.ofInt a1))] [] s _
  refine lf_seg 3 (pc' := 3) (lv' := [(0, .ref 95), (1, .int (Int32.ofInt a1))]) (st' := [.int (Int32.ofInt 0), .int (Int32.ofInt a1), .ref 95]) rfl ?_
  refine lf_callV 6 rfl rfl rfl rfl (gm_261 h) (fun s21 h => ?_)
  refine lf_seg 2 (pc' := 8) (lv' := [(2, .int (Int32.ofInt 0)), (0, .ref 95), (1, .int (Int32.ofInt a1))]) (st' := []) rfl ?_
  refine lf_sub (l := [(0, .ref 95), (2, .int (Int32.ofInt 0))]) (lf_sb1 rfl (lf_sb1 rfl lf_sb0)) ?_
  exact gm_307_p8L h
-- fm_306 Model.which 95
def fm_306_p116 (X4 : Int → Int → lf_Z → Prop) (Q : Int → lf_Z → Prop) (x1 : Int) (x2 : Int) (s : lf_Z) : Prop := X4 x1 (x2 + 1) s
set_option maxRecDepth 100000 in
theorem gm_306_p116 {L : Nat} {xs : Nat → Int32} {d : Nat} {X4 : Int → Int → lf_Z → Prop} {Q : Int → lf_Z → Prop} {x1 : Int} {x2 : Int} {s : lf_Z} (hX4 : ∀ x1 x2 s, X4 x1 x2 s → lf_E (px_ro L xs) (d + 4) 306 4 [(0, .ref 95), (1, .int (Int32.ofInt x1)), (2, .int (Int32.ofInt x2))] [] s (lf_qi Q)) (h : fm_306_p116 X4 Q x1 x2 s) : lf_E (px_ro L xs) (d + 4) 306 116 [(0, .ref 95), (1, .int (Int32.ofInt x1)), (2, .int (Int32.ofInt x2))] [] s (lf_qi Q) := by
  unfold fm_306_p116 at h
  refine lf_iinc 119 rfl rfl rfl rfl ?_
  refine lf_seg 1 (pc' := 4) (lv' := [(2, .int (Int32.ofInt (x2 + 1))), (0, .ref 95), (1, .int (Int32.ofInt x1))]) (st' := []) rfl ?_
  refine lf_sub (l := [(0, .ref 95), (1, .int (Int32.ofInt x1)), (2, .int (Int32.ofInt (x2 + 1)))]) (lf_sb1 rfl (lf_sb1 rfl (lf_sb1 rfl lf_sb0))) ?_
  exact hX4 _ _ _ h
def fm_306_p114 (X4 : Int → Int → lf_Z → Prop) (Q : Int → lf_Z → Prop) (x2 : Int) (y0 : Int) (y1 : Int) (s : lf_Z) : Prop := fm_306_p116 X4 Q (lf_or y0 y1) x2 s
set_option maxRecDepth 100000 in
theorem gm_306_p114 {L : Nat} {xs : Nat → Int32} {d : Nat} {X4 : Int → Int → lf_Z → Prop} {Q : Int → lf_Z → Prop} {x2 : Int} {y0 : Int} {y1 : Int} {s : lf_Z} (hX4 : ∀ x1 x2 s, X4 x1 x2 s → lf_E (px_ro L xs) (d + 4) 306 4 [(0, .ref 95), (1, .int (Int32.ofInt x1)), (2, .int (Int32.ofInt x2))] [] s (lf_qi Q)) (h : fm_306_p114 X4 Q x2 y0 y1 s) : lf_E (px_ro L xs) (d + 4) 306 114 [(0, .ref 95), (2, .int (Int32.ofInt x2))] [.int (Int32.ofInt y1), .int (Int32.ofInt y0)] s (lf_qi Q) := by
  unfold fm_306_p114 at h
  refine lf_ior 115 rfl rfl ?_
  refine lf_seg 1 (pc' := 116) (lv' := [(1, .int (Int32.ofInt (lf_or y0 y1))), (0, .ref 95), (2, .int (Int32.ofInt x2))]) (st' := []) rfl ?_
  refine lf_sub (l := [(0, .ref 95), (1, .int (Int32.ofInt (lf_or y0 y1))), (2, .int (Int32.ofInt x2))]) (lf_sb1 rfl (lf_sb1 rfl (lf_sb1 rfl lf_sb0))) ?_
  exact gm_306_p116 hX4 h
def fm_306_p101 (X4 : Int → Int → lf_Z → Prop) (Q : Int → lf_Z → Prop) (x2 : Int) (y0 : Int) (y2 : Int) (s : lf_Z) : Prop := fm_307 y2 (fun z39 s38 => ((z39 = false → (fm_306_p114 X4 Q x2 y0 0 s38)) ∧ (z39 = true → (fm_306_p114 X4 Q x2 y0 (lf_shl 1 x2) s38)))) s
set_option maxRecDepth 100000 in
theorem gm_306_p101 {L : Nat} {xs : Nat → Int32} {d : Nat} {X4 : Int → Int → lf_Z → Prop} {Q : Int → lf_Z → Prop} {x2 : Int} {y0 : Int} {y2 : Int} {s : lf_Z} (hX4 : ∀ x1 x2 s, X4 x1 x2 s → lf_E (px_ro L xs) (d + 4) 306 4 [(0, .ref 95), (1, .int (Int32.ofInt x1)), (2, .int (Int32.ofInt x2))] [] s (lf_qi Q)) (h : fm_306_p101 X4 Q x2 y0 y2 s) : lf_E (px_ro L xs) (d + 4) 306 101 [(0, .ref 95), (2, .int (Int32.ofInt x2))] [.int (Int32.ofInt y2), .ref 95, .int (Int32.ofInt y0)] s (lf_qi Q) := by
  unfold fm_306_p101 at h
  refine lf_callZ 104 rfl rfl rfl rfl (gm_307 h) (fun z39 s38 h => ?_)
  refine lf_ifz_eq 113 107 rfl rfl rfl (fun c => ?_) (fun c => ?_)
  · have h := h.1 c
    refine lf_seg 1 (pc' := 114) (lv' := [(0, .ref 95), (2, .int (Int32.ofInt x2))]) (st' := [.int (Int32.ofInt 0), .int (Int32.ofInt y0)]) rfl ?_
    refine lf_sub (l := [(0, .ref 95), (2, .int (Int32.ofInt x2))]) (lf_sb1 rfl (lf_sb1 rfl lf_sb0)) ?_
    exact gm_306_p114 hX4 h
  · have h := h.2 c
    refine lf_seg 2 (pc' := 109) (lv' := [(0, .ref 95), (2, .int (Int32.ofInt x2))]) (st' := [.int (Int32.ofInt x2), .int (Int32.ofInt 1), .int (Int32.ofInt y0)]) rfl ?_
    refine lf_ishl 110 rfl rfl ?_
    refine lf_seg 1 (pc' := 114) (lv' := [(0, .ref 95), (2, .int (Int32.ofInt x2))]) (st' := [.int (Int32.ofInt (lf_shl 1 x2)), .int (Int32.ofInt y0)]) rfl ?_
    refine lf_sub (l := [(0, .ref 95), (2, .int (Int32.ofInt x2))]) (lf_sb1 rfl (lf_sb1 rfl lf_sb0)) ?_
    exact gm_306_p114 hX4 h
def fm_306_p78 (X4 : Int → Int → lf_Z → Prop) (Q : Int → lf_Z → Prop) (x1 : Int) (x2 : Int) (x3 : Int) (x4 : Int) (y0 : Int) (y1 : Int) (s : lf_Z) : Prop := lf_R y0 ∧ (lf_R y1 ∧ ((y0 ≠ y1 → (fm_265 x3 (fun r36 s35 => (lf_R r36 ∧ ((r36 ≠ 3 → (fm_306_p101 X4 Q x2 x1 x3 s35)) ∧ (¬ (r36 ≠ 3) → (fm_306_p101 X4 Q x2 x1 x4 s35))))) s)) ∧ (¬ (y0 ≠ y1) → (fm_306_p116 X4 Q x1 x2 s))))
set_option maxRecDepth 100000 in
theorem gm_306_p78 {L : Nat} {xs : Nat → Int32} {d : Nat} {X4 : Int → Int → lf_Z → Prop} {Q : Int → lf_Z → Prop} {x1 : Int} {x2 : Int} {x3 : Int} {x4 : Int} {y0 : Int} {y1 : Int} {s : lf_Z} (hX4 : ∀ x1 x2 s, X4 x1 x2 s → lf_E (px_ro L xs) (d + 4) 306 4 [(0, .ref 95), (1, .int (Int32.ofInt x1)), (2, .int (Int32.ofInt x2))] [] s (lf_qi Q)) (h : fm_306_p78 X4 Q x1 x2 x3 x4 y0 y1 s) : lf_E (px_ro L xs) (d + 4) 306 78 [(0, .ref 95), (1, .int (Int32.ofInt x1)), (2, .int (Int32.ofInt x2)), (3, .int (Int32.ofInt x3)), (4, .int (Int32.ofInt x4))] [.int (Int32.ofInt y1), .int (Int32.ofInt y0)] s (lf_qi Q) := by
  unfold fm_306_p78 at h
  obtain ⟨o33, h⟩ := h
  obtain ⟨o34, h⟩ := h
  refine lf_icmp_ne 84 81 rfl rfl rfl o33 o34 (fun c => ?_) (fun c => ?_)
  · have h := h.1 c
    refine lf_seg 4 (pc' := 88) (lv' := [(0, .ref 95), (1, .int (Int32.ofInt x1)), (2, .int (Int32.ofInt x2)), (3, .int (Int32.ofInt x3)), (4, .int (Int32.ofInt x4))]) (st' := [.int (Int32.ofInt x3), .ref 95, .ref 95, .int (Int32.ofInt x1)]) rfl ?_
    refine lf_callI 91 rfl rfl rfl rfl (gm_265 h) (fun r36 s35 h => ?_)
    refine lf_seg 1 (pc' := 92) (lv' := [(0, .ref 95), (1, .int (Int32.ofInt x1)), (2, .int (Int32.ofInt x2)), (3, .int (Int32.ofInt x3)), (4, .int (Int32.ofInt x4))]) (st' := [.int (Int32.ofInt 3), .int (Int32.ofInt r36), .ref 95, .int (Int32.ofInt x1)]) rfl ?_
    obtain ⟨o37, h⟩ := h
    refine lf_icmp_ne 100 95 rfl rfl rfl o37 ⟨by decide, by decide⟩ (fun c => ?_) (fun c => ?_)
    · have h := h.1 c
      refine lf_seg 1 (pc' := 101) (lv' := [(0, .ref 95), (1, .int (Int32.ofInt x1)), (2, .int (Int32.ofInt x2)), (3, .int (Int32.ofInt x3)), (4, .int (Int32.ofInt x4))]) (st' := [.int (Int32.ofInt x3), .ref 95, .int (Int32.ofInt x1)]) rfl ?_
      refine lf_sub (l := [(0, .ref 95), (2, .int (Int32.ofInt x2))]) (lf_sb1 rfl (lf_sb1 rfl lf_sb0)) ?_
      exact gm_306_p101 hX4 h
    · have h := h.2 c
      refine lf_seg 2 (pc' := 101) (lv' := [(0, .ref 95), (1, .int (Int32.ofInt x1)), (2, .int (Int32.ofInt x2)), (3, .int (Int32.ofInt x3)), (4, .int (Int32.ofInt x4))]) (st' := [.int (Int32.ofInt x4), .ref 95, .int (Int32.ofInt x1)]) rfl ?_
      refine lf_sub (l := [(0, .ref 95), (2, .int (Int32.ofInt x2))]) (lf_sb1 rfl (lf_sb1 rfl lf_sb0)) ?_
      exact gm_306_p101 hX4 h
  · have h := h.2 c
    refine lf_seg 1 (pc' := 116) (lv' := [(0, .ref 95), (1, .int (Int32.ofInt x1)), (2, .int (Int32.ofInt x2)), (3, .int (Int32.ofInt x3)), (4, .int (Int32.ofInt x4))]) (st' := []) rfl ?_
    refine lf_sub (l := [(0, .ref 95), (1, .int (Int32.ofInt x1)), (2, .int (Int32.ofInt x2))]) (lf_sb1 rfl (lf_sb1 rfl (lf_sb1 rfl lf_sb0))) ?_
    exact gm_306_p116 hX4 h
def fm_306_p63 (X4 : Int → Int → lf_Z → Prop) (Q : Int → lf_Z → Prop) (x1 : Int) (x2 : Int) (x3 : Int) (x4 : Int) (y0 : Int) (s : lf_Z) : Prop := fm_265 x4 (fun r31 s30 => (lf_R r31 ∧ ((r31 ≠ 3 → (fm_306_p78 X4 Q x1 x2 x3 x4 y0 0 s30)) ∧ (¬ (r31 ≠ 3) → (fm_306_p78 X4 Q x1 x2 x3 x4 y0 1 s30))))) s
set_option maxRecDepth 100000 in
theorem gm_306_p63 {L : Nat} {xs : Nat → Int32} {d : Nat} {X4 : Int → Int → lf_Z → Prop} {Q : Int → lf_Z → Prop} {x1 : Int} {x2 : Int} {x3 : Int} {x4 : Int} {y0 : Int} {s : lf_Z} (hX4 : ∀ x1 x2 s, X4 x1 x2 s → lf_E (px_ro L xs) (d + 4) 306 4 [(0, .ref 95), (1, .int (Int32.ofInt x1)), (2, .int (Int32.ofInt x2))] [] s (lf_qi Q)) (h : fm_306_p63 X4 Q x1 x2 x3 x4 y0 s) : lf_E (px_ro L xs) (d + 4) 306 63 [(0, .ref 95), (1, .int (Int32.ofInt x1)), (2, .int (Int32.ofInt x2)), (3, .int (Int32.ofInt x3)), (4, .int (Int32.ofInt x4))] [.int (Int32.ofInt y0)] s (lf_qi Q) := by
  unfold fm_306_p63 at h
  refine lf_seg 2 (pc' := 66) (lv' := [(0, .ref 95), (1, .int (Int32.ofInt x1)), (2, .int (Int32.ofInt x2)), (3, .int (Int32.ofInt x3)), (4, .int (Int32.ofInt x4))]) (st' := [.int (Int32.ofInt x4), .ref 95, .int (Int32.ofInt y0)]) rfl ?_
  refine lf_callI 69 rfl rfl rfl rfl (gm_265 h) (fun r31 s30 h => ?_)
  refine lf_seg 1 (pc' := 70) (lv' := [(0, .ref 95), (1, .int (Int32.ofInt x1)), (2, .int (Int32.ofInt x2)), (3, .int (Int32.ofInt x3)), (4, .int (Int32.ofInt x4))]) (st' := [.int (Int32.ofInt 3), .int (Int32.ofInt r31), .int (Int32.ofInt y0)]) rfl ?_
  obtain ⟨o32, h⟩ := h
  refine lf_icmp_ne 77 73 rfl rfl rfl o32 ⟨by decide, by decide⟩ (fun c => ?_) (fun c => ?_)
  · have h := h.1 c
    refine lf_seg 1 (pc' := 78) (lv' := [(0, .ref 95), (1, .int (Int32.ofInt x1)), (2, .int (Int32.ofInt x2)), (3, .int (Int32.ofInt x3)), (4, .int (Int32.ofInt x4))]) (st' := [.int (Int32.ofInt 0), .int (Int32.ofInt y0)]) rfl ?_
    refine lf_sub (l := [(0, .ref 95), (1, .int (Int32.ofInt x1)), (2, .int (Int32.ofInt x2)), (3, .int (Int32.ofInt x3)), (4, .int (Int32.ofInt x4))]) (lf_sb1 rfl (lf_sb1 rfl (lf_sb1 rfl (lf_sb1 rfl (lf_sb1 rfl lf_sb0))))) ?_
    exact gm_306_p78 hX4 h
  · have h := h.2 c
    refine lf_seg 2 (pc' := 78) (lv' := [(0, .ref 95), (1, .int (Int32.ofInt x1)), (2, .int (Int32.ofInt x2)), (3, .int (Int32.ofInt x3)), (4, .int (Int32.ofInt x4))]) (st' := [.int (Int32.ofInt 1), .int (Int32.ofInt y0)]) rfl ?_
    refine lf_sub (l := [(0, .ref 95), (1, .int (Int32.ofInt x1)), (2, .int (Int32.ofInt x2)), (3, .int (Int32.ofInt x3)), (4, .int (Int32.ofInt x4))]) (lf_sb1 rfl (lf_sb1 rfl (lf_sb1 rfl (lf_sb1 rfl (lf_sb1 rfl lf_sb0))))) ?_
    exact gm_306_p78 hX4 h
def fm_306_p4 (Q : Int → lf_Z → Prop) (X4 : Int → Int → lf_Z → Prop) (x1 : Int) (x2 : Int) (s : lf_Z) : Prop := lf_R x2 ∧ (lf_R (s.1 96 1) ∧ ((s.1 96 1 ≤ x2 → (Q x1 s)) ∧ (¬ (s.1 96 1 ≤ x2) → ((0 ≤ 50 + (4 * x2) ∧ 50 + (4 * x2) < 1538) ∧ ((0 ≤ (50 + (4 * x2)) + 1 ∧ (50 + (4 * x2)) + 1 < 1538) ∧ (fm_252 x2 (fun z26 s25 => ((z26 = true → (fm_306_p116 X4 Q x1 x2 s25)) ∧ (z26 = false → (fm_265 (s.1 96 (50 + (4 * x2))) (fun r28 s27 => (lf_R r28 ∧ ((r28 ≠ 3 → (fm_306_p63 X4 Q x1 x2 (s.1 96 (50 + (4 * x2))) (s.1 96 ((50 + (4 * x2)) + 1)) 0 s27)) ∧ (¬ (r28 ≠ 3) → (fm_306_p63 X4 Q x1 x2 (s.1 96 (50 + (4 * x2))) (s.1 96 ((50 + (4 * x2)) + 1)) 1 s27))))) s25)))) s))))))
def fm_306_p4L (Q : Int → lf_Z → Prop) (x1 : Int) (x2 : Int) (s : lf_Z) : Prop := ∀ X4 : Int → Int → lf_Z → Prop, (∀ (x1 : Int) (x2 : Int) (s : lf_Z), fm_306_p4 Q X4 x1 x2 s → X4 x1 x2 s) → X4 x1 x2 s
set_option maxRecDepth 100000 in
theorem gm_306_p4 {L : Nat} {xs : Nat → Int32} {d : Nat} {Q : Int → lf_Z → Prop} {x1 : Int} {x2 : Int} {s : lf_Z} {X4 : Int → Int → lf_Z → Prop} (hX4 : ∀ x1 x2 s, X4 x1 x2 s → lf_E (px_ro L xs) (d + 4) 306 4 [(0, .ref 95), (1, .int (Int32.ofInt x1)), (2, .int (Int32.ofInt x2))] [] s (lf_qi Q)) (h : fm_306_p4 Q X4 x1 x2 s) : lf_E (px_ro L xs) (d + 4) 306 4 [(0, .ref 95), (1, .int (Int32.ofInt x1)), (2, .int (Int32.ofInt x2))] [] s (lf_qi Q) := by
  unfold fm_306_p4 at h
  refine lf_seg 4 (pc' := 10) (lv' := [(0, .ref 95), (1, .int (Int32.ofInt x1)), (2, .int (Int32.ofInt x2))]) (st' := [.int (Int32.ofInt 1), .ref 96, .int (Int32.ofInt x2)]) rfl ?_
  refine lf_iald 11 1538 rfl rfl rfl rfl rfl rfl ⟨by decide, by decide⟩ ?_
  obtain ⟨o21, h⟩ := h
  obtain ⟨o22, h⟩ := h
  refine lf_icmp_ge 122 14 rfl rfl rfl o21 o22 (fun c => ?_) (fun c => ?_)
  · have h := h.1 c
    refine lf_seg 1 (pc' := 123) (lv' := [(0, .ref 95), (1, .int (Int32.ofInt x1)), (2, .int (Int32.ofInt x2))]) (st' := [.int (Int32.ofInt x1)]) rfl ?_
    exact lf_retI rfl rfl h
  · have h := h.2 c
    refine lf_seg 2 (pc' := 18) (lv' := [(0, .ref 95), (1, .int (Int32.ofInt x1)), (2, .int (Int32.ofInt x2))]) (st' := [.ref 96]) rfl ?_
    refine lf_bipush 20 50 rfl rfl (by decide) (by decide) ?_
    refine lf_seg 2 (pc' := 22) (lv' := [(0, .ref 95), (1, .int (Int32.ofInt x1)), (2, .int (Int32.ofInt x2))]) (st' := [.int (Int32.ofInt x2), .int (Int32.ofInt 4), .int (Int32.ofInt 50), .ref 96]) rfl ?_
    refine lf_imul 23 rfl rfl ?_
    refine lf_iadd 24 rfl rfl ?_
    obtain ⟨o23, h⟩ := h
    refine lf_iald 25 1538 rfl rfl rfl rfl rfl rfl o23 ?_
    refine lf_seg 3 (pc' := 30) (lv' := [(3, .int (Int32.ofInt (s.1 96 (50 + (4 * x2))))), (0, .ref 95), (1, .int (Int32.ofInt x1)), (2, .int (Int32.ofInt x2))]) (st' := [.ref 96]) rfl ?_
    refine lf_bipush 32 50 rfl rfl (by decide) (by decide) ?_
    refine lf_seg 2 (pc' := 34) (lv' := [(3, .int (Int32.ofInt (s.1 96 (50 + (4 * x2))))), (0, .ref 95), (1, .int (Int32.ofInt x1)), (2, .int (Int32.ofInt x2))]) (st' := [.int (Int32.ofInt x2), .int (Int32.ofInt 4), .int (Int32.ofInt 50), .ref 96]) rfl ?_
    refine lf_imul 35 rfl rfl ?_
    refine lf_iadd 36 rfl rfl ?_
    refine lf_seg 1 (pc' := 37) (lv' := [(3, .int (Int32.ofInt (s.1 96 (50 + (4 * x2))))), (0, .ref 95), (1, .int (Int32.ofInt x1)), (2, .int (Int32.ofInt x2))]) (st' := [.int (Int32.ofInt 1), .int (Int32.ofInt (50 + (4 * x2))), .ref 96]) rfl ?_
    refine lf_iadd 38 rfl rfl ?_
    obtain ⟨o24, h⟩ := h
    refine lf_iald 39 1538 rfl rfl rfl rfl rfl rfl o24 ?_
    refine lf_seg 3 (pc' := 43) (lv' := [(4, .int (Int32.ofInt (s.1 96 ((50 + (4 * x2)) + 1)))), (3, .int (Int32.ofInt (s.1 96 (50 + (4 * x2))))), (0, .ref 95), (1, .int (Int32.ofInt x1)), (2, .int (Int32.ofInt x2))]) (st' := [.int (Int32.ofInt x2), .ref 95]) rfl ?_
    refine lf_callZ 46 rfl rfl rfl rfl (gm_252 h) (fun z26 s25 h => ?_)
    refine lf_ifz_ne 116 49 rfl rfl rfl (fun c => ?_) (fun c => ?_)
    · have h := h.1 c
      refine lf_sub (l := [(0, .ref 95), (1, .int (Int32.ofInt x1)), (2, .int (Int32.ofInt x2))]) (lf_sb1 rfl (lf_sb1 rfl (lf_sb1 rfl lf_sb0))) ?_
      exact gm_306_p116 hX4 h
    · have h := h.2 c
      refine lf_seg 2 (pc' := 51) (lv' := [(4, .int (Int32.ofInt (s.1 96 ((50 + (4 * x2)) + 1)))), (3, .int (Int32.ofInt (s.1 96 (50 + (4 * x2))))), (0, .ref 95), (1, .int (Int32.ofInt x1)), (2, .int (Int32.ofInt x2))]) (st' := [.int (Int32.ofInt (s.1 96 (50 + (4 * x2)))), .ref 95]) rfl ?_
      refine lf_callI 54 rfl rfl rfl rfl (gm_265 h) (fun r28 s27 h => ?_)
      refine lf_seg 1 (pc' := 55) (lv' := [(4, .int (Int32.ofInt (s.1 96 ((50 + (4 * x2)) + 1)))), (3, .int (Int32.ofInt (s.1 96 (50 + (4 * x2))))), (0, .ref 95), (1, .int (Int32.ofInt x1)), (2, .int (Int32.ofInt x2))]) (st' := [.int (Int32.ofInt 3), .int (Int32.ofInt r28)]) rfl ?_
      obtain ⟨o29, h⟩ := h
      refine lf_icmp_ne 62 58 rfl rfl rfl o29 ⟨by decide, by decide⟩ (fun c => ?_) (fun c => ?_)
      · have h := h.1 c
        refine lf_seg 1 (pc' := 63) (lv' := [(4, .int (Int32.ofInt (s.1 96 ((50 + (4 * x2)) + 1)))), (3, .int (Int32.ofInt (s.1 96 (50 + (4 * x2))))), (0, .ref 95), (1, .int (Int32.ofInt x1)), (2, .int (Int32.ofInt x2))]) (st' := [.int (Int32.ofInt 0)]) rfl ?_
        refine lf_sub (l := [(0, .ref 95), (1, .int (Int32.ofInt x1)), (2, .int (Int32.ofInt x2)), (3, .int (Int32.ofInt (s.1 96 (50 + (4 * x2))))), (4, .int (Int32.ofInt (s.1 96 ((50 + (4 * x2)) + 1))))]) (lf_sb1 rfl (lf_sb1 rfl (lf_sb1 rfl (lf_sb1 rfl (lf_sb1 rfl lf_sb0))))) ?_
        exact gm_306_p63 hX4 h
      · have h := h.2 c
        refine lf_seg 2 (pc' := 63) (lv' := [(4, .int (Int32.ofInt (s.1 96 ((50 + (4 * x2)) + 1)))), (3, .int (Int32.ofInt (s.1 96 (50 + (4 * x2))))), (0, .ref 95), (1, .int (Int32.ofInt x1)), (2, .int (Int32.ofInt x2))]) (st' := [.int (Int32.ofInt 1)]) rfl ?_
        refine lf_sub (l := [(0, .ref 95), (1, .int (Int32.ofInt x1)), (2, .int (Int32.ofInt x2)), (3, .int (Int32.ofInt (s.1 96 (50 + (4 * x2))))), (4, .int (Int32.ofInt (s.1 96 ((50 + (4 * x2)) + 1))))]) (lf_sb1 rfl (lf_sb1 rfl (lf_sb1 rfl (lf_sb1 rfl (lf_sb1 rfl lf_sb0))))) ?_
        exact gm_306_p63 hX4 h
theorem gm_306_p4L {L : Nat} {xs : Nat → Int32} {d : Nat} {Q : Int → lf_Z → Prop} {x1 : Int} {x2 : Int} {s : lf_Z} (h : fm_306_p4L Q x1 x2 s) : lf_E (px_ro L xs) (d + 4) 306 4 [(0, .ref 95), (1, .int (Int32.ofInt x1)), (2, .int (Int32.ofInt x2))] [] s (lf_qi Q) :=
  h (fun x1 x2 s => lf_E (px_ro L xs) (d + 4) 306 4 [(0, .ref 95), (1, .int (Int32.ofInt x1)), (2, .int (Int32.ofInt x2))] [] s (lf_qi Q)) (fun x1 x2 s hb => gm_306_p4 (fun _ _ _ h => h) hb)
def fm_306 (Q : Int → lf_Z → Prop) (s : lf_Z) : Prop := fm_306_p4L Q 0 0 s
set_option maxRecDepth 100000 in
theorem gm_306 {L : Nat} {xs : Nat → Int32} {d : Nat} {Q : Int → lf_Z → Prop} {s : lf_Z} (h : fm_306 Q s) : lf_M (px_ro L xs) (d + 4) 306 [.ref 95] s (lf_qi Q) := by
  unfold fm_306 at h
  show lf_E (px_ro L xs) (d + 4) 306 0 [(0, .ref 95)] [] s _
  refine lf_seg 4 (pc' := 4) (lv' := [(2, .int (Int32.ofInt 0)), (1, .int (Int32.ofInt 0)), (0, .ref 95)]) (st' := []) rfl ?_
  refine lf_sub (l := [(0, .ref 95), (1, .int (Int32.ofInt 0)), (2, .int (Int32.ofInt 0))]) (lf_sb1 rfl (lf_sb1 rfl (lf_sb1 rfl lf_sb0))) ?_
  exact gm_306_p4L h
-- fm_153 ElevenBullocks.weightOf i i i
def fm_153_p63 (Q : Int → lf_Z → Prop) (X63 : Int → Int → lf_Z → Prop) (x3 : Int) (x5 : Int) (s : lf_Z) : Prop := lf_R x5 ∧ ((12 ≤ x5 → (Q (lf_wl x3) s)) ∧ (¬ (12 ≤ x5) → (X63 (lf_wl ((lf_wl x3) * 10)) (x5 + 1) s)))
def fm_153_p63L (Q : Int → lf_Z → Prop) (x3 : Int) (x5 : Int) (s : lf_Z) : Prop := ∀ X63 : Int → Int → lf_Z → Prop, (∀ (x3 : Int) (x5 : Int) (s : lf_Z), fm_153_p63 Q X63 x3 x5 s → X63 x3 x5 s) → X63 x3 x5 s
set_option maxRecDepth 100000 in
theorem gm_153_p63 {L : Nat} {xs : Nat → Int32} {d : Nat} {Q : Int → lf_Z → Prop} {x3 : Int} {x5 : Int} {s : lf_Z} {X63 : Int → Int → lf_Z → Prop} (hX63 : ∀ x3 x5 s, X63 x3 x5 s → lf_E (px_ro L xs) (d + 1) 153 63 [(3, .long (Int64.ofInt x3)), (5, .int (Int32.ofInt x5))] [] s (lf_ql Q)) (h : fm_153_p63 Q X63 x3 x5 s) : lf_E (px_ro L xs) (d + 1) 153 63 [(3, .long (Int64.ofInt x3)), (5, .int (Int32.ofInt x5))] [] s (lf_ql Q) := by
  unfold fm_153_p63 at h
  refine lf_eqs (lv' := [(3, .long (Int64.ofInt (lf_wl x3))), (5, .int (Int32.ofInt x5))]) (st' := []) (by simp only [lf_wlE]) rfl ?_
  refine lf_seg 1 (pc' := 65) (lv' := [(3, .long (Int64.ofInt (lf_wl x3))), (5, .int (Int32.ofInt x5))]) (st' := [.int (Int32.ofInt x5)]) rfl ?_
  refine lf_bipush 67 12 rfl rfl (by decide) (by decide) ?_
  obtain ⟨o27, h⟩ := h
  refine lf_icmp_ge 82 70 rfl rfl rfl o27 ⟨by decide, by decide⟩ (fun c => ?_) (fun c => ?_)
  · have h := h.1 c
    refine lf_seg 1 (pc' := 83) (lv' := [(3, .long (Int64.ofInt (lf_wl x3))), (5, .int (Int32.ofInt x5))]) (st' := [.long (Int64.ofInt (lf_wl x3))]) rfl ?_
    exact lf_retL rfl rfl h
  · have h := h.2 c
    refine lf_seg 1 (pc' := 71) (lv' := [(3, .long (Int64.ofInt (lf_wl x3))), (5, .int (Int32.ofInt x5))]) (st' := [.long (Int64.ofInt (lf_wl x3))]) rfl ?_
    refine lf_ldc2 74 10 rfl rfl rfl (by decide) ?_
    refine lf_lmul 75 rfl rfl ?_
    refine lf_wtL ?_
    refine lf_seg 1 (pc' := 76) (lv' := [(3, .long (Int64.ofInt (lf_wl ((lf_wl x3) * 10)))), (5, .int (Int32.ofInt x5))]) (st' := []) rfl ?_
    refine lf_iinc 79 rfl rfl rfl rfl ?_
    refine lf_seg 1 (pc' := 63) (lv' := [(5, .int (Int32.ofInt (x5 + 1))), (3, .long (Int64.ofInt (lf_wl ((lf_wl x3) * 10))))]) (st' := []) rfl ?_
    refine lf_sub (l := [(3, .long (Int64.ofInt (lf_wl ((lf_wl x3) * 10)))), (5, .int (Int32.ofInt (x5 + 1)))]) (lf_sb1 rfl (lf_sb1 rfl lf_sb0)) ?_
    exact hX63 _ _ _ h
theorem gm_153_p63L {L : Nat} {xs : Nat → Int32} {d : Nat} {Q : Int → lf_Z → Prop} {x3 : Int} {x5 : Int} {s : lf_Z} (h : fm_153_p63L Q x3 x5 s) : lf_E (px_ro L xs) (d + 1) 153 63 [(3, .long (Int64.ofInt x3)), (5, .int (Int32.ofInt x5))] [] s (lf_ql Q) :=
  h (fun x3 x5 s => lf_E (px_ro L xs) (d + 1) 153 63 [(3, .long (Int64.ofInt x3)), (5, .int (Int32.ofInt x5))] [] s (lf_ql Q)) (fun x3 x5 s hb => gm_153_p63 (fun _ _ _ h => h) hb)
def fm_153_p41 (Q : Int → lf_Z → Prop) (x0 : Int) (x1 : Int) (x2 : Int) (X41 : Int → Int → lf_Z → Prop) (x3 : Int) (x5 : Int) (s : lf_Z) : Prop := lf_R x5 ∧ (lf_R (x0 - x2) ∧ ((x0 - x2 ≤ x5 → (fm_153_p63L Q x3 x0 s)) ∧ (¬ (x0 - x2 ≤ x5) → (lf_R x1 ∧ (X41 (lf_wl ((lf_wl x3) * x1)) (x5 + 1) s)))))
def fm_153_p41L (Q : Int → lf_Z → Prop) (x0 : Int) (x1 : Int) (x2 : Int) (x3 : Int) (x5 : Int) (s : lf_Z) : Prop := ∀ X41 : Int → Int → lf_Z → Prop, (∀ (x3 : Int) (x5 : Int) (s : lf_Z), fm_153_p41 Q x0 x1 x2 X41 x3 x5 s → X41 x3 x5 s) → X41 x3 x5 s
set_option maxRecDepth 100000 in
theorem gm_153_p41 {L : Nat} {xs : Nat → Int32} {d : Nat} {Q : Int → lf_Z → Prop} {x0 : Int} {x1 : Int} {x2 : Int} {x3 : Int} {x5 : Int} {s : lf_Z} {X41 : Int → Int → lf_Z → Prop} (hX41 : ∀ x3 x5 s, X41 x3 x5 s → lf_E (px_ro L xs) (d + 1) 153 41 [(0, .int (Int32.ofInt x0)), (1, .int (Int32.ofInt x1)), (2, .int (Int32.ofInt x2)), (3, .long (Int64.ofInt x3)), (5, .int (Int32.ofInt x5))] [] s (lf_ql Q)) (h : fm_153_p41 Q x0 x1 x2 X41 x3 x5 s) : lf_E (px_ro L xs) (d + 1) 153 41 [(0, .int (Int32.ofInt x0)), (1, .int (Int32.ofInt x1)), (2, .int (Int32.ofInt x2)), (3, .long (Int64.ofInt x3)), (5, .int (Int32.ofInt x5))] [] s (lf_ql Q) := by
  unfold fm_153_p41 at h
  refine lf_eqs (lv' := [(0, .int (Int32.ofInt x0)), (1, .int (Int32.ofInt x1)), (2, .int (Int32.ofInt x2)), (3, .long (Int64.ofInt (lf_wl x3))), (5, .int (Int32.ofInt x5))]) (st' := []) (by simp only [lf_wlE]) rfl ?_
  refine lf_seg 3 (pc' := 45) (lv' := [(0, .int (Int32.ofInt x0)), (1, .int (Int32.ofInt x1)), (2, .int (Int32.ofInt x2)), (3, .long (Int64.ofInt (lf_wl x3))), (5, .int (Int32.ofInt x5))]) (st' := [.int (Int32.ofInt x2), .int (Int32.ofInt x0), .int (Int32.ofInt x5)]) rfl ?_
  refine lf_isub 46 rfl rfl ?_
  obtain ⟨o25, h⟩ := h
  obtain ⟨o26, h⟩ := h
  refine lf_icmp_ge 60 49 rfl rfl rfl o25 o26 (fun c => ?_) (fun c => ?_)
  · have h := h.1 c
    refine lf_seg 2 (pc' := 63) (lv' := [(5, .int (Int32.ofInt x0)), (0, .int (Int32.ofInt x0)), (1, .int (Int32.ofInt x1)), (2, .int (Int32.ofInt x2)), (3, .long (Int64.ofInt (lf_wl x3)))]) (st' := []) rfl ?_
    refine lf_eqs (lv' := [(5, .int (Int32.ofInt x0)), (0, .int (Int32.ofInt x0)), (1, .int (Int32.ofInt x1)), (2, .int (Int32.ofInt x2)), (3, .long (Int64.ofInt x3))]) (st' := []) (by simp only [lf_wlE]) rfl ?_
    refine lf_sub (l := [(3, .long (Int64.ofInt x3)), (5, .int (Int32.ofInt x0))]) (lf_sb1 rfl (lf_sb1 rfl lf_sb0)) ?_
    exact gm_153_p63L h
  · have h := h.2 c
    refine lf_seg 2 (pc' := 51) (lv' := [(0, .int (Int32.ofInt x0)), (1, .int (Int32.ofInt x1)), (2, .int (Int32.ofInt x2)), (3, .long (Int64.ofInt (lf_wl x3))), (5, .int (Int32.ofInt x5))]) (st' := [.int (Int32.ofInt x1), .long (Int64.ofInt (lf_wl x3))]) rfl ?_
    obtain ⟨o28, h⟩ := h
    refine lf_i2l 52 rfl rfl o28 ?_
    refine lf_lmul 53 rfl rfl ?_
    refine lf_wtL ?_
    refine lf_seg 1 (pc' := 54) (lv' := [(3, .long (Int64.ofInt (lf_wl ((lf_wl x3) * x1)))), (0, .int (Int32.ofInt x0)), (1, .int (Int32.ofInt x1)), (2, .int (Int32.ofInt x2)), (5, .int (Int32.ofInt x5))]) (st' := []) rfl ?_
    refine lf_iinc 57 rfl rfl rfl rfl ?_
    refine lf_seg 1 (pc' := 41) (lv' := [(5, .int (Int32.ofInt (x5 + 1))), (3, .long (Int64.ofInt (lf_wl ((lf_wl x3) * x1)))), (0, .int (Int32.ofInt x0)), (1, .int (Int32.ofInt x1)), (2, .int (Int32.ofInt x2))]) (st' := []) rfl ?_
    refine lf_sub (l := [(0, .int (Int32.ofInt x0)), (1, .int (Int32.ofInt x1)), (2, .int (Int32.ofInt x2)), (3, .long (Int64.ofInt (lf_wl ((lf_wl x3) * x1)))), (5, .int (Int32.ofInt (x5 + 1)))]) (lf_sb1 rfl (lf_sb1 rfl (lf_sb1 rfl (lf_sb1 rfl (lf_sb1 rfl lf_sb0))))) ?_
    exact hX41 _ _ _ h
theorem gm_153_p41L {L : Nat} {xs : Nat → Int32} {d : Nat} {Q : Int → lf_Z → Prop} {x0 : Int} {x1 : Int} {x2 : Int} {x3 : Int} {x5 : Int} {s : lf_Z} (h : fm_153_p41L Q x0 x1 x2 x3 x5 s) : lf_E (px_ro L xs) (d + 1) 153 41 [(0, .int (Int32.ofInt x0)), (1, .int (Int32.ofInt x1)), (2, .int (Int32.ofInt x2)), (3, .long (Int64.ofInt x3)), (5, .int (Int32.ofInt x5))] [] s (lf_ql Q) :=
  h (fun x3 x5 s => lf_E (px_ro L xs) (d + 1) 153 41 [(0, .int (Int32.ofInt x0)), (1, .int (Int32.ofInt x1)), (2, .int (Int32.ofInt x2)), (3, .long (Int64.ofInt x3)), (5, .int (Int32.ofInt x5))] [] s (lf_ql Q)) (fun x3 x5 s hb => gm_153_p41 (fun _ _ _ h => h) hb)
def fm_153_p12 (Q : Int → lf_Z → Prop) (x0 : Int) (x1 : Int) (x2 : Int) (X12 : Int → Int → lf_Z → Prop) (x3 : Int) (x5 : Int) (s : lf_Z) : Prop := lf_R x5 ∧ (lf_R (x0 - x2) ∧ ((x0 - x2 < x5 → (fm_153_p41L Q x0 x1 x2 x3 0 s)) ∧ (¬ (x0 - x2 < x5) → (lf_R (x2 + x5) ∧ (x5 ≠ 0 ∧ (X12 (lf_wl ((lf_wl ((lf_wl x3) * (x2 + x5))).tdiv x5)) (x5 + 1) s))))))
def fm_153_p12L (Q : Int → lf_Z → Prop) (x0 : Int) (x1 : Int) (x2 : Int) (x3 : Int) (x5 : Int) (s : lf_Z) : Prop := ∀ X12 : Int → Int → lf_Z → Prop, (∀ (x3 : Int) (x5 : Int) (s : lf_Z), fm_153_p12 Q x0 x1 x2 X12 x3 x5 s → X12 x3 x5 s) → X12 x3 x5 s
set_option maxRecDepth 100000 in
theorem gm_153_p12 {L : Nat} {xs : Nat → Int32} {d : Nat} {Q : Int → lf_Z → Prop} {x0 : Int} {x1 : Int} {x2 : Int} {x3 : Int} {x5 : Int} {s : lf_Z} {X12 : Int → Int → lf_Z → Prop} (hX12 : ∀ x3 x5 s, X12 x3 x5 s → lf_E (px_ro L xs) (d + 1) 153 12 [(0, .int (Int32.ofInt x0)), (1, .int (Int32.ofInt x1)), (2, .int (Int32.ofInt x2)), (3, .long (Int64.ofInt x3)), (5, .int (Int32.ofInt x5))] [] s (lf_ql Q)) (h : fm_153_p12 Q x0 x1 x2 X12 x3 x5 s) : lf_E (px_ro L xs) (d + 1) 153 12 [(0, .int (Int32.ofInt x0)), (1, .int (Int32.ofInt x1)), (2, .int (Int32.ofInt x2)), (3, .long (Int64.ofInt x3)), (5, .int (Int32.ofInt x5))] [] s (lf_ql Q) := by
  unfold fm_153_p12 at h
  refine lf_eqs (lv' := [(0, .int (Int32.ofInt x0)), (1, .int (Int32.ofInt x1)), (2, .int (Int32.ofInt x2)), (3, .long (Int64.ofInt (lf_wl x3))), (5, .int (Int32.ofInt x5))]) (st' := []) (by simp only [lf_wlE]) rfl ?_
  refine lf_seg 3 (pc' := 16) (lv' := [(0, .int (Int32.ofInt x0)), (1, .int (Int32.ofInt x1)), (2, .int (Int32.ofInt x2)), (3, .long (Int64.ofInt (lf_wl x3))), (5, .int (Int32.ofInt x5))]) (st' := [.int (Int32.ofInt x2), .int (Int32.ofInt x0), .int (Int32.ofInt x5)]) rfl ?_
  refine lf_isub 17 rfl rfl ?_
  obtain ⟨o23, h⟩ := h
  obtain ⟨o24, h⟩ := h
  refine lf_icmp_gt 38 20 rfl rfl rfl o23 o24 (fun c => ?_) (fun c => ?_)
  · have h := h.1 c
    refine lf_seg 2 (pc' := 41) (lv' := [(5, .int (Int32.ofInt 0)), (0, .int (Int32.ofInt x0)), (1, .int (Int32.ofInt x1)), (2, .int (Int32.ofInt x2)), (3, .long (Int64.ofInt (lf_wl x3)))]) (st' := []) rfl ?_
    refine lf_eqs (lv' := [(5, .int (Int32.ofInt 0)), (0, .int (Int32.ofInt x0)), (1, .int (Int32.ofInt x1)), (2, .int (Int32.ofInt x2)), (3, .long (Int64.ofInt x3))]) (st' := []) (by simp only [lf_wlE]) rfl ?_
    refine lf_sub (l := [(0, .int (Int32.ofInt x0)), (1, .int (Int32.ofInt x1)), (2, .int (Int32.ofInt x2)), (3, .long (Int64.ofInt x3)), (5, .int (Int32.ofInt 0))]) (lf_sb1 rfl (lf_sb1 rfl (lf_sb1 rfl (lf_sb1 rfl (lf_sb1 rfl lf_sb0))))) ?_
    exact gm_153_p41L h
  · have h := h.2 c
    refine lf_seg 3 (pc' := 24) (lv' := [(0, .int (Int32.ofInt x0)), (1, .int (Int32.ofInt x1)), (2, .int (Int32.ofInt x2)), (3, .long (Int64.ofInt (lf_wl x3))), (5, .int (Int32.ofInt x5))]) (st' := [.int (Int32.ofInt x5), .int (Int32.ofInt x2), .long (Int64.ofInt (lf_wl x3))]) rfl ?_
    refine lf_iadd 25 rfl rfl ?_
    obtain ⟨o29, h⟩ := h
    refine lf_i2l 26 rfl rfl o29 ?_
    refine lf_lmul 27 rfl rfl ?_
    refine lf_wtL ?_
    refine lf_seg 1 (pc' := 29) (lv' := [(0, .int (Int32.ofInt x0)), (1, .int (Int32.ofInt x1)), (2, .int (Int32.ofInt x2)), (3, .long (Int64.ofInt (lf_wl x3))), (5, .int (Int32.ofInt x5))]) (st' := [.int (Int32.ofInt x5), .long (Int64.ofInt (lf_wl ((lf_wl x3) * (x2 + x5))))]) rfl ?_
    refine lf_i2l 30 rfl rfl o23 ?_
    obtain ⟨o30, h⟩ := h
    refine lf_ldiv 31 rfl rfl lf_RLwl (lf_RLR o23) o30 ?_
    refine lf_wtL ?_
    refine lf_seg 1 (pc' := 32) (lv' := [(3, .long (Int64.ofInt (lf_wl ((lf_wl ((lf_wl x3) * (x2 + x5))).tdiv x5)))), (0, .int (Int32.ofInt x0)), (1, .int (Int32.ofInt x1)), (2, .int (Int32.ofInt x2)), (5, .int (Int32.ofInt x5))]) (st' := []) rfl ?_
    refine lf_iinc 35 rfl rfl rfl rfl ?_
    refine lf_seg 1 (pc' := 12) (lv' := [(5, .int (Int32.ofInt (x5 + 1))), (3, .long (Int64.ofInt (lf_wl ((lf_wl ((lf_wl x3) * (x2 + x5))).tdiv x5)))), (0, .int (Int32.ofInt x0)), (1, .int (Int32.ofInt x1)), (2, .int (Int32.ofInt x2))]) (st' := []) rfl ?_
    refine lf_sub (l := [(0, .int (Int32.ofInt x0)), (1, .int (Int32.ofInt x1)), (2, .int (Int32.ofInt x2)), (3, .long (Int64.ofInt (lf_wl ((lf_wl ((lf_wl x3) * (x2 + x5))).tdiv x5)))), (5, .int (Int32.ofInt (x5 + 1)))]) (lf_sb1 rfl (lf_sb1 rfl (lf_sb1 rfl (lf_sb1 rfl (lf_sb1 rfl lf_sb0))))) ?_
    exact hX12 _ _ _ h
theorem gm_153_p12L {L : Nat} {xs : Nat → Int32} {d : Nat} {Q : Int → lf_Z → Prop} {x0 : Int} {x1 : Int} {x2 : Int} {x3 : Int} {x5 : Int} {s : lf_Z} (h : fm_153_p12L Q x0 x1 x2 x3 x5 s) : lf_E (px_ro L xs) (d + 1) 153 12 [(0, .int (Int32.ofInt x0)), (1, .int (Int32.ofInt x1)), (2, .int (Int32.ofInt x2)), (3, .long (Int64.ofInt x3)), (5, .int (Int32.ofInt x5))] [] s (lf_ql Q) :=
  h (fun x3 x5 s => lf_E (px_ro L xs) (d + 1) 153 12 [(0, .int (Int32.ofInt x0)), (1, .int (Int32.ofInt x1)), (2, .int (Int32.ofInt x2)), (3, .long (Int64.ofInt x3)), (5, .int (Int32.ofInt x5))] [] s (lf_ql Q)) (fun x3 x5 s hb => gm_153_p12 (fun _ _ _ h => h) hb)
def fm_153 (a0 : Int) (a1 : Int) (a2 : Int) (Q : Int → lf_Z → Prop) (s : lf_Z) : Prop := lf_R a0 ∧ (lf_R a2 ∧ ((a2 ≤ a0 → (fm_153_p12L Q a0 a1 a2 1 1 s)) ∧ (¬ (a2 ≤ a0) → (Q 0 s))))
set_option maxRecDepth 100000 in
theorem gm_153 {L : Nat} {xs : Nat → Int32} {d : Nat} {a0 : Int} {a1 : Int} {a2 : Int} {Q : Int → lf_Z → Prop} {s : lf_Z} (h : fm_153 a0 a1 a2 Q s) : lf_M (px_ro L xs) (d + 1) 153 [.int (Int32.ofInt a0), .int (Int32.ofInt a1), .int (Int32.ofInt a2)] s (lf_ql Q) := by
  unfold fm_153 at h
  show lf_E (px_ro L xs) (d + 1) 153 0 [(0, .int (Int32.ofInt a0)), (1, .int (Int32.ofInt a1)), (2, .int (Int32.ofInt a2))] [] s _
  refine lf_seg 2 (pc' := 2) (lv' := [(0, .int (Int32.ofInt a0)), (1, .int (Int32.ofInt a1)), (2, .int (Int32.ofInt a2))]) (st' := [.int (Int32.ofInt a2), .int (Int32.ofInt a0)]) rfl ?_
  obtain ⟨o21, h⟩ := h
  obtain ⟨o22, h⟩ := h
  refine lf_icmp_ge 7 5 rfl rfl rfl o21 o22 (fun c => ?_) (fun c => ?_)
  · have h := h.1 c
    refine lf_lconst 8 1 rfl rfl (by decide) ?_
    refine lf_seg 3 (pc' := 12) (lv' := [(5, .int (Int32.ofInt 1)), (3, .long (Int64.ofInt 1)), (0, .int (Int32.ofInt a0)), (1, .int (Int32.ofInt a1)), (2, .int (Int32.ofInt a2))]) (st' := []) rfl ?_
    refine lf_sub (l := [(0, .int (Int32.ofInt a0)), (1, .int (Int32.ofInt a1)), (2, .int (Int32.ofInt a2)), (3, .long (Int64.ofInt 1)), (5, .int (Int32.ofInt 1))]) (lf_sb1 rfl (lf_sb1 rfl (lf_sb1 rfl (lf_sb1 rfl (lf_sb1 rfl lf_sb0))))) ?_
    exact gm_153_p12L h
  · have h := h.2 c
    refine lf_lconst 6 0 rfl rfl (by decide) ?_
    exact lf_retL rfl rfl h
-- fm_152 ElevenBullocks.many 0 i i i i
def fm_152_p30 (Q : Int → lf_Z → Prop) (s : lf_Z) : Prop := Q (-1) s
set_option maxRecDepth 100000 in
theorem gm_152_p30 {L : Nat} {xs : Nat → Int32} {d : Nat} {Q : Int → lf_Z → Prop} {s : lf_Z} (h : fm_152_p30 Q s) : lf_E (px_ro L xs) (d + 2) 152 30 [] [] s (lf_ql Q) := by
  unfold fm_152_p30 at h
  refine lf_ldc2 33 (-1) rfl rfl rfl (by decide) ?_
  exact lf_retL rfl rfl h
def fm_152_p40 (Q : Int → lf_Z → Prop) (x1 : Int) (x2 : Int) (x3 : Int) (x4 : Int) (X40 : Int → Int → lf_Z → Prop) (x5 : Int) (x7 : Int) (s : lf_Z) : Prop := lf_R x7 ∧ ((12 < x7 → (fm_153 x3 x1 x2 (fun r29 s28 => (fm_125 (lf_wl r29) (lf_wl x5) x4 (fun r31 s30 => (Q (lf_wl r31) s30)) s28)) s)) ∧ (¬ (12 < x7) → (fm_153 x7 x1 x2 (fun r33 s32 => (X40 (lf_wl ((lf_wl x5) + (lf_wl r33))) (x7 + 1) s32)) s)))
def fm_152_p40L (Q : Int → lf_Z → Prop) (x1 : Int) (x2 : Int) (x3 : Int) (x4 : Int) (x5 : Int) (x7 : Int) (s : lf_Z) : Prop := ∀ X40 : Int → Int → lf_Z → Prop, (∀ (x5 : Int) (x7 : Int) (s : lf_Z), fm_152_p40 Q x1 x2 x3 x4 X40 x5 x7 s → X40 x5 x7 s) → X40 x5 x7 s
set_option maxRecDepth 100000 in
theorem gm_152_p40 {L : Nat} {xs : Nat → Int32} {d : Nat} {Q : Int → lf_Z → Prop} {x1 : Int} {x2 : Int} {x3 : Int} {x4 : Int} {x5 : Int} {x7 : Int} {s : lf_Z} {X40 : Int → Int → lf_Z → Prop} (hX40 : ∀ x5 x7 s, X40 x5 x7 s → lf_E (px_ro L xs) (d + 2) 152 40 [(1, .int (Int32.ofInt x1)), (2, .int (Int32.ofInt x2)), (3, .int (Int32.ofInt x3)), (4, .int (Int32.ofInt x4)), (5, .long (Int64.ofInt x5)), (7, .int (Int32.ofInt x7))] [] s (lf_ql Q)) (h : fm_152_p40 Q x1 x2 x3 x4 X40 x5 x7 s) : lf_E (px_ro L xs) (d + 2) 152 40 [(1, .int (Int32.ofInt x1)), (2, .int (Int32.ofInt x2)), (3, .int (Int32.ofInt x3)), (4, .int (Int32.ofInt x4)), (5, .long (Int64.ofInt x5)), (7, .int (Int32.ofInt x7))] [] s (lf_ql Q) := by
  unfold fm_152_p40 at h
  refine lf_eqs (lv' := [(1, .int (Int32.ofInt x1)), (2, .int (Int32.ofInt x2)), (3, .int (Int32.ofInt x3)), (4, .int (Int32.ofInt x4)), (5, .long (Int64.ofInt (lf_wl x5))), (7, .int (Int32.ofInt x7))]) (st' := []) (by simp only [lf_wlE]) rfl ?_
  refine lf_seg 1 (pc' := 42) (lv' := [(1, .int (Int32.ofInt x1)), (2, .int (Int32.ofInt x2)), (3, .int (Int32.ofInt x3)), (4, .int (Int32.ofInt x4)), (5, .long (Int64.ofInt (lf_wl x5))), (7, .int (Int32.ofInt x7))]) (st' := [.int (Int32.ofInt x7)]) rfl ?_
  refine lf_bipush 44 12 rfl rfl (by decide) (by decide) ?_
  obtain ⟨o27, h⟩ := h
  refine lf_icmp_gt 65 47 rfl rfl rfl o27 ⟨by decide, by decide⟩ (fun c => ?_) (fun c => ?_)
  · have h := h.1 c
    refine lf_seg 3 (pc' := 68) (lv' := [(1, .int (Int32.ofInt x1)), (2, .int (Int32.ofInt x2)), (3, .int (Int32.ofInt x3)), (4, .int (Int32.ofInt x4)), (5, .long (Int64.ofInt (lf_wl x5))), (7, .int (Int32.ofInt x7))]) (st' := [.int (Int32.ofInt x2), .int (Int32.ofInt x1), .int (Int32.ofInt x3)]) rfl ?_
    refine lf_callL 71 rfl rfl rfl rfl (gm_153 h) (fun r29 s28 h => ?_)
    refine lf_wtL ?_
    refine lf_seg 2 (pc' := 75) (lv' := [(1, .int (Int32.ofInt x1)), (2, .int (Int32.ofInt x2)), (3, .int (Int32.ofInt x3)), (4, .int (Int32.ofInt x4)), (5, .long (Int64.ofInt (lf_wl x5))), (7, .int (Int32.ofInt x7))]) (st' := [.int (Int32.ofInt x4), .long (Int64.ofInt (lf_wl x5)), .long (Int64.ofInt (lf_wl r29))]) rfl ?_
    refine lf_callL 78 rfl rfl rfl rfl (gm_125 h) (fun r31 s30 h => ?_)
    refine lf_wtL ?_
    exact lf_retL rfl rfl h
  · have h := h.2 c
    refine lf_seg 4 (pc' := 53) (lv' := [(1, .int (Int32.ofInt x1)), (2, .int (Int32.ofInt x2)), (3, .int (Int32.ofInt x3)), (4, .int (Int32.ofInt x4)), (5, .long (Int64.ofInt (lf_wl x5))), (7, .int (Int32.ofInt x7))]) (st' := [.int (Int32.ofInt x2), .int (Int32.ofInt x1), .int (Int32.ofInt x7), .long (Int64.ofInt (lf_wl x5))]) rfl ?_
    refine lf_callL 56 rfl rfl rfl rfl (gm_153 h) (fun r33 s32 h => ?_)
    refine lf_wtL ?_
    refine lf_ladd 57 rfl rfl ?_
    refine lf_wtL ?_
    refine lf_seg 1 (pc' := 59) (lv' := [(5, .long (Int64.ofInt (lf_wl ((lf_wl x5) + (lf_wl r33))))), (1, .int (Int32.ofInt x1)), (2, .int (Int32.ofInt x2)), (3, .int (Int32.ofInt x3)), (4, .int (Int32.ofInt x4)), (7, .int (Int32.ofInt x7))]) (st' := []) rfl ?_
    refine lf_iinc 62 rfl rfl rfl rfl ?_
    refine lf_seg 1 (pc' := 40) (lv' := [(7, .int (Int32.ofInt (x7 + 1))), (5, .long (Int64.ofInt (lf_wl ((lf_wl x5) + (lf_wl r33))))), (1, .int (Int32.ofInt x1)), (2, .int (Int32.ofInt x2)), (3, .int (Int32.ofInt x3)), (4, .int (Int32.ofInt x4))]) (st' := []) rfl ?_
    refine lf_sub (l := [(1, .int (Int32.ofInt x1)), (2, .int (Int32.ofInt x2)), (3, .int (Int32.ofInt x3)), (4, .int (Int32.ofInt x4)), (5, .long (Int64.ofInt (lf_wl ((lf_wl x5) + (lf_wl r33))))), (7, .int (Int32.ofInt (x7 + 1)))]) (lf_sb1 rfl (lf_sb1 rfl (lf_sb1 rfl (lf_sb1 rfl (lf_sb1 rfl (lf_sb1 rfl lf_sb0)))))) ?_
    exact hX40 _ _ _ h
theorem gm_152_p40L {L : Nat} {xs : Nat → Int32} {d : Nat} {Q : Int → lf_Z → Prop} {x1 : Int} {x2 : Int} {x3 : Int} {x4 : Int} {x5 : Int} {x7 : Int} {s : lf_Z} (h : fm_152_p40L Q x1 x2 x3 x4 x5 x7 s) : lf_E (px_ro L xs) (d + 2) 152 40 [(1, .int (Int32.ofInt x1)), (2, .int (Int32.ofInt x2)), (3, .int (Int32.ofInt x3)), (4, .int (Int32.ofInt x4)), (5, .long (Int64.ofInt x5)), (7, .int (Int32.ofInt x7))] [] s (lf_ql Q) :=
  h (fun x5 x7 s => lf_E (px_ro L xs) (d + 2) 152 40 [(1, .int (Int32.ofInt x1)), (2, .int (Int32.ofInt x2)), (3, .int (Int32.ofInt x3)), (4, .int (Int32.ofInt x4)), (5, .long (Int64.ofInt x5)), (7, .int (Int32.ofInt x7))] [] s (lf_ql Q)) (fun x5 x7 s hb => gm_152_p40 (fun _ _ _ h => h) hb)
def fm_152 (a1 : Int) (a2 : Int) (a3 : Int) (a4 : Int) (Q : Int → lf_Z → Prop) (s : lf_Z) : Prop := fm_15 a1 0 9 (fun z22 s21 => ((z22 = false → (fm_152_p30 Q s21)) ∧ (z22 = true → (fm_15 a2 0 12 (fun z24 s23 => ((z24 = false → (fm_152_p30 Q s23)) ∧ (z24 = true → (fm_15 a3 0 12 (fun z26 s25 => ((z26 = true → (fm_152_p40L Q a1 a2 a3 a4 0 0 s25)) ∧ (z26 = false → (fm_152_p30 Q s25)))) s23)))) s21)))) s
set_option maxRecDepth 100000 in
theorem gm_152 {L : Nat} {xs : Nat → Int32} {d : Nat} {a1 : Int} {a2 : Int} {a3 : Int} {a4 : Int} {Q : Int → lf_Z → Prop} {s : lf_Z} (h : fm_152 a1 a2 a3 a4 Q s) : lf_M (px_ro L xs) (d + 2) 152 [.ref 0, .int (Int32.ofInt a1), .int (Int32.ofInt a2), .int (Int32.ofInt a3), .int (Int32.ofInt a4)] s (lf_ql Q) := by
  unfold fm_152 at h
  show lf_E (px_ro L xs) (d + 2) 152 0 [(0, .ref 0), (1, .int (Int32.ofInt a1)), (2, .int (Int32.ofInt a2)), (3, .int (Int32.ofInt a3)), (4, .int (Int32.ofInt a4))] [] s _
  refine lf_seg 2 (pc' := 2) (lv' := [(0, .ref 0), (1, .int (Int32.ofInt a1)), (2, .int (Int32.ofInt a2)), (3, .int (Int32.ofInt a3)), (4, .int (Int32.ofInt a4))]) (st' := [.int (Int32.ofInt 0), .int (Int32.ofInt a1)]) rfl ?_
  refine lf_bipush 4 9 rfl rfl (by decide) (by decide) ?_
  refine lf_callZ 7 rfl rfl rfl rfl (gm_15 h) (fun z22 s21 h => ?_)
  refine lf_ifz_eq 30 10 rfl rfl rfl (fun c => ?_) (fun c => ?_)
  · have h := h.1 c
    refine lf_sub (l := []) lf_sb0 ?_
    exact gm_152_p30 h
  · have h := h.2 c
    refine lf_seg 2 (pc' := 12) (lv' := [(0, .ref 0), (1, .int (Int32.ofInt a1)), (2, .int (Int32.ofInt a2)), (3, .int (Int32.ofInt a3)), (4, .int (Int32.ofInt a4))]) (st' := [.int (Int32.ofInt 0), .int (Int32.ofInt a2)]) rfl ?_
    refine lf_bipush 14 12 rfl rfl (by decide) (by decide) ?_
    refine lf_callZ 17 rfl rfl rfl rfl (gm_15 h) (fun z24 s23 h => ?_)
    refine lf_ifz_eq 30 20 rfl rfl rfl (fun c => ?_) (fun c => ?_)
    · have h := h.1 c
      refine lf_sub (l := []) lf_sb0 ?_
      exact gm_152_p30 h
    · have h := h.2 c
      refine lf_seg 2 (pc' := 22) (lv' := [(0, .ref 0), (1, .int (Int32.ofInt a1)), (2, .int (Int32.ofInt a2)), (3, .int (Int32.ofInt a3)), (4, .int (Int32.ofInt a4))]) (st' := [.int (Int32.ofInt 0), .int (Int32.ofInt a3)]) rfl ?_
      refine lf_bipush 24 12 rfl rfl (by decide) (by decide) ?_
      refine lf_callZ 27 rfl rfl rfl rfl (gm_15 h) (fun z26 s25 h => ?_)
      refine lf_ifz_ne 34 30 rfl rfl rfl (fun c => ?_) (fun c => ?_)
      · have h := h.1 c
        refine lf_lconst 35 0 rfl rfl (by decide) ?_
        refine lf_seg 3 (pc' := 40) (lv' := [(7, .int (Int32.ofInt 0)), (5, .long (Int64.ofInt 0)), (0, .ref 0), (1, .int (Int32.ofInt a1)), (2, .int (Int32.ofInt a2)), (3, .int (Int32.ofInt a3)), (4, .int (Int32.ofInt a4))]) (st' := []) rfl ?_
        refine lf_sub (l := [(1, .int (Int32.ofInt a1)), (2, .int (Int32.ofInt a2)), (3, .int (Int32.ofInt a3)), (4, .int (Int32.ofInt a4)), (5, .long (Int64.ofInt 0)), (7, .int (Int32.ofInt 0))]) (lf_sb1 rfl (lf_sb1 rfl (lf_sb1 rfl (lf_sb1 rfl (lf_sb1 rfl (lf_sb1 rfl lf_sb0)))))) ?_
        exact gm_152_p40L h
      · have h := h.2 c
        refine lf_sub (l := []) lf_sb0 ?_
        exact gm_152_p30 h
-- fm_310 Model.power l i
def fm_310_p5 (Q : Int → lf_Z → Prop) (x0 : Int) (x2 : Int) (X5 : Int → Int → lf_Z → Prop) (x3 : Int) (x5 : Int) (s : lf_Z) : Prop := lf_R x5 ∧ (lf_R x2 ∧ ((x2 ≤ x5 → (Q (lf_wl x3) s)) ∧ (¬ (x2 ≤ x5) → (X5 (lf_wl ((lf_wl x3) * (lf_wl x0))) (x5 + 1) s))))
def fm_310_p5L (Q : Int → lf_Z → Prop) (x0 : Int) (x2 : Int) (x3 : Int) (x5 : Int) (s : lf_Z) : Prop := ∀ X5 : Int → Int → lf_Z → Prop, (∀ (x3 : Int) (x5 : Int) (s : lf_Z), fm_310_p5 Q x0 x2 X5 x3 x5 s → X5 x3 x5 s) → X5 x3 x5 s
set_option maxRecDepth 100000 in
theorem gm_310_p5 {L : Nat} {xs : Nat → Int32} {d : Nat} {Q : Int → lf_Z → Prop} {x0 : Int} {x2 : Int} {x3 : Int} {x5 : Int} {s : lf_Z} {X5 : Int → Int → lf_Z → Prop} (hX5 : ∀ x3 x5 s, X5 x3 x5 s → lf_E (px_ro L xs) (d + 1) 310 5 [(0, .long (Int64.ofInt x0)), (2, .int (Int32.ofInt x2)), (3, .long (Int64.ofInt x3)), (5, .int (Int32.ofInt x5))] [] s (lf_ql Q)) (h : fm_310_p5 Q x0 x2 X5 x3 x5 s) : lf_E (px_ro L xs) (d + 1) 310 5 [(0, .long (Int64.ofInt x0)), (2, .int (Int32.ofInt x2)), (3, .long (Int64.ofInt x3)), (5, .int (Int32.ofInt x5))] [] s (lf_ql Q) := by
  unfold fm_310_p5 at h
  refine lf_eqs (lv' := [(0, .long (Int64.ofInt (lf_wl x0))), (2, .int (Int32.ofInt x2)), (3, .long (Int64.ofInt (lf_wl x3))), (5, .int (Int32.ofInt x5))]) (st' := []) (by simp only [lf_wlE]) rfl ?_
  refine lf_seg 2 (pc' := 8) (lv' := [(0, .long (Int64.ofInt (lf_wl x0))), (2, .int (Int32.ofInt x2)), (3, .long (Int64.ofInt (lf_wl x3))), (5, .int (Int32.ofInt x5))]) (st' := [.int (Int32.ofInt x2), .int (Int32.ofInt x5)]) rfl ?_
  obtain ⟨o21, h⟩ := h
  obtain ⟨o22, h⟩ := h
  refine lf_icmp_ge 21 11 rfl rfl rfl o21 o22 (fun c => ?_) (fun c => ?_)
  · have h := h.1 c
    refine lf_seg 1 (pc' := 22) (lv' := [(0, .long (Int64.ofInt (lf_wl x0))), (2, .int (Int32.ofInt x2)), (3, .long (Int64.ofInt (lf_wl x3))), (5, .int (Int32.ofInt x5))]) (st' := [.long (Int64.ofInt (lf_wl x3))]) rfl ?_
    exact lf_retL rfl rfl h
  · have h := h.2 c
    refine lf_seg 2 (pc' := 13) (lv' := [(0, .long (Int64.ofInt (lf_wl x0))), (2, .int (Int32.ofInt x2)), (3, .long (Int64.ofInt (lf_wl x3))), (5, .int (Int32.ofInt x5))]) (st' := [.long (Int64.ofInt (lf_wl x0)), .long (Int64.ofInt (lf_wl x3))]) rfl ?_
    refine lf_lmul 14 rfl rfl ?_
    refine lf_wtL ?_
    refine lf_seg 1 (pc' := 15) (lv' := [(3, .long (Int64.ofInt (lf_wl ((lf_wl x3) * (lf_wl x0))))), (0, .long (Int64.ofInt (lf_wl x0))), (2, .int (Int32.ofInt x2)), (5, .int (Int32.ofInt x5))]) (st' := []) rfl ?_
    refine lf_iinc 18 rfl rfl rfl rfl ?_
    refine lf_seg 1 (pc' := 5) (lv' := [(5, .int (Int32.ofInt (x5 + 1))), (3, .long (Int64.ofInt (lf_wl ((lf_wl x3) * (lf_wl x0))))), (0, .long (Int64.ofInt (lf_wl x0))), (2, .int (Int32.ofInt x2))]) (st' := []) rfl ?_
    refine lf_eqs (lv' := [(5, .int (Int32.ofInt (x5 + 1))), (3, .long (Int64.ofInt (lf_wl ((lf_wl x3) * (lf_wl x0))))), (0, .long (Int64.ofInt x0)), (2, .int (Int32.ofInt x2))]) (st' := []) (by simp only [lf_wlE]) rfl ?_
    refine lf_sub (l := [(0, .long (Int64.ofInt x0)), (2, .int (Int32.ofInt x2)), (3, .long (Int64.ofInt (lf_wl ((lf_wl x3) * (lf_wl x0))))), (5, .int (Int32.ofInt (x5 + 1)))]) (lf_sb1 rfl (lf_sb1 rfl (lf_sb1 rfl (lf_sb1 rfl lf_sb0)))) ?_
    exact hX5 _ _ _ h
theorem gm_310_p5L {L : Nat} {xs : Nat → Int32} {d : Nat} {Q : Int → lf_Z → Prop} {x0 : Int} {x2 : Int} {x3 : Int} {x5 : Int} {s : lf_Z} (h : fm_310_p5L Q x0 x2 x3 x5 s) : lf_E (px_ro L xs) (d + 1) 310 5 [(0, .long (Int64.ofInt x0)), (2, .int (Int32.ofInt x2)), (3, .long (Int64.ofInt x3)), (5, .int (Int32.ofInt x5))] [] s (lf_ql Q) :=
  h (fun x3 x5 s => lf_E (px_ro L xs) (d + 1) 310 5 [(0, .long (Int64.ofInt x0)), (2, .int (Int32.ofInt x2)), (3, .long (Int64.ofInt x3)), (5, .int (Int32.ofInt x5))] [] s (lf_ql Q)) (fun x3 x5 s hb => gm_310_p5 (fun _ _ _ h => h) hb)
def fm_310 (a0 : Int) (a1 : Int) (Q : Int → lf_Z → Prop) (s : lf_Z) : Prop := fm_310_p5L Q a0 a1 1 0 s
set_option maxRecDepth 100000 in
theorem gm_310 {L : Nat} {xs : Nat → Int32} {d : Nat} {a0 : Int} {a1 : Int} {Q : Int → lf_Z → Prop} {s : lf_Z} (h : fm_310 a0 a1 Q s) : lf_M (px_ro L xs) (d + 1) 310 [.long (Int64.ofInt a0), .int (Int32.ofInt a1)] s (lf_ql Q) := by
  unfold fm_310 at h
  show lf_E (px_ro L xs) (d + 1) 310 0 [(0, .long (Int64.ofInt a0)), (2, .int (Int32.ofInt a1))] [] s _
  refine lf_eqs (lv' := [(0, .long (Int64.ofInt (lf_wl a0))), (2, .int (Int32.ofInt a1))]) (st' := []) (by simp only [lf_wlE]) rfl ?_
  refine lf_lconst 1 1 rfl rfl (by decide) ?_
  refine lf_seg 3 (pc' := 5) (lv' := [(5, .int (Int32.ofInt 0)), (3, .long (Int64.ofInt 1)), (0, .long (Int64.ofInt (lf_wl a0))), (2, .int (Int32.ofInt a1))]) (st' := []) rfl ?_
  refine lf_eqs (lv' := [(5, .int (Int32.ofInt 0)), (3, .long (Int64.ofInt 1)), (0, .long (Int64.ofInt a0)), (2, .int (Int32.ofInt a1))]) (st' := []) (by simp only [lf_wlE]) rfl ?_
  refine lf_sub (l := [(0, .long (Int64.ofInt a0)), (2, .int (Int32.ofInt a1)), (3, .long (Int64.ofInt 1)), (5, .int (Int32.ofInt 0))]) (lf_sb1 rfl (lf_sb1 rfl (lf_sb1 rfl (lf_sb1 rfl lf_sb0)))) ?_
  exact gm_310_p5L h
-- fm_309 Model.weightOf i i i
def fm_309_p12 (Q : Int → lf_Z → Prop) (x0 : Int) (x1 : Int) (x2 : Int) (X12 : Int → Int → lf_Z → Prop) (x3 : Int) (x5 : Int) (s : lf_Z) : Prop := lf_R x5 ∧ (lf_R x1 ∧ ((x1 < x5 → (lf_R (10 - x0) ∧ (fm_310 (10 - x0) x1 (fun r27 s26 => (lf_R x0 ∧ (fm_310 x0 (x2 - x1) (fun r30 s29 => (fm_310 10 (12 - x2) (fun r32 s31 => (Q (lf_wl ((lf_wl ((lf_wl ((lf_wl x3) * (lf_wl r27))) * (lf_wl r30))) * (lf_wl r32))) s31)) s29)) s26))) s))) ∧ (¬ (x1 < x5) → (lf_R ((x2 - x1) + x5) ∧ (x5 ≠ 0 ∧ (X12 (lf_wl ((lf_wl ((lf_wl x3) * ((x2 - x1) + x5))).tdiv x5)) (x5 + 1) s))))))
def fm_309_p12L (Q : Int → lf_Z → Prop) (x0 : Int) (x1 : Int) (x2 : Int) (x3 : Int) (x5 : Int) (s : lf_Z) : Prop := ∀ X12 : Int → Int → lf_Z → Prop, (∀ (x3 : Int) (x5 : Int) (s : lf_Z), fm_309_p12 Q x0 x1 x2 X12 x3 x5 s → X12 x3 x5 s) → X12 x3 x5 s
set_option maxRecDepth 100000 in
theorem gm_309_p12 {L : Nat} {xs : Nat → Int32} {d : Nat} {Q : Int → lf_Z → Prop} {x0 : Int} {x1 : Int} {x2 : Int} {x3 : Int} {x5 : Int} {s : lf_Z} {X12 : Int → Int → lf_Z → Prop} (hX12 : ∀ x3 x5 s, X12 x3 x5 s → lf_E (px_ro L xs) (d + 2) 309 12 [(0, .int (Int32.ofInt x0)), (1, .int (Int32.ofInt x1)), (2, .int (Int32.ofInt x2)), (3, .long (Int64.ofInt x3)), (5, .int (Int32.ofInt x5))] [] s (lf_ql Q)) (h : fm_309_p12 Q x0 x1 x2 X12 x3 x5 s) : lf_E (px_ro L xs) (d + 2) 309 12 [(0, .int (Int32.ofInt x0)), (1, .int (Int32.ofInt x1)), (2, .int (Int32.ofInt x2)), (3, .long (Int64.ofInt x3)), (5, .int (Int32.ofInt x5))] [] s (lf_ql Q) := by
  unfold fm_309_p12 at h
  refine lf_eqs (lv' := [(0, .int (Int32.ofInt x0)), (1, .int (Int32.ofInt x1)), (2, .int (Int32.ofInt x2)), (3, .long (Int64.ofInt (lf_wl x3))), (5, .int (Int32.ofInt x5))]) (st' := []) (by simp only [lf_wlE]) rfl ?_
  refine lf_seg 2 (pc' := 15) (lv' := [(0, .int (Int32.ofInt x0)), (1, .int (Int32.ofInt x1)), (2, .int (Int32.ofInt x2)), (3, .long (Int64.ofInt (lf_wl x3))), (5, .int (Int32.ofInt x5))]) (st' := [.int (Int32.ofInt x1), .int (Int32.ofInt x5)]) rfl ?_
  obtain ⟨o23, h⟩ := h
  obtain ⟨o24, h⟩ := h
  refine lf_icmp_gt 38 18 rfl rfl rfl o23 o24 (fun c => ?_) (fun c => ?_)
  · have h := h.1 c
    refine lf_seg 1 (pc' := 39) (lv' := [(0, .int (Int32.ofInt x0)), (1, .int (Int32.ofInt x1)), (2, .int (Int32.ofInt x2)), (3, .long (Int64.ofInt (lf_wl x3))), (5, .int (Int32.ofInt x5))]) (st' := [.long (Int64.ofInt (lf_wl x3))]) rfl ?_
    refine lf_bipush 41 10 rfl rfl (by decide) (by decide) ?_
    refine lf_seg 1 (pc' := 42) (lv' := [(0, .int (Int32.ofInt x0)), (1, .int (Int32.ofInt x1)), (2, .int (Int32.ofInt x2)), (3, .long (Int64.ofInt (lf_wl x3))), (5, .int (Int32.ofInt x5))]) (st' := [.int (Int32.ofInt x0), .int (Int32.ofInt 10), .long (Int64.ofInt (lf_wl x3))]) rfl ?_
    refine lf_isub 43 rfl rfl ?_
    obtain ⟨o25, h⟩ := h
    refine lf_i2l 44 rfl rfl o25 ?_
    refine lf_seg 1 (pc' := 45) (lv' := [(0, .int (Int32.ofInt x0)), (1, .int (Int32.ofInt x1)), (2, .int (Int32.ofInt x2)), (3, .long (Int64.ofInt (lf_wl x3))), (5, .int (Int32.ofInt x5))]) (st' := [.int (Int32.ofInt x1), .long (Int64.ofInt (10 - x0)), .long (Int64.ofInt (lf_wl x3))]) rfl ?_
    refine lf_callL 48 rfl rfl rfl rfl (gm_310 h) (fun r27 s26 h => ?_)
    refine lf_wtL ?_
    refine lf_lmul 49 rfl rfl ?_
    refine lf_wtL ?_
    refine lf_seg 1 (pc' := 50) (lv' := [(0, .int (Int32.ofInt x0)), (1, .int (Int32.ofInt x1)), (2, .int (Int32.ofInt x2)), (3, .long (Int64.ofInt (lf_wl x3))), (5, .int (Int32.ofInt x5))]) (st' := [.int (Int32.ofInt x0), .long (Int64.ofInt (lf_wl ((lf_wl x3) * (lf_wl r27))))]) rfl ?_
    obtain ⟨o28, h⟩ := h
    refine lf_i2l 51 rfl rfl o28 ?_
    refine lf_seg 2 (pc' := 53) (lv' := [(0, .int (Int32.ofInt x0)), (1, .int (Int32.ofInt x1)), (2, .int (Int32.ofInt x2)), (3, .long (Int64.ofInt (lf_wl x3))), (5, .int (Int32.ofInt x5))]) (st' := [.int (Int32.ofInt x1), .int (Int32.ofInt x2), .long (Int64.ofInt x0), .long (Int64.ofInt (lf_wl ((lf_wl x3) * (lf_wl r27))))]) rfl ?_
    refine lf_isub 54 rfl rfl ?_
    refine lf_callL 57 rfl rfl rfl rfl (gm_310 h) (fun r30 s29 h => ?_)
    refine lf_wtL ?_
    refine lf_lmul 58 rfl rfl ?_
    refine lf_wtL ?_
    refine lf_ldc2 61 10 rfl rfl rfl (by decide) ?_
    refine lf_bipush 63 12 rfl rfl (by decide) (by decide) ?_
    refine lf_seg 1 (pc' := 64) (lv' := [(0, .int (Int32.ofInt x0)), (1, .int (Int32.ofInt x1)), (2, .int (Int32.ofInt x2)), (3, .long (Int64.ofInt (lf_wl x3))), (5, .int (Int32.ofInt x5))]) (st' := [.int (Int32.ofInt x2), .int (Int32.ofInt 12), .long (Int64.ofInt 10), .long (Int64.ofInt (lf_wl ((lf_wl ((lf_wl x3) * (lf_wl r27))) * (lf_wl r30))))]) rfl ?_
    refine lf_isub 65 rfl rfl ?_
    refine lf_callL 68 rfl rfl rfl rfl (gm_310 h) (fun r32 s31 h => ?_)
    refine lf_wtL ?_
    refine lf_lmul 69 rfl rfl ?_
    refine lf_wtL ?_
    exact lf_retL rfl rfl h
  · have h := h.2 c
    refine lf_seg 3 (pc' := 21) (lv' := [(0, .int (Int32.ofInt x0)), (1, .int (Int32.ofInt x1)), (2, .int (Int32.ofInt x2)), (3, .long (Int64.ofInt (lf_wl x3))), (5, .int (Int32.ofInt x5))]) (st' := [.int (Int32.ofInt x1), .int (Int32.ofInt x2), .long (Int64.ofInt (lf_wl x3))]) rfl ?_
    refine lf_isub 22 rfl rfl ?_
    refine lf_seg 1 (pc' := 24) (lv' := [(0, .int (Int32.ofInt x0)), (1, .int (Int32.ofInt x1)), (2, .int (Int32.ofInt x2)), (3, .long (Int64.ofInt (lf_wl x3))), (5, .int (Int32.ofInt x5))]) (st' := [.int (Int32.ofInt x5), .int (Int32.ofInt (x2 - x1)), .long (Int64.ofInt (lf_wl x3))]) rfl ?_
    refine lf_iadd 25 rfl rfl ?_
    obtain ⟨o33, h⟩ := h
    refine lf_i2l 26 rfl rfl o33 ?_
    refine lf_lmul 27 rfl rfl ?_
    refine lf_wtL ?_
    refine lf_seg 1 (pc' := 29) (lv' := [(0, .int (Int32.ofInt x0)), (1, .int (Int32.ofInt x1)), (2, .int (Int32.ofInt x2)), (3, .long (Int64.ofInt (lf_wl x3))), (5, .int (Int32.ofInt x5))]) (st' := [.int (Int32.ofInt x5), .long (Int64.ofInt (lf_wl ((lf_wl x3) * ((x2 - x1) + x5))))]) rfl ?_
    refine lf_i2l 30 rfl rfl o23 ?_
    obtain ⟨o34, h⟩ := h
    refine lf_ldiv 31 rfl rfl lf_RLwl (lf_RLR o23) o34 ?_
    refine lf_wtL ?_
    refine lf_seg 1 (pc' := 32) (lv' := [(3, .long (Int64.ofInt (lf_wl ((lf_wl ((lf_wl x3) * ((x2 - x1) + x5))).tdiv x5)))), (0, .int (Int32.ofInt x0)), (1, .int (Int32.ofInt x1)), (2, .int (Int32.ofInt x2)), (5, .int (Int32.ofInt x5))]) (st' := []) rfl ?_
    refine lf_iinc 35 rfl rfl rfl rfl ?_
    refine lf_seg 1 (pc' := 12) (lv' := [(5, .int (Int32.ofInt (x5 + 1))), (3, .long (Int64.ofInt (lf_wl ((lf_wl ((lf_wl x3) * ((x2 - x1) + x5))).tdiv x5)))), (0, .int (Int32.ofInt x0)), (1, .int (Int32.ofInt x1)), (2, .int (Int32.ofInt x2))]) (st' := []) rfl ?_
    refine lf_sub (l := [(0, .int (Int32.ofInt x0)), (1, .int (Int32.ofInt x1)), (2, .int (Int32.ofInt x2)), (3, .long (Int64.ofInt (lf_wl ((lf_wl ((lf_wl x3) * ((x2 - x1) + x5))).tdiv x5)))), (5, .int (Int32.ofInt (x5 + 1)))]) (lf_sb1 rfl (lf_sb1 rfl (lf_sb1 rfl (lf_sb1 rfl (lf_sb1 rfl lf_sb0))))) ?_
    exact hX12 _ _ _ h
theorem gm_309_p12L {L : Nat} {xs : Nat → Int32} {d : Nat} {Q : Int → lf_Z → Prop} {x0 : Int} {x1 : Int} {x2 : Int} {x3 : Int} {x5 : Int} {s : lf_Z} (h : fm_309_p12L Q x0 x1 x2 x3 x5 s) : lf_E (px_ro L xs) (d + 2) 309 12 [(0, .int (Int32.ofInt x0)), (1, .int (Int32.ofInt x1)), (2, .int (Int32.ofInt x2)), (3, .long (Int64.ofInt x3)), (5, .int (Int32.ofInt x5))] [] s (lf_ql Q) :=
  h (fun x3 x5 s => lf_E (px_ro L xs) (d + 2) 309 12 [(0, .int (Int32.ofInt x0)), (1, .int (Int32.ofInt x1)), (2, .int (Int32.ofInt x2)), (3, .long (Int64.ofInt x3)), (5, .int (Int32.ofInt x5))] [] s (lf_ql Q)) (fun x3 x5 s hb => gm_309_p12 (fun _ _ _ h => h) hb)
def fm_309 (a0 : Int) (a1 : Int) (a2 : Int) (Q : Int → lf_Z → Prop) (s : lf_Z) : Prop := lf_R a2 ∧ (lf_R a1 ∧ ((a1 ≤ a2 → (fm_309_p12L Q a0 a1 a2 1 1 s)) ∧ (¬ (a1 ≤ a2) → (Q 0 s))))
set_option maxRecDepth 100000 in
theorem gm_309 {L : Nat} {xs : Nat → Int32} {d : Nat} {a0 : Int} {a1 : Int} {a2 : Int} {Q : Int → lf_Z → Prop} {s : lf_Z} (h : fm_309 a0 a1 a2 Q s) : lf_M (px_ro L xs) (d + 2) 309 [.int (Int32.ofInt a0), .int (Int32.ofInt a1), .int (Int32.ofInt a2)] s (lf_ql Q) := by
  unfold fm_309 at h
  show lf_E (px_ro L xs) (d + 2) 309 0 [(0, .int (Int32.ofInt a0)), (1, .int (Int32.ofInt a1)), (2, .int (Int32.ofInt a2))] [] s _
  refine lf_seg 2 (pc' := 2) (lv' := [(0, .int (Int32.ofInt a0)), (1, .int (Int32.ofInt a1)), (2, .int (Int32.ofInt a2))]) (st' := [.int (Int32.ofInt a1), .int (Int32.ofInt a2)]) rfl ?_
  obtain ⟨o21, h⟩ := h
  obtain ⟨o22, h⟩ := h
  refine lf_icmp_ge 7 5 rfl rfl rfl o21 o22 (fun c => ?_) (fun c => ?_)
  · have h := h.1 c
    refine lf_lconst 8 1 rfl rfl (by decide) ?_
    refine lf_seg 3 (pc' := 12) (lv' := [(5, .int (Int32.ofInt 1)), (3, .long (Int64.ofInt 1)), (0, .int (Int32.ofInt a0)), (1, .int (Int32.ofInt a1)), (2, .int (Int32.ofInt a2))]) (st' := []) rfl ?_
    refine lf_sub (l := [(0, .int (Int32.ofInt a0)), (1, .int (Int32.ofInt a1)), (2, .int (Int32.ofInt a2)), (3, .long (Int64.ofInt 1)), (5, .int (Int32.ofInt 1))]) (lf_sb1 rfl (lf_sb1 rfl (lf_sb1 rfl (lf_sb1 rfl (lf_sb1 rfl lf_sb0))))) ?_
    exact gm_309_p12L h
  · have h := h.2 c
    refine lf_lconst 6 0 rfl rfl (by decide) ?_
    exact lf_retL rfl rfl h
-- fm_308 Model.many 95 i i i i
def fm_308_p30 (Q : Int → lf_Z → Prop) (s : lf_Z) : Prop := Q (-1) s
set_option maxRecDepth 100000 in
theorem gm_308_p30 {L : Nat} {xs : Nat → Int32} {d : Nat} {Q : Int → lf_Z → Prop} {s : lf_Z} (h : fm_308_p30 Q s) : lf_E (px_ro L xs) (d + 3) 308 30 [] [] s (lf_ql Q) := by
  unfold fm_308_p30 at h
  refine lf_ldc2 33 (-1) rfl rfl rfl (by decide) ?_
  exact lf_retL rfl rfl h
def fm_308_p40 (Q : Int → lf_Z → Prop) (x1 : Int) (x2 : Int) (x3 : Int) (x4 : Int) (X40 : Int → Int → lf_Z → Prop) (x5 : Int) (x7 : Int) (s : lf_Z) : Prop := lf_R x7 ∧ ((13 ≤ x7 → (fm_309 x1 x2 x3 (fun r29 s28 => (fm_291 (lf_wl r29) (lf_wl x5) x4 (fun r31 s30 => (Q (lf_wl r31) s30)) s28)) s)) ∧ (¬ (13 ≤ x7) → (fm_309 x1 x2 x7 (fun r33 s32 => (X40 (lf_wl ((lf_wl x5) + (lf_wl r33))) (x7 + 1) s32)) s)))
def fm_308_p40L (Q : Int → lf_Z → Prop) (x1 : Int) (x2 : Int) (x3 : Int) (x4 : Int) (x5 : Int) (x7 : Int) (s : lf_Z) : Prop := ∀ X40 : Int → Int → lf_Z → Prop, (∀ (x5 : Int) (x7 : Int) (s : lf_Z), fm_308_p40 Q x1 x2 x3 x4 X40 x5 x7 s → X40 x5 x7 s) → X40 x5 x7 s
set_option maxRecDepth 100000 in
theorem gm_308_p40 {L : Nat} {xs : Nat → Int32} {d : Nat} {Q : Int → lf_Z → Prop} {x1 : Int} {x2 : Int} {x3 : Int} {x4 : Int} {x5 : Int} {x7 : Int} {s : lf_Z} {X40 : Int → Int → lf_Z → Prop} (hX40 : ∀ x5 x7 s, X40 x5 x7 s → lf_E (px_ro L xs) (d + 3) 308 40 [(1, .int (Int32.ofInt x1)), (2, .int (Int32.ofInt x2)), (3, .int (Int32.ofInt x3)), (4, .int (Int32.ofInt x4)), (5, .long (Int64.ofInt x5)), (7, .int (Int32.ofInt x7))] [] s (lf_ql Q)) (h : fm_308_p40 Q x1 x2 x3 x4 X40 x5 x7 s) : lf_E (px_ro L xs) (d + 3) 308 40 [(1, .int (Int32.ofInt x1)), (2, .int (Int32.ofInt x2)), (3, .int (Int32.ofInt x3)), (4, .int (Int32.ofInt x4)), (5, .long (Int64.ofInt x5)), (7, .int (Int32.ofInt x7))] [] s (lf_ql Q) := by
  unfold fm_308_p40 at h
  refine lf_eqs (lv' := [(1, .int (Int32.ofInt x1)), (2, .int (Int32.ofInt x2)), (3, .int (Int32.ofInt x3)), (4, .int (Int32.ofInt x4)), (5, .long (Int64.ofInt (lf_wl x5))), (7, .int (Int32.ofInt x7))]) (st' := []) (by simp only [lf_wlE]) rfl ?_
  refine lf_seg 1 (pc' := 42) (lv' := [(1, .int (Int32.ofInt x1)), (2, .int (Int32.ofInt x2)), (3, .int (Int32.ofInt x3)), (4, .int (Int32.ofInt x4)), (5, .long (Int64.ofInt (lf_wl x5))), (7, .int (Int32.ofInt x7))]) (st' := [.int (Int32.ofInt x7)]) rfl ?_
  refine lf_bipush 44 13 rfl rfl (by decide) (by decide) ?_
  obtain ⟨o27, h⟩ := h
  refine lf_icmp_ge 65 47 rfl rfl rfl o27 ⟨by decide, by decide⟩ (fun c => ?_) (fun c => ?_)
  · have h := h.1 c
    refine lf_seg 3 (pc' := 68) (lv' := [(1, .int (Int32.ofInt x1)), (2, .int (Int32.ofInt x2)), (3, .int (Int32.ofInt x3)), (4, .int (Int32.ofInt x4)), (5, .long (Int64.ofInt (lf_wl x5))), (7, .int (Int32.ofInt x7))]) (st' := [.int (Int32.ofInt x3), .int (Int32.ofInt x2), .int (Int32.ofInt x1)]) rfl ?_
    refine lf_callL 71 rfl rfl rfl rfl (gm_309 h) (fun r29 s28 h => ?_)
    refine lf_wtL ?_
    refine lf_seg 2 (pc' := 75) (lv' := [(1, .int (Int32.ofInt x1)), (2, .int (Int32.ofInt x2)), (3, .int (Int32.ofInt x3)), (4, .int (Int32.ofInt x4)), (5, .long (Int64.ofInt (lf_wl x5))), (7, .int (Int32.ofInt x7))]) (st' := [.int (Int32.ofInt x4), .long (Int64.ofInt (lf_wl x5)), .long (Int64.ofInt (lf_wl r29))]) rfl ?_
    refine lf_callL 78 rfl rfl rfl rfl (gm_291 h) (fun r31 s30 h => ?_)
    refine lf_wtL ?_
    exact lf_retL rfl rfl h
  · have h := h.2 c
    refine lf_seg 4 (pc' := 53) (lv' := [(1, .int (Int32.ofInt x1)), (2, .int (Int32.ofInt x2)), (3, .int (Int32.ofInt x3)), (4, .int (Int32.ofInt x4)), (5, .long (Int64.ofInt (lf_wl x5))), (7, .int (Int32.ofInt x7))]) (st' := [.int (Int32.ofInt x7), .int (Int32.ofInt x2), .int (Int32.ofInt x1), .long (Int64.ofInt (lf_wl x5))]) rfl ?_
    refine lf_callL 56 rfl rfl rfl rfl (gm_309 h) (fun r33 s32 h => ?_)
    refine lf_wtL ?_
    refine lf_ladd 57 rfl rfl ?_
    refine lf_wtL ?_
    refine lf_seg 1 (pc' := 59) (lv' := [(5, .long (Int64.ofInt (lf_wl ((lf_wl x5) + (lf_wl r33))))), (1, .int (Int32.ofInt x1)), (2, .int (Int32.ofInt x2)), (3, .int (Int32.ofInt x3)), (4, .int (Int32.ofInt x4)), (7, .int (Int32.ofInt x7))]) (st' := []) rfl ?_
    refine lf_iinc 62 rfl rfl rfl rfl ?_
    refine lf_seg 1 (pc' := 40) (lv' := [(7, .int (Int32.ofInt (x7 + 1))), (5, .long (Int64.ofInt (lf_wl ((lf_wl x5) + (lf_wl r33))))), (1, .int (Int32.ofInt x1)), (2, .int (Int32.ofInt x2)), (3, .int (Int32.ofInt x3)), (4, .int (Int32.ofInt x4))]) (st' := []) rfl ?_
    refine lf_sub (l := [(1, .int (Int32.ofInt x1)), (2, .int (Int32.ofInt x2)), (3, .int (Int32.ofInt x3)), (4, .int (Int32.ofInt x4)), (5, .long (Int64.ofInt (lf_wl ((lf_wl x5) + (lf_wl r33))))), (7, .int (Int32.ofInt (x7 + 1)))]) (lf_sb1 rfl (lf_sb1 rfl (lf_sb1 rfl (lf_sb1 rfl (lf_sb1 rfl (lf_sb1 rfl lf_sb0)))))) ?_
    exact hX40 _ _ _ h
theorem gm_308_p40L {L : Nat} {xs : Nat → Int32} {d : Nat} {Q : Int → lf_Z → Prop} {x1 : Int} {x2 : Int} {x3 : Int} {x4 : Int} {x5 : Int} {x7 : Int} {s : lf_Z} (h : fm_308_p40L Q x1 x2 x3 x4 x5 x7 s) : lf_E (px_ro L xs) (d + 3) 308 40 [(1, .int (Int32.ofInt x1)), (2, .int (Int32.ofInt x2)), (3, .int (Int32.ofInt x3)), (4, .int (Int32.ofInt x4)), (5, .long (Int64.ofInt x5)), (7, .int (Int32.ofInt x7))] [] s (lf_ql Q) :=
  h (fun x5 x7 s => lf_E (px_ro L xs) (d + 3) 308 40 [(1, .int (Int32.ofInt x1)), (2, .int (Int32.ofInt x2)), (3, .int (Int32.ofInt x3)), (4, .int (Int32.ofInt x4)), (5, .long (Int64.ofInt x5)), (7, .int (Int32.ofInt x7))] [] s (lf_ql Q)) (fun x5 x7 s hb => gm_308_p40 (fun _ _ _ h => h) hb)
def fm_308 (a1 : Int) (a2 : Int) (a3 : Int) (a4 : Int) (Q : Int → lf_Z → Prop) (s : lf_Z) : Prop := fm_183 a1 0 9 (fun z22 s21 => ((z22 = false → (fm_308_p30 Q s21)) ∧ (z22 = true → (fm_183 a2 0 12 (fun z24 s23 => ((z24 = false → (fm_308_p30 Q s23)) ∧ (z24 = true → (fm_183 a3 0 12 (fun z26 s25 => ((z26 = true → (fm_308_p40L Q a1 a2 a3 a4 0 0 s25)) ∧ (z26 = false → (fm_308_p30 Q s25)))) s23)))) s21)))) s
set_option maxRecDepth 100000 in
theorem gm_308 {L : Nat} {xs : Nat → Int32} {d : Nat} {a1 : Int} {a2 : Int} {a3 : Int} {a4 : Int} {Q : Int → lf_Z → Prop} {s : lf_Z} (h : fm_308 a1 a2 a3 a4 Q s) : lf_M (px_ro L xs) (d + 3) 308 [.ref 95, .int (Int32.ofInt a1), .int (Int32.ofInt a2), .int (Int32.ofInt a3), .int (Int32.ofInt a4)] s (lf_ql Q) := by
  unfold fm_308 at h
  show lf_E (px_ro L xs) (d + 3) 308 0 [(0, .ref 95), (1, .int (Int32.ofInt a1)), (2, .int (Int32.ofInt a2)), (3, .int (Int32.ofInt a3)), (4, .int (Int32.ofInt a4))] [] s _
  refine lf_seg 2 (pc' := 2) (lv' := [(0, .ref 95), (1, .int (Int32.ofInt a1)), (2, .int (Int32.ofInt a2)), (3, .int (Int32.ofInt a3)), (4, .int (Int32.ofInt a4))]) (st' := [.int (Int32.ofInt 0), .int (Int32.ofInt a1)]) rfl ?_
  refine lf_bipush 4 9 rfl rfl (by decide) (by decide) ?_
  refine lf_callZ 7 rfl rfl rfl rfl (gm_183 h) (fun z22 s21 h => ?_)
  refine lf_ifz_eq 30 10 rfl rfl rfl (fun c => ?_) (fun c => ?_)
  · have h := h.1 c
    refine lf_sub (l := []) lf_sb0 ?_
    exact gm_308_p30 h
  · have h := h.2 c
    refine lf_seg 2 (pc' := 12) (lv' := [(0, .ref 95), (1, .int (Int32.ofInt a1)), (2, .int (Int32.ofInt a2)), (3, .int (Int32.ofInt a3)), (4, .int (Int32.ofInt a4))]) (st' := [.int (Int32.ofInt 0), .int (Int32.ofInt a2)]) rfl ?_
    refine lf_bipush 14 12 rfl rfl (by decide) (by decide) ?_
    refine lf_callZ 17 rfl rfl rfl rfl (gm_183 h) (fun z24 s23 h => ?_)
    refine lf_ifz_eq 30 20 rfl rfl rfl (fun c => ?_) (fun c => ?_)
    · have h := h.1 c
      refine lf_sub (l := []) lf_sb0 ?_
      exact gm_308_p30 h
    · have h := h.2 c
      refine lf_seg 2 (pc' := 22) (lv' := [(0, .ref 95), (1, .int (Int32.ofInt a1)), (2, .int (Int32.ofInt a2)), (3, .int (Int32.ofInt a3)), (4, .int (Int32.ofInt a4))]) (st' := [.int (Int32.ofInt 0), .int (Int32.ofInt a3)]) rfl ?_
      refine lf_bipush 24 12 rfl rfl (by decide) (by decide) ?_
      refine lf_callZ 27 rfl rfl rfl rfl (gm_183 h) (fun z26 s25 h => ?_)
      refine lf_ifz_ne 34 30 rfl rfl rfl (fun c => ?_) (fun c => ?_)
      · have h := h.1 c
        refine lf_lconst 35 0 rfl rfl (by decide) ?_
        refine lf_seg 3 (pc' := 40) (lv' := [(7, .int (Int32.ofInt 0)), (5, .long (Int64.ofInt 0)), (0, .ref 95), (1, .int (Int32.ofInt a1)), (2, .int (Int32.ofInt a2)), (3, .int (Int32.ofInt a3)), (4, .int (Int32.ofInt a4))]) (st' := []) rfl ?_
        refine lf_sub (l := [(1, .int (Int32.ofInt a1)), (2, .int (Int32.ofInt a2)), (3, .int (Int32.ofInt a3)), (4, .int (Int32.ofInt a4)), (5, .long (Int64.ofInt 0)), (7, .int (Int32.ofInt 0))]) (lf_sb1 rfl (lf_sb1 rfl (lf_sb1 rfl (lf_sb1 rfl (lf_sb1 rfl (lf_sb1 rfl lf_sb0)))))) ?_
        exact gm_308_p40L h
      · have h := h.2 c
        refine lf_sub (l := []) lf_sb0 ?_
        exact gm_308_p30 h
-- fm_156 Errands.chooseBunch 74 i i i i i
def fm_156_p167 (R156 : Int → Int → Int → Int → Int → (lf_Z → Prop) → lf_Z → Prop) (X36 : Int → lf_Z → Prop) (Q : lf_Z → Prop) (x1 : Int) (x2 : Int) (x3 : Int) (x4 : Int) (x5 : Int) (x6 : Int) (s : lf_Z) : Prop := X36 (x6 + 1) s
set_option maxRecDepth 100000 in
theorem gm_156_p167 {L : Nat} {xs : Nat → Int32} {d : Nat} {R156 : Int → Int → Int → Int → Int → (lf_Z → Prop) → lf_Z → Prop} {X36 : Int → lf_Z → Prop} {Q : lf_Z → Prop} {x1 : Int} {x2 : Int} {x3 : Int} {x4 : Int} {x5 : Int} {x6 : Int} {s : lf_Z} (hR156 : ∀ b1 b2 b3 b4 b5 Q s, R156 b1 b2 b3 b4 b5 Q s → lf_M (px_ro L xs) (d + 3) 156 [.ref 74, .int (Int32.ofInt b1), .int (Int32.ofInt b2), .int (Int32.ofInt b3), .int (Int32.ofInt b4), .int (Int32.ofInt b5)] s (lf_qv Q)) (hX36 : ∀ x6 s, X36 x6 s → lf_E (px_ro L xs) (d + 4) 156 36 [(0, .ref 74), (1, .int (Int32.ofInt x1)), (2, .int (Int32.ofInt x2)), (3, .int (Int32.ofInt x3)), (4, .int (Int32.ofInt x4)), (5, .int (Int32.ofInt x5)), (6, .int (Int32.ofInt x6))] [] s (lf_qv Q)) (h : fm_156_p167 R156 X36 Q x1 x2 x3 x4 x5 x6 s) : lf_E (px_ro L xs) (d + 4) 156 167 [(0, .ref 74), (1, .int (Int32.ofInt x1)), (2, .int (Int32.ofInt x2)), (3, .int (Int32.ofInt x3)), (4, .int (Int32.ofInt x4)), (5, .int (Int32.ofInt x5)), (6, .int (Int32.ofInt x6))] [] s (lf_qv Q) := by
  unfold fm_156_p167 at h
  refine lf_iinc 170 rfl rfl rfl rfl ?_
  refine lf_seg 1 (pc' := 36) (lv' := [(6, .int (Int32.ofInt (x6 + 1))), (0, .ref 74), (1, .int (Int32.ofInt x1)), (2, .int (Int32.ofInt x2)), (3, .int (Int32.ofInt x3)), (4, .int (Int32.ofInt x4)), (5, .int (Int32.ofInt x5))]) (st' := []) rfl ?_
  refine lf_sub (l := [(0, .ref 74), (1, .int (Int32.ofInt x1)), (2, .int (Int32.ofInt x2)), (3, .int (Int32.ofInt x3)), (4, .int (Int32.ofInt x4)), (5, .int (Int32.ofInt x5)), (6, .int (Int32.ofInt (x6 + 1)))]) (lf_sb1 rfl (lf_sb1 rfl (lf_sb1 rfl (lf_sb1 rfl (lf_sb1 rfl (lf_sb1 rfl (lf_sb1 rfl lf_sb0))))))) ?_
  exact hX36 _ _ h
def fm_156_p78 (R156 : Int → Int → Int → Int → Int → (lf_Z → Prop) → lf_Z → Prop) (X36 : Int → lf_Z → Prop) (Q : lf_Z → Prop) (x1 : Int) (x2 : Int) (x3 : Int) (x4 : Int) (x5 : Int) (x6 : Int) (y0 : Int) (s : lf_Z) : Prop := lf_R y0 ∧ ((y0 = (-1) → (fm_156_p167 R156 X36 Q x1 x2 x3 x4 x5 x6 s)) ∧ (¬ (y0 = (-1)) → ((0 ≤ x6 ∧ x6 < 4) ∧ ((0 ≤ s.1 17 x6 ∧ s.1 17 x6 < 12) ∧ ((0 ≤ x1 ∧ x1 < 6) ∧ (R156 (x1 + 1) (lf_and x2 (lf_xor (lf_shl 1 x6) (-1))) (s.1 17 x6) (lf_w (x4 + y0)) (lf_w (x5 + (lf_w ((lf_w ((s.1 16 x6) * (s.1 3 (s.1 17 x6)))) * (lf_w (x4 + y0)))))) (fun s29 => (fm_156_p167 R156 X36 Q x1 x2 x3 x4 x5 x6 s29)) (lf_up s.1 76 x1 x6, s.2.1, s.2.2)))))))
set_option maxRecDepth 100000 in
theorem gm_156_p78 {L : Nat} {xs : Nat → Int32} {d : Nat} {R156 : Int → Int → Int → Int → Int → (lf_Z → Prop) → lf_Z → Prop} {X36 : Int → lf_Z → Prop} {Q : lf_Z → Prop} {x1 : Int} {x2 : Int} {x3 : Int} {x4 : Int} {x5 : Int} {x6 : Int} {y0 : Int} {s : lf_Z} (hR156 : ∀ b1 b2 b3 b4 b5 Q s, R156 b1 b2 b3 b4 b5 Q s → lf_M (px_ro L xs) (d + 3) 156 [.ref 74, .int (Int32.ofInt b1), .int (Int32.ofInt b2), .int (Int32.ofInt b3), .int (Int32.ofInt b4), .int (Int32.ofInt b5)] s (lf_qv Q)) (hX36 : ∀ x6 s, X36 x6 s → lf_E (px_ro L xs) (d + 4) 156 36 [(0, .ref 74), (1, .int (Int32.ofInt x1)), (2, .int (Int32.ofInt x2)), (3, .int (Int32.ofInt x3)), (4, .int (Int32.ofInt x4)), (5, .int (Int32.ofInt x5)), (6, .int (Int32.ofInt x6))] [] s (lf_qv Q)) (h : fm_156_p78 R156 X36 Q x1 x2 x3 x4 x5 x6 y0 s) : lf_E (px_ro L xs) (d + 4) 156 78 [(0, .ref 74), (1, .int (Int32.ofInt x1)), (2, .int (Int32.ofInt x2)), (3, .int (Int32.ofInt x3)), (4, .int (Int32.ofInt x4)), (5, .int (Int32.ofInt x5)), (6, .int (Int32.ofInt x6))] [.int (Int32.ofInt y0)] s (lf_qv Q) := by
  unfold fm_156_p78 at h
  refine lf_seg 3 (pc' := 83) (lv' := [(7, .int (Int32.ofInt y0)), (0, .ref 74), (1, .int (Int32.ofInt x1)), (2, .int (Int32.ofInt x2)), (3, .int (Int32.ofInt x3)), (4, .int (Int32.ofInt x4)), (5, .int (Int32.ofInt x5)), (6, .int (Int32.ofInt x6))]) (st' := [.int (Int32.ofInt (-1)), .int (Int32.ofInt y0)]) rfl ?_
  obtain ⟨o25, h⟩ := h
  refine lf_icmp_eq 167 86 rfl rfl rfl o25 ⟨by decide, by decide⟩ (fun c => ?_) (fun c => ?_)
  · have h := h.1 c
    refine lf_sub (l := [(0, .ref 74), (1, .int (Int32.ofInt x1)), (2, .int (Int32.ofInt x2)), (3, .int (Int32.ofInt x3)), (4, .int (Int32.ofInt x4)), (5, .int (Int32.ofInt x5)), (6, .int (Int32.ofInt x6))]) (lf_sb1 rfl (lf_sb1 rfl (lf_sb1 rfl (lf_sb1 rfl (lf_sb1 rfl (lf_sb1 rfl (lf_sb1 rfl lf_sb0))))))) ?_
    exact gm_156_p167 hR156 hX36 h
  · have h := h.2 c
    refine lf_seg 2 (pc' := 90) (lv' := [(7, .int (Int32.ofInt y0)), (0, .ref 74), (1, .int (Int32.ofInt x1)), (2, .int (Int32.ofInt x2)), (3, .int (Int32.ofInt x3)), (4, .int (Int32.ofInt x4)), (5, .int (Int32.ofInt x5)), (6, .int (Int32.ofInt x6))]) (st' := [.int (Int32.ofInt y0), .int (Int32.ofInt x4)]) rfl ?_
    refine lf_iadd 91 rfl rfl ?_
    refine lf_wtI ?_
    refine lf_seg 5 (pc' := 102) (lv' := [(8, .int (Int32.ofInt (lf_w (x4 + y0)))), (7, .int (Int32.ofInt y0)), (0, .ref 74), (1, .int (Int32.ofInt x1)), (2, .int (Int32.ofInt x2)), (3, .int (Int32.ofInt x3)), (4, .int (Int32.ofInt x4)), (5, .int (Int32.ofInt x5)), (6, .int (Int32.ofInt x6))]) (st' := [.int (Int32.ofInt x6), .ref 16]) rfl ?_
    obtain ⟨o26, h⟩ := h
    refine lf_iald 103 4 rfl rfl rfl rfl rfl rfl o26 ?_
    refine lf_seg 6 (pc' := 117) (lv' := [(8, .int (Int32.ofInt (lf_w (x4 + y0)))), (7, .int (Int32.ofInt y0)), (0, .ref 74), (1, .int (Int32.ofInt x1)), (2, .int (Int32.ofInt x2)), (3, .int (Int32.ofInt x3)), (4, .int (Int32.ofInt x4)), (5, .int (Int32.ofInt x5)), (6, .int (Int32.ofInt x6))]) (st' := [.ref 17, .ref 3, .int (Int32.ofInt (s.1 16 x6))]) rfl ?_
    refine lf_seg 1 (pc' := 119) (lv' := [(8, .int (Int32.ofInt (lf_w (x4 + y0)))), (7, .int (Int32.ofInt y0)), (0, .ref 74), (1, .int (Int32.ofInt x1)), (2, .int (Int32.ofInt x2)), (3, .int (Int32.ofInt x3)), (4, .int (Int32.ofInt x4)), (5, .int (Int32.ofInt x5)), (6, .int (Int32.ofInt x6))]) (st' := [.int (Int32.ofInt x6), .ref 17, .ref 3, .int (Int32.ofInt (s.1 16 x6))]) rfl ?_
    refine lf_iald 120 4 rfl rfl rfl rfl rfl rfl o26 ?_
    obtain ⟨o27, h⟩ := h
    refine lf_iald 121 12 rfl rfl rfl rfl rfl rfl o27 ?_
    refine lf_imul 122 rfl rfl ?_
    refine lf_wtI ?_
    refine lf_seg 1 (pc' := 124) (lv' := [(8, .int (Int32.ofInt (lf_w (x4 + y0)))), (7, .int (Int32.ofInt y0)), (0, .ref 74), (1, .int (Int32.ofInt x1)), (2, .int (Int32.ofInt x2)), (3, .int (Int32.ofInt x3)), (4, .int (Int32.ofInt x4)), (5, .int (Int32.ofInt x5)), (6, .int (Int32.ofInt x6))]) (st' := [.int (Int32.ofInt (lf_w (x4 + y0))), .int (Int32.ofInt (lf_w ((s.1 16 x6) * (s.1 3 (s.1 17 x6)))))]) rfl ?_
    refine lf_imul 125 rfl rfl ?_
    refine lf_wtI ?_
    refine lf_seg 5 (pc' := 134) (lv' := [(9, .int (Int32.ofInt (lf_w ((lf_w ((s.1 16 x6) * (s.1 3 (s.1 17 x6)))) * (lf_w (x4 + y0)))))), (8, .int (Int32.ofInt (lf_w (x4 + y0)))), (7, .int (Int32.ofInt y0)), (0, .ref 74), (1, .int (Int32.ofInt x1)), (2, .int (Int32.ofInt x2)), (3, .int (Int32.ofInt x3)), (4, .int (Int32.ofInt x4)), (5, .int (Int32.ofInt x5)), (6, .int (Int32.ofInt x6))]) (st' := [.int (Int32.ofInt x6), .int (Int32.ofInt x1), .ref 76]) rfl ?_
    obtain ⟨o28, h⟩ := h
    refine lf_iast 135 6 rfl rfl rfl rfl rfl rfl o28 ?_
    refine lf_as (lf_up s.1 76 x1 x6, s.2.1, s.2.2) rfl ?_
    refine lf_seg 3 (pc' := 138) (lv' := [(9, .int (Int32.ofInt (lf_w ((lf_w ((s.1 16 x6) * (s.1 3 (s.1 17 x6)))) * (lf_w (x4 + y0)))))), (8, .int (Int32.ofInt (lf_w (x4 + y0)))), (7, .int (Int32.ofInt y0)), (0, .ref 74), (1, .int (Int32.ofInt x1)), (2, .int (Int32.ofInt x2)), (3, .int (Int32.ofInt x3)), (4, .int (Int32.ofInt x4)), (5, .int (Int32.ofInt x5)), (6, .int (Int32.ofInt x6))]) (st' := [.int (Int32.ofInt 1), .int (Int32.ofInt x1), .ref 74]) rfl ?_
    refine lf_iadd 139 rfl rfl ?_
    refine lf_seg 3 (pc' := 143) (lv' := [(9, .int (Int32.ofInt (lf_w ((lf_w ((s.1 16 x6) * (s.1 3 (s.1 17 x6)))) * (lf_w (x4 + y0)))))), (8, .int (Int32.ofInt (lf_w (x4 + y0)))), (7, .int (Int32.ofInt y0)), (0, .ref 74), (1, .int (Int32.ofInt x1)), (2, .int (Int32.ofInt x2)), (3, .int (Int32.ofInt x3)), (4, .int (Int32.ofInt x4)), (5, .int (Int32.ofInt x5)), (6, .int (Int32.ofInt x6))]) (st' := [.int (Int32.ofInt x6), .int (Int32.ofInt 1), .int (Int32.ofInt x2), .int (Int32.ofInt (x1 + 1)), .ref 74]) rfl ?_
    refine lf_ishl 144 rfl rfl ?_
    refine lf_seg 1 (pc' := 145) (lv' := [(9, .int (Int32.ofInt (lf_w ((lf_w ((s.1 16 x6) * (s.1 3 (s.1 17 x6)))) * (lf_w (x4 + y0)))))), (8, .int (Int32.ofInt (lf_w (x4 + y0)))), (7, .int (Int32.ofInt y0)), (0, .ref 74), (1, .int (Int32.ofInt x1)), (2, .int (Int32.ofInt x2)), (3, .int (Int32.ofInt x3)), (4, .int (Int32.ofInt x4)), (5, .int (Int32.ofInt x5)), (6, .int (Int32.ofInt x6))]) (st' := [.int (Int32.ofInt (-1)), .int (Int32.ofInt (lf_shl 1 x6)), .int (Int32.ofInt x2), .int (Int32.ofInt (x1 + 1)), .ref 74]) rfl ?_
    refine lf_ixor 146 rfl rfl ?_
    refine lf_iand 147 rfl rfl ?_
    refine lf_seg 4 (pc' := 156) (lv' := [(9, .int (Int32.ofInt (lf_w ((lf_w ((s.1 16 x6) * (s.1 3 (s.1 17 x6)))) * (lf_w (x4 + y0)))))), (8, .int (Int32.ofInt (lf_w (x4 + y0)))), (7, .int (Int32.ofInt y0)), (0, .ref 74), (1, .int (Int32.ofInt x1)), (2, .int (Int32.ofInt x2)), (3, .int (Int32.ofInt x3)), (4, .int (Int32.ofInt x4)), (5, .int (Int32.ofInt x5)), (6, .int (Int32.ofInt x6))]) (st' := [.int (Int32.ofInt x6), .ref 17, .int (Int32.ofInt (lf_and x2 (lf_xor (lf_shl 1 x6) (-1)))), .int (Int32.ofInt (x1 + 1)), .ref 74]) rfl ?_
    refine lf_iald 157 4 rfl rfl rfl rfl rfl rfl o26 ?_
    refine lf_seg 3 (pc' := 163) (lv' := [(9, .int (Int32.ofInt (lf_w ((lf_w ((s.1 16 x6) * (s.1 3 (s.1 17 x6)))) * (lf_w (x4 + y0)))))), (8, .int (Int32.ofInt (lf_w (x4 + y0)))), (7, .int (Int32.ofInt y0)), (0, .ref 74), (1, .int (Int32.ofInt x1)), (2, .int (Int32.ofInt x2)), (3, .int (Int32.ofInt x3)), (4, .int (Int32.ofInt x4)), (5, .int (Int32.ofInt x5)), (6, .int (Int32.ofInt x6))]) (st' := [.int (Int32.ofInt (lf_w ((lf_w ((s.1 16 x6) * (s.1 3 (s.1 17 x6)))) * (lf_w (x4 + y0))))), .int (Int32.ofInt x5), .int (Int32.ofInt (lf_w (x4 + y0))), .int (Int32.ofInt (s.1 17 x6)), .int (Int32.ofInt (lf_and x2 (lf_xor (lf_shl 1 x6) (-1)))), .int (Int32.ofInt (x1 + 1)), .ref 74]) rfl ?_
    refine lf_iadd 164 rfl rfl ?_
    refine lf_wtI ?_
    refine lf_callV 167 rfl rfl rfl rfl (hR156 _ _ _ _ _ _ _ h) (fun s29 h => ?_)
    refine lf_sub (l := [(0, .ref 74), (1, .int (Int32.ofInt x1)), (2, .int (Int32.ofInt x2)), (3, .int (Int32.ofInt x3)), (4, .int (Int32.ofInt x4)), (5, .int (Int32.ofInt x5)), (6, .int (Int32.ofInt x6))]) (lf_sb1 rfl (lf_sb1 rfl (lf_sb1 rfl (lf_sb1 rfl (lf_sb1 rfl (lf_sb1 rfl (lf_sb1 rfl lf_sb0))))))) ?_
    exact gm_156_p167 hR156 hX36 h
def fm_156_p36 (R156 : Int → Int → Int → Int → Int → (lf_Z → Prop) → lf_Z → Prop) (Q : lf_Z → Prop) (x1 : Int) (x2 : Int) (x3 : Int) (x4 : Int) (x5 : Int) (X36 : Int → lf_Z → Prop) (x6 : Int) (s : lf_Z) : Prop := lf_R x6 ∧ ((4 ≤ x6 → (Q s)) ∧ (¬ (4 ≤ x6) → ((lf_and (lf_shr x2 x6) 1 ≠ 1 → (fm_156_p78 R156 X36 Q x1 x2 x3 x4 x5 x6 (-1) s)) ∧ (¬ (lf_and (lf_shr x2 x6) 1 ≠ 1) → ((0 ≤ x6 ∧ x6 < 4) ∧ (fm_135 (s.1 74 7) x3 (s.1 17 x6) (fun r32 s31 => (fm_156_p78 R156 X36 Q x1 x2 x3 x4 x5 x6 r32 s31)) s))))))
def fm_156_p36L (R156 : Int → Int → Int → Int → Int → (lf_Z → Prop) → lf_Z → Prop) (Q : lf_Z → Prop) (x1 : Int) (x2 : Int) (x3 : Int) (x4 : Int) (x5 : Int) (x6 : Int) (s : lf_Z) : Prop := ∀ X36 : Int → lf_Z → Prop, (∀ (x6 : Int) (s : lf_Z), fm_156_p36 R156 Q x1 x2 x3 x4 x5 X36 x6 s → X36 x6 s) → X36 x6 s
set_option maxRecDepth 100000 in
theorem gm_156_p36 {L : Nat} {xs : Nat → Int32} {d : Nat} {R156 : Int → Int → Int → Int → Int → (lf_Z → Prop) → lf_Z → Prop} {Q : lf_Z → Prop} {x1 : Int} {x2 : Int} {x3 : Int} {x4 : Int} {x5 : Int} {x6 : Int} {s : lf_Z} {X36 : Int → lf_Z → Prop} (hR156 : ∀ b1 b2 b3 b4 b5 Q s, R156 b1 b2 b3 b4 b5 Q s → lf_M (px_ro L xs) (d + 3) 156 [.ref 74, .int (Int32.ofInt b1), .int (Int32.ofInt b2), .int (Int32.ofInt b3), .int (Int32.ofInt b4), .int (Int32.ofInt b5)] s (lf_qv Q)) (hX36 : ∀ x6 s, X36 x6 s → lf_E (px_ro L xs) (d + 4) 156 36 [(0, .ref 74), (1, .int (Int32.ofInt x1)), (2, .int (Int32.ofInt x2)), (3, .int (Int32.ofInt x3)), (4, .int (Int32.ofInt x4)), (5, .int (Int32.ofInt x5)), (6, .int (Int32.ofInt x6))] [] s (lf_qv Q)) (h : fm_156_p36 R156 Q x1 x2 x3 x4 x5 X36 x6 s) : lf_E (px_ro L xs) (d + 4) 156 36 [(0, .ref 74), (1, .int (Int32.ofInt x1)), (2, .int (Int32.ofInt x2)), (3, .int (Int32.ofInt x3)), (4, .int (Int32.ofInt x4)), (5, .int (Int32.ofInt x5)), (6, .int (Int32.ofInt x6))] [] s (lf_qv Q) := by
  unfold fm_156_p36 at h
  refine lf_seg 2 (pc' := 39) (lv' := [(0, .ref 74), (1, .int (Int32.ofInt x1)), (2, .int (Int32.ofInt x2)), (3, .int (Int32.ofInt x3)), (4, .int (Int32.ofInt x4)), (5, .int (Int32.ofInt x5)), (6, .int (Int32.ofInt x6))]) (st' := [.int (Int32.ofInt 4), .int (Int32.ofInt x6)]) rfl ?_
  obtain ⟨o24, h⟩ := h
  refine lf_icmp_ge 173 42 rfl rfl rfl o24 ⟨by decide, by decide⟩ (fun c => ?_) (fun c => ?_)
  · have h := h.1 c
    exact lf_retV rfl rfl h
  · have h := h.2 c
    refine lf_seg 2 (pc' := 45) (lv' := [(0, .ref 74), (1, .int (Int32.ofInt x1)), (2, .int (Int32.ofInt x2)), (3, .int (Int32.ofInt x3)), (4, .int (Int32.ofInt x4)), (5, .int (Int32.ofInt x5)), (6, .int (Int32.ofInt x6))]) (st' := [.int (Int32.ofInt x6), .int (Int32.ofInt x2)]) rfl ?_
    refine lf_ishr 46 rfl rfl ?_
    refine lf_seg 1 (pc' := 47) (lv' := [(0, .ref 74), (1, .int (Int32.ofInt x1)), (2, .int (Int32.ofInt x2)), (3, .int (Int32.ofInt x3)), (4, .int (Int32.ofInt x4)), (5, .int (Int32.ofInt x5)), (6, .int (Int32.ofInt x6))]) (st' := [.int (Int32.ofInt 1), .int (Int32.ofInt (lf_shr x2 x6))]) rfl ?_
    refine lf_iand 48 rfl rfl ?_
    refine lf_seg 1 (pc' := 49) (lv' := [(0, .ref 74), (1, .int (Int32.ofInt x1)), (2, .int (Int32.ofInt x2)), (3, .int (Int32.ofInt x3)), (4, .int (Int32.ofInt x4)), (5, .int (Int32.ofInt x5)), (6, .int (Int32.ofInt x6))]) (st' := [.int (Int32.ofInt 1), .int (Int32.ofInt (lf_and (lf_shr x2 x6) 1))]) rfl ?_
    refine lf_icmp_ne 77 52 rfl rfl rfl lf_Rand ⟨by decide, by decide⟩ (fun c => ?_) (fun c => ?_)
    · have h := h.1 c
      refine lf_seg 1 (pc' := 78) (lv' := [(0, .ref 74), (1, .int (Int32.ofInt x1)), (2, .int (Int32.ofInt x2)), (3, .int (Int32.ofInt x3)), (4, .int (Int32.ofInt x4)), (5, .int (Int32.ofInt x5)), (6, .int (Int32.ofInt x6))]) (st' := [.int (Int32.ofInt (-1))]) rfl ?_
      refine lf_sub (l := [(0, .ref 74), (1, .int (Int32.ofInt x1)), (2, .int (Int32.ofInt x2)), (3, .int (Int32.ofInt x3)), (4, .int (Int32.ofInt x4)), (5, .int (Int32.ofInt x5)), (6, .int (Int32.ofInt x6))]) (lf_sb1 rfl (lf_sb1 rfl (lf_sb1 rfl (lf_sb1 rfl (lf_sb1 rfl (lf_sb1 rfl (lf_sb1 rfl lf_sb0))))))) ?_
      exact gm_156_p78 hR156 hX36 h
    · have h := h.2 c
      refine lf_seg 3 (pc' := 57) (lv' := [(0, .ref 74), (1, .int (Int32.ofInt x1)), (2, .int (Int32.ofInt x2)), (3, .int (Int32.ofInt x3)), (4, .int (Int32.ofInt x4)), (5, .int (Int32.ofInt x5)), (6, .int (Int32.ofInt x6))]) (st' := [.ref 74, .ref 1]) rfl ?_
      refine lf_getI 60 7 rfl rfl rfl rfl rfl rfl rfl ?_
      refine lf_seg 5 (pc' := 70) (lv' := [(0, .ref 74), (1, .int (Int32.ofInt x1)), (2, .int (Int32.ofInt x2)), (3, .int (Int32.ofInt x3)), (4, .int (Int32.ofInt x4)), (5, .int (Int32.ofInt x5)), (6, .int (Int32.ofInt x6))]) (st' := [.int (Int32.ofInt x6), .ref 17, .int (Int32.ofInt x3), .int (Int32.ofInt (s.1 74 7)), .ref 1]) rfl ?_
      obtain ⟨o30, h⟩ := h
      refine lf_iald 71 4 rfl rfl rfl rfl rfl rfl o30 ?_
      refine lf_callI 74 rfl rfl rfl rfl (gm_135 h) (fun r32 s31 h => ?_)
      refine lf_seg 1 (pc' := 78) (lv' := [(0, .ref 74), (1, .int (Int32.ofInt x1)), (2, .int (Int32.ofInt x2)), (3, .int (Int32.ofInt x3)), (4, .int (Int32.ofInt x4)), (5, .int (Int32.ofInt x5)), (6, .int (Int32.ofInt x6))]) (st' := [.int (Int32.ofInt r32)]) rfl ?_
      refine lf_sub (l := [(0, .ref 74), (1, .int (Int32.ofInt x1)), (2, .int (Int32.ofInt x2)), (3, .int (Int32.ofInt x3)), (4, .int (Int32.ofInt x4)), (5, .int (Int32.ofInt x5)), (6, .int (Int32.ofInt x6))]) (lf_sb1 rfl (lf_sb1 rfl (lf_sb1 rfl (lf_sb1 rfl (lf_sb1 rfl (lf_sb1 rfl (lf_sb1 rfl lf_sb0))))))) ?_
      exact gm_156_p78 hR156 hX36 h
theorem gm_156_p36L {L : Nat} {xs : Nat → Int32} {d : Nat} {R156 : Int → Int → Int → Int → Int → (lf_Z → Prop) → lf_Z → Prop} {Q : lf_Z → Prop} {x1 : Int} {x2 : Int} {x3 : Int} {x4 : Int} {x5 : Int} {x6 : Int} {s : lf_Z} (hR156 : ∀ b1 b2 b3 b4 b5 Q s, R156 b1 b2 b3 b4 b5 Q s → lf_M (px_ro L xs) (d + 3) 156 [.ref 74, .int (Int32.ofInt b1), .int (Int32.ofInt b2), .int (Int32.ofInt b3), .int (Int32.ofInt b4), .int (Int32.ofInt b5)] s (lf_qv Q)) (h : fm_156_p36L R156 Q x1 x2 x3 x4 x5 x6 s) : lf_E (px_ro L xs) (d + 4) 156 36 [(0, .ref 74), (1, .int (Int32.ofInt x1)), (2, .int (Int32.ofInt x2)), (3, .int (Int32.ofInt x3)), (4, .int (Int32.ofInt x4)), (5, .int (Int32.ofInt x5)), (6, .int (Int32.ofInt x6))] [] s (lf_qv Q) :=
  h (fun x6 s => lf_E (px_ro L xs) (d + 4) 156 36 [(0, .ref 74), (1, .int (Int32.ofInt x1)), (2, .int (Int32.ofInt x2)), (3, .int (Int32.ofInt x3)), (4, .int (Int32.ofInt x4)), (5, .int (Int32.ofInt x5)), (6, .int (Int32.ofInt x6))] [] s (lf_qv Q)) (fun x6 s hb => gm_156_p36 hR156 (fun _ _ h => h) hb)
def fm_156_p18 (R156 : Int → Int → Int → Int → Int → (lf_Z → Prop) → lf_Z → Prop) (Q : lf_Z → Prop) (x1 : Int) (x2 : Int) (x3 : Int) (x4 : Int) (x5 : Int) (s : lf_Z) : Prop := lf_R x1 ∧ (lf_R (s.1 74 5) ∧ ((x1 < s.1 74 5 → (fm_156_p36L R156 Q x1 x2 x3 x4 x5 0 s)) ∧ (¬ (x1 < s.1 74 5) → (fm_140 x5 (fun s33 => (Q s33)) s))))
set_option maxRecDepth 100000 in
theorem gm_156_p18 {L : Nat} {xs : Nat → Int32} {d : Nat} {R156 : Int → Int → Int → Int → Int → (lf_Z → Prop) → lf_Z → Prop} {Q : lf_Z → Prop} {x1 : Int} {x2 : Int} {x3 : Int} {x4 : Int} {x5 : Int} {s : lf_Z} (hR156 : ∀ b1 b2 b3 b4 b5 Q s, R156 b1 b2 b3 b4 b5 Q s → lf_M (px_ro L xs) (d + 3) 156 [.ref 74, .int (Int32.ofInt b1), .int (Int32.ofInt b2), .int (Int32.ofInt b3), .int (Int32.ofInt b4), .int (Int32.ofInt b5)] s (lf_qv Q)) (h : fm_156_p18 R156 Q x1 x2 x3 x4 x5 s) : lf_E (px_ro L xs) (d + 4) 156 18 [(0, .ref 74), (1, .int (Int32.ofInt x1)), (2, .int (Int32.ofInt x2)), (3, .int (Int32.ofInt x3)), (4, .int (Int32.ofInt x4)), (5, .int (Int32.ofInt x5))] [] s (lf_qv Q) := by
  unfold fm_156_p18 at h
  refine lf_seg 2 (pc' := 20) (lv' := [(0, .ref 74), (1, .int (Int32.ofInt x1)), (2, .int (Int32.ofInt x2)), (3, .int (Int32.ofInt x3)), (4, .int (Int32.ofInt x4)), (5, .int (Int32.ofInt x5))]) (st' := [.ref 74, .int (Int32.ofInt x1)]) rfl ?_
  refine lf_getI 23 5 rfl rfl rfl rfl rfl rfl rfl ?_
  obtain ⟨o22, h⟩ := h
  obtain ⟨o23, h⟩ := h
  refine lf_icmp_lt 33 26 rfl rfl rfl o22 o23 (fun c => ?_) (fun c => ?_)
  · have h := h.1 c
    refine lf_seg 2 (pc' := 36) (lv' := [(6, .int (Int32.ofInt 0)), (0, .ref 74), (1, .int (Int32.ofInt x1)), (2, .int (Int32.ofInt x2)), (3, .int (Int32.ofInt x3)), (4, .int (Int32.ofInt x4)), (5, .int (Int32.ofInt x5))]) (st' := []) rfl ?_
    refine lf_sub (l := [(0, .ref 74), (1, .int (Int32.ofInt x1)), (2, .int (Int32.ofInt x2)), (3, .int (Int32.ofInt x3)), (4, .int (Int32.ofInt x4)), (5, .int (Int32.ofInt x5)), (6, .int (Int32.ofInt 0))]) (lf_sb1 rfl (lf_sb1 rfl (lf_sb1 rfl (lf_sb1 rfl (lf_sb1 rfl (lf_sb1 rfl (lf_sb1 rfl lf_sb0))))))) ?_
    exact gm_156_p36L hR156 h
  · have h := h.2 c
    refine lf_seg 2 (pc' := 29) (lv' := [(0, .ref 74), (1, .int (Int32.ofInt x1)), (2, .int (Int32.ofInt x2)), (3, .int (Int32.ofInt x3)), (4, .int (Int32.ofInt x4)), (5, .int (Int32.ofInt x5))]) (st' := [.int (Int32.ofInt x5), .ref 74]) rfl ?_
    refine lf_callV 32 rfl rfl rfl rfl (gm_140 h) (fun s33 h => ?_)
    exact lf_retV rfl rfl h
def fm_156 (R156 : Int → Int → Int → Int → Int → (lf_Z → Prop) → lf_Z → Prop) (a1 : Int) (a2 : Int) (a3 : Int) (a4 : Int) (a5 : Int) (Q : lf_Z → Prop) (s : lf_Z) : Prop := lf_R (s.1 74 6) ∧ ((s.1 74 6 = (-1) → (fm_156_p18 R156 Q a1 a2 a3 a4 a5 s)) ∧ (¬ (s.1 74 6 = (-1)) → (lf_R a5 ∧ ((a5 < s.1 74 6 → (fm_156_p18 R156 Q a1 a2 a3 a4 a5 s)) ∧ (¬ (a5 < s.1 74 6) → (Q s))))))
set_option maxRecDepth 100000 in
theorem gm_156 {L : Nat} {xs : Nat → Int32} {d : Nat} {R156 : Int → Int → Int → Int → Int → (lf_Z → Prop) → lf_Z → Prop} {a1 : Int} {a2 : Int} {a3 : Int} {a4 : Int} {a5 : Int} {Q : lf_Z → Prop} {s : lf_Z} (hR156 : ∀ b1 b2 b3 b4 b5 Q s, R156 b1 b2 b3 b4 b5 Q s → lf_M (px_ro L xs) (d + 3) 156 [.ref 74, .int (Int32.ofInt b1), .int (Int32.ofInt b2), .int (Int32.ofInt b3), .int (Int32.ofInt b4), .int (Int32.ofInt b5)] s (lf_qv Q)) (h : fm_156 R156 a1 a2 a3 a4 a5 Q s) : lf_M (px_ro L xs) (d + 4) 156 [.ref 74, .int (Int32.ofInt a1), .int (Int32.ofInt a2), .int (Int32.ofInt a3), .int (Int32.ofInt a4), .int (Int32.ofInt a5)] s (lf_qv Q) := by
  unfold fm_156 at h
  show lf_E (px_ro L xs) (d + 4) 156 0 [(0, .ref 74), (1, .int (Int32.ofInt a1)), (2, .int (Int32.ofInt a2)), (3, .int (Int32.ofInt a3)), (4, .int (Int32.ofInt a4)), (5, .int (Int32.ofInt a5))] [] s _
  refine lf_seg 1 (pc' := 1) (lv' := [(0, .ref 74), (1, .int (Int32.ofInt a1)), (2, .int (Int32.ofInt a2)), (3, .int (Int32.ofInt a3)), (4, .int (Int32.ofInt a4)), (5, .int (Int32.ofInt a5))]) (st' := [.ref 74]) rfl ?_
  refine lf_getI 4 6 rfl rfl rfl rfl rfl rfl rfl ?_
  refine lf_seg 1 (pc' := 5) (lv' := [(0, .ref 74), (1, .int (Int32.ofInt a1)), (2, .int (Int32.ofInt a2)), (3, .int (Int32.ofInt a3)), (4, .int (Int32.ofInt a4)), (5, .int (Int32.ofInt a5))]) (st' := [.int (Int32.ofInt (-1)), .int (Int32.ofInt (s.1 74 6))]) rfl ?_
  obtain ⟨o21, h⟩ := h
  refine lf_icmp_eq 18 8 rfl rfl rfl o21 ⟨by decide, by decide⟩ (fun c => ?_) (fun c => ?_)
  · have h := h.1 c
    refine lf_sub (l := [(0, .ref 74), (1, .int (Int32.ofInt a1)), (2, .int (Int32.ofInt a2)), (3, .int (Int32.ofInt a3)), (4, .int (Int32.ofInt a4)), (5, .int (Int32.ofInt a5))]) (lf_sb1 rfl (lf_sb1 rfl (lf_sb1 rfl (lf_sb1 rfl (lf_sb1 rfl (lf_sb1 rfl lf_sb0)))))) ?_
    exact gm_156_p18 hR156 h
  · have h := h.2 c
    refine lf_seg 2 (pc' := 11) (lv' := [(0, .ref 74), (1, .int (Int32.ofInt a1)), (2, .int (Int32.ofInt a2)), (3, .int (Int32.ofInt a3)), (4, .int (Int32.ofInt a4)), (5, .int (Int32.ofInt a5))]) (st' := [.ref 74, .int (Int32.ofInt a5)]) rfl ?_
    refine lf_getI 14 6 rfl rfl rfl rfl rfl rfl rfl ?_
    obtain ⟨o34, h⟩ := h
    refine lf_icmp_lt 18 17 rfl rfl rfl o34 o21 (fun c => ?_) (fun c => ?_)
    · have h := h.1 c
      refine lf_sub (l := [(0, .ref 74), (1, .int (Int32.ofInt a1)), (2, .int (Int32.ofInt a2)), (3, .int (Int32.ofInt a3)), (4, .int (Int32.ofInt a4)), (5, .int (Int32.ofInt a5))]) (lf_sb1 rfl (lf_sb1 rfl (lf_sb1 rfl (lf_sb1 rfl (lf_sb1 rfl (lf_sb1 rfl lf_sb0)))))) ?_
      exact gm_156_p18 hR156 h
    · have h := h.2 c
      exact lf_retV rfl rfl h
-- cl_156 cluster
def fc_156T : Nat → (Int → Int → Int → Int → Int → (lf_Z → Prop) → lf_Z → Prop)
  | 0 => fun _ _ _ _ _ _ _ => False
  | n + 1 => fm_156 (fc_156T n)
theorem gc_156T {L : Nat} {xs : Nat → Int32} {d : Nat} : ∀ n : Nat, (∀ b1 b2 b3 b4 b5 Q s, (fc_156T n) b1 b2 b3 b4 b5 Q s → lf_M (px_ro L xs) (d + n + 3) 156 [.ref 74, .int (Int32.ofInt b1), .int (Int32.ofInt b2), .int (Int32.ofInt b3), .int (Int32.ofInt b4), .int (Int32.ofInt b5)] s (lf_qv Q))
  | 0 => fun _ _ _ _ _ _ _ h => h.elim
  | n + 1 => fun a1 a2 a3 a4 a5 Q s h => lf_E.deep (gm_156 (d := d + n) (fun _ _ _ _ _ _ _ h => lf_E.deep ((gc_156T (L := L) (xs := xs) (d := d) n) _ _ _ _ _ _ _ h) (by omega)) h) (by omega)
def fc_156 (a1 : Int) (a2 : Int) (a3 : Int) (a4 : Int) (a5 : Int) (Q : lf_Z → Prop) (s : lf_Z) : Prop := (fc_156T 200) a1 a2 a3 a4 a5 Q s
theorem gc_156 {L : Nat} {xs : Nat → Int32} {d : Nat} {a1 : Int} {a2 : Int} {a3 : Int} {a4 : Int} {a5 : Int} {Q : lf_Z → Prop} {s : lf_Z} (h : fc_156 a1 a2 a3 a4 a5 Q s) : lf_M (px_ro L xs) (d + 204) 156 [.ref 74, .int (Int32.ofInt a1), .int (Int32.ofInt a2), .int (Int32.ofInt a3), .int (Int32.ofInt a4), .int (Int32.ofInt a5)] s (lf_qv Q) := lf_E.deep ((gc_156T (L := L) (xs := xs) (d := d) 200) _ _ _ _ _ _ _ h) (by omega)
-- fm_155 Errands.goAfterAll 74 i
def fm_155_p51 (X19 : Int → Int → lf_Z → Prop) (Q : Int → lf_Z → Prop) (x1 : Int) (x2 : Int) (x3 : Int) (s : lf_Z) : Prop := X19 x2 (x3 + 1) s
set_option maxRecDepth 100000 in
theorem gm_155_p51 {L : Nat} {xs : Nat → Int32} {d : Nat} {X19 : Int → Int → lf_Z → Prop} {Q : Int → lf_Z → Prop} {x1 : Int} {x2 : Int} {x3 : Int} {s : lf_Z} (hX19 : ∀ x2 x3 s, X19 x2 x3 s → lf_E (px_ro L xs) (d + 205) 155 19 [(0, .ref 74), (1, .int (Int32.ofInt x1)), (2, .int (Int32.ofInt x2)), (3, .int (Int32.ofInt x3))] [] s (lf_qi Q)) (h : fm_155_p51 X19 Q x1 x2 x3 s) : lf_E (px_ro L xs) (d + 205) 155 51 [(0, .ref 74), (1, .int (Int32.ofInt x1)), (2, .int (Int32.ofInt x2)), (3, .int (Int32.ofInt x3))] [] s (lf_qi Q) := by
  unfold fm_155_p51 at h
  refine lf_iinc 54 rfl rfl rfl rfl ?_
  refine lf_seg 1 (pc' := 19) (lv' := [(3, .int (Int32.ofInt (x3 + 1))), (0, .ref 74), (1, .int (Int32.ofInt x1)), (2, .int (Int32.ofInt x2))]) (st' := []) rfl ?_
  refine lf_sub (l := [(0, .ref 74), (1, .int (Int32.ofInt x1)), (2, .int (Int32.ofInt x2)), (3, .int (Int32.ofInt (x3 + 1)))]) (lf_sb1 rfl (lf_sb1 rfl (lf_sb1 rfl (lf_sb1 rfl lf_sb0)))) ?_
  exact hX19 _ _ _ h
def fm_155_p19 (Q : Int → lf_Z → Prop) (x1 : Int) (X19 : Int → Int → lf_Z → Prop) (x2 : Int) (x3 : Int) (s : lf_Z) : Prop := lf_R x3 ∧ ((4 ≤ x3 → (lf_R (s.1 74 5) ∧ ((s.1 74 5 ≤ 0 → (Q (s.1 74 6) s)) ∧ (¬ (s.1 74 5 ≤ 0) → ((0 ≤ x1 ∧ x1 < 6) ∧ (fc_156 0 x2 (s.1 19 x1) 0 0 (fun s24 => (Q (s24.1 74 6) s24)) s)))))) ∧ (¬ (4 ≤ x3) → (fm_80 x3 (fun z26 s25 => ((z26 = false → (fm_155_p51 X19 Q x1 x2 x3 s25)) ∧ (z26 = true → (fm_155_p51 X19 Q x1 (lf_or x2 (lf_shl 1 x3)) x3 (lf_up s25.1 74 5 ((s25.1 74 5) + 1), s25.2.1, s25.2.2))))) s)))
def fm_155_p19L (Q : Int → lf_Z → Prop) (x1 : Int) (x2 : Int) (x3 : Int) (s : lf_Z) : Prop := ∀ X19 : Int → Int → lf_Z → Prop, (∀ (x2 : Int) (x3 : Int) (s : lf_Z), fm_155_p19 Q x1 X19 x2 x3 s → X19 x2 x3 s) → X19 x2 x3 s
set_option maxRecDepth 100000 in
theorem gm_155_p19 {L : Nat} {xs : Nat → Int32} {d : Nat} {Q : Int → lf_Z → Prop} {x1 : Int} {x2 : Int} {x3 : Int} {s : lf_Z} {X19 : Int → Int → lf_Z → Prop} (hX19 : ∀ x2 x3 s, X19 x2 x3 s → lf_E (px_ro L xs) (d + 205) 155 19 [(0, .ref 74), (1, .int (Int32.ofInt x1)), (2, .int (Int32.ofInt x2)), (3, .int (Int32.ofInt x3))] [] s (lf_qi Q)) (h : fm_155_p19 Q x1 X19 x2 x3 s) : lf_E (px_ro L xs) (d + 205) 155 19 [(0, .ref 74), (1, .int (Int32.ofInt x1)), (2, .int (Int32.ofInt x2)), (3, .int (Int32.ofInt x3))] [] s (lf_qi Q) := by
  unfold fm_155_p19 at h
  refine lf_seg 2 (pc' := 21) (lv' := [(0, .ref 74), (1, .int (Int32.ofInt x1)), (2, .int (Int32.ofInt x2)), (3, .int (Int32.ofInt x3))]) (st' := [.int (Int32.ofInt 4), .int (Int32.ofInt x3)]) rfl ?_
  obtain ⟨o21, h⟩ := h
  refine lf_icmp_ge 57 24 rfl rfl rfl o21 ⟨by decide, by decide⟩ (fun c => ?_) (fun c => ?_)
  · have h := h.1 c
    refine lf_seg 1 (pc' := 58) (lv' := [(0, .ref 74), (1, .int (Int32.ofInt x1)), (2, .int (Int32.ofInt x2)), (3, .int (Int32.ofInt x3))]) (st' := [.ref 74]) rfl ?_
    refine lf_getI 61 5 rfl rfl rfl rfl rfl rfl rfl ?_
    obtain ⟨o22, h⟩ := h
    refine lf_if_le 81 64 rfl rfl rfl o22 (fun c => ?_) (fun c => ?_)
    · have h := h.1 c
      refine lf_seg 1 (pc' := 82) (lv' := [(0, .ref 74), (1, .int (Int32.ofInt x1)), (2, .int (Int32.ofInt x2)), (3, .int (Int32.ofInt x3))]) (st' := [.ref 74]) rfl ?_
      refine lf_getI 85 6 rfl rfl rfl rfl rfl rfl rfl ?_
      exact lf_retI rfl rfl h
    · have h := h.2 c
      refine lf_seg 6 (pc' := 74) (lv' := [(0, .ref 74), (1, .int (Int32.ofInt x1)), (2, .int (Int32.ofInt x2)), (3, .int (Int32.ofInt x3))]) (st' := [.ref 19, .int (Int32.ofInt x2), .int (Int32.ofInt 0), .ref 74]) rfl ?_
      refine lf_seg 1 (pc' := 75) (lv' := [(0, .ref 74), (1, .int (Int32.ofInt x1)), (2, .int (Int32.ofInt x2)), (3, .int (Int32.ofInt x3))]) (st' := [.int (Int32.ofInt x1), .ref 19, .int (Int32.ofInt x2), .int (Int32.ofInt 0), .ref 74]) rfl ?_
      obtain ⟨o23, h⟩ := h
      refine lf_iald 76 6 rfl rfl rfl rfl rfl rfl o23 ?_
      refine lf_seg 2 (pc' := 78) (lv' := [(0, .ref 74), (1, .int (Int32.ofInt x1)), (2, .int (Int32.ofInt x2)), (3, .int (Int32.ofInt x3))]) (st' := [.int (Int32.ofInt 0), .int (Int32.ofInt 0), .int (Int32.ofInt (s.1 19 x1)), .int (Int32.ofInt x2), .int (Int32.ofInt 0), .ref 74]) rfl ?_
      refine lf_callV 81 rfl rfl rfl rfl (gc_156 h) (fun s24 h => ?_)
      refine lf_seg 1 (pc' := 82) (lv' := [(0, .ref 74), (1, .int (Int32.ofInt x1)), (2, .int (Int32.ofInt x2)), (3, .int (Int32.ofInt x3))]) (st' := [.ref 74]) rfl ?_
      refine lf_getI 85 6 rfl rfl rfl rfl rfl rfl rfl ?_
      exact lf_retI rfl rfl h
  · have h := h.2 c
    refine lf_seg 3 (pc' := 29) (lv' := [(0, .ref 74), (1, .int (Int32.ofInt x1)), (2, .int (Int32.ofInt x2)), (3, .int (Int32.ofInt x3))]) (st' := [.int (Int32.ofInt x3), .ref 15]) rfl ?_
    refine lf_callZ 32 rfl rfl rfl rfl (gm_80 h) (fun z26 s25 h => ?_)
    refine lf_ifz_eq 51 35 rfl rfl rfl (fun c => ?_) (fun c => ?_)
    · have h := h.1 c
      refine lf_sub (l := [(0, .ref 74), (1, .int (Int32.ofInt x1)), (2, .int (Int32.ofInt x2)), (3, .int (Int32.ofInt x3))]) (lf_sb1 rfl (lf_sb1 rfl (lf_sb1 rfl (lf_sb1 rfl lf_sb0)))) ?_
      exact gm_155_p51 hX19 h
    · have h := h.2 c
      refine lf_seg 3 (pc' := 38) (lv' := [(0, .ref 74), (1, .int (Int32.ofInt x1)), (2, .int (Int32.ofInt x2)), (3, .int (Int32.ofInt x3))]) (st' := [.int (Int32.ofInt x3), .int (Int32.ofInt 1), .int (Int32.ofInt x2)]) rfl ?_
      refine lf_ishl 39 rfl rfl ?_
      refine lf_ior 40 rfl rfl ?_
      refine lf_seg 3 (pc' := 43) (lv' := [(2, .int (Int32.ofInt (lf_or x2 (lf_shl 1 x3)))), (0, .ref 74), (1, .int (Int32.ofInt x1)), (3, .int (Int32.ofInt x3))]) (st' := [.ref 74, .ref 74]) rfl ?_
      refine lf_getI 46 5 rfl rfl rfl rfl rfl rfl rfl ?_
      refine lf_seg 1 (pc' := 47) (lv' := [(2, .int (Int32.ofInt (lf_or x2 (lf_shl 1 x3)))), (0, .ref 74), (1, .int (Int32.ofInt x1)), (3, .int (Int32.ofInt x3))]) (st' := [.int (Int32.ofInt 1), .int (Int32.ofInt (s25.1 74 5)), .ref 74]) rfl ?_
      refine lf_iadd 48 rfl rfl ?_
      refine lf_putI 51 5 rfl rfl rfl rfl rfl rfl rfl rfl ?_
      refine lf_as (lf_up s25.1 74 5 ((s25.1 74 5) + 1), s25.2.1, s25.2.2) rfl ?_
      refine lf_sub (l := [(0, .ref 74), (1, .int (Int32.ofInt x1)), (2, .int (Int32.ofInt (lf_or x2 (lf_shl 1 x3)))), (3, .int (Int32.ofInt x3))]) (lf_sb1 rfl (lf_sb1 rfl (lf_sb1 rfl (lf_sb1 rfl lf_sb0)))) ?_
      exact gm_155_p51 hX19 h
theorem gm_155_p19L {L : Nat} {xs : Nat → Int32} {d : Nat} {Q : Int → lf_Z → Prop} {x1 : Int} {x2 : Int} {x3 : Int} {s : lf_Z} (h : fm_155_p19L Q x1 x2 x3 s) : lf_E (px_ro L xs) (d + 205) 155 19 [(0, .ref 74), (1, .int (Int32.ofInt x1)), (2, .int (Int32.ofInt x2)), (3, .int (Int32.ofInt x3))] [] s (lf_qi Q) :=
  h (fun x2 x3 s => lf_E (px_ro L xs) (d + 205) 155 19 [(0, .ref 74), (1, .int (Int32.ofInt x1)), (2, .int (Int32.ofInt x2)), (3, .int (Int32.ofInt x3))] [] s (lf_qi Q)) (fun x2 x3 s hb => gm_155_p19 (fun _ _ _ h => h) hb)
def fm_155 (a1 : Int) (Q : Int → lf_Z → Prop) (s : lf_Z) : Prop := fm_155_p19L Q a1 0 0 (lf_up (lf_up (lf_up s.1 74 6 (-1)) 74 5 0) 74 7 a1, s.2.1, s.2.2)
set_option maxRecDepth 100000 in
theorem gm_155 {L : Nat} {xs : Nat → Int32} {d : Nat} {a1 : Int} {Q : Int → lf_Z → Prop} {s : lf_Z} (h : fm_155 a1 Q s) : lf_M (px_ro L xs) (d + 205) 155 [.ref 74, .int (Int32.ofInt a1)] s (lf_qi Q) := by
  unfold fm_155 at h
  show lf_E (px_ro L xs) (d + 205) 155 0 [(0, .ref 74), (1, .int (Int32.ofInt a1))] [] s _
  refine lf_seg 2 (pc' := 2) (lv' := [(0, .ref 74), (1, .int (Int32.ofInt a1))]) (st' := [.int (Int32.ofInt (-1)), .ref 74]) rfl ?_
  refine lf_putI 5 6 rfl rfl rfl rfl rfl rfl rfl rfl ?_
  refine lf_as (lf_up s.1 74 6 (-1), s.2.1, s.2.2) rfl ?_
  refine lf_seg 2 (pc' := 7) (lv' := [(0, .ref 74), (1, .int (Int32.ofInt a1))]) (st' := [.int (Int32.ofInt 0), .ref 74]) rfl ?_
  refine lf_putI 10 5 rfl rfl rfl rfl rfl rfl rfl rfl ?_
  refine lf_as (lf_up (lf_up s.1 74 6 (-1)) 74 5 0, s.2.1, s.2.2) rfl ?_
  refine lf_seg 2 (pc' := 12) (lv' := [(0, .ref 74), (1, .int (Int32.ofInt a1))]) (st' := [.int (Int32.ofInt a1), .ref 74]) rfl ?_
  refine lf_putI 15 7 rfl rfl rfl rfl rfl rfl rfl rfl ?_
  refine lf_as (lf_up (lf_up (lf_up s.1 74 6 (-1)) 74 5 0) 74 7 a1, s.2.1, s.2.2) rfl ?_
  refine lf_seg 4 (pc' := 19) (lv' := [(3, .int (Int32.ofInt 0)), (2, .int (Int32.ofInt 0)), (0, .ref 74), (1, .int (Int32.ofInt a1))]) (st' := []) rfl ?_
  refine lf_sub (l := [(0, .ref 74), (1, .int (Int32.ofInt a1)), (2, .int (Int32.ofInt 0)), (3, .int (Int32.ofInt 0))]) (lf_sb1 rfl (lf_sb1 rfl (lf_sb1 rfl (lf_sb1 rfl lf_sb0)))) ?_
  exact gm_155_p19L h
-- fm_157 Errands.bunchAt 74 i
def fm_157 (a1 : Int) (Q : Int → lf_Z → Prop) (s : lf_Z) : Prop := lf_R (s.1 74 6) ∧ ((s.1 74 6 = (-1) → (Q (-1) s)) ∧ (¬ (s.1 74 6 = (-1)) → (fm_15 a1 0 ((s.1 74 5) - 1) (fun z23 s22 => ((z23 = false → (Q (-1) s22)) ∧ (z23 = true → ((0 ≤ a1 ∧ a1 < 6) ∧ (Q (s22.1 77 a1) s22))))) s)))
set_option maxRecDepth 100000 in
theorem gm_157 {L : Nat} {xs : Nat → Int32} {d : Nat} {a1 : Int} {Q : Int → lf_Z → Prop} {s : lf_Z} (h : fm_157 a1 Q s) : lf_M (px_ro L xs) (d + 2) 157 [.ref 74, .int (Int32.ofInt a1)] s (lf_qi Q) := by
  unfold fm_157 at h
  show lf_E (px_ro L xs) (d + 2) 157 0 [(0, .ref 74), (1, .int (Int32.ofInt a1))] [] s _
  refine lf_seg 1 (pc' := 1) (lv' := [(0, .ref 74), (1, .int (Int32.ofInt a1))]) (st' := [.ref 74]) rfl ?_
  refine lf_getI 4 6 rfl rfl rfl rfl rfl rfl rfl ?_
  refine lf_seg 1 (pc' := 5) (lv' := [(0, .ref 74), (1, .int (Int32.ofInt a1))]) (st' := [.int (Int32.ofInt (-1)), .int (Int32.ofInt (s.1 74 6))]) rfl ?_
  obtain ⟨o21, h⟩ := h
  refine lf_icmp_eq 31 8 rfl rfl rfl o21 ⟨by decide, by decide⟩ (fun c => ?_) (fun c => ?_)
  · have h := h.1 c
    refine lf_seg 1 (pc' := 32) (lv' := [(0, .ref 74), (1, .int (Int32.ofInt a1))]) (st' := [.int (Int32.ofInt (-1))]) rfl ?_
    exact lf_retI rfl rfl h
  · have h := h.2 c
    refine lf_seg 3 (pc' := 11) (lv' := [(0, .ref 74), (1, .int (Int32.ofInt a1))]) (st' := [.ref 74, .int (Int32.ofInt 0), .int (Int32.ofInt a1)]) rfl ?_
    refine lf_getI 14 5 rfl rfl rfl rfl rfl rfl rfl ?_
    refine lf_seg 1 (pc' := 15) (lv' := [(0, .ref 74), (1, .int (Int32.ofInt a1))]) (st' := [.int (Int32.ofInt 1), .int (Int32.ofInt (s.1 74 5)), .int (Int32.ofInt 0), .int (Int32.ofInt a1)]) rfl ?_
    refine lf_isub 16 rfl rfl ?_
    refine lf_callZ 19 rfl rfl rfl rfl (gm_15 h) (fun z23 s22 h => ?_)
    refine lf_ifz_eq 31 22 rfl rfl rfl (fun c => ?_) (fun c => ?_)
    · have h := h.1 c
      refine lf_seg 1 (pc' := 32) (lv' := [(0, .ref 74), (1, .int (Int32.ofInt a1))]) (st' := [.int (Int32.ofInt (-1))]) rfl ?_
      exact lf_retI rfl rfl h
    · have h := h.2 c
      refine lf_seg 3 (pc' := 27) (lv' := [(0, .ref 74), (1, .int (Int32.ofInt a1))]) (st' := [.int (Int32.ofInt a1), .ref 77]) rfl ?_
      obtain ⟨o24, h⟩ := h
      refine lf_iald 28 6 rfl rfl rfl rfl rfl rfl o24 ?_
      refine lf_seg 1 (pc' := 32) (lv' := [(0, .ref 74), (1, .int (Int32.ofInt a1))]) (st' := [.int (Int32.ofInt (s22.1 77 a1))]) rfl ?_
      exact lf_retI rfl rfl h
-- fm_154 ElevenBullocks.after 0 i i
def fm_154 (a1 : Int) (a2 : Int) (Q : Int → lf_Z → Prop) (s : lf_Z) : Prop := fm_99 a1 (fun z22 s21 => ((z22 = false → (Q (-1) s21)) ∧ (z22 = true → (lf_R a2 ∧ (((-1) ≤ a2 → (fm_155 a1 (fun r25 s24 => ((a2 ≠ (-1) → (fm_157 a2 (fun r27 s26 => (Q r27 s26)) s24)) ∧ (¬ (a2 ≠ (-1)) → (Q r25 s24)))) s21)) ∧ (¬ ((-1) ≤ a2) → (Q (-1) s21))))))) s
set_option maxRecDepth 100000 in
theorem gm_154 {L : Nat} {xs : Nat → Int32} {d : Nat} {a1 : Int} {a2 : Int} {Q : Int → lf_Z → Prop} {s : lf_Z} (h : fm_154 a1 a2 Q s) : lf_M (px_ro L xs) (d + 206) 154 [.ref 0, .int (Int32.ofInt a1), .int (Int32.ofInt a2)] s (lf_qi Q) := by
  unfold fm_154 at h
  show lf_E (px_ro L xs) (d + 206) 154 0 [(0, .ref 0), (1, .int (Int32.ofInt a1)), (2, .int (Int32.ofInt a2))] [] s _
  refine lf_seg 3 (pc' := 5) (lv' := [(0, .ref 0), (1, .int (Int32.ofInt a1)), (2, .int (Int32.ofInt a2))]) (st' := [.int (Int32.ofInt a1), .ref 1]) rfl ?_
  refine lf_callZ 8 rfl rfl rfl rfl (gm_99 h) (fun z22 s21 h => ?_)
  refine lf_ifz_eq 16 11 rfl rfl rfl (fun c => ?_) (fun c => ?_)
  · have h := h.1 c
    refine lf_seg 1 (pc' := 17) (lv' := [(0, .ref 0), (1, .int (Int32.ofInt a1)), (2, .int (Int32.ofInt a2))]) (st' := [.int (Int32.ofInt (-1))]) rfl ?_
    exact lf_retI rfl rfl h
  · have h := h.2 c
    refine lf_seg 2 (pc' := 13) (lv' := [(0, .ref 0), (1, .int (Int32.ofInt a1)), (2, .int (Int32.ofInt a2))]) (st' := [.int (Int32.ofInt (-1)), .int (Int32.ofInt a2)]) rfl ?_
    obtain ⟨o23, h⟩ := h
    refine lf_icmp_ge 18 16 rfl rfl rfl o23 ⟨by decide, by decide⟩ (fun c => ?_) (fun c => ?_)
    · have h := h.1 c
      refine lf_seg 3 (pc' := 23) (lv' := [(0, .ref 0), (1, .int (Int32.ofInt a1)), (2, .int (Int32.ofInt a2))]) (st' := [.int (Int32.ofInt a1), .ref 74]) rfl ?_
      refine lf_callI 26 rfl rfl rfl rfl (gm_155 h) (fun r25 s24 h => ?_)
      refine lf_seg 3 (pc' := 29) (lv' := [(3, .int (Int32.ofInt r25)), (0, .ref 0), (1, .int (Int32.ofInt a1)), (2, .int (Int32.ofInt a2))]) (st' := [.int (Int32.ofInt (-1)), .int (Int32.ofInt a2)]) rfl ?_
      refine lf_icmp_ne 36 32 rfl rfl rfl o23 ⟨by decide, by decide⟩ (fun c => ?_) (fun c => ?_)
      · have h := h.1 c
        refine lf_seg 3 (pc' := 41) (lv' := [(3, .int (Int32.ofInt r25)), (0, .ref 0), (1, .int (Int32.ofInt a1)), (2, .int (Int32.ofInt a2))]) (st' := [.int (Int32.ofInt a2), .ref 74]) rfl ?_
        refine lf_callI 44 rfl rfl rfl rfl (gm_157 h) (fun r27 s26 h => ?_)
        exact lf_retI rfl rfl h
      · have h := h.2 c
        refine lf_seg 2 (pc' := 44) (lv' := [(3, .int (Int32.ofInt r25)), (0, .ref 0), (1, .int (Int32.ofInt a1)), (2, .int (Int32.ofInt a2))]) (st' := [.int (Int32.ofInt r25)]) rfl ?_
        exact lf_retI rfl rfl h
    · have h := h.2 c
      refine lf_seg 1 (pc' := 17) (lv' := [(0, .ref 0), (1, .int (Int32.ofInt a1)), (2, .int (Int32.ofInt a2))]) (st' := [.int (Int32.ofInt (-1))]) rfl ?_
      exact lf_retI rfl rfl h
-- fm_312 Model.layBunches 95 i
def fm_312_p61 (X38 : Int → lf_Z → Prop) (Q : Int → lf_Z → Prop) (x1 : Int) (x2 : Int) (x3 : Int) (X61 : Int → lf_Z → Prop) (x4 : Int) (s : lf_Z) : Prop := lf_R x4 ∧ (lf_R x2 ∧ ((x2 ≤ x4 → (fm_239 x1 (fun r31 s30 => (fm_299 x1 r31 (fun r33 s32 => ((0 ≤ 16 + x3 ∧ 16 + x3 < 20) ∧ (X38 (x3 + 1) (lf_up s32.1 119 (16 + x3) r33, s32.2.1, s32.2.2)))) s30)) s)) ∧ (¬ (x2 ≤ x4) → ((0 ≤ x4 ∧ x4 < 4) ∧ (fm_255 (s.1 118 x4) (fun r37 s36 => (fm_299 x1 r37 (fun r39 s38 => ((0 ≤ (4 * x4) + x3 ∧ (4 * x4) + x3 < 20) ∧ (X61 (x4 + 1) (lf_up s38.1 119 ((4 * x4) + x3) r39, s38.2.1, s38.2.2)))) s36)) s)))))
def fm_312_p61L (X38 : Int → lf_Z → Prop) (Q : Int → lf_Z → Prop) (x1 : Int) (x2 : Int) (x3 : Int) (x4 : Int) (s : lf_Z) : Prop := ∀ X61 : Int → lf_Z → Prop, (∀ (x4 : Int) (s : lf_Z), fm_312_p61 X38 Q x1 x2 x3 X61 x4 s → X61 x4 s) → X61 x4 s
set_option maxRecDepth 100000 in
theorem gm_312_p61 {L : Nat} {xs : Nat → Int32} {d : Nat} {X38 : Int → lf_Z → Prop} {Q : Int → lf_Z → Prop} {x1 : Int} {x2 : Int} {x3 : Int} {x4 : Int} {s : lf_Z} {X61 : Int → lf_Z → Prop} (hX38 : ∀ x3 s, X38 x3 s → lf_E (px_ro L xs) (d + 3) 312 38 [(0, .ref 95), (1, .int (Int32.ofInt x1)), (2, .int (Int32.ofInt x2)), (3, .int (Int32.ofInt x3))] [] s (lf_qi Q)) (hX61 : ∀ x4 s, X61 x4 s → lf_E (px_ro L xs) (d + 3) 312 61 [(0, .ref 95), (1, .int (Int32.ofInt x1)), (2, .int (Int32.ofInt x2)), (3, .int (Int32.ofInt x3)), (4, .int (Int32.ofInt x4))] [] s (lf_qi Q)) (h : fm_312_p61 X38 Q x1 x2 x3 X61 x4 s) : lf_E (px_ro L xs) (d + 3) 312 61 [(0, .ref 95), (1, .int (Int32.ofInt x1)), (2, .int (Int32.ofInt x2)), (3, .int (Int32.ofInt x3)), (4, .int (Int32.ofInt x4))] [] s (lf_qi Q) := by
  unfold fm_312_p61 at h
  refine lf_seg 2 (pc' := 64) (lv' := [(0, .ref 95), (1, .int (Int32.ofInt x1)), (2, .int (Int32.ofInt x2)), (3, .int (Int32.ofInt x3)), (4, .int (Int32.ofInt x4))]) (st' := [.int (Int32.ofInt x2), .int (Int32.ofInt x4)]) rfl ?_
  obtain ⟨o28, h⟩ := h
  obtain ⟨o29, h⟩ := h
  refine lf_icmp_ge 100 67 rfl rfl rfl o28 o29 (fun c => ?_) (fun c => ?_)
  · have h := h.1 c
    refine lf_seg 2 (pc' := 104) (lv' := [(0, .ref 95), (1, .int (Int32.ofInt x1)), (2, .int (Int32.ofInt x2)), (3, .int (Int32.ofInt x3)), (4, .int (Int32.ofInt x4))]) (st' := [.ref 119]) rfl ?_
    refine lf_bipush 106 16 rfl rfl (by decide) (by decide) ?_
    refine lf_seg 1 (pc' := 107) (lv' := [(0, .ref 95), (1, .int (Int32.ofInt x1)), (2, .int (Int32.ofInt x2)), (3, .int (Int32.ofInt x3)), (4, .int (Int32.ofInt x4))]) (st' := [.int (Int32.ofInt x3), .int (Int32.ofInt 16), .ref 119]) rfl ?_
    refine lf_iadd 108 rfl rfl ?_
    refine lf_seg 5 (pc' := 113) (lv' := [(0, .ref 95), (1, .int (Int32.ofInt x1)), (2, .int (Int32.ofInt x2)), (3, .int (Int32.ofInt x3)), (4, .int (Int32.ofInt x4))]) (st' := [.int (Int32.ofInt 3), .int (Int32.ofInt x1), .ref 95, .int (Int32.ofInt x1), .ref 95, .int (Int32.ofInt (16 + x3)), .ref 119]) rfl ?_
    refine lf_callI 116 rfl rfl rfl rfl (gm_239 h) (fun r31 s30 h => ?_)
    refine lf_callI 119 rfl rfl rfl rfl (gm_299 h) (fun r33 s32 h => ?_)
    obtain ⟨o34, h⟩ := h
    refine lf_iast 120 20 rfl rfl rfl rfl rfl rfl o34 ?_
    refine lf_as (lf_up s32.1 119 (16 + x3) r33, s32.2.1, s32.2.2) rfl ?_
    refine lf_iinc 123 rfl rfl rfl rfl ?_
    refine lf_seg 1 (pc' := 38) (lv' := [(3, .int (Int32.ofInt (x3 + 1))), (0, .ref 95), (1, .int (Int32.ofInt x1)), (2, .int (Int32.ofInt x2)), (4, .int (Int32.ofInt x4))]) (st' := []) rfl ?_
    refine lf_sub (l := [(0, .ref 95), (1, .int (Int32.ofInt x1)), (2, .int (Int32.ofInt x2)), (3, .int (Int32.ofInt (x3 + 1)))]) (lf_sb1 rfl (lf_sb1 rfl (lf_sb1 rfl (lf_sb1 rfl lf_sb0)))) ?_
    exact hX38 _ _ h
  · have h := h.2 c
    refine lf_seg 4 (pc' := 74) (lv' := [(0, .ref 95), (1, .int (Int32.ofInt x1)), (2, .int (Int32.ofInt x2)), (3, .int (Int32.ofInt x3)), (4, .int (Int32.ofInt x4))]) (st' := [.int (Int32.ofInt x4), .int (Int32.ofInt 4), .ref 119]) rfl ?_
    refine lf_imul 75 rfl rfl ?_
    refine lf_seg 1 (pc' := 76) (lv' := [(0, .ref 95), (1, .int (Int32.ofInt x1)), (2, .int (Int32.ofInt x2)), (3, .int (Int32.ofInt x3)), (4, .int (Int32.ofInt x4))]) (st' := [.int (Int32.ofInt x3), .int (Int32.ofInt (4 * x4)), .ref 119]) rfl ?_
    refine lf_iadd 77 rfl rfl ?_
    refine lf_seg 6 (pc' := 86) (lv' := [(0, .ref 95), (1, .int (Int32.ofInt x1)), (2, .int (Int32.ofInt x2)), (3, .int (Int32.ofInt x3)), (4, .int (Int32.ofInt x4))]) (st' := [.int (Int32.ofInt x4), .ref 118, .ref 95, .int (Int32.ofInt x1), .ref 95, .int (Int32.ofInt ((4 * x4) + x3)), .ref 119]) rfl ?_
    obtain ⟨o35, h⟩ := h
    refine lf_iald 87 4 rfl rfl rfl rfl rfl rfl o35 ?_
    refine lf_callI 90 rfl rfl rfl rfl (gm_255 h) (fun r37 s36 h => ?_)
    refine lf_callI 93 rfl rfl rfl rfl (gm_299 h) (fun r39 s38 h => ?_)
    obtain ⟨o40, h⟩ := h
    refine lf_iast 94 20 rfl rfl rfl rfl rfl rfl o40 ?_
    refine lf_as (lf_up s38.1 119 ((4 * x4) + x3) r39, s38.2.1, s38.2.2) rfl ?_
    refine lf_iinc 97 rfl rfl rfl rfl ?_
    refine lf_seg 1 (pc' := 61) (lv' := [(4, .int (Int32.ofInt (x4 + 1))), (0, .ref 95), (1, .int (Int32.ofInt x1)), (2, .int (Int32.ofInt x2)), (3, .int (Int32.ofInt x3))]) (st' := []) rfl ?_
    refine lf_sub (l := [(0, .ref 95), (1, .int (Int32.ofInt x1)), (2, .int (Int32.ofInt x2)), (3, .int (Int32.ofInt x3)), (4, .int (Int32.ofInt (x4 + 1)))]) (lf_sb1 rfl (lf_sb1 rfl (lf_sb1 rfl (lf_sb1 rfl (lf_sb1 rfl lf_sb0))))) ?_
    exact hX61 _ _ h
theorem gm_312_p61L {L : Nat} {xs : Nat → Int32} {d : Nat} {X38 : Int → lf_Z → Prop} {Q : Int → lf_Z → Prop} {x1 : Int} {x2 : Int} {x3 : Int} {x4 : Int} {s : lf_Z} (hX38 : ∀ x3 s, X38 x3 s → lf_E (px_ro L xs) (d + 3) 312 38 [(0, .ref 95), (1, .int (Int32.ofInt x1)), (2, .int (Int32.ofInt x2)), (3, .int (Int32.ofInt x3))] [] s (lf_qi Q)) (h : fm_312_p61L X38 Q x1 x2 x3 x4 s) : lf_E (px_ro L xs) (d + 3) 312 61 [(0, .ref 95), (1, .int (Int32.ofInt x1)), (2, .int (Int32.ofInt x2)), (3, .int (Int32.ofInt x3)), (4, .int (Int32.ofInt x4))] [] s (lf_qi Q) :=
  h (fun x4 s => lf_E (px_ro L xs) (d + 3) 312 61 [(0, .ref 95), (1, .int (Int32.ofInt x1)), (2, .int (Int32.ofInt x2)), (3, .int (Int32.ofInt x3)), (4, .int (Int32.ofInt x4))] [] s (lf_qi Q)) (fun x4 s hb => gm_312_p61 hX38 (fun _ _ h => h) hb)
def fm_312_p38 (Q : Int → lf_Z → Prop) (x1 : Int) (x2 : Int) (X38 : Int → lf_Z → Prop) (x3 : Int) (s : lf_Z) : Prop := lf_R x3 ∧ (lf_R x2 ∧ ((x2 ≤ x3 → (Q x2 s)) ∧ (¬ (x2 ≤ x3) → ((0 ≤ x3 ∧ x3 < 4) ∧ (fm_255 (s.1 118 x3) (fun r26 s25 => (fm_261 r26 1 (fun s27 => (fm_312_p61L X38 Q x1 x2 x3 0 s27)) s25)) s)))))
def fm_312_p38L (Q : Int → lf_Z → Prop) (x1 : Int) (x2 : Int) (x3 : Int) (s : lf_Z) : Prop := ∀ X38 : Int → lf_Z → Prop, (∀ (x3 : Int) (s : lf_Z), fm_312_p38 Q x1 x2 X38 x3 s → X38 x3 s) → X38 x3 s
set_option maxRecDepth 100000 in
theorem gm_312_p38 {L : Nat} {xs : Nat → Int32} {d : Nat} {Q : Int → lf_Z → Prop} {x1 : Int} {x2 : Int} {x3 : Int} {s : lf_Z} {X38 : Int → lf_Z → Prop} (hX38 : ∀ x3 s, X38 x3 s → lf_E (px_ro L xs) (d + 3) 312 38 [(0, .ref 95), (1, .int (Int32.ofInt x1)), (2, .int (Int32.ofInt x2)), (3, .int (Int32.ofInt x3))] [] s (lf_qi Q)) (h : fm_312_p38 Q x1 x2 X38 x3 s) : lf_E (px_ro L xs) (d + 3) 312 38 [(0, .ref 95), (1, .int (Int32.ofInt x1)), (2, .int (Int32.ofInt x2)), (3, .int (Int32.ofInt x3))] [] s (lf_qi Q) := by
  unfold fm_312_p38 at h
  refine lf_seg 2 (pc' := 40) (lv' := [(0, .ref 95), (1, .int (Int32.ofInt x1)), (2, .int (Int32.ofInt x2)), (3, .int (Int32.ofInt x3))]) (st' := [.int (Int32.ofInt x2), .int (Int32.ofInt x3)]) rfl ?_
  obtain ⟨o22, h⟩ := h
  obtain ⟨o23, h⟩ := h
  refine lf_icmp_ge 126 43 rfl rfl rfl o22 o23 (fun c => ?_) (fun c => ?_)
  · have h := h.1 c
    refine lf_seg 1 (pc' := 127) (lv' := [(0, .ref 95), (1, .int (Int32.ofInt x1)), (2, .int (Int32.ofInt x2)), (3, .int (Int32.ofInt x3))]) (st' := [.int (Int32.ofInt x2)]) rfl ?_
    exact lf_retI rfl rfl h
  · have h := h.2 c
    refine lf_seg 5 (pc' := 50) (lv' := [(0, .ref 95), (1, .int (Int32.ofInt x1)), (2, .int (Int32.ofInt x2)), (3, .int (Int32.ofInt x3))]) (st' := [.int (Int32.ofInt x3), .ref 118, .ref 95, .ref 95]) rfl ?_
    obtain ⟨o24, h⟩ := h
    refine lf_iald 51 4 rfl rfl rfl rfl rfl rfl o24 ?_
    refine lf_callI 54 rfl rfl rfl rfl (gm_255 h) (fun r26 s25 h => ?_)
    refine lf_seg 1 (pc' := 55) (lv' := [(0, .ref 95), (1, .int (Int32.ofInt x1)), (2, .int (Int32.ofInt x2)), (3, .int (Int32.ofInt x3))]) (st' := [.int (Int32.ofInt 1), .int (Int32.ofInt r26), .ref 95]) rfl ?_
    refine lf_callV 58 rfl rfl rfl rfl (gm_261 h) (fun s27 h => ?_)
    refine lf_seg 2 (pc' := 61) (lv' := [(4, .int (Int32.ofInt 0)), (0, .ref 95), (1, .int (Int32.ofInt x1)), (2, .int (Int32.ofInt x2)), (3, .int (Int32.ofInt x3))]) (st' := []) rfl ?_
    refine lf_sub (l := [(0, .ref 95), (1, .int (Int32.ofInt x1)), (2, .int (Int32.ofInt x2)), (3, .int (Int32.ofInt x3)), (4, .int (Int32.ofInt 0))]) (lf_sb1 rfl (lf_sb1 rfl (lf_sb1 rfl (lf_sb1 rfl (lf_sb1 rfl lf_sb0))))) ?_
    exact gm_312_p61L hX38 h
theorem gm_312_p38L {L : Nat} {xs : Nat → Int32} {d : Nat} {Q : Int → lf_Z → Prop} {x1 : Int} {x2 : Int} {x3 : Int} {s : lf_Z} (h : fm_312_p38L Q x1 x2 x3 s) : lf_E (px_ro L xs) (d + 3) 312 38 [(0, .ref 95), (1, .int (Int32.ofInt x1)), (2, .int (Int32.ofInt x2)), (3, .int (Int32.ofInt x3))] [] s (lf_qi Q) :=
  h (fun x3 s => lf_E (px_ro L xs) (d + 3) 312 38 [(0, .ref 95), (1, .int (Int32.ofInt x1)), (2, .int (Int32.ofInt x2)), (3, .int (Int32.ofInt x3))] [] s (lf_qi Q)) (fun x3 s hb => gm_312_p38 (fun _ _ h => h) hb)
def fm_312_p30 (X4 : Int → Int → lf_Z → Prop) (Q : Int → lf_Z → Prop) (x1 : Int) (x2 : Int) (x3 : Int) (s : lf_Z) : Prop := X4 x2 (x3 + 1) s
set_option maxRecDepth 100000 in
theorem gm_312_p30 {L : Nat} {xs : Nat → Int32} {d : Nat} {X4 : Int → Int → lf_Z → Prop} {Q : Int → lf_Z → Prop} {x1 : Int} {x2 : Int} {x3 : Int} {s : lf_Z} (hX4 : ∀ x2 x3 s, X4 x2 x3 s → lf_E (px_ro L xs) (d + 3) 312 4 [(0, .ref 95), (1, .int (Int32.ofInt x1)), (2, .int (Int32.ofInt x2)), (3, .int (Int32.ofInt x3))] [] s (lf_qi Q)) (h : fm_312_p30 X4 Q x1 x2 x3 s) : lf_E (px_ro L xs) (d + 3) 312 30 [(0, .ref 95), (1, .int (Int32.ofInt x1)), (2, .int (Int32.ofInt x2)), (3, .int (Int32.ofInt x3))] [] s (lf_qi Q) := by
  unfold fm_312_p30 at h
  refine lf_iinc 33 rfl rfl rfl rfl ?_
  refine lf_seg 1 (pc' := 4) (lv' := [(3, .int (Int32.ofInt (x3 + 1))), (0, .ref 95), (1, .int (Int32.ofInt x1)), (2, .int (Int32.ofInt x2))]) (st' := []) rfl ?_
  refine lf_sub (l := [(0, .ref 95), (1, .int (Int32.ofInt x1)), (2, .int (Int32.ofInt x2)), (3, .int (Int32.ofInt (x3 + 1)))]) (lf_sb1 rfl (lf_sb1 rfl (lf_sb1 rfl (lf_sb1 rfl lf_sb0)))) ?_
  exact hX4 _ _ _ h
def fm_312_p4 (Q : Int → lf_Z → Prop) (x1 : Int) (X4 : Int → Int → lf_Z → Prop) (x2 : Int) (x3 : Int) (s : lf_Z) : Prop := lf_R x3 ∧ ((4 ≤ x3 → (fm_312_p38L Q x1 x2 0 s)) ∧ (¬ (4 ≤ x3) → (fm_242 x3 (fun r42 s41 => (lf_R r42 ∧ ((r42 ≠ 0 → ((0 ≤ x2 ∧ x2 < 4) ∧ (fm_312_p30 X4 Q x1 (x2 + 1) x3 (lf_up s41.1 118 x2 x3, s41.2.1, s41.2.2)))) ∧ (¬ (r42 ≠ 0) → (fm_312_p30 X4 Q x1 x2 x3 s41))))) s)))
def fm_312_p4L (Q : Int → lf_Z → Prop) (x1 : Int) (x2 : Int) (x3 : Int) (s : lf_Z) : Prop := ∀ X4 : Int → Int → lf_Z → Prop, (∀ (x2 : Int) (x3 : Int) (s : lf_Z), fm_312_p4 Q x1 X4 x2 x3 s → X4 x2 x3 s) → X4 x2 x3 s
set_option maxRecDepth 100000 in
theorem gm_312_p4 {L : Nat} {xs : Nat → Int32} {d : Nat} {Q : Int → lf_Z → Prop} {x1 : Int} {x2 : Int} {x3 : Int} {s : lf_Z} {X4 : Int → Int → lf_Z → Prop} (hX4 : ∀ x2 x3 s, X4 x2 x3 s → lf_E (px_ro L xs) (d + 3) 312 4 [(0, .ref 95), (1, .int (Int32.ofInt x1)), (2, .int (Int32.ofInt x2)), (3, .int (Int32.ofInt x3))] [] s (lf_qi Q)) (h : fm_312_p4 Q x1 X4 x2 x3 s) : lf_E (px_ro L xs) (d + 3) 312 4 [(0, .ref 95), (1, .int (Int32.ofInt x1)), (2, .int (Int32.ofInt x2)), (3, .int (Int32.ofInt x3))] [] s (lf_qi Q) := by
  unfold fm_312_p4 at h
  refine lf_seg 2 (pc' := 6) (lv' := [(0, .ref 95), (1, .int (Int32.ofInt x1)), (2, .int (Int32.ofInt x2)), (3, .int (Int32.ofInt x3))]) (st' := [.int (Int32.ofInt 4), .int (Int32.ofInt x3)]) rfl ?_
  obtain ⟨o21, h⟩ := h
  refine lf_icmp_ge 36 9 rfl rfl rfl o21 ⟨by decide, by decide⟩ (fun c => ?_) (fun c => ?_)
  · have h := h.1 c
    refine lf_seg 2 (pc' := 38) (lv' := [(3, .int (Int32.ofInt 0)), (0, .ref 95), (1, .int (Int32.ofInt x1)), (2, .int (Int32.ofInt x2))]) (st' := []) rfl ?_
    refine lf_sub (l := [(0, .ref 95), (1, .int (Int32.ofInt x1)), (2, .int (Int32.ofInt x2)), (3, .int (Int32.ofInt 0))]) (lf_sb1 rfl (lf_sb1 rfl (lf_sb1 rfl (lf_sb1 rfl lf_sb0)))) ?_
    exact gm_312_p38L h
  · have h := h.2 c
    refine lf_seg 2 (pc' := 11) (lv' := [(0, .ref 95), (1, .int (Int32.ofInt x1)), (2, .int (Int32.ofInt x2)), (3, .int (Int32.ofInt x3))]) (st' := [.int (Int32.ofInt x3), .ref 95]) rfl ?_
    refine lf_callI 14 rfl rfl rfl rfl (gm_242 h) (fun r42 s41 h => ?_)
    obtain ⟨o43, h⟩ := h
    refine lf_if_ne 20 17 rfl rfl rfl o43 (fun c => ?_) (fun c => ?_)
    · have h := h.1 c
      refine lf_seg 4 (pc' := 26) (lv' := [(0, .ref 95), (1, .int (Int32.ofInt x1)), (2, .int (Int32.ofInt x2)), (3, .int (Int32.ofInt x3))]) (st' := [.int (Int32.ofInt x3), .int (Int32.ofInt x2), .ref 118]) rfl ?_
      obtain ⟨o44, h⟩ := h
      refine lf_iast 27 4 rfl rfl rfl rfl rfl rfl o44 ?_
      refine lf_as (lf_up s41.1 118 x2 x3, s41.2.1, s41.2.2) rfl ?_
      refine lf_iinc 30 rfl rfl rfl rfl ?_
      refine lf_seg 0 (pc' := 30) (lv' := [(2, .int (Int32.ofInt (x2 + 1))), (0, .ref 95), (1, .int (Int32.ofInt x1)), (3, .int (Int32.ofInt x3))]) (st' := []) rfl ?_
      refine lf_sub (l := [(0, .ref 95), (1, .int (Int32.ofInt x1)), (2, .int (Int32.ofInt (x2 + 1))), (3, .int (Int32.ofInt x3))]) (lf_sb1 rfl (lf_sb1 rfl (lf_sb1 rfl (lf_sb1 rfl lf_sb0)))) ?_
      exact gm_312_p30 hX4 h
    · have h := h.2 c
      refine lf_seg 1 (pc' := 30) (lv' := [(0, .ref 95), (1, .int (Int32.ofInt x1)), (2, .int (Int32.ofInt x2)), (3, .int (Int32.ofInt x3))]) (st' := []) rfl ?_
      refine lf_sub (l := [(0, .ref 95), (1, .int (Int32.ofInt x1)), (2, .int (Int32.ofInt x2)), (3, .int (Int32.ofInt x3))]) (lf_sb1 rfl (lf_sb1 rfl (lf_sb1 rfl (lf_sb1 rfl lf_sb0)))) ?_
      exact gm_312_p30 hX4 h
theorem gm_312_p4L {L : Nat} {xs : Nat → Int32} {d : Nat} {Q : Int → lf_Z → Prop} {x1 : Int} {x2 : Int} {x3 : Int} {s : lf_Z} (h : fm_312_p4L Q x1 x2 x3 s) : lf_E (px_ro L xs) (d + 3) 312 4 [(0, .ref 95), (1, .int (Int32.ofInt x1)), (2, .int (Int32.ofInt x2)), (3, .int (Int32.ofInt x3))] [] s (lf_qi Q) :=
  h (fun x2 x3 s => lf_E (px_ro L xs) (d + 3) 312 4 [(0, .ref 95), (1, .int (Int32.ofInt x1)), (2, .int (Int32.ofInt x2)), (3, .int (Int32.ofInt x3))] [] s (lf_qi Q)) (fun x2 x3 s hb => gm_312_p4 (fun _ _ _ h => h) hb)
def fm_312 (a1 : Int) (Q : Int → lf_Z → Prop) (s : lf_Z) : Prop := fm_312_p4L Q a1 0 0 s
set_option maxRecDepth 100000 in
theorem gm_312 {L : Nat} {xs : Nat → Int32} {d : Nat} {a1 : Int} {Q : Int → lf_Z → Prop} {s : lf_Z} (h : fm_312 a1 Q s) : lf_M (px_ro L xs) (d + 3) 312 [.ref 95, .int (Int32.ofInt a1)] s (lf_qi Q) := by
  unfold fm_312 at h
  show lf_E (px_ro L xs) (d + 3) 312 0 [(0, .ref 95), (1, .int (Int32.ofInt a1))] [] s _
  refine lf_seg 4 (pc' := 4) (lv' := [(3, .int (Int32.ofInt 0)), (2, .int (Int32.ofInt 0)), (0, .ref 95), (1, .int (Int32.ofInt a1))]) (st' := []) rfl ?_
  refine lf_sub (l := [(0, .ref 95), (1, .int (Int32.ofInt a1)), (2, .int (Int32.ofInt 0)), (3, .int (Int32.ofInt 0))]) (lf_sb1 rfl (lf_sb1 rfl (lf_sb1 rfl (lf_sb1 rfl lf_sb0)))) ?_
  exact gm_312_p4L h
-- fm_313 Model.harmBy 95 i
def fm_313_p10 (Q : Int → lf_Z → Prop) (x1 : Int) (X10 : Int → Int → Int → Int → lf_Z → Prop) (x2 : Int) (x3 : Int) (x4 : Int) (x5 : Int) (s : lf_Z) : Prop := lf_R x5 ∧ (lf_R x1 ∧ ((x1 ≤ x5 → (Q x2 s)) ∧ (¬ (x1 ≤ x5) → ((0 ≤ x5 ∧ x5 < 6) ∧ ((0 ≤ s.1 116 x5 ∧ s.1 116 x5 < 4) ∧ ((0 ≤ (4 * x4) + (s.1 116 x5) ∧ (4 * x4) + (s.1 116 x5) < 20) ∧ (fm_242 (s.1 118 (s.1 116 x5)) (fun r27 s26 => (fm_255 (s.1 118 (s.1 116 x5)) (fun r29 s28 => (fm_277 r29 (fun r31 s30 => (X10 (x2 + ((r27 * r31) * (x3 + (s.1 119 ((4 * x4) + (s.1 116 x5)))))) (x3 + (s.1 119 ((4 * x4) + (s.1 116 x5)))) (s.1 116 x5) (x5 + 1) s30)) s28)) s26)) s)))))))
def fm_313_p10L (Q : Int → lf_Z → Prop) (x1 : Int) (x2 : Int) (x3 : Int) (x4 : Int) (x5 : Int) (s : lf_Z) : Prop := ∀ X10 : Int → Int → Int → Int → lf_Z → Prop, (∀ (x2 : Int) (x3 : Int) (x4 : Int) (x5 : Int) (s : lf_Z), fm_313_p10 Q x1 X10 x2 x3 x4 x5 s → X10 x2 x3 x4 x5 s) → X10 x2 x3 x4 x5 s
set_option maxRecDepth 100000 in
theorem gm_313_p10 {L : Nat} {xs : Nat → Int32} {d : Nat} {Q : Int → lf_Z → Prop} {x1 : Int} {x2 : Int} {x3 : Int} {x4 : Int} {x5 : Int} {s : lf_Z} {X10 : Int → Int → Int → Int → lf_Z → Prop} (hX10 : ∀ x2 x3 x4 x5 s, X10 x2 x3 x4 x5 s → lf_E (px_ro L xs) (d + 2) 313 10 [(0, .ref 95), (1, .int (Int32.ofInt x1)), (2, .int (Int32.ofInt x2)), (3, .int (Int32.ofInt x3)), (4, .int (Int32.ofInt x4)), (5, .int (Int32.ofInt x5))] [] s (lf_qi Q)) (h : fm_313_p10 Q x1 X10 x2 x3 x4 x5 s) : lf_E (px_ro L xs) (d + 2) 313 10 [(0, .ref 95), (1, .int (Int32.ofInt x1)), (2, .int (Int32.ofInt x2)), (3, .int (Int32.ofInt x3)), (4, .int (Int32.ofInt x4)), (5, .int (Int32.ofInt x5))] [] s (lf_qi Q) := by
  unfold fm_313_p10 at h
  refine lf_seg 2 (pc' := 13) (lv' := [(0, .ref 95), (1, .int (Int32.ofInt x1)), (2, .int (Int32.ofInt x2)), (3, .int (Int32.ofInt x3)), (4, .int (Int32.ofInt x4)), (5, .int (Int32.ofInt x5))]) (st' := [.int (Int32.ofInt x1), .int (Int32.ofInt x5)]) rfl ?_
  obtain ⟨o21, h⟩ := h
  obtain ⟨o22, h⟩ := h
  refine lf_icmp_ge 87 16 rfl rfl rfl o21 o22 (fun c => ?_) (fun c => ?_)
  · have h := h.1 c
    refine lf_seg 1 (pc' := 88) (lv' := [(0, .ref 95), (1, .int (Int32.ofInt x1)), (2, .int (Int32.ofInt x2)), (3, .int (Int32.ofInt x3)), (4, .int (Int32.ofInt x4)), (5, .int (Int32.ofInt x5))]) (st' := [.int (Int32.ofInt x2)]) rfl ?_
    exact lf_retI rfl rfl h
  · have h := h.2 c
    refine lf_seg 5 (pc' := 26) (lv' := [(0, .ref 95), (1, .int (Int32.ofInt x1)), (2, .int (Int32.ofInt x2)), (3, .int (Int32.ofInt x3)), (4, .int (Int32.ofInt x4)), (5, .int (Int32.ofInt x5))]) (st' := [.int (Int32.ofInt x5), .ref 116, .ref 118]) rfl ?_
    obtain ⟨o23, h⟩ := h
    refine lf_iald 27 6 rfl rfl rfl rfl rfl rfl o23 ?_
    obtain ⟨o24, h⟩ := h
    refine lf_iald 28 4 rfl rfl rfl rfl rfl rfl o24 ?_
    refine lf_seg 6 (pc' := 38) (lv' := [(6, .int (Int32.ofInt (s.1 118 (s.1 116 x5)))), (0, .ref 95), (1, .int (Int32.ofInt x1)), (2, .int (Int32.ofInt x2)), (3, .int (Int32.ofInt x3)), (4, .int (Int32.ofInt x4)), (5, .int (Int32.ofInt x5))]) (st' := [.int (Int32.ofInt x4), .int (Int32.ofInt 4), .ref 119, .int (Int32.ofInt x3)]) rfl ?_
    refine lf_imul 39 rfl rfl ?_
    refine lf_seg 3 (pc' := 45) (lv' := [(6, .int (Int32.ofInt (s.1 118 (s.1 116 x5)))), (0, .ref 95), (1, .int (Int32.ofInt x1)), (2, .int (Int32.ofInt x2)), (3, .int (Int32.ofInt x3)), (4, .int (Int32.ofInt x4)), (5, .int (Int32.ofInt x5))]) (st' := [.int (Int32.ofInt x5), .ref 116, .int (Int32.ofInt (4 * x4)), .ref 119, .int (Int32.ofInt x3)]) rfl ?_
    refine lf_iald 46 6 rfl rfl rfl rfl rfl rfl o23 ?_
    refine lf_iadd 47 rfl rfl ?_
    obtain ⟨o25, h⟩ := h
    refine lf_iald 48 20 rfl rfl rfl rfl rfl rfl o25 ?_
    refine lf_iadd 49 rfl rfl ?_
    refine lf_seg 4 (pc' := 56) (lv' := [(3, .int (Int32.ofInt (x3 + (s.1 119 ((4 * x4) + (s.1 116 x5)))))), (6, .int (Int32.ofInt (s.1 118 (s.1 116 x5)))), (0, .ref 95), (1, .int (Int32.ofInt x1)), (2, .int (Int32.ofInt x2)), (4, .int (Int32.ofInt x4)), (5, .int (Int32.ofInt x5))]) (st' := [.int (Int32.ofInt x5), .ref 116]) rfl ?_
    refine lf_iald 57 6 rfl rfl rfl rfl rfl rfl o23 ?_
    refine lf_seg 4 (pc' := 63) (lv' := [(4, .int (Int32.ofInt (s.1 116 x5))), (3, .int (Int32.ofInt (x3 + (s.1 119 ((4 * x4) + (s.1 116 x5)))))), (6, .int (Int32.ofInt (s.1 118 (s.1 116 x5)))), (0, .ref 95), (1, .int (Int32.ofInt x1)), (2, .int (Int32.ofInt x2)), (5, .int (Int32.ofInt x5))]) (st' := [.int (Int32.ofInt (s.1 118 (s.1 116 x5))), .ref 95, .int (Int32.ofInt x2)]) rfl ?_
    refine lf_callI 66 rfl rfl rfl rfl (gm_242 h) (fun r27 s26 h => ?_)
    refine lf_seg 3 (pc' := 70) (lv' := [(4, .int (Int32.ofInt (s.1 116 x5))), (3, .int (Int32.ofInt (x3 + (s.1 119 ((4 * x4) + (s.1 116 x5)))))), (6, .int (Int32.ofInt (s.1 118 (s.1 116 x5)))), (0, .ref 95), (1, .int (Int32.ofInt x1)), (2, .int (Int32.ofInt x2)), (5, .int (Int32.ofInt x5))]) (st' := [.int (Int32.ofInt (s.1 118 (s.1 116 x5))), .ref 95, .ref 95, .int (Int32.ofInt r27), .int (Int32.ofInt x2)]) rfl ?_
    refine lf_callI 73 rfl rfl rfl rfl (gm_255 h) (fun r29 s28 h => ?_)
    refine lf_callI 76 rfl rfl rfl rfl (gm_277 h) (fun r31 s30 h => ?_)
    refine lf_imul 77 rfl rfl ?_
    refine lf_seg 1 (pc' := 78) (lv' := [(4, .int (Int32.ofInt (s.1 116 x5))), (3, .int (Int32.ofInt (x3 + (s.1 119 ((4 * x4) + (s.1 116 x5)))))), (6, .int (Int32.ofInt (s.1 118 (s.1 116 x5)))), (0, .ref 95), (1, .int (Int32.ofInt x1)), (2, .int (Int32.ofInt x2)), (5, .int (Int32.ofInt x5))]) (st' := [.int (Int32.ofInt (x3 + (s.1 119 ((4 * x4) + (s.1 116 x5))))), .int (Int32.ofInt (r27 * r31)), .int (Int32.ofInt x2)]) rfl ?_
    refine lf_imul 79 rfl rfl ?_
    refine lf_iadd 80 rfl rfl ?_
    refine lf_seg 1 (pc' := 81) (lv' := [(2, .int (Int32.ofInt (x2 + ((r27 * r31) * (x3 + (s.1 119 ((4 * x4) + (s.1 116 x5)))))))), (4, .int (Int32.ofInt (s.1 116 x5))), (3, .int (Int32.ofInt (x3 + (s.1 119 ((4 * x4) + (s.1 116 x5)))))), (6, .int (Int32.ofInt (s.1 118 (s.1 116 x5)))), (0, .ref 95), (1, .int (Int32.ofInt x1)), (5, .int (Int32.ofInt x5))]) (st' := []) rfl ?_
    refine lf_iinc 84 rfl rfl rfl rfl ?_
    refine lf_seg 1 (pc' := 10) (lv' := [(5, .int (Int32.ofInt (x5 + 1))), (2, .int (Int32.ofInt (x2 + ((r27 * r31) * (x3 + (s.1 119 ((4 * x4) + (s.1 116 x5)))))))), (4, .int (Int32.ofInt (s.1 116 x5))), (3, .int (Int32.ofInt (x3 + (s.1 119 ((4 * x4) + (s.1 116 x5)))))), (6, .int (Int32.ofInt (s.1 118 (s.1 116 x5)))), (0, .ref 95), (1, .int (Int32.ofInt x1))]) (st' := []) rfl ?_
    refine lf_sub (l := [(0, .ref 95), (1, .int (Int32.ofInt x1)), (2, .int (Int32.ofInt (x2 + ((r27 * r31) * (x3 + (s.1 119 ((4 * x4) + (s.1 116 x5)))))))), (3, .int (Int32.ofInt (x3 + (s.1 119 ((4 * x4) + (s.1 116 x5)))))), (4, .int (Int32.ofInt (s.1 116 x5))), (5, .int (Int32.ofInt (x5 + 1)))]) (lf_sb1 rfl (lf_sb1 rfl (lf_sb1 rfl (lf_sb1 rfl (lf_sb1 rfl (lf_sb1 rfl lf_sb0)))))) ?_
    exact hX10 _ _ _ _ _ h
theorem gm_313_p10L {L : Nat} {xs : Nat → Int32} {d : Nat} {Q : Int → lf_Z → Prop} {x1 : Int} {x2 : Int} {x3 : Int} {x4 : Int} {x5 : Int} {s : lf_Z} (h : fm_313_p10L Q x1 x2 x3 x4 x5 s) : lf_E (px_ro L xs) (d + 2) 313 10 [(0, .ref 95), (1, .int (Int32.ofInt x1)), (2, .int (Int32.ofInt x2)), (3, .int (Int32.ofInt x3)), (4, .int (Int32.ofInt x4)), (5, .int (Int32.ofInt x5))] [] s (lf_qi Q) :=
  h (fun x2 x3 x4 x5 s => lf_E (px_ro L xs) (d + 2) 313 10 [(0, .ref 95), (1, .int (Int32.ofInt x1)), (2, .int (Int32.ofInt x2)), (3, .int (Int32.ofInt x3)), (4, .int (Int32.ofInt x4)), (5, .int (Int32.ofInt x5))] [] s (lf_qi Q)) (fun x2 x3 x4 x5 s hb => gm_313_p10 (fun _ _ _ _ _ h => h) hb)
def fm_313 (a1 : Int) (Q : Int → lf_Z → Prop) (s : lf_Z) : Prop := fm_313_p10L Q a1 0 0 4 0 s
set_option maxRecDepth 100000 in
theorem gm_313 {L : Nat} {xs : Nat → Int32} {d : Nat} {a1 : Int} {Q : Int → lf_Z → Prop} {s : lf_Z} (h : fm_313 a1 Q s) : lf_M (px_ro L xs) (d + 2) 313 [.ref 95, .int (Int32.ofInt a1)] s (lf_qi Q) := by
  unfold fm_313 at h
  show lf_E (px_ro L xs) (d + 2) 313 0 [(0, .ref 95), (1, .int (Int32.ofInt a1))] [] s _
  refine lf_seg 6 (pc' := 7) (lv' := [(4, .int (Int32.ofInt 4)), (3, .int (Int32.ofInt 0)), (2, .int (Int32.ofInt 0)), (0, .ref 95), (1, .int (Int32.ofInt a1))]) (st' := []) rfl ?_
  refine lf_seg 2 (pc' := 10) (lv' := [(5, .int (Int32.ofInt 0)), (4, .int (Int32.ofInt 4)), (3, .int (Int32.ofInt 0)), (2, .int (Int32.ofInt 0)), (0, .ref 95), (1, .int (Int32.ofInt a1))]) (st' := []) rfl ?_
  refine lf_sub (l := [(0, .ref 95), (1, .int (Int32.ofInt a1)), (2, .int (Int32.ofInt 0)), (3, .int (Int32.ofInt 0)), (4, .int (Int32.ofInt 4)), (5, .int (Int32.ofInt 0))]) (lf_sb1 rfl (lf_sb1 rfl (lf_sb1 rfl (lf_sb1 rfl (lf_sb1 rfl (lf_sb1 rfl lf_sb0)))))) ?_
  exact gm_313_p10L h
-- fm_311 Model.after 95 i i
def fm_311_p168 (X94 : Int → Int → lf_Z → Prop) (Q : Int → lf_Z → Prop) (x2 : Int) (x3 : Int) (x4 : Int) (s : lf_Z) : Prop := fm_304 x3 x3 (fun z39 s38 => (X94 x4 (lf_b z39) s38)) s
set_option maxRecDepth 100000 in
theorem gm_311_p168 {L : Nat} {xs : Nat → Int32} {d : Nat} {X94 : Int → Int → lf_Z → Prop} {Q : Int → lf_Z → Prop} {x2 : Int} {x3 : Int} {x4 : Int} {s : lf_Z} (hX94 : ∀ x4 x5 s, X94 x4 x5 s → lf_E (px_ro L xs) (d + 4) 311 94 [(0, .ref 95), (2, .int (Int32.ofInt x2)), (3, .int (Int32.ofInt x3)), (4, .int (Int32.ofInt x4)), (5, .int (Int32.ofInt x5))] [] s (lf_qi Q)) (h : fm_311_p168 X94 Q x2 x3 x4 s) : lf_E (px_ro L xs) (d + 4) 311 168 [(0, .ref 95), (2, .int (Int32.ofInt x2)), (3, .int (Int32.ofInt x3)), (4, .int (Int32.ofInt x4))] [] s (lf_qi Q) := by
  unfold fm_311_p168 at h
  refine lf_seg 3 (pc' := 171) (lv' := [(0, .ref 95), (2, .int (Int32.ofInt x2)), (3, .int (Int32.ofInt x3)), (4, .int (Int32.ofInt x4))]) (st' := [.int (Int32.ofInt x3), .int (Int32.ofInt x3), .ref 95]) rfl ?_
  refine lf_callZ 174 rfl rfl rfl rfl (gm_304 h) (fun z39 s38 h => ?_)
  refine lf_seg 2 (pc' := 94) (lv' := [(5, .int (Int32.ofInt (lf_b z39))), (0, .ref 95), (2, .int (Int32.ofInt x2)), (3, .int (Int32.ofInt x3)), (4, .int (Int32.ofInt x4))]) (st' := []) rfl ?_
  refine lf_sub (l := [(0, .ref 95), (2, .int (Int32.ofInt x2)), (3, .int (Int32.ofInt x3)), (4, .int (Int32.ofInt x4)), (5, .int (Int32.ofInt (lf_b z39)))]) (lf_sb1 rfl (lf_sb1 rfl (lf_sb1 rfl (lf_sb1 rfl (lf_sb1 rfl lf_sb0))))) ?_
  exact hX94 _ _ _ h
def fm_311_p142 (X94 : Int → Int → lf_Z → Prop) (Q : Int → lf_Z → Prop) (x2 : Int) (x3 : Int) (x4 : Int) (X142 : Int → lf_Z → Prop) (x7 : Int) (s : lf_Z) : Prop := lf_R x7 ∧ (lf_R x3 ∧ ((x3 ≤ x7 → (fm_311_p168 X94 Q x2 x3 x4 s)) ∧ (¬ (x3 ≤ x7) → ((0 ≤ x7 ∧ x7 < 6) ∧ (X142 (x7 + 1) (lf_up s.1 117 x7 (s.1 116 x7), s.2.1, s.2.2))))))
def fm_311_p142L (X94 : Int → Int → lf_Z → Prop) (Q : Int → lf_Z → Prop) (x2 : Int) (x3 : Int) (x4 : Int) (x7 : Int) (s : lf_Z) : Prop := ∀ X142 : Int → lf_Z → Prop, (∀ (x7 : Int) (s : lf_Z), fm_311_p142 X94 Q x2 x3 x4 X142 x7 s → X142 x7 s) → X142 x7 s
set_option maxRecDepth 100000 in
theorem gm_311_p142 {L : Nat} {xs : Nat → Int32} {d : Nat} {X94 : Int → Int → lf_Z → Prop} {Q : Int → lf_Z → Prop} {x2 : Int} {x3 : Int} {x4 : Int} {x7 : Int} {s : lf_Z} {X142 : Int → lf_Z → Prop} (hX94 : ∀ x4 x5 s, X94 x4 x5 s → lf_E (px_ro L xs) (d + 4) 311 94 [(0, .ref 95), (2, .int (Int32.ofInt x2)), (3, .int (Int32.ofInt x3)), (4, .int (Int32.ofInt x4)), (5, .int (Int32.ofInt x5))] [] s (lf_qi Q)) (hX142 : ∀ x7 s, X142 x7 s → lf_E (px_ro L xs) (d + 4) 311 142 [(0, .ref 95), (2, .int (Int32.ofInt x2)), (3, .int (Int32.ofInt x3)), (4, .int (Int32.ofInt x4)), (7, .int (Int32.ofInt x7))] [] s (lf_qi Q)) (h : fm_311_p142 X94 Q x2 x3 x4 X142 x7 s) : lf_E (px_ro L xs) (d + 4) 311 142 [(0, .ref 95), (2, .int (Int32.ofInt x2)), (3, .int (Int32.ofInt x3)), (4, .int (Int32.ofInt x4)), (7, .int (Int32.ofInt x7))] [] s (lf_qi Q) := by
  unfold fm_311_p142 at h
  refine lf_seg 2 (pc' := 145) (lv' := [(0, .ref 95), (2, .int (Int32.ofInt x2)), (3, .int (Int32.ofInt x3)), (4, .int (Int32.ofInt x4)), (7, .int (Int32.ofInt x7))]) (st' := [.int (Int32.ofInt x3), .int (Int32.ofInt x7)]) rfl ?_
  obtain ⟨o41, h⟩ := h
  obtain ⟨o42, h⟩ := h
  refine lf_icmp_ge 168 148 rfl rfl rfl o41 o42 (fun c => ?_) (fun c => ?_)
  · have h := h.1 c
    refine lf_sub (l := [(0, .ref 95), (2, .int (Int32.ofInt x2)), (3, .int (Int32.ofInt x3)), (4, .int (Int32.ofInt x4))]) (lf_sb1 rfl (lf_sb1 rfl (lf_sb1 rfl (lf_sb1 rfl lf_sb0)))) ?_
    exact gm_311_p168 hX94 h
  · have h := h.2 c
    refine lf_seg 6 (pc' := 160) (lv' := [(0, .ref 95), (2, .int (Int32.ofInt x2)), (3, .int (Int32.ofInt x3)), (4, .int (Int32.ofInt x4)), (7, .int (Int32.ofInt x7))]) (st' := [.int (Int32.ofInt x7), .ref 116, .int (Int32.ofInt x7), .ref 117]) rfl ?_
    obtain ⟨o43, h⟩ := h
    refine lf_iald 161 6 rfl rfl rfl rfl rfl rfl o43 ?_
    refine lf_iast 162 6 rfl rfl rfl rfl rfl rfl o43 ?_
    refine lf_as (lf_up s.1 117 x7 (s.1 116 x7), s.2.1, s.2.2) rfl ?_
    refine lf_iinc 165 rfl rfl rfl rfl ?_
    refine lf_seg 1 (pc' := 142) (lv' := [(7, .int (Int32.ofInt (x7 + 1))), (0, .ref 95), (2, .int (Int32.ofInt x2)), (3, .int (Int32.ofInt x3)), (4, .int (Int32.ofInt x4))]) (st' := []) rfl ?_
    refine lf_sub (l := [(0, .ref 95), (2, .int (Int32.ofInt x2)), (3, .int (Int32.ofInt x3)), (4, .int (Int32.ofInt x4)), (7, .int (Int32.ofInt (x7 + 1)))]) (lf_sb1 rfl (lf_sb1 rfl (lf_sb1 rfl (lf_sb1 rfl (lf_sb1 rfl lf_sb0))))) ?_
    exact hX142 _ _ h
theorem gm_311_p142L {L : Nat} {xs : Nat → Int32} {d : Nat} {X94 : Int → Int → lf_Z → Prop} {Q : Int → lf_Z → Prop} {x2 : Int} {x3 : Int} {x4 : Int} {x7 : Int} {s : lf_Z} (hX94 : ∀ x4 x5 s, X94 x4 x5 s → lf_E (px_ro L xs) (d + 4) 311 94 [(0, .ref 95), (2, .int (Int32.ofInt x2)), (3, .int (Int32.ofInt x3)), (4, .int (Int32.ofInt x4)), (5, .int (Int32.ofInt x5))] [] s (lf_qi Q)) (h : fm_311_p142L X94 Q x2 x3 x4 x7 s) : lf_E (px_ro L xs) (d + 4) 311 142 [(0, .ref 95), (2, .int (Int32.ofInt x2)), (3, .int (Int32.ofInt x3)), (4, .int (Int32.ofInt x4)), (7, .int (Int32.ofInt x7))] [] s (lf_qi Q) :=
  h (fun x7 s => lf_E (px_ro L xs) (d + 4) 311 142 [(0, .ref 95), (2, .int (Int32.ofInt x2)), (3, .int (Int32.ofInt x3)), (4, .int (Int32.ofInt x4)), (7, .int (Int32.ofInt x7))] [] s (lf_qi Q)) (fun x7 s hb => gm_311_p142 hX94 (fun _ _ h => h) hb)
def fm_311_p135 (X94 : Int → Int → lf_Z → Prop) (Q : Int → lf_Z → Prop) (x2 : Int) (x3 : Int) (x6 : Int) (s : lf_Z) : Prop := fm_311_p142L X94 Q x2 x3 x6 0 s
set_option maxRecDepth 100000 in
theorem gm_311_p135 {L : Nat} {xs : Nat → Int32} {d : Nat} {X94 : Int → Int → lf_Z → Prop} {Q : Int → lf_Z → Prop} {x2 : Int} {x3 : Int} {x6 : Int} {s : lf_Z} (hX94 : ∀ x4 x5 s, X94 x4 x5 s → lf_E (px_ro L xs) (d + 4) 311 94 [(0, .ref 95), (2, .int (Int32.ofInt x2)), (3, .int (Int32.ofInt x3)), (4, .int (Int32.ofInt x4)), (5, .int (Int32.ofInt x5))] [] s (lf_qi Q)) (h : fm_311_p135 X94 Q x2 x3 x6 s) : lf_E (px_ro L xs) (d + 4) 311 135 [(0, .ref 95), (2, .int (Int32.ofInt x2)), (3, .int (Int32.ofInt x3)), (6, .int (Int32.ofInt x6))] [] s (lf_qi Q) := by
  unfold fm_311_p135 at h
  refine lf_seg 4 (pc' := 142) (lv' := [(7, .int (Int32.ofInt 0)), (4, .int (Int32.ofInt x6)), (0, .ref 95), (2, .int (Int32.ofInt x2)), (3, .int (Int32.ofInt x3)), (6, .int (Int32.ofInt x6))]) (st' := []) rfl ?_
  refine lf_sub (l := [(0, .ref 95), (2, .int (Int32.ofInt x2)), (3, .int (Int32.ofInt x3)), (4, .int (Int32.ofInt x6)), (7, .int (Int32.ofInt 0))]) (lf_sb1 rfl (lf_sb1 rfl (lf_sb1 rfl (lf_sb1 rfl (lf_sb1 rfl lf_sb0))))) ?_
  exact gm_311_p142L hX94 h
def fm_311_p116 (X94 : Int → Int → lf_Z → Prop) (Q : Int → lf_Z → Prop) (x2 : Int) (x3 : Int) (x4 : Int) (y0 : Int) (s : lf_Z) : Prop := lf_R y0 ∧ ((y0 < 0 → (fm_311_p168 X94 Q x2 x3 x4 s)) ∧ (¬ (y0 < 0) → (lf_R x4 ∧ ((x4 < 0 → (fm_311_p135 X94 Q x2 x3 y0 s)) ∧ (¬ (x4 < 0) → ((x4 ≤ y0 → (fm_311_p168 X94 Q x2 x3 x4 s)) ∧ (¬ (x4 ≤ y0) → (fm_311_p135 X94 Q x2 x3 y0 s))))))))
set_option maxRecDepth 100000 in
theorem gm_311_p116 {L : Nat} {xs : Nat → Int32} {d : Nat} {X94 : Int → Int → lf_Z → Prop} {Q : Int → lf_Z → Prop} {x2 : Int} {x3 : Int} {x4 : Int} {y0 : Int} {s : lf_Z} (hX94 : ∀ x4 x5 s, X94 x4 x5 s → lf_E (px_ro L xs) (d + 4) 311 94 [(0, .ref 95), (2, .int (Int32.ofInt x2)), (3, .int (Int32.ofInt x3)), (4, .int (Int32.ofInt x4)), (5, .int (Int32.ofInt x5))] [] s (lf_qi Q)) (h : fm_311_p116 X94 Q x2 x3 x4 y0 s) : lf_E (px_ro L xs) (d + 4) 311 116 [(0, .ref 95), (2, .int (Int32.ofInt x2)), (3, .int (Int32.ofInt x3)), (4, .int (Int32.ofInt x4))] [.int (Int32.ofInt y0)] s (lf_qi Q) := by
  unfold fm_311_p116 at h
  refine lf_seg 2 (pc' := 120) (lv' := [(6, .int (Int32.ofInt y0)), (0, .ref 95), (2, .int (Int32.ofInt x2)), (3, .int (Int32.ofInt x3)), (4, .int (Int32.ofInt x4))]) (st' := [.int (Int32.ofInt y0)]) rfl ?_
  obtain ⟨o37, h⟩ := h
  refine lf_if_lt 168 123 rfl rfl rfl o37 (fun c => ?_) (fun c => ?_)
  · have h := h.1 c
    refine lf_sub (l := [(0, .ref 95), (2, .int (Int32.ofInt x2)), (3, .int (Int32.ofInt x3)), (4, .int (Int32.ofInt x4))]) (lf_sb1 rfl (lf_sb1 rfl (lf_sb1 rfl (lf_sb1 rfl lf_sb0)))) ?_
    exact gm_311_p168 hX94 h
  · have h := h.2 c
    refine lf_seg 1 (pc' := 125) (lv' := [(6, .int (Int32.ofInt y0)), (0, .ref 95), (2, .int (Int32.ofInt x2)), (3, .int (Int32.ofInt x3)), (4, .int (Int32.ofInt x4))]) (st' := [.int (Int32.ofInt x4)]) rfl ?_
    obtain ⟨o40, h⟩ := h
    refine lf_if_lt 135 128 rfl rfl rfl o40 (fun c => ?_) (fun c => ?_)
    · have h := h.1 c
      refine lf_sub (l := [(0, .ref 95), (2, .int (Int32.ofInt x2)), (3, .int (Int32.ofInt x3)), (6, .int (Int32.ofInt y0))]) (lf_sb1 rfl (lf_sb1 rfl (lf_sb1 rfl (lf_sb1 rfl lf_sb0)))) ?_
      exact gm_311_p135 hX94 h
    · have h := h.2 c
      refine lf_seg 2 (pc' := 132) (lv' := [(6, .int (Int32.ofInt y0)), (0, .ref 95), (2, .int (Int32.ofInt x2)), (3, .int (Int32.ofInt x3)), (4, .int (Int32.ofInt x4))]) (st' := [.int (Int32.ofInt x4), .int (Int32.ofInt y0)]) rfl ?_
      refine lf_icmp_ge 168 135 rfl rfl rfl o37 o40 (fun c => ?_) (fun c => ?_)
      · have h := h.1 c
        refine lf_sub (l := [(0, .ref 95), (2, .int (Int32.ofInt x2)), (3, .int (Int32.ofInt x3)), (4, .int (Int32.ofInt x4))]) (lf_sb1 rfl (lf_sb1 rfl (lf_sb1 rfl (lf_sb1 rfl lf_sb0)))) ?_
        exact gm_311_p168 hX94 h
      · have h := h.2 c
        refine lf_sub (l := [(0, .ref 95), (2, .int (Int32.ofInt x2)), (3, .int (Int32.ofInt x3)), (6, .int (Int32.ofInt y0))]) (lf_sb1 rfl (lf_sb1 rfl (lf_sb1 rfl (lf_sb1 rfl lf_sb0)))) ?_
        exact gm_311_p135 hX94 h
def fm_311_p94 (Q : Int → lf_Z → Prop) (x2 : Int) (x3 : Int) (X94 : Int → Int → lf_Z → Prop) (x4 : Int) (x5 : Int) (s : lf_Z) : Prop := lf_R x5 ∧ ((x5 = 0 → (lf_R x2 ∧ ((x2 ≠ (-1) → ((0 ≤ x2 ∧ x2 < 6) ∧ ((0 ≤ s.1 117 x2 ∧ s.1 117 x2 < 4) ∧ (Q (s.1 118 (s.1 117 x2)) s)))) ∧ (¬ (x2 ≠ (-1)) → (Q x4 s))))) ∧ (¬ (x5 = 0) → (fm_303 x3 (fun z36 s35 => ((z36 = false → (fm_311_p116 X94 Q x2 x3 x4 (-1) s35)) ∧ (z36 = true → (fm_313 x3 (fun r45 s44 => (fm_311_p116 X94 Q x2 x3 x4 r45 s44)) s35)))) s)))
def fm_311_p94L (Q : Int → lf_Z → Prop) (x2 : Int) (x3 : Int) (x4 : Int) (x5 : Int) (s : lf_Z) : Prop := ∀ X94 : Int → Int → lf_Z → Prop, (∀ (x4 : Int) (x5 : Int) (s : lf_Z), fm_311_p94 Q x2 x3 X94 x4 x5 s → X94 x4 x5 s) → X94 x4 x5 s
set_option maxRecDepth 100000 in
theorem gm_311_p94 {L : Nat} {xs : Nat → Int32} {d : Nat} {Q : Int → lf_Z → Prop} {x2 : Int} {x3 : Int} {x4 : Int} {x5 : Int} {s : lf_Z} {X94 : Int → Int → lf_Z → Prop} (hX94 : ∀ x4 x5 s, X94 x4 x5 s → lf_E (px_ro L xs) (d + 4) 311 94 [(0, .ref 95), (2, .int (Int32.ofInt x2)), (3, .int (Int32.ofInt x3)), (4, .int (Int32.ofInt x4)), (5, .int (Int32.ofInt x5))] [] s (lf_qi Q)) (h : fm_311_p94 Q x2 x3 X94 x4 x5 s) : lf_E (px_ro L xs) (d + 4) 311 94 [(0, .ref 95), (2, .int (Int32.ofInt x2)), (3, .int (Int32.ofInt x3)), (4, .int (Int32.ofInt x4)), (5, .int (Int32.ofInt x5))] [] s (lf_qi Q) := by
  unfold fm_311_p94 at h
  refine lf_seg 1 (pc' := 96) (lv' := [(0, .ref 95), (2, .int (Int32.ofInt x2)), (3, .int (Int32.ofInt x3)), (4, .int (Int32.ofInt x4)), (5, .int (Int32.ofInt x5))]) (st' := [.int (Int32.ofInt x5)]) rfl ?_
  obtain ⟨o31, h⟩ := h
  refine lf_if_eq 179 99 rfl rfl rfl o31 (fun c => ?_) (fun c => ?_)
  · have h := h.1 c
    refine lf_seg 2 (pc' := 181) (lv' := [(0, .ref 95), (2, .int (Int32.ofInt x2)), (3, .int (Int32.ofInt x3)), (4, .int (Int32.ofInt x4)), (5, .int (Int32.ofInt x5))]) (st' := [.int (Int32.ofInt (-1)), .int (Int32.ofInt x2)]) rfl ?_
    obtain ⟨o32, h⟩ := h
    refine lf_icmp_ne 189 184 rfl rfl rfl o32 ⟨by decide, by decide⟩ (fun c => ?_) (fun c => ?_)
    · have h := h.1 c
      refine lf_seg 5 (pc' := 198) (lv' := [(0, .ref 95), (2, .int (Int32.ofInt x2)), (3, .int (Int32.ofInt x3)), (4, .int (Int32.ofInt x4)), (5, .int (Int32.ofInt x5))]) (st' := [.int (Int32.ofInt x2), .ref 117, .ref 118]) rfl ?_
      obtain ⟨o33, h⟩ := h
      refine lf_iald 199 6 rfl rfl rfl rfl rfl rfl o33 ?_
      obtain ⟨o34, h⟩ := h
      refine lf_iald 200 4 rfl rfl rfl rfl rfl rfl o34 ?_
      exact lf_retI rfl rfl h
    · have h := h.2 c
      refine lf_seg 2 (pc' := 200) (lv' := [(0, .ref 95), (2, .int (Int32.ofInt x2)), (3, .int (Int32.ofInt x3)), (4, .int (Int32.ofInt x4)), (5, .int (Int32.ofInt x5))]) (st' := [.int (Int32.ofInt x4)]) rfl ?_
      exact lf_retI rfl rfl h
  · have h := h.2 c
    refine lf_seg 2 (pc' := 101) (lv' := [(0, .ref 95), (2, .int (Int32.ofInt x2)), (3, .int (Int32.ofInt x3)), (4, .int (Int32.ofInt x4)), (5, .int (Int32.ofInt x5))]) (st' := [.int (Int32.ofInt x3), .ref 95]) rfl ?_
    refine lf_callZ 104 rfl rfl rfl rfl (gm_303 h) (fun z36 s35 h => ?_)
    refine lf_ifz_eq 115 107 rfl rfl rfl (fun c => ?_) (fun c => ?_)
    · have h := h.1 c
      refine lf_seg 1 (pc' := 116) (lv' := [(0, .ref 95), (2, .int (Int32.ofInt x2)), (3, .int (Int32.ofInt x3)), (4, .int (Int32.ofInt x4)), (5, .int (Int32.ofInt x5))]) (st' := [.int (Int32.ofInt (-1))]) rfl ?_
      refine lf_sub (l := [(0, .ref 95), (2, .int (Int32.ofInt x2)), (3, .int (Int32.ofInt x3)), (4, .int (Int32.ofInt x4))]) (lf_sb1 rfl (lf_sb1 rfl (lf_sb1 rfl (lf_sb1 rfl lf_sb0)))) ?_
      exact gm_311_p116 hX94 h
    · have h := h.2 c
      refine lf_seg 2 (pc' := 109) (lv' := [(0, .ref 95), (2, .int (Int32.ofInt x2)), (3, .int (Int32.ofInt x3)), (4, .int (Int32.ofInt x4)), (5, .int (Int32.ofInt x5))]) (st' := [.int (Int32.ofInt x3), .ref 95]) rfl ?_
      refine lf_callI 112 rfl rfl rfl rfl (gm_313 h) (fun r45 s44 h => ?_)
      refine lf_seg 1 (pc' := 116) (lv' := [(0, .ref 95), (2, .int (Int32.ofInt x2)), (3, .int (Int32.ofInt x3)), (4, .int (Int32.ofInt x4)), (5, .int (Int32.ofInt x5))]) (st' := [.int (Int32.ofInt r45)]) rfl ?_
      refine lf_sub (l := [(0, .ref 95), (2, .int (Int32.ofInt x2)), (3, .int (Int32.ofInt x3)), (4, .int (Int32.ofInt x4))]) (lf_sb1 rfl (lf_sb1 rfl (lf_sb1 rfl (lf_sb1 rfl lf_sb0)))) ?_
      exact gm_311_p116 hX94 h
theorem gm_311_p94L {L : Nat} {xs : Nat → Int32} {d : Nat} {Q : Int → lf_Z → Prop} {x2 : Int} {x3 : Int} {x4 : Int} {x5 : Int} {s : lf_Z} (h : fm_311_p94L Q x2 x3 x4 x5 s) : lf_E (px_ro L xs) (d + 4) 311 94 [(0, .ref 95), (2, .int (Int32.ofInt x2)), (3, .int (Int32.ofInt x3)), (4, .int (Int32.ofInt x4)), (5, .int (Int32.ofInt x5))] [] s (lf_qi Q) :=
  h (fun x4 x5 s => lf_E (px_ro L xs) (d + 4) 311 94 [(0, .ref 95), (2, .int (Int32.ofInt x2)), (3, .int (Int32.ofInt x3)), (4, .int (Int32.ofInt x4)), (5, .int (Int32.ofInt x5))] [] s (lf_qi Q)) (fun x4 x5 s hb => gm_311_p94 (fun _ _ _ h => h) hb)
def fm_311_p71 (Q : Int → lf_Z → Prop) (x2 : Int) (x3 : Int) (x4 : Int) (X71 : Int → lf_Z → Prop) (x5 : Int) (s : lf_Z) : Prop := lf_R x5 ∧ (lf_R x3 ∧ ((x3 ≤ x5 → (fm_311_p94L Q x2 x3 x4 1 s)) ∧ (¬ (x3 ≤ x5) → ((0 ≤ x5 ∧ x5 < 6) ∧ (X71 (x5 + 1) (lf_up s.1 116 x5 0, s.2.1, s.2.2))))))
def fm_311_p71L (Q : Int → lf_Z → Prop) (x2 : Int) (x3 : Int) (x4 : Int) (x5 : Int) (s : lf_Z) : Prop := ∀ X71 : Int → lf_Z → Prop, (∀ (x5 : Int) (s : lf_Z), fm_311_p71 Q x2 x3 x4 X71 x5 s → X71 x5 s) → X71 x5 s
set_option maxRecDepth 100000 in
theorem gm_311_p71 {L : Nat} {xs : Nat → Int32} {d : Nat} {Q : Int → lf_Z → Prop} {x2 : Int} {x3 : Int} {x4 : Int} {x5 : Int} {s : lf_Z} {X71 : Int → lf_Z → Prop} (hX71 : ∀ x5 s, X71 x5 s → lf_E (px_ro L xs) (d + 4) 311 71 [(0, .ref 95), (2, .int (Int32.ofInt x2)), (3, .int (Int32.ofInt x3)), (4, .int (Int32.ofInt x4)), (5, .int (Int32.ofInt x5))] [] s (lf_qi Q)) (h : fm_311_p71 Q x2 x3 x4 X71 x5 s) : lf_E (px_ro L xs) (d + 4) 311 71 [(0, .ref 95), (2, .int (Int32.ofInt x2)), (3, .int (Int32.ofInt x3)), (4, .int (Int32.ofInt x4)), (5, .int (Int32.ofInt x5))] [] s (lf_qi Q) := by
  unfold fm_311_p71 at h
  refine lf_seg 2 (pc' := 74) (lv' := [(0, .ref 95), (2, .int (Int32.ofInt x2)), (3, .int (Int32.ofInt x3)), (4, .int (Int32.ofInt x4)), (5, .int (Int32.ofInt x5))]) (st' := [.int (Int32.ofInt x3), .int (Int32.ofInt x5)]) rfl ?_
  obtain ⟨o29, h⟩ := h
  obtain ⟨o30, h⟩ := h
  refine lf_icmp_ge 91 77 rfl rfl rfl o29 o30 (fun c => ?_) (fun c => ?_)
  · have h := h.1 c
    refine lf_seg 2 (pc' := 94) (lv' := [(5, .int (Int32.ofInt 1)), (0, .ref 95), (2, .int (Int32.ofInt x2)), (3, .int (Int32.ofInt x3)), (4, .int (Int32.ofInt x4))]) (st' := []) rfl ?_
    refine lf_sub (l := [(0, .ref 95), (2, .int (Int32.ofInt x2)), (3, .int (Int32.ofInt x3)), (4, .int (Int32.ofInt x4)), (5, .int (Int32.ofInt 1))]) (lf_sb1 rfl (lf_sb1 rfl (lf_sb1 rfl (lf_sb1 rfl (lf_sb1 rfl lf_sb0))))) ?_
    exact gm_311_p94L h
  · have h := h.2 c
    refine lf_seg 4 (pc' := 84) (lv' := [(0, .ref 95), (2, .int (Int32.ofInt x2)), (3, .int (Int32.ofInt x3)), (4, .int (Int32.ofInt x4)), (5, .int (Int32.ofInt x5))]) (st' := [.int (Int32.ofInt 0), .int (Int32.ofInt x5), .ref 116]) rfl ?_
    obtain ⟨o46, h⟩ := h
    refine lf_iast 85 6 rfl rfl rfl rfl rfl rfl o46 ?_
    refine lf_as (lf_up s.1 116 x5 0, s.2.1, s.2.2) rfl ?_
    refine lf_iinc 88 rfl rfl rfl rfl ?_
    refine lf_seg 1 (pc' := 71) (lv' := [(5, .int (Int32.ofInt (x5 + 1))), (0, .ref 95), (2, .int (Int32.ofInt x2)), (3, .int (Int32.ofInt x3)), (4, .int (Int32.ofInt x4))]) (st' := []) rfl ?_
    refine lf_sub (l := [(0, .ref 95), (2, .int (Int32.ofInt x2)), (3, .int (Int32.ofInt x3)), (4, .int (Int32.ofInt x4)), (5, .int (Int32.ofInt (x5 + 1)))]) (lf_sb1 rfl (lf_sb1 rfl (lf_sb1 rfl (lf_sb1 rfl (lf_sb1 rfl lf_sb0))))) ?_
    exact hX71 _ _ h
theorem gm_311_p71L {L : Nat} {xs : Nat → Int32} {d : Nat} {Q : Int → lf_Z → Prop} {x2 : Int} {x3 : Int} {x4 : Int} {x5 : Int} {s : lf_Z} (h : fm_311_p71L Q x2 x3 x4 x5 s) : lf_E (px_ro L xs) (d + 4) 311 71 [(0, .ref 95), (2, .int (Int32.ofInt x2)), (3, .int (Int32.ofInt x3)), (4, .int (Int32.ofInt x4)), (5, .int (Int32.ofInt x5))] [] s (lf_qi Q) :=
  h (fun x5 s => lf_E (px_ro L xs) (d + 4) 311 71 [(0, .ref 95), (2, .int (Int32.ofInt x2)), (3, .int (Int32.ofInt x3)), (4, .int (Int32.ofInt x4)), (5, .int (Int32.ofInt x5))] [] s (lf_qi Q)) (fun x5 s hb => gm_311_p71 (fun _ _ h => h) hb)
def fm_311_p35 (Q : Int → lf_Z → Prop) (x2 : Int) (x3 : Int) (X35 : Int → lf_Z → Prop) (x4 : Int) (s : lf_Z) : Prop := lf_R x4 ∧ (lf_R x3 ∧ ((x3 ≤ x4 → (fm_311_p71L Q x2 x3 (-1) 0 s)) ∧ (¬ (x3 ≤ x4) → ((0 ≤ 16 + x4 ∧ 16 + x4 < 20) ∧ (lf_R (s.1 119 (16 + x4)) ∧ ((s.1 119 (16 + x4) < 1000 → (X35 (x4 + 1) s)) ∧ (¬ (s.1 119 (16 + x4) < 1000) → (Q (-1) s))))))))
def fm_311_p35L (Q : Int → lf_Z → Prop) (x2 : Int) (x3 : Int) (x4 : Int) (s : lf_Z) : Prop := ∀ X35 : Int → lf_Z → Prop, (∀ (x4 : Int) (s : lf_Z), fm_311_p35 Q x2 x3 X35 x4 s → X35 x4 s) → X35 x4 s
set_option maxRecDepth 100000 in
theorem gm_311_p35 {L : Nat} {xs : Nat → Int32} {d : Nat} {Q : Int → lf_Z → Prop} {x2 : Int} {x3 : Int} {x4 : Int} {s : lf_Z} {X35 : Int → lf_Z → Prop} (hX35 : ∀ x4 s, X35 x4 s → lf_E (px_ro L xs) (d + 4) 311 35 [(0, .ref 95), (2, .int (Int32.ofInt x2)), (3, .int (Int32.ofInt x3)), (4, .int (Int32.ofInt x4))] [] s (lf_qi Q)) (h : fm_311_p35 Q x2 x3 X35 x4 s) : lf_E (px_ro L xs) (d + 4) 311 35 [(0, .ref 95), (2, .int (Int32.ofInt x2)), (3, .int (Int32.ofInt x3)), (4, .int (Int32.ofInt x4))] [] s (lf_qi Q) := by
  unfold fm_311_p35 at h
  refine lf_seg 2 (pc' := 38) (lv' := [(0, .ref 95), (2, .int (Int32.ofInt x2)), (3, .int (Int32.ofInt x3)), (4, .int (Int32.ofInt x4))]) (st' := [.int (Int32.ofInt x3), .int (Int32.ofInt x4)]) rfl ?_
  obtain ⟨o27, h⟩ := h
  obtain ⟨o28, h⟩ := h
  refine lf_icmp_ge 65 41 rfl rfl rfl o27 o28 (fun c => ?_) (fun c => ?_)
  · have h := h.1 c
    refine lf_seg 4 (pc' := 71) (lv' := [(5, .int (Int32.ofInt 0)), (4, .int (Int32.ofInt (-1))), (0, .ref 95), (2, .int (Int32.ofInt x2)), (3, .int (Int32.ofInt x3))]) (st' := []) rfl ?_
    refine lf_sub (l := [(0, .ref 95), (2, .int (Int32.ofInt x2)), (3, .int (Int32.ofInt x3)), (4, .int (Int32.ofInt (-1))), (5, .int (Int32.ofInt 0))]) (lf_sb1 rfl (lf_sb1 rfl (lf_sb1 rfl (lf_sb1 rfl (lf_sb1 rfl lf_sb0))))) ?_
    exact gm_311_p71L h
  · have h := h.2 c
    refine lf_seg 2 (pc' := 45) (lv' := [(0, .ref 95), (2, .int (Int32.ofInt x2)), (3, .int (Int32.ofInt x3)), (4, .int (Int32.ofInt x4))]) (st' := [.ref 119]) rfl ?_
    refine lf_bipush 47 16 rfl rfl (by decide) (by decide) ?_
    refine lf_seg 1 (pc' := 49) (lv' := [(0, .ref 95), (2, .int (Int32.ofInt x2)), (3, .int (Int32.ofInt x3)), (4, .int (Int32.ofInt x4))]) (st' := [.int (Int32.ofInt x4), .int (Int32.ofInt 16), .ref 119]) rfl ?_
    refine lf_iadd 50 rfl rfl ?_
    obtain ⟨o47, h⟩ := h
    refine lf_iald 51 20 rfl rfl rfl rfl rfl rfl o47 ?_
    refine lf_sipush 54 1000 rfl rfl (by decide) (by decide) ?_
    obtain ⟨o48, h⟩ := h
    refine lf_icmp_lt 59 57 rfl rfl rfl o48 ⟨by decide, by decide⟩ (fun c => ?_) (fun c => ?_)
    · have h := h.1 c
      refine lf_iinc 62 rfl rfl rfl rfl ?_
      refine lf_seg 1 (pc' := 35) (lv' := [(4, .int (Int32.ofInt (x4 + 1))), (0, .ref 95), (2, .int (Int32.ofInt x2)), (3, .int (Int32.ofInt x3))]) (st' := []) rfl ?_
      refine lf_sub (l := [(0, .ref 95), (2, .int (Int32.ofInt x2)), (3, .int (Int32.ofInt x3)), (4, .int (Int32.ofInt (x4 + 1)))]) (lf_sb1 rfl (lf_sb1 rfl (lf_sb1 rfl (lf_sb1 rfl lf_sb0)))) ?_
      exact hX35 _ _ h
    · have h := h.2 c
      refine lf_seg 1 (pc' := 58) (lv' := [(0, .ref 95), (2, .int (Int32.ofInt x2)), (3, .int (Int32.ofInt x3)), (4, .int (Int32.ofInt x4))]) (st' := [.int (Int32.ofInt (-1))]) rfl ?_
      exact lf_retI rfl rfl h
theorem gm_311_p35L {L : Nat} {xs : Nat → Int32} {d : Nat} {Q : Int → lf_Z → Prop} {x2 : Int} {x3 : Int} {x4 : Int} {s : lf_Z} (h : fm_311_p35L Q x2 x3 x4 s) : lf_E (px_ro L xs) (d + 4) 311 35 [(0, .ref 95), (2, .int (Int32.ofInt x2)), (3, .int (Int32.ofInt x3)), (4, .int (Int32.ofInt x4))] [] s (lf_qi Q) :=
  h (fun x4 s => lf_E (px_ro L xs) (d + 4) 311 35 [(0, .ref 95), (2, .int (Int32.ofInt x2)), (3, .int (Int32.ofInt x3)), (4, .int (Int32.ofInt x4))] [] s (lf_qi Q)) (fun x4 s hb => gm_311_p35 (fun _ _ h => h) hb)
def fm_311 (a1 : Int) (a2 : Int) (Q : Int → lf_Z → Prop) (s : lf_Z) : Prop := fm_249 a1 (fun z22 s21 => ((z22 = false → (Q (-1) s21)) ∧ (z22 = true → (lf_R a2 ∧ (((-1) ≤ a2 → (fm_312 a1 (fun r25 s24 => (lf_R r25 ∧ ((r25 = 0 → (Q (-1) s24)) ∧ (¬ (r25 = 0) → ((a2 < r25 → (fm_311_p35L Q a2 r25 0 s24)) ∧ (¬ (a2 < r25) → (Q (-1) s24))))))) s21)) ∧ (¬ ((-1) ≤ a2) → (Q (-1) s21))))))) s
set_option maxRecDepth 100000 in
theorem gm_311 {L : Nat} {xs : Nat → Int32} {d : Nat} {a1 : Int} {a2 : Int} {Q : Int → lf_Z → Prop} {s : lf_Z} (h : fm_311 a1 a2 Q s) : lf_M (px_ro L xs) (d + 4) 311 [.ref 95, .int (Int32.ofInt a1), .int (Int32.ofInt a2)] s (lf_qi Q) := by
  unfold fm_311 at h
  show lf_E (px_ro L xs) (d + 4) 311 0 [(0, .ref 95), (1, .int (Int32.ofInt a1)), (2, .int (Int32.ofInt a2))] [] s _
  refine lf_seg 2 (pc' := 2) (lv' := [(0, .ref 95), (1, .int (Int32.ofInt a1)), (2, .int (Int32.ofInt a2))]) (st' := [.int (Int32.ofInt a1), .ref 95]) rfl ?_
  refine lf_callZ 5 rfl rfl rfl rfl (gm_249 h) (fun z22 s21 h => ?_)
  refine lf_ifz_eq 13 8 rfl rfl rfl (fun c => ?_) (fun c => ?_)
  · have h := h.1 c
    refine lf_seg 1 (pc' := 14) (lv' := [(0, .ref 95), (1, .int (Int32.ofInt a1)), (2, .int (Int32.ofInt a2))]) (st' := [.int (Int32.ofInt (-1))]) rfl ?_
    exact lf_retI rfl rfl h
  · have h := h.2 c
    refine lf_seg 2 (pc' := 10) (lv' := [(0, .ref 95), (1, .int (Int32.ofInt a1)), (2, .int (Int32.ofInt a2))]) (st' := [.int (Int32.ofInt (-1)), .int (Int32.ofInt a2)]) rfl ?_
    obtain ⟨o23, h⟩ := h
    refine lf_icmp_ge 15 13 rfl rfl rfl o23 ⟨by decide, by decide⟩ (fun c => ?_) (fun c => ?_)
    · have h := h.1 c
      refine lf_seg 2 (pc' := 17) (lv' := [(0, .ref 95), (1, .int (Int32.ofInt a1)), (2, .int (Int32.ofInt a2))]) (st' := [.int (Int32.ofInt a1), .ref 95]) rfl ?_
      refine lf_callI 20 rfl rfl rfl rfl (gm_312 h) (fun r25 s24 h => ?_)
      refine lf_seg 2 (pc' := 22) (lv' := [(3, .int (Int32.ofInt r25)), (0, .ref 95), (1, .int (Int32.ofInt a1)), (2, .int (Int32.ofInt a2))]) (st' := [.int (Int32.ofInt r25)]) rfl ?_
      obtain ⟨o26, h⟩ := h
      refine lf_if_eq 30 25 rfl rfl rfl o26 (fun c => ?_) (fun c => ?_)
      · have h := h.1 c
        refine lf_seg 1 (pc' := 31) (lv' := [(3, .int (Int32.ofInt r25)), (0, .ref 95), (1, .int (Int32.ofInt a1)), (2, .int (Int32.ofInt a2))]) (st' := [.int (Int32.ofInt (-1))]) rfl ?_
        exact lf_retI rfl rfl h
      · have h := h.2 c
        refine lf_seg 2 (pc' := 27) (lv' := [(3, .int (Int32.ofInt r25)), (0, .ref 95), (1, .int (Int32.ofInt a1)), (2, .int (Int32.ofInt a2))]) (st' := [.int (Int32.ofInt r25), .int (Int32.ofInt a2)]) rfl ?_
        refine lf_icmp_lt 32 30 rfl rfl rfl o23 o26 (fun c => ?_) (fun c => ?_)
        · have h := h.1 c
          refine lf_seg 2 (pc' := 35) (lv' := [(4, .int (Int32.ofInt 0)), (3, .int (Int32.ofInt r25)), (0, .ref 95), (1, .int (Int32.ofInt a1)), (2, .int (Int32.ofInt a2))]) (st' := []) rfl ?_
          refine lf_sub (l := [(0, .ref 95), (2, .int (Int32.ofInt a2)), (3, .int (Int32.ofInt r25)), (4, .int (Int32.ofInt 0))]) (lf_sb1 rfl (lf_sb1 rfl (lf_sb1 rfl (lf_sb1 rfl lf_sb0)))) ?_
          exact gm_311_p35L h
        · have h := h.2 c
          refine lf_seg 1 (pc' := 31) (lv' := [(3, .int (Int32.ofInt r25)), (0, .ref 95), (1, .int (Int32.ofInt a1)), (2, .int (Int32.ofInt a2))]) (st' := [.int (Int32.ofInt (-1))]) rfl ?_
          exact lf_retI rfl rfl h
    · have h := h.2 c
      refine lf_seg 1 (pc' := 14) (lv' := [(0, .ref 95), (1, .int (Int32.ofInt a1)), (2, .int (Int32.ofInt a2))]) (st' := [.int (Int32.ofInt (-1))]) rfl ?_
      exact lf_retI rfl rfl h
