-- fm_309 Model.weightOf i i i
def fm_309_p12 (Q : Int → lf_Z → Prop) (x0 : Int) (x1 : Int) (x2 : Int) (X12 : Int → Int → lf_Z → Prop) (x3 : Int) (x5 : Int) (s : lf_Z) : Prop := lf_R x5 ∧ (lf_R x1 ∧ ((x1 < x5 → (lf_R (10 - x0) ∧ (fm_310 (10 - x0) x1 (fun r27 s26 => (lf_R x0 ∧ (fm_310 x0 (x2 - x1) (fun r30 s29 => (fm_310 10 (12 - x2) (fun r32 s31 => (Q (lf_wl ((lf_wl ((lf_wl ((lf_wl x3) * (lf_wl r27))) * (lf_wl r30))) * (lf_wl r32))) s31)) s29)) s26))) s))) ∧ (¬ (x1 < x5) → (lf_R ((x2 - x1) + x5) ∧ (x5 ≠ 0 ∧ (X12 (lf_wl ((lf_wl ((lf_wl x3) * ((x2 - x1) + x5))).tdiv x5)) (x5 + 1) s))))))
def fm_309_p12L (Q : Int → lf_Z → Prop) (x0 : Int) (x1 : Int) (x2 : Int) (x3 : Int) (x5 : Int) (s : lf_Z) : Prop := ∀ X12 : Int → Int → lf_Z → Prop, (∀ (x3 : Int) (x5 : Int) (s : lf_Z), fm_309_p12 Q x0 x1 x2 X12 x3 x5 s → X12 x3 x5 s) → X12 x3 x5 s
set_option maxRecDepth 100000 in
theorem gm_309_p12 {L : Nat} {xs : Nat → Int32} {d : Nat} {Q : Int → lf_Z → Prop} {x0 : Int} {x1 : Int} {x2 : Int} {x3 : Int} {x5 : Int} {s : lf_Z} {X12 : Int → Int → lf_Z → Prop} (hX12 : ∀ x3 x5 s, X12 x3 x5 s → lf_E (px_ro L xs) (d + 2) 309 12 [(0, .int (Int32.ofInt x0)), (1, .int (Int32.ofInt x1)), (2, .int (Int32.ofInt x2)), (3, .long (Int64.ofInt x3)), (5, .int (Int32.ofInt x5))] [] s (lf_ql Q)) (h : fm_309_p12 Q x0 x1 x2 X12 x3 x5 s) : lf_E (px_ro L xs) (d + 2) 309 12 [(0, .int (Int32.ofInt x0)), (1, .int (Int32.ofInt x1)), (2, .int (Int32.ofInt x2)), (3, .long (Int64.ofInt x3)), (5, .int (Int32.ofInt x5))] [] s (lf_ql Q) := by
  unfold fm_309_p12 at h
  refine lf_eqs (lv' := [(0, .int (Int32.ofInt x0)), (1, .int (Int32.ofInt x1)), (2, .int (Int32.ofInt x2)), (3, .long (Int64.ofInt (lf_wl x3))), (5, .int (Int32.ofInt x5))]) (st' := []) (by simp only [lf_wlE]) rfl ?_
  refine lf_seg 2 (pc' := 15) (lv' := [(0, .int (Int32.ofInt x0)), (1, .int (Int32.ofInt x1)), (2, .int (Int32.ofInt x2)), (3, .long (Int64.ofInt (lf_wl x3))), (5, .int (Int32.ofInt x5))]) (st' := [.int (Int32.ofInt x1), .int (Int32.ofInt x5)]) rfl ?_
  obtain ⟨o23, h⟩ := h
  obtain ⟨o24, h⟩ := h
  refine lf_icmp_gt 38 18 rfl rfl rfl o23 o24 (fun c => ?_) (fun c => ?_)
  · have h := h.1 c
    refine lf_seg 1 (pc' := 39) (lv' := [(0, .int (Int32.ofInt x0)), (1, .int (Int32.ofInt x1)), (2, .int (Int32.ofInt x2)), (3, .long (Int64.ofInt (lf_wl x3))), (5, .int (Int32.ofInt x5))]) (st' := [.long (Int64.ofInt (lf_wl x3))]) rfl ?_
    refine lf_bipush 41 10 rfl rfl (by decide) (by decide) ?_
    refine lf_seg 1 (pc' := 42) (lv' := [(0, .int (Int32.ofInt x0)), (1, .int (Int32.ofInt x1)), (2, .int (Int32.ofInt x2)), (3, .long (Int64.ofInt (lf_wl x3))), (5, .int (Int32.ofInt x5))]) (st' := [.int (Int32.ofInt x0), .int (Int32.ofInt 10), .long (Int64.ofInt (lf_wl x3))]) rfl ?_
    refine lf_isub 43 rfl rfl ?_
    obtain ⟨o25, h⟩ := h
    refine lf_i2l 44 rfl rfl o25 ?_
    refine lf_seg 1 (pc' := 45) (lv' := [(0, .int (Int32.ofInt x0)), (1, .int (Int32.ofInt x1)), (2, .int (Int32.ofInt x2)), (3, .long (Int64.ofInt (lf_wl x3))), (5, .int (Int32.ofInt x5))]) (st' := [.int (Int32.ofInt x1), .long (Int64.ofInt (10 - x0)), .long (Int64.ofInt (lf_wl x3))]) rfl ?_
    refine lf_callL 48 rfl rfl rfl rfl (gm_310 h) (fun r27 s26 h => ?_)
    refine lf_wtL ?_
    refine lf_lmul 49 rfl rfl ?_
    refine lf_wtL ?_
    refine lf_seg 1 (pc' := 50) (lv' := [(0, .int (Int32.ofInt x0)), (1, .int (Int32.ofInt x1)), (2, .int (Int32.ofInt x2)), (3, .long (Int64.ofInt (lf_wl x3))), (5, .int (Int32.ofInt x5))]) (st' := [.int (Int32.ofInt x0), .long (Int64.ofInt (lf_wl ((lf_wl x3) * (lf_wl r27))))]) rfl ?_
    obtain ⟨o28, h⟩ := h
    refine lf_i2l 51 rfl rfl o28 ?_
    refine lf_seg 2 (pc' := 53) (lv' := [(0, .int (Int32.ofInt x0)), (1, .int (Int32.ofInt x1)), (2, .int (Int32.ofInt x2)), (3, .long (Int64.ofInt (lf_wl x3))), (5, .int (Int32.ofInt x5))]) (st' := [.int (Int32.ofInt x1), .int (Int32.ofInt x2), .long (Int64.ofInt x0), .long (Int64.ofInt (lf_wl ((lf_wl x3) * (lf_wl r27))))]) rfl ?_
    refine lf_isub 54 rfl rfl ?_
    refine lf_callL 57 rfl rfl rfl rfl (gm_310 h) (fun r30 s29 h => ?_)
    refine lf_wtL ?_
    refine lf_lmul 58 rfl rfl ?_
    refine lf_wtL ?_
    refine lf_ldc2 61 10 rfl rfl rfl (by decide) ?_
    refine lf_bipush 63 12 rfl rfl (by decide) (by decide) ?_
    refine lf_seg 1 (pc' := 64) (lv' := [(0, .int (Int32.ofInt x0)), (1, .int (Int32.ofInt x1)), (2, .int (Int32.ofInt x2)), (3, .long (Int64.ofInt (lf_wl x3))), (5, .int (Int32.ofInt x5))]) (st' := [.int (Int32.ofInt x2), .int (Int32.ofInt 12), .long (Int64.ofInt 10), .long (Int64.ofInt (lf_wl ((lf_wl ((lf_wl x3) * (lf_wl r27))) * (lf_wl r30))))]) rfl ?_
    refine lf_isub 65 rfl rfl ?_
    refine lf_callL 68 rfl rfl rfl rfl (gm_310 h) (fun r32 s31 h => ?_)
    refine lf_wtL ?_
    refine lf_lmul 69 rfl rfl ?_
    refine lf_wtL ?_
    exact lf_retL rfl rfl h
  · have h := h.2 c
    refine lf_seg 3 (pc' := 21) (lv' := [(0, .int (Int32.ofInt x0)), (1, .int (Int32.ofInt x1)), (2, .int (Int32.ofInt x2)), (3, .long (Int64.ofInt (lf_wl x3))), (5, .int (Int32.ofInt x5))]) (st' := [.int (Int32.ofInt x1), .int (Int32.ofInt x2), .long (Int64.ofInt (lf_wl x3))]) rfl ?_
    refine lf_isub 22 rfl rfl ?_
    refine lf_seg 1 (pc' := 24) (lv' := [(0, .int (Int32.ofInt x0)), (1, .int (Int32.ofInt x1)), (2, .int (Int32.ofInt x2)), (3, .long (Int64.ofInt (lf_wl x3))), (5, .int (Int32.ofInt x5))]) (st' := [.int (Int32.ofInt x5), .int (Int32.ofInt (x2 - x1)), .long (Int64.ofInt (lf_wl x3))]) rfl ?_
    refine lf_iadd 25 rfl rfl ?_
    obtain ⟨o33, h⟩ := h
    refine lf_i2l 26 rfl rfl o33 ?_
    refine lf_lmul 27 rfl rfl ?_
    refine lf_wtL ?_
    refine lf_seg 1 (pc' := 29) (lv' := [(0, .int (Int32.ofInt x0)), (1, .int (Int32.ofInt x1)), (2, .int (Int32.ofInt x2)), (3, .long (Int64.ofInt (lf_wl x3))), (5, .int (Int32.ofInt x5))]) (st' := [.int (Int32.ofInt x5), .long (Int64.ofInt (lf_wl ((lf_wl x3) * ((x2 - x1) + x5))))]) rfl ?_
    refine lf_i2l 30 rfl rfl o23 ?_
    obtain ⟨o34, h⟩ := h
    refine lf_ldiv 31 rfl rfl lf_RLwl (lf_RLR o23) o34 ?_
    refine lf_wtL ?_
    refine lf_seg 1 (pc' := 32) (lv' := [(3, .long (Int64.ofInt (lf_wl ((lf_wl ((lf_wl x3) * ((x2 - x1) + x5))).tdiv x5)))), (0, .int (Int32.ofInt x0)), (1, .int (Int32.ofInt x1)), (2, .int (Int32.ofInt x2)), (5, .int (Int32.ofInt x5))]) (st' := []) rfl ?_
    refine lf_iinc 35 rfl rfl rfl rfl ?_
    refine lf_seg 1 (pc' := 12) (lv' := [(5, .int (Int32.ofInt (x5 + 1))), (3, .long (Int64.ofInt (lf_wl ((lf_wl ((lf_wl x3) * ((x2 - x1) + x5))).tdiv x5)))), (0, .int (Int32.ofInt x0)), (1, .int (Int32.ofInt x1)), (2, .int (Int32.ofInt x2))]) (st' := []) rfl ?_
    refine lf_sub (l := [(0, .int (Int32.ofInt x0)), (1, .int (Int32.ofInt x1)), (2, .int (Int32.ofInt x2)), (3, .long (Int64.ofInt (lf_wl ((lf_wl ((lf_wl x3) * ((x2 - x1) + x5))).tdiv x5)))), (5, .int (Int32.ofInt (x5 + 1)))]) (lf_sb1 rfl (lf_sb1 rfl (lf_sb1 rfl (lf_sb1 rfl (lf_sb1 rfl lf_sb0))))) ?_
    exact hX12 _ _ _ h
theorem gm_309_p12L {L : Nat} {xs : Nat → Int32} {d : Nat} {Q : Int → lf_Z → Prop} {x0 : Int} {x1 : Int} {x2 : Int} {x3 : Int} {x5 : Int} {s : lf_Z} (h : fm_309_p12L Q x0 x1 x2 x3 x5 s) : lf_E (px_ro L xs) (d + 2) 309 12 [(0, .int (Int32.ofInt x0)), (1, .int (Int32.ofInt x1)), (2, .int (Int32.ofInt x2)), (3, .long (Int64.ofInt x3)), (5, .int (Int32.ofInt x5))] [] s (lf_ql Q) :=
  h (fun x3 x5 s => lf_E (px_ro L xs) (d + 2) 309 12 [(0, .int (Int32.ofInt x0)), (1, .int (Int32.ofInt x1)), (2, .int (Int32.ofInt x2)), (3, .long (Int64.ofInt x3)), (5, .int (Int32.ofInt x5))] [] s (lf_ql Q)) (fun x3 x5 s hb => gm_309_p12 (fun _ _ _ h => h) hb)
def fm_309 (a0 : Int) (a1 : Int) (a2 : Int) (Q : Int → lf_Z → Prop) (s : lf_Z) : Prop := lf_R a2 ∧ (lf_R a1 ∧ ((a1 ≤ a2 → (fm_309_p12L Q a0 a1 a2 1 1 s)) ∧ (¬ (a1 ≤ a2) → (Q 0 s))))
set_option maxRecDepth 100000 in
theorem gm_309 {L : Nat} {xs : Nat → Int32} {d : Nat} {a0 : Int} {a1 : Int} {a2 : Int} {Q : Int → lf_Z → Prop} {s : lf_Z} (h : fm_309 a0 a1 a2 Q s) : lf_M (px_ro L xs) (d + 2) 309 [.int (Int32.ofInt a0), .int (Int32.ofInt a1), .int (Int32.ofInt a2)] s (lf_ql Q) := by
  unfold fm_309 at h
  show lf_E (px_ro L xs) (d + 2) 309 0 [(0, .int (Int32.ofInt a0)), (1, .int (Int32.ofInt a1)), (2, .int (Int32.ofInt a2))] [] s _
  refine lf_seg 2 (pc' := 2) (lv' := [(0, .int (Int32.ofInt a0)), (1, .int (Int32.ofInt a1)), (2, .int (Int32.ofInt a2))]) (st' := [.int (Int32.ofInt a1), .int (Int32.ofInt a2)]) rfl ?_
  obtain ⟨o21, h⟩ := h
  obtain ⟨o22, h⟩ := h
  refine lf_icmp_ge 7 5 rfl rfl rfl o21 o22 (fun c => ?_) (fun c => ?_)
  · have h := h.1 c
    refine lf_lconst 8 1 rfl rfl (by decide) ?_
    refine lf_seg 3 (pc' := 12) (lv' := [(5, .int (Int32.ofInt 1)), (3, .long (Int64.ofInt 1)), (0, .int (Int32.ofInt a0)), (1, .int (Int32.ofInt a1)), (2, .int (Int32.ofInt a2))]) (st' := []) rfl ?_
    refine lf_sub (l := [(0, .int (Int32.ofInt a0)), (1, .int (Int32.ofInt a1)), (2, .int (Int32.ofInt a2)), (3, .long (Int64.ofInt 1)), (5, .int (Int32.ofInt 1))]) (lf_sb1 rfl (lf_sb1 rfl (lf_sb1 rfl (lf_sb1 rfl (lf_sb1 rfl lf_sb0))))) ?_
    exact gm_309_p12L h
  · have h := h.2 c
    refine lf_lconst 6 0 rfl rfl (by decide) ?_
    exact lf_retL rfl rfl h
-- fm_308 Model.many 95 i i i i
def fm_308_p30 (Q : Int → lf_Z → Prop) (s : lf_Z) : Prop := Q (-1) s
set_option maxRecDepth 100000 in
theorem gm_308_p30 {L : Nat} {xs : Nat → Int32} {d : Nat} {Q : Int → lf_Z → Prop} {s : lf_Z} (h : fm_308_p30 Q s) : lf_E (px_ro L xs) (d + 3) 308 30 [] [] s (lf_ql Q) := by
  unfold fm_308_p30 at h
  refine lf_ldc2 33 (-1) rfl rfl rfl (by decide) ?_
  exact lf_retL rfl rfl h
def fm_308_p40 (Q : Int → lf_Z → Prop) (x1 : Int) (x2 : Int) (x3 : Int) (x4 : Int) (X40 : Int → Int → lf_Z → Prop) (x5 : Int) (x7 : Int) (s : lf_Z) : Prop := lf_R x7 ∧ ((13 ≤ x7 → (fm_309 x1 x2 x3 (fun r29 s28 => (fm_291 (lf_wl r29) (lf_wl x5) x4 (fun r31 s30 => (Q (lf_wl r31) s30)) s28)) s)) ∧ (¬ (13 ≤ x7) → (fm_309 x1 x2 x7 (fun r33 s32 => (X40 (lf_wl ((lf_wl x5) + (lf_wl r33))) (x7 + 1) s32)) s)))
def fm_308_p40L (Q : Int → lf_Z → Prop) (x1 : Int) (x2 : Int) (x3 : Int) (x4 : Int) (x5 : Int) (x7 : Int) (s : lf_Z) : Prop := ∀ X40 : Int → Int → lf_Z → Prop, (∀ (x5 : Int) (x7 : Int) (s : lf_Z), fm_308_p40 Q x1 x2 x3 x4 X40 x5 x7 s → X40 x5 x7 s) → X40 x5 x7 s
set_option maxRecDepth 100000 in
theorem gm_308_p40 {L : Nat} {xs : Nat → Int32} {d : Nat} {Q : Int → lf_Z → Prop} {x1 : Int} {x2 : Int} {x3 : Int} {x4 : Int} {x5 : Int} {x7 : Int} {s : lf_Z} {X40 : Int → Int → lf_Z → Prop} (hX40 : ∀ x5 x7 s, X40 x5 x7 s → lf_E (px_ro L xs) (d + 3) 308 40 [(1, .int (Int32.ofInt x1)), (2, .int (Int32.ofInt x2)), (3, .int (Int32.ofInt x3)), (4, .int (Int32.ofInt x4)), (5, .long (Int64.ofInt x5)), (7, .int (Int32.ofInt x7))] [] s (lf_ql Q)) (h : fm_308_p40 Q x1 x2 x3 x4 X40 x5 x7 s) : lf_E (px_ro L xs) (d + 3) 308 40 [(1, .int (Int32.ofInt x1)), (2, .int (Int32.ofInt x2)), (3, .int (Int32.ofInt x3)), (4, .int (Int32.ofInt x4)), (5, .long (Int64.ofInt x5)), (7, .int (Int32.ofInt x7))] [] s (lf_ql Q) := by
  unfold fm_308_p40 at h
  refine lf_eqs (lv' := [(1, .int (Int32.ofInt x1)), (2, .int (Int32.ofInt x2)), (3, .int (Int32.ofInt x3)), (4, .int (Int32.ofInt x4)), (5, .long (Int64.ofInt (lf_wl x5))), (7, .int (Int32.ofInt x7))]) (st' := []) (by simp only [lf_wlE]) rfl ?_
  refine lf_seg 1 (pc' := 42) (lv' := [(1, .int (Int32.ofInt x1)), (2, .int (Int32.ofInt x2)), (3, .int (Int32.ofInt x3)), (4, .int (Int32.ofInt x4)), (5, .long (Int64.ofInt (lf_wl x5))), (7, .int (Int32.ofInt x7))]) (st' := [.int (Int32.ofInt x7)]) rfl ?_
  refine lf_bipush 44 13 rfl rfl (by decide) (by decide) ?_
  obtain ⟨o27, h⟩ := h
  refine lf_icmp_ge 65 47 rfl rfl rfl o27 ⟨by decide, by decide⟩ (fun c => ?_) (fun c => ?_)
  · have h := h.1 c
    refine lf_seg 3 (pc' := 68) (lv' := [(1, .int (Int32.ofInt x1)), (2, .int (Int32.ofInt x2)), (3, .int (Int32.ofInt x3)), (4, .int (Int32.ofInt x4)), (5, .long (Int64.ofInt (lf_wl x5))), (7, .int (Int32.ofInt x7))]) (st' := [.int (Int32.ofInt x3), .int (Int32.ofInt x2), .int (Int32.ofInt x1)]) rfl ?_
    refine lf_callL 71 rfl rfl rfl rfl (gm_309 h) (fun r29 s28 h => ?_)
    refine lf_wtL ?_
    refine lf_seg 2 (pc' := 75) (lv' := [(1, .int (Int32.ofInt x1)), (2, .int (Int32.ofInt x2)), (3, .int (Int32.ofInt x3)), (4, .int (Int32.ofInt x4)), (5, .long (Int64.ofInt (lf_wl x5))), (7, .int (Int32.ofInt x7))]) (st' := [.int (Int32.ofInt x4), .long (Int64.ofInt (lf_wl x5)), .long (Int64.ofInt (lf_wl r29))]) rfl ?_
    refine lf_callL 78 rfl rfl rfl rfl (gm_291 h) (fun r31 s30 h => ?_)
    refine lf_wtL ?_
    exact lf_retL rfl rfl h
  · have h := h.2 c
    refine lf_seg 4 (pc' := 53) (lv' := [(1, .int (Int32.ofInt x1)), (2, .int (Int32.ofInt x2)), (3, .int (Int32.ofInt x3)), (4, .int (Int32.ofInt x4)), (5, .long (Int64.ofInt (lf_wl x5))), (7, .int (Int32.ofInt x7))]) (st' := [.int (Int32.ofInt x7), .int (Int32.ofInt x2), .int (Int32.ofInt x1), .long (Int64.ofInt (lf_wl x5))]) rfl ?_
    refine lf_callL 56 rfl rfl rfl rfl (gm_309 h) (fun r33 s32 h => ?_)
    refine lf_wtL ?_
    refine lf_ladd 57 rfl rfl ?_
    refine lf_wtL ?_
    refine lf_seg 1 (pc' := 59) (lv' := [(5, .long (Int64.ofInt (lf_wl ((lf_wl x5) + (lf_wl r33))))), (1, .int (Int32.ofInt x1)), (2, .int (Int32.ofInt x2)), (3, .int (Int32.ofInt x3)), (4, .int (Int32.ofInt x4)), (7, .int (Int32.ofInt x7))]) (st' := []) rfl ?_
    refine lf_iinc 62 rfl rfl rfl rfl ?_
    refine lf_seg 1 (pc' := 40) (lv' := [(7, .int (Int32.ofInt (x7 + 1))), (5, .long (Int64.ofInt (lf_wl ((lf_wl x5) + (lf_wl r33))))), (1, .int (Int32.ofInt x1)), (2, .int (Int32.ofInt x2)), (3, .int (Int32.ofInt x3)), (4, .int (Int32.ofInt x4))]) (st' := []) rfl ?_
    refine lf_sub (l := [(1, .int (Int32.ofInt x1)), (2, .int (Int32.ofInt x2)), (3, .int (Int32.ofInt x3)), (4, .int (Int32.ofInt x4)), (5, .long (Int64.ofInt (lf_wl ((lf_wl x5) + (lf_wl r33))))), (7, .int (Int32.ofInt (x7 + 1)))]) (lf_sb1 rfl (lf_sb1 rfl (lf_sb1 rfl (lf_sb1 rfl (lf_sb1 rfl (lf_sb1 rfl lf_sb0)))))) ?_
    exact hX40 _ _ _ h
theorem gm_308_p40L {L : Nat} {xs : Nat → Int32} {d : Nat} {Q : Int → lf_Z → Prop} {x1 : Int} {x2 : Int} {x3 : Int} {x4 : Int} {x5 : Int} {x7 : Int} {s : lf_Z} (h : fm_308_p40L Q x1 x2 x3 x4 x5 x7 s) : lf_E (px_ro L xs) (d + 3) 308 40 [(1, .int (Int32.ofInt x1)), (2, .int (Int32.ofInt x2)), (3, .int (Int32.ofInt x3)), (4, .int (Int32.ofInt x4)), (5, .long (Int64.ofInt x5)), (7, .int (Int32.ofInt x7))] [] s (lf_ql Q) :=
  h (fun x5 x7 s => lf_E (px_ro L xs) (d + 3) 308 40 [(1, .int (Int32.ofInt x1)), (2, .int (Int32.ofInt x2)), (3, .int (Int32.ofInt x3)), (4, .int (Int32.ofInt x4)), (5, .long (Int64.ofInt x5)), (7, .int (Int32.ofInt x7))] [] s (lf_ql Q)) (fun x5 x7 s hb => gm_308_p40 (fun _ _ _ h => h) hb)
def fm_308 (a1 : Int) (a2 : Int) (a3 : Int) (a4 : Int) (Q : Int → lf_Z → Prop) (s : lf_Z) : Prop := fm_183 a1 0 9 (fun z22 s21 => ((z22 = false → (fm_308_p30 Q s21)) ∧ (z22 = true → (fm_183 a2 0 12 (fun z24 s23 => ((z24 = false → (fm_308_p30 Q s23)) ∧ (z24 = true → (fm_183 a3 0 12 (fun z26 s25 => ((z26 = true → (fm_308_p40L Q a1 a2 a3 a4 0 0 s25)) ∧ (z26 = false → (fm_308_p30 Q s25)))) s23)))) s21)))) s
set_option maxRecDepth 100000 in
theorem gm_308 {L : Nat} {xs : Nat → Int32} {d : Nat} {a1 : Int} {a2 : Int} {a3 : Int} {a4 : Int} {Q : Int → lf_Z → Prop} {s : lf_Z} (h : fm_308 a1 a2 a3 a4 Q s) : lf_M (px_ro L xs) (d + 3) 308 [.ref 95, .int (Int32.ofInt a1), .int (Int32.ofInt a2), .int (Int32.ofInt a3), .int (Int32.ofInt a4)] s (lf_ql Q) := by
  unfold fm_308 at h
  show lf_E (px_ro L xs) (d + 3) 308 0 [(0, .ref 95), (1, .int (Int32.ofInt a1)), (2, .int (Int32.ofInt a2)), (3, .int (Int32.ofInt a3)), (4, .int (Int32.ofInt a4))] [] s _
  refine lf_seg 2 (pc' := 2) (lv' := [(0, .ref 95), (1, .int (Int32.ofInt a1)), (2, .int (Int32.ofInt a2)), (3, .int (Int32.ofInt a3)), (4, .int (Int32.ofInt a4))]) (st' := [.int (Int32.ofInt 0), .int (Int32.ofInt a1)]) rfl ?_
  refine lf_bipush 4 9 rfl rfl (by decide) (by decide) ?_
  refine lf_callZ 7 rfl rfl rfl rfl (gm_183 h) (fun z22 s21 h => ?_)
  refine lf_ifz_eq 30 10 rfl rfl rfl (fun c => ?_) (fun c => ?_)
  · have h := h.1 c
    refine lf_sub (l := []) lf_sb0 ?_
    exact gm_308_p30 h
  · have h := h.2 c
    refine lf_seg 2 (pc' := 12) (lv' := [(0, .ref 95), (1, .int (Int32.ofInt a1)), (2, .int (Int32.ofInt a2)), (3, .int (Int32.ofInt a3)), (4, .int (Int32.ofInt a4))]) (st' := [.int (Int32.ofInt 0), .int (Int32.ofInt a2)]) rfl ?_
    refine lf_bipush 14 12 rfl rfl (by decide) (by decide) ?_
    refine lf_callZ 17 rfl rfl rfl rfl (gm_183 h) (fun z24 s23 h => ?_)
    refine lf_ifz_eq 30 20 rfl rfl rfl (fun c => ?_) (fun c => ?_)
    · have h := h.1 c
      refine lf_sub (l := []) lf_sb0 ?_
      exact gm_308_p30 h
    · have h := h.2 c
      refine lf_seg 2 (pc' := 22) (lv' := [(0, .ref 95), (1, .int (Int32.ofInt a1)), (2, .int (Int32.ofInt a2)), (3, .int (Int32.ofInt a3)), (4, .int (Int32.ofInt a4))]) (st' := [.int (Int32.ofInt 0), .int (Int32.ofInt a3)]) rfl ?_
      refine lf_bipush 24 12 rfl rfl (by decide) (by decide) ?_
      refine lf_callZ 27 rfl rfl rfl rfl (gm_183 h) (fun z26 s25 h => ?_)
      refine lf_ifz_ne 34 30 rfl rfl rfl (fun c => ?_) (fun c => ?_)
      · have h := h.1 c
        refine lf_lconst 35 0 rfl rfl (by decide) ?_
        refine lf_seg 3 (pc' := 40) (lv' := [(7, .int (Int32.ofInt 0)), (5, .long (Int64.ofInt 0)), (0, .ref 95), (1, .int (Int32.ofInt a1)), (2, .int (Int32.ofInt a2)), (3, .int (Int32.ofInt a3)), (4, .int (Int32.ofInt a4))]) (st' := []) rfl ?_
        refine lf_sub (l := [(1, .int (Int32.ofInt a1)), (2, .int (Int32.ofInt a2)), (3, .int (Int32.ofInt a3)), (4, .int (Int32.ofInt a4)), (5, .long (Int64.ofInt 0)), (7, .int (Int32.ofInt 0))]) (lf_sb1 rfl (lf_sb1 rfl (lf_sb1 rfl (lf_sb1 rfl (lf_sb1 rfl (lf_sb1 rfl lf_sb0)))))) ?_
        exact gm_308_p40L h
      · have h := h.2 c
        refine lf_sub (l := []) lf_sb0 ?_
        exact gm_308_p30 h
-- fm_156 Errands.chooseBunch 74 i i i i i
def fm_156_p167 (R156 : Int → Int → Int → Int → Int → (lf_Z → Prop) → lf_Z → Prop) (X36 : Int → lf_Z → Prop) (Q : lf_Z → Prop) (x1 : Int) (x2 : Int) (x3 : Int) (x4 : Int) (x5 : Int) (x6 : Int) (s : lf_Z) : Prop := X36 (x6 + 1) s
set_option maxRecDepth 100000 in
theorem gm_156_p167 {L : Nat} {xs : Nat → Int32} {d : Nat} {R156 : Int → Int → Int → Int → Int → (lf_Z → Prop) → lf_Z → Prop} {X36 : Int → lf_Z → Prop} {Q : lf_Z → Prop} {x1 : Int} {x2 : Int} {x3 : Int} {x4 : Int} {x5 : Int} {x6 : Int} {s : lf_Z} (hR156 : ∀ b1 b2 b3 b4 b5 Q s, R156 b1 b2 b3 b4 b5 Q s → lf_M (px_ro L xs) (d + 3) 156 [.ref 74, .int (Int32.ofInt b1), .int (Int32.ofInt b2), .int (Int32.ofInt b3), .int (Int32.ofInt b4), .int (Int32.ofInt b5)] s (lf_qv Q)) (hX36 : ∀ x6 s, X36 x6 s → lf_E (px_ro L xs) (d + 4) 156 36 [(0, .ref 74), (1, .int (Int32.ofInt x1)), (2, .int (Int32.ofInt x2)), (3, .int (Int32.ofInt x3)), (4, .int (Int32.ofInt x4)), (5, .int (Int32.ofInt x5)), (6, .int (Int32.ofInt x6))] [] s (lf_qv Q)) (h : fm_156_p167 R156 X36 Q x1 x2 x3 x4 x5 x6 s) : lf_E (px_ro L xs) (d + 4) 156 167 [(0, .ref 74), (1, .int (Int32.ofInt x1)), (2, .int (Int32.ofInt x2)), (3, .int (Int32.ofInt x3)), (4, .int (Int32.ofInt x4)), (5, .int (Int32.ofInt x5)), (6, .int (Int32.ofInt x6))] [] s (lf_qv Q) := by
  unfold fm_156_p167 at h
  refine lf_iinc 170 rfl rfl rfl rfl ?_
  refine lf_seg 1 (pc' := 36) (lv' := [(6, .int (Int32.ofInt (x6 + 1))), (0, .ref 74), (1, .int (Int32.ofInt x1)), (2, .int (Int32.ofInt x2)), (3, .int (Int32.ofInt x3)), (4, .int (Int32.ofInt x4)), (5, .int (Int32.ofInt x5))]) (st' := []) rfl ?_
  refine lf_sub (l := [(0, .ref 74), (1, .int (Int32.ofInt x1)), (2, .int (Int32.ofInt x2)), (3, .int (Int32.ofInt x3)), (4, .int (Int32.ofInt x4)), (5, .int (Int32.ofInt x5)), (6, .int (Int32.ofInt (x6 + 1)))]) (lf_sb1 rfl (lf_sb1 rfl (lf_sb1 rfl (lf_sb1 rfl (lf_sb1 rfl (lf_sb1 rfl (lf_sb1 rfl lf_sb0))))))) ?_
  exact hX36 _ _ h
def fm_156_p78 (R156 : Int → Int → Int → Int → Int → (lf_Z → Prop) → lf_Z → Prop) (X36 : Int → lf_Z → Prop) (Q : lf_Z → Prop) (x1 : Int) (x2 : Int) (x3 : Int) (x4 : Int) (x5 : Int) (x6 : Int) (y0 : Int) (s : lf_Z) : Prop := lf_R y0 ∧ ((y0 = (-1) → (fm_156_p167 R156 X36 Q x1 x2 x3 x4 x5 x6 s)) ∧ (¬ (y0 = (-1)) → ((0 ≤ x6 ∧ x6 < 4) ∧ ((0 ≤ s.1 17 x6 ∧ s.1 17 x6 < 12) ∧ ((0 ≤ x1 ∧ x1 < 6) ∧ (R156 (x1 + 1) (lf_and x2 (lf_xor (lf_shl 1 x6) (-1))) (s.1 17 x6) (lf_w (x4 + y0)) (lf_w (x5 + (lf_w ((lf_w ((s.1 16 x6) * (s.1 3 (s.1 17 x6)))) * (lf_w (x4 + y0)))))) (fun s29 => (fm_156_p167 R156 X36 Q x1 x2 x3 x4 x5 x6 s29)) (lf_up s.1 76 x1 x6, s.2.1, s.2.2)))))))
set_option maxRecDepth 100000 in
theorem gm_156_p78 {L : Nat} {xs : Nat → Int32} {d : Nat} {R156 : Int → Int → Int → Int → Int → (lf_Z → Prop) → lf_Z → Prop} {X36 : Int → lf_Z → Prop} {Q : lf_Z → Prop} {x1 : Int} {x2 : Int} {x3 : Int} {x4 : Int} {x5 : Int} {x6 : Int} {y0 : Int} {s : lf_Z} (hR156 : ∀ b1 b2 b3 b4 b5 Q s, R156 b1 b2 b3 b4 b5 Q s → lf_M (px_ro L xs) (d + 3) 156 [.ref 74, .int (Int32.ofInt b1), .int (Int32.ofInt b2), .int (Int32.ofInt b3), .int (Int32.ofInt b4), .int (Int32.ofInt b5)] s (lf_qv Q)) (hX36 : ∀ x6 s, X36 x6 s → lf_E (px_ro L xs) (d + 4) 156 36 [(0, .ref 74), (1, .int (Int32.ofInt x1)), (2, .int (Int32.ofInt x2)), (3, .int (Int32.ofInt x3)), (4, .int (Int32.ofInt x4)), (5, .int (Int32.ofInt x5)), (6, .int (Int32.ofInt x6))] [] s (lf_qv Q)) (h : fm_156_p78 R156 X36 Q x1 x2 x3 x4 x5 x6 y0 s) : lf_E (px_ro L xs) (d + 4) 156 78 [(0, .ref 74), (1, .int (Int32.ofInt x1)), (2, .int (Int32.ofInt x2)), (3, .int (Int32.ofInt x3)), (4, .int (Int32.ofInt x4)), (5, .int (Int32.ofInt x5)), (6, .int (Int32.ofInt x6))] [.int (Int32.ofInt y0)] s (lf_qv Q) := by
  unfold fm_156_p78 at h
  refine lf_seg 3 (pc' := 83) (lv' := [(7, .int (Int32.ofInt y0)), (0, .ref 74), (1, .int (Int32.ofInt x1)), (2, .int (Int32.ofInt x2)), (3, .int (Int32.ofInt x3)), (4, .int (Int32.ofInt x4)), (5, .int (Int32.ofInt x5)), (6, .int (Int32.ofInt x6))]) (st' := [.int (Int32.ofInt (-1)), .int (Int32.ofInt y0)]) rfl ?_
  obtain ⟨o25, h⟩ := h
  refine lf_icmp_eq 167 86 rfl rfl rfl o25 ⟨by decide, by decide⟩ (fun c => ?_) (fun c => ?_)
  · have h := h.1 c
    refine lf_sub (l := [(0, .ref 74), (1, .int (Int32.ofInt x1)), (2, .int (Int32.ofInt x2)), (3, .int (Int32.ofInt x3)), (4, .int (Int32.ofInt x4)), (5, .int (Int32.ofInt x5)), (6, .int (Int32.ofInt x6))]) (lf_sb1 rfl (lf_sb1 rfl (lf_sb1 rfl (lf_sb1 rfl (lf_sb1 rfl (lf_sb1 rfl (lf_sb1 rfl lf_sb0))))))) ?_
    exact gm_156_p167 hR156 hX36 h
  · have h := h.2 c
    refine lf_seg 2 (pc' := 90) (lv' := [(7, .int (Int32.ofInt y0)), (0, .ref 74), (1, .int (Int32.ofInt x1)), (2, .int (Int32.ofInt x2)), (3, .int (Int32.ofInt x3)), (4, .int (Int32.ofInt x4)), (5, .int (Int32.ofInt x5)), (6, .int (Int32.ofInt x6))]) (st' := [.int (Int32.ofInt y0), .int (Int32.ofInt x4)]) rfl ?_
    refine lf_iadd 91 rfl rfl ?_
    refine lf_wtI ?_
    refine lf_seg 5 (pc' := 102) (lv' := [(8, .int (Int32.ofInt (lf_w (x4 + y0)))), (7, .int (Int32.ofInt y0)), (0, .ref 74), (1, .int (Int32.ofInt x1)), (2, .int (Int32.ofInt x2)), (3, .int (Int32.ofInt x3)), (4, .int (Int32.ofInt x4)), (5, .int (Int32.ofInt x5)), (6, .int (Int32.ofInt x6))]) (st' := [.int (Int32.ofInt x6), .ref 16]) rfl ?_
    obtain ⟨o26, h⟩ := h
    refine lf_iald 103 4 rfl rfl rfl rfl rfl rfl o26 ?_
    refine lf_seg 6 (pc' := 117) (lv' := [(8, .int (Int32.ofInt (lf_w (x4 + y0)))), (7, .int (Int32.ofInt y0)), (0, .ref 74), (1, .int (Int32.ofInt x1)), (2, .int (Int32.ofInt x2)), (3, .int (Int32.ofInt x3)), (4, .int (Int32.ofInt x4)), (5, .int (Int32.ofInt x5)), (6, .int (Int32.ofInt x6))]) (st' := [.ref 17, .ref 3, .int (Int32.ofInt (s.1 16 x6))]) rfl ?_
    refine lf_seg 1 (pc' := 119) (lv' := [(8, .int (Int32.ofInt (lf_w (x4 + y0)))), (7, .int (Int32.ofInt y0)), (0, .ref 74), (1, .int (Int32.ofInt x1)), (2, .int (Int32.ofInt x2)), (3, .int (Int32.ofInt x3)), (4, .int (Int32.ofInt x4)), (5, .int (Int32.ofInt x5)), (6, .int (Int32.ofInt x6))]) (st' := [.int (Int32.ofInt x6), .ref 17, .ref 3, .int (Int32.ofInt (s.1 16 x6))]) rfl ?_
    refine lf_iald 120 4 rfl rfl rfl rfl rfl rfl o26 ?_
    obtain ⟨o27, h⟩ := h
    refine lf_iald 121 12 rfl rfl rfl rfl rfl rfl o27 ?_
    refine lf_imul 122 rfl rfl ?_
    refine lf_wtI ?_
    refine lf_seg 1 (pc' := 124) (lv' := [(8, .int (Int32.ofInt (lf_w (x4 + y0)))), (7, .int (Int32.ofInt y0)), (0, .ref 74), (1, .int (Int32.ofInt x1)), (2, .int (Int32.ofInt x2)), (3, .int (Int32.ofInt x3)), (4, .int (Int32.ofInt x4)), (5, .int (Int32.ofInt x5)), (6, .int (Int32.ofInt x6))]) (st' := [.int (Int32.ofInt (lf_w (x4 + y0))), .int (Int32.ofInt (lf_w ((s.1 16 x6) * (s.1 3 (s.1 17 x6)))))]) rfl ?_
    refine lf_imul 125 rfl rfl ?_
    refine lf_wtI ?_
    refine lf_seg 5 (pc' := 134) (lv' := [(9, .int (Int32.ofInt (lf_w ((lf_w ((s.1 16 x6) * (s.1 3 (s.1 17 x6)))) * (lf_w (x4 + y0)))))), (8, .int (Int32.ofInt (lf_w (x4 + y0)))), (7, .int (Int32.ofInt y0)), (0, .ref 74), (1, .int (Int32.ofInt x1)), (2, .int (Int32.ofInt x2)), (3, .int (Int32.ofInt x3)), (4, .int (Int32.ofInt x4)), (5, .int (Int32.ofInt x5)), (6, .int (Int32.ofInt x6))]) (st' := [.int (Int32.ofInt x6), .int (Int32.ofInt x1), .ref 76]) rfl ?_
    obtain ⟨o28, h⟩ := h
    refine lf_iast 135 6 rfl rfl rfl rfl rfl rfl o28 ?_
    refine lf_as (lf_up s.1 76 x1 x6, s.2.1, s.2.2) rfl ?_
    refine lf_seg 3 (pc' := 138) (lv' := [(9, .int (Int32.ofInt (lf_w ((lf_w ((s.1 16 x6) * (s.1 3 (s.1 17 x6)))) * (lf_w (x4 + y0)))))), (8, .int (Int32.ofInt (lf_w (x4 + y0)))), (7, .int (Int32.ofInt y0)), (0, .ref 74), (1, .int (Int32.ofInt x1)), (2, .int (Int32.ofInt x2)), (3, .int (Int32.ofInt x3)), (4, .int (Int32.ofInt x4)), (5, .int (Int32.ofInt x5)), (6, .int (Int32.ofInt x6))]) (st' := [.int (Int32.ofInt 1), .int (Int32.ofInt x1), .ref 74]) rfl ?_
    refine lf_iadd 139 rfl rfl ?_
    refine lf_seg 3 (pc' := 143) (lv' := [(9, .int (Int32.ofInt (lf_w ((lf_w ((s.1 16 x6) * (s.1 3 (s.1 17 x6)))) * (lf_w (x4 + y0)))))), (8, .int (Int32.ofInt (lf_w (x4 + y0)))), (7, .int (Int32.ofInt y0)), (0, .ref 74), (1, .int (Int32.ofInt x1)), (2, .int (Int32.ofInt x2)), (3, .int (Int32.ofInt x3)), (4, .int (Int32.ofInt x4)), (5, .int (Int32.ofInt x5)), (6, .int (Int32.ofInt x6))]) (st' := [.int (Int32.ofInt x6), .int (Int32.ofInt 1), .int (Int32.ofInt x2), .int (Int32.ofInt (x1 + 1)), .ref 74]) rfl ?_
    refine lf_ishl 144 rfl rfl ?_
    refine lf_seg 1 (pc' := 145) (lv' := [(9, .int (Int32.ofInt (lf_w ((lf_w ((s.1 16 x6) * (s.1 3 (s.1 17 x6)))) * (lf_w (x4 + y0)))))), (8, .int (Int32.ofInt (lf_w (x4 + y0)))), (7, .int (Int32.ofInt y0)), (0, .ref 74), (1, .int (Int32.ofInt x1)), (2, .int (Int32.ofInt x2)), (3, .int (Int32.ofInt x3)), (4, .int (Int32.ofInt x4)), (5, .int (Int32.ofInt x5)), (6, .int (Int32.ofInt x6))]) (st' := [.int (Int32.ofInt (-1)), .int (Int32.ofInt (lf_shl 1 x6)), .int (Int32.ofInt x2), .int (Int32.ofInt (x1 + 1)), .ref 74]) rfl ?_
    refine lf_ixor 146 rfl rfl ?_
    refine lf_iand 147 rfl rfl ?_
    refine lf_seg 4 (pc' := 156) (lv' := [(9, .int (Int32.ofInt (lf_w ((lf_w ((s.1 16 x6) * (s.1 3 (s.1 17 x6)))) * (lf_w (x4 + y0)))))), (8, .int (Int32.ofInt (lf_w (x4 + y0)))), (7, .int (Int32.ofInt y0)), (0, .ref 74), (1, .int (Int32.ofInt x1)), (2, .int (Int32.ofInt x2)), (3, .int (Int32.ofInt x3)), (4, .int (Int32.ofInt x4)), (5, .int (Int32.ofInt x5)), (6, .int (Int32.ofInt x6))]) (st' := [.int (Int32.ofInt x6), .ref 17, .int (Int32.ofInt (lf_and x2 (lf_xor (lf_shl 1 x6) (-1)))), .int (Int32.ofInt (x1 + 1)), .ref 74]) rfl ?_
    refine lf_iald 157 4 rfl rfl rfl rfl rfl rfl o26 ?_
    refine lf_seg 3 (pc' := 163) (lv' := [(9, .int (Int32.ofInt (lf_w ((lf_w ((s.1 16 x6) * (s.1 3 (s.1 17 x6)))) * (lf_w (x4 + y0)))))), (8, .int (Int32.ofInt (lf_w (x4 + y0)))), (7, .int (Int32.ofInt y0)), (0, .ref 74), (1, .int (Int32.ofInt x1)), (2, .int (Int32.ofInt x2)), (3, .int (Int32.ofInt x3)), (4, .int (Int32.ofInt x4)), (5, .int (Int32.ofInt x5)), (6, .int (Int32.ofInt x6))]) (st' := [.int (Int32.ofInt (lf_w ((lf_w ((s.1 16 x6) * (s.1 3 (s.1 17 x6)))) * (lf_w (x4 + y0))))), .int (Int32.ofInt x5), .int (Int32.ofInt (lf_w (x4 + y0))), .int (Int32.ofInt (s.1 17 x6)), .int (Int32.ofInt (lf_and x2 (lf_xor (lf_shl 1 x6) (-1)))), .int (Int32.ofInt (x1 + 1)), .ref 74]) rfl ?_
    refine lf_iadd 164 rfl rfl ?_
    refine lf_wtI ?_
    refine lf_callV 167 rfl rfl rfl rfl (hR156 _ _ _ _ _ _ _ h) (fun s29 h => ?_)
    refine lf_sub (l := [(0, .ref 74), (1, .int (Int32.ofInt x1)), (2, .int (Int32.ofInt x2)), (3, .int (Int32.ofInt x3)), (4, .int (Int32.ofInt x4)), (5, .int (Int32.ofInt x5)), (6, .int (Int32.ofInt x6))]) (lf_sb1 rfl (lf_sb1 rfl (lf_sb1 rfl (lf_sb1 rfl (lf_sb1 rfl (lf_sb1 rfl (lf_sb1 rfl lf_sb0))))))) ?_
    exact gm_156_p167 hR156 hX36 h
def fm_156_p36 (R156 : Int → Int → Int → Int → Int → (lf_Z → Prop) → lf_Z → Prop) (Q : lf_Z → Prop) (x1 : Int) (x2 : Int) (x3 : Int) (x4 : Int) (x5 : Int) (X36 : Int → lf_Z → Prop) (x6 : Int) (s : lf_Z) : Prop := lf_R x6 ∧ ((4 ≤ x6 → (Q s)) ∧ (¬ (4 ≤ x6) → ((lf_and (lf_shr x2 x6) 1 ≠ 1 → (fm_156_p78 R156 X36 Q x1 x2 x3 x4 x5 x6 (-1) s)) ∧ (¬ (lf_and (lf_shr x2 x6) 1 ≠ 1) → ((0 ≤ x6 ∧ x6 < 4) ∧ (fm_135 (s.1 74 7) x3 (s.1 17 x6) (fun r32 s31 => (fm_156_p78 R156 X36 Q x1 x2 x3 x4 x5 x6 r32 s31)) s))))))
def fm_156_p36L (R156 : Int → Int → Int → Int → Int → (lf_Z → Prop) → lf_Z → Prop) (Q : lf_Z → Prop) (x1 : Int) (x2 : Int) (x3 : Int) (x4 : Int) (x5 : Int) (x6 : Int) (s : lf_Z) : Prop := ∀ X36 : Int → lf_Z → Prop, (∀ (x6 : Int) (s : lf_Z), fm_156_p36 R156 Q x1 x2 x3 x4 x5 X36 x6 s → X36 x6 s) → X36 x6 s
set_option maxRecDepth 100000 in
theorem gm_156_p36 {L : Nat} {xs : Nat → Int32} {d : Nat} {R156 : Int → Int → Int → Int → Int → (lf_Z → Prop) → lf_Z → Prop} {Q : lf_Z → Prop} {x1 : Int} {x2 : Int} {x3 : Int} {x4 : Int} {x5 : Int} {x6 : Int} {s : lf_Z} {X36 : Int → lf_Z → Prop} (hR156 : ∀ b1 b2 b3 b4 b5 Q s, R156 b1 b2 b3 b4 b5 Q s → lf_M (px_ro L xs) (d + 3) 156 [.ref 74, .int (Int32.ofInt b1), .int (Int32.ofInt b2), .int (Int32.ofInt b3), .int (Int32.ofInt b4), .int (Int32.ofInt b5)] s (lf_qv Q)) (hX36 : ∀ x6 s, X36 x6 s → lf_E (px_ro L xs) (d + 4) 156 36 [(0, .ref 74), (1, .int (Int32.ofInt x1)), (2, .int (Int32.ofInt x2)), (3, .int (Int32.ofInt x3)), (4, .int (Int32.ofInt x4)), (5, .int (Int32.ofInt x5)), (6, .int (Int32.ofInt x6))] [] s (lf_qv Q)) (h : fm_156_p36 R156 Q x1 x2 x3 x4 x5 X36 x6 s) : lf_E (px_ro L xs) (d + 4) 156 36 [(0, .ref 74), (1, .int (Int32.ofInt x1)), (2, .int (Int32.ofInt x2)), (3, .int (Int32.ofInt x3)), (4, .int (Int32.ofInt x4)), (5, .int (Int32.ofInt x5)), (6, .int (Int32.ofInt x6))] [] s (lf_qv Q) := by
  unfold fm_156_p36 at h
  refine lf_seg 2 (pc' := 39) (lv' := [(0, .ref 74), (1, .int (Int32.ofInt x1)), (2, .int (Int32.ofInt x2)), (3, .int (Int32.ofInt x3)), (4, .int (Int32.ofInt x4)), (5, .int (Int32.ofInt x5)), (6, .int (Int32.ofInt x6))]) (st' := [.int (Int32.ofInt 4), .int (Int32.ofInt x6)]) rfl ?_
  obtain ⟨o24, h⟩ := h
  refine lf_icmp_ge 173 42 rfl rfl rfl o24 ⟨by decide, by decide⟩ (fun c => ?_) (fun c => ?_)
  · have h := h.1 c
    exact lf_retV rfl rfl h
  · have h := h.2 c
    refine lf_seg 2 (pc' := 45) (lv' := [(0, .ref 74), (1, .int (Int32.ofInt x1)), (2, .int (Int32.ofInt x2)), (3, .int (Int32.ofInt x3)), (4, .int (Int32.ofInt x4)), (5, .int (Int32.ofInt x5)), (6, .int (Int32.ofInt x6))]) (st' := [.int (Int32.ofInt x6), .int (Int32.ofInt x2)]) rfl ?_
    refine lf_ishr 46 rfl rfl ?_
    refine lf_seg 1 (pc' := 47) (lv' := [(0, .ref 74), (1, .int (Int32.ofInt x1)), (2, .int (Int32.ofInt x2)), (3, .int (Int32.ofInt x3)), (4, .int (Int32.ofInt x4)), (5, .int (Int32.ofInt x5)), (6, .int (Int32.ofInt x6))]) (st' := [.int (Int32.ofInt 1), .int (Int32.ofInt (lf_shr x2 x6))]) rfl ?_
    refine lf_iand 48 rfl rfl ?_
    refine lf_seg 1 (pc' := 49) (lv' := [(0, .ref 74), (1, .int (Int32.ofInt x1)), (2, .int (Int32.ofInt x2)), (3, .int (Int32.ofInt x3)), (4, .int (Int32.ofInt x4)), (5, .int (Int32.ofInt x5)), (6, .int (Int32.ofInt x6))]) (st' := [.int (Int32.ofInt 1), .int (Int32.ofInt (lf_and (lf_shr x2 x6) 1))]) rfl ?_
    refine lf_icmp_ne 77 52 rfl rfl rfl lf_Rand ⟨by decide, by decide⟩ (fun c => ?_) (fun c => ?_)
    · have h := h.1 c
      refine lf_seg 1 (pc' := 78) (lv' := [(0, .ref 74), (1, .int (Int32.ofInt x1)), (2, .int (Int32.ofInt x2)), (3, .int (Int32.ofInt x3)), (4, .int (Int32.ofInt x4)), (5, .int (Int32.ofInt x5)), (6, .int (Int32.ofInt x6))]) (st' := [.int (Int32.ofInt (-1))]) rfl ?_
      refine lf_sub (l := [(0, .ref 74), (1, .int (Int32.ofInt x1)), (2, .int (Int32.ofInt x2)), (3, .int (Int32.ofInt x3)), (4, .int (Int32.ofInt x4)), (5, .int (Int32.ofInt x5)), (6, .int (Int32.ofInt x6))]) (lf_sb1 rfl (lf_sb1 rfl (lf_sb1 rfl (lf_sb1 rfl (lf_sb1 rfl (lf_sb1 rfl (lf_sb1 rfl lf_sb0))))))) ?_
      exact gm_156_p78 hR156 hX36 h
    · have h := h.2 c
      refine lf_seg 3 (pc' := 57) (lv' := [(0, .ref 74), (1, .int (Int32.ofInt x1)), (2, .int (Int32.ofInt x2)), (3, .int (Int32.ofInt x3)), (4, .int (Int32.ofInt x4)), (5, .int (Int32.ofInt x5)), (6, .int (Int32.ofInt x6))]) (st' := [.ref 74, .ref 1]) rfl ?_
      refine lf_getI 60 7 rfl rfl rfl rfl rfl rfl rfl ?_
      refine lf_seg 5 (pc' := 70) (lv' := [(0, .ref 74), (1, .int (Int32.ofInt x1)), (2, .int (Int32.ofInt x2)), (3, .int (Int32.ofInt x3)), (4, .int (Int32.ofInt x4)), (5, .int (Int32.ofInt x5)), (6, .int (Int32.ofInt x6))]) (st' := [.int (Int32.ofInt x6), .ref 17, .int (Int32.ofInt x3), .int (Int32.ofInt (s.1 74 7)), .ref 1]) rfl ?_
      obtain ⟨o30, h⟩ := h
      refine lf_iald 71 4 rfl rfl rfl rfl rfl rfl o30 ?_
      refine lf_callI 74 rfl rfl rfl rfl (gm_135 h) (fun r32 s31 h => ?_)
      refine lf_seg 1 (pc' := 78) (lv' := [(0, .ref 74), (1, .int (Int32.ofInt x1)), (2, .int (Int32.ofInt x2)), (3, .int (Int32.ofInt x3)), (4, .int (Int32.ofInt x4)), (5, .int (Int32.ofInt x5)), (6, .int (Int32.ofInt x6))]) (st' := [.int (Int32.ofInt r32)]) rfl ?_
      refine lf_sub (l := [(0, .ref 74), (1, .int (Int32.ofInt x1)), (2, .int (Int32.ofInt x2)), (3, .int (Int32.ofInt x3)), (4, .int (Int32.ofInt x4)), (5, .int (Int32.ofInt x5)), (6, .int (Int32.ofInt x6))]) (lf_sb1 rfl (lf_sb1 rfl (lf_sb1 rfl (lf_sb1 rfl (lf_sb1 rfl (lf_sb1 rfl (lf_sb1 rfl lf_sb0))))))) ?_
      exact gm_156_p78 hR156 hX36 h
theorem gm_156_p36L {L : Nat} {xs : Nat → Int32} {d : Nat} {R156 : Int → Int → Int → Int → Int → (lf_Z → Prop) → lf_Z → Prop} {Q : lf_Z → Prop} {x1 : Int} {x2 : Int} {x3 : Int} {x4 : Int} {x5 : Int} {x6 : Int} {s : lf_Z} (hR156 : ∀ b1 b2 b3 b4 b5 Q s, R156 b1 b2 b3 b4 b5 Q s → lf_M (px_ro L xs) (d + 3) 156 [.ref 74, .int (Int32.ofInt b1), .int (Int32.ofInt b2), .int (Int32.ofInt b3), .int (Int32.ofInt b4), .int (Int32.ofInt b5)] s (lf_qv Q)) (h : fm_156_p36L R156 Q x1 x2 x3 x4 x5 x6 s) : lf_E (px_ro L xs) (d + 4) 156 36 [(0, .ref 74), (1, .int (Int32.ofInt x1)), (2, .int (Int32.ofInt x2)), (3, .int (Int32.ofInt x3)), (4, .int (Int32.ofInt x4)), (5, .int (Int32.ofInt x5)), (6, .int (Int32.ofInt x6))] [] s (lf_qv Q) :=
  h (fun x6 s => lf_E (px_ro L xs) (d + 4) 156 36 [(0, .ref 74), (1, .int (Int32.ofInt x1)), (2, .int (Int32.ofInt x2)), (3, .int (Int32.ofInt x3)), (4, .int (Int32.ofInt x4)), (5, .int (Int32.ofInt x5)), (6, .int (Int32.ofInt x6))] [] s (lf_qv Q)) (fun x6 s hb => gm_156_p36 hR156 (fun _ _ h => h) hb)
def fm_156_p18 (R156 : Int → Int → Int → Int → Int → (lf_Z → Prop) → lf_Z → Prop) (Q : lf_Z → Prop) (x1 : Int) (x2 : Int) (x3 : Int) (x4 : Int) (x5 : Int) (s : lf_Z) : Prop := lf_R x1 ∧ (lf_R (s.1 74 5) ∧ ((x1 < s.1 74 5 → (fm_156_p36L R156 Q x1 x2 x3 x4 x5 0 s)) ∧ (¬ (x1 < s.1 74 5) → (fm_140 x5 (fun s33 => (Q s33)) s))))
set_option maxRecDepth 100000 in
theorem gm_156_p18 {L : Nat} {xs : Nat → Int32} {d : Nat} {R156 : Int → Int → Int → Int → Int → (lf_Z → Prop) → lf_Z → Prop} {Q : lf_Z → Prop} {x1 : Int} {x2 : Int} {x3 : Int} {x4 : Int} {x5 : Int} {s : lf_Z} (hR156 : ∀ b1 b2 b3 b4 b5 Q s, R156 b1 b2 b3 b4 b5 Q s → lf_M (px_ro L xs) (d + 3) 156 [.ref 74, .int (Int32.ofInt b1), .int (Int32.ofInt b2), .int (Int32.ofInt b3), .int (Int32.ofInt b4), .int (Int32.ofInt b5)] s (lf_qv Q)) (h : fm_156_p18 R156 Q x1 x2 x3 x4 x5 s) : lf_E (px_ro L xs) (d + 4) 156 18 [(0, .ref 74), (1, .int (Int32.ofInt x1)), (2, .int (Int32.ofInt x2)), (3, .int (Int32.ofInt x3)), (4, .int (Int32.ofInt x4)), (5, .int (Int32.ofInt x5))] [] s (lf_qv Q) := by
  unfold fm_156_p18 at h
  refine lf_seg 2 (pc' := 20) (lv' := [(0, .ref 74), (1, .int (Int32.ofInt x1)), (2, .int (Int32.ofInt x2)), (3, .int (Int32.ofInt x3)), (4, .int (Int32.ofInt x4)), (5, .int (Int32.ofInt x5))]) (st' := [.ref 74, .int (Int32.ofInt x1)]) rfl ?_
  refine lf_getI 23 5 rfl rfl rfl rfl rfl rfl rfl ?_
  obtain ⟨o22, h⟩ := h
  obtain ⟨o23, h⟩ := h
  refine lf_icmp_lt 33 26 rfl rfl rfl o22 o23 (fun c => ?_) (fun c => ?_)
  · have h := h.1 c
    refine lf_seg 2 (pc' := 36) (lv' := [(6, .int (Int32.ofInt 0)), (0, .ref 74), (1, .int (Int32.ofInt x1)), (2, .int (Int32.ofInt x2)), (3, .int (Int32.ofInt x3)), (4, .int (Int32.ofInt x4)), (5, .int (Int32.ofInt x5))]) (st' := []) rfl ?_
    refine lf_sub (l := [(0, .ref 74), (1, .int (Int32.ofInt x1)), (2, .int (Int32.ofInt x2)), (3, .int (Int32.ofInt x3)), (4, .int (Int32.ofInt x4)), (5, .int (Int32.ofInt x5)), (6, .int (Int32.ofInt 0))]) (lf_sb1 rfl (lf_sb1 rfl (lf_sb1 rfl (lf_sb1 rfl (lf_sb1 rfl (lf_sb1 rfl (lf_sb1 rfl lf_sb0))))))) ?_
    exact gm_156_p36L hR156 h
  · have h := h.2 c
    refine lf_seg 2 (pc' := 29) (lv' := [(0, .ref 74), (1, .int (Int32.ofInt x1)), (2, .int (Int32.ofInt x2)), (3, .int (Int32.ofInt x3)), (4, .int (Int32.ofInt x4)), (5, .int (Int32.ofInt x5))]) (st' := [.int (Int32.ofInt x5), .ref 74]) rfl ?_
    refine lf_callV 32 rfl rfl rfl rfl (gm_140 h) (fun s33 h => ?_)
    exact lf_retV rfl rfl h
def fm_156 (R156 : Int → Int → Int → Int → Int → (lf_Z → Prop) → lf_Z → Prop) (a1 : Int) (a2 : Int) (a3 : Int) (a4 : Int) (a5 : Int) (Q : lf_Z → Prop) (s : lf_Z) : Prop := lf_R (s.1 74 6) ∧ ((s.1 74 6 = (-1) → (fm_156_p18 R156 Q a1 a2 a3 a4 a5 s)) ∧ (¬ (s.1 74 6 = (-1)) → (lf_R a5 ∧ ((a5 < s.1 74 6 → (fm_156_p18 R156 Q a1 a2 a3 a4 a5 s)) ∧ (¬ (a5 < s.1 74 6) → (Q s))))))
set_option maxRecDepth 100000 in
theorem gm_156 {L : Nat} {xs : Nat → Int32} {d : Nat} {R156 : Int → Int → Int → Int → Int → (lf_Z → Prop) → lf_Z → Prop} {a1 : Int} {a2 : Int} {a3 : Int} {a4 : Int} {a5 : Int} {Q : lf_Z → Prop} {s : lf_Z} (hR156 : ∀ b1 b2 b3 b4 b5 Q s, R156 b1 b2 b3 b4 b5 Q s → lf_M (px_ro L xs) (d + 3) 156 [.ref 74, .int (Int32.ofInt b1), .int (Int32.ofInt b2), .int (Int32.ofInt b3), .int (Int32.ofInt b4), .int (Int32.ofInt b5)] s (lf_qv Q)) (h : fm_156 R156 a1 a2 a3 a4 a5 Q s) : lf_M (px_ro L xs) (d + 4) 156 [.ref 74, .int (Int32.ofInt a1), .int (Int32.ofInt a2), .int (Int32.ofInt a3), .int (Int32.ofInt a4), .int (Int32.ofInt a5)] s (lf_qv Q) := by
  unfold fm_156 at h
  show lf_E (px_ro L xs) (d + 4) 156 0 [(0, .ref 74), (1, .int (Int32.ofInt a1)), (2, .int (Int32.ofInt a2)), (3, .int (Int32.ofInt a3)), (4, .int (Int32.ofInt a4)), (5, .int (Int32.ofInt a5))] [] s _
  refine lf_seg 1 (pc' := 1) (lv' := [(0, .ref 74), (1, .int (Int32.ofInt a1)), (2, .int (Int32.ofInt a2)), (3, .int (Int32.ofInt a3)), (4, .int (Int32.ofInt a4)), (5, .int (Int32.ofInt a5))]) (st' := [.ref 74]) rfl ?_
  refine lf_getI 4 6 rfl rfl rfl rfl rfl rfl rfl ?_
  refine lf_seg 1 (pc' := 5) (lv' := [(0, .ref 74), (1, .int (Int32.ofInt a1)), (2, .int (Int32.ofInt a2)), (3, .int (Int32.ofInt a3)), (4, .int (Int32.ofInt a4)), (5, .int (Int32.ofInt a5))]) (st' := [.int (Int32.ofInt (-1)), .int (Int32.ofInt (s.1 74 6))]) rfl ?_
  obtain ⟨o21, h⟩ := h
  refine lf_icmp_eq 18 8 rfl rfl rfl o21 ⟨by decide, by decide⟩ (fun c => ?_) (fun c => ?_)
  · have h := h.1 c
    refine lf_sub (l := [(0, .ref 74), (1, .int (Int32.ofInt a1)), (2, .int (Int32.ofInt a2)), (3, .int (Int32.ofInt a3)), (4, .int (Int32.ofInt a4)), (5, .int (Int32.ofInt a5))]) (lf_sb1 rfl (lf_sb1 rfl (lf_sb1 rfl (lf_sb1 rfl (lf_sb1 rfl (lf_sb1 rfl lf_sb0)))))) ?_
    exact gm_156_p18 hR156 h
  · have h := h.2 c
    refine lf_seg 2 (pc' := 11) (lv' := [(0, .ref 74), (1, .int (Int32.ofInt a1)), (2, .int (Int32.ofInt a2)), (3, .int (Int32.ofInt a3)), (4, .int (Int32.ofInt a4)), (5, .int (Int32.ofInt a5))]) (st' := [.ref 74, .int (Int32.ofInt a5)]) rfl ?_
    refine lf_getI 14 6 rfl rfl rfl rfl rfl rfl rfl ?_
    obtain ⟨o34, h⟩ := h
    refine lf_icmp_lt 18 17 rfl rfl rfl o34 o21 (fun c => ?_) (fun c => ?_)
    · have h := h.1 c
      refine lf_sub (l := [(0, .ref 74), (1, .int (Int32.ofInt a1)), (2, .int (Int32.ofInt a2)), (3, .int (Int32.ofInt a3)), (4, .int (Int32.ofInt a4)), (5, .int (Int32.ofInt a5))]) (lf_sb1 rfl (lf_sb1 rfl (lf_sb1 rfl (lf_sb1 rfl (lf_sb1 rfl (lf_sb1 rfl lf_sb0)))))) ?_
      exact gm_156_p18 hR156 h
    · have h := h.2 c
      exact lf_retV rfl rfl h
-- cl_156 cluster
def fc_156T : Nat → (Int → Int → Int → Int → Int → (lf_Z → Prop) → lf_Z → Prop)
  | 0 => fun _ _ _ _ _ _ _ => False
  | n + 1 => fm_156 (fc_156T n)
theorem gc_156T {L : Nat} {xs : Nat → Int32} {d : Nat} : ∀ n : Nat, (∀ b1 b2 b3 b4 b5 Q s, (fc_156T n) b1 b2 b3 b4 b5 Q s → lf_M (px_ro L xs) (d + n + 3) 156 [.ref 74, .int (Int32.ofInt b1), .int (Int32.ofInt b2), .int (Int32.ofInt b3), .int (Int32.ofInt b4), .int (Int32.ofInt b5)] s (lf_qv Q))
  | 0 => fun _ _ _ _ _ _ _ h => h.elim
  | n + 1 => fun a1 a2 a3 a4 a5 Q s h => lf_E.deep (gm_156 (d := d + n) (fun _ _ _ _ _ _ _ h => lf_E.deep ((gc_156T (L := L) (xs := xs) (d := d) n) _ _ _ _ _ _ _ h) (by omega)) h) (by omega)
def fc_156 (a1 : Int) (a2 : Int) (a3 : Int) (a4 : Int) (a5 : Int) (Q : lf_Z → Prop) (s : lf_Z) : Prop := (fc_156T 200) a1 a2 a3 a4 a5 Q s
theorem gc_156 {L : Nat} {xs : Nat → Int32} {d : Nat} {a1 : Int} {a2 : Int} {a3 : Int} {a4 : Int} {a5 : Int} {Q : lf_Z → Prop} {s : lf_Z} (h : fc_156 a1 a2 a3 a4 a5 Q s) : lf_M (px_ro L xs) (d + 204) 156 [.ref 74, .int (Int32.ofInt a1), .int (Int32.ofInt a2), .int (Int32.ofInt a3), .int (Int32.ofInt a4), .int (Int32.ofInt a5)] s (lf_qv Q) := lf_E.deep ((gc_156T (L := L) (xs := xs) (d := d) 200) _ _ _ _ _ _ _ h) (by omega)
-- fm_155 Errands.goAfterAll 74 i
def fm_155_p51 (X19 : Int → Int → lf_Z → Prop) (Q : Int → lf_Z → Prop) (x1 : Int) (x2 : Int) (x3 : Int) (s : lf_Z) : Prop := X19 x2 (x3 + 1) s
set_option maxRecDepth 100000 in
theorem gm_155_p51 {L : Nat} {xs : Nat → Int32} {d : Nat} {X19 : Int → Int → lf_Z → Prop} {Q : Int → lf_Z → Prop} {x1 : Int} {x2 : Int} {x3 : Int} {s : lf_Z} (hX19 : ∀ x2 x3 s, X19 x2 x3 s → lf_E (px_ro L xs) (d + 205) 155 19 [(0, .ref 74), (1, .int (Int32.ofInt x1)), (2, .int (Int32.ofInt x2)), (3, .int (Int32.ofInt x3))] [] s (lf_qi Q)) (h : fm_155_p51 X19 Q x1 x2 x3 s) : lf_E (px_ro L xs) (d + 205) 155 51 [(0, .ref 74), (1, .int (Int32.ofInt x1)), (2, .int (Int32.ofInt x2)), (3, .int (Int32.ofInt x3))] [] s (lf_qi Q) := by
  unfold fm_155_p51 at h
  refine lf_iinc 54 rfl rfl rfl rfl ?_
  refine lf_seg 1 (pc' := 19) (lv' := [(3, .int (Int32.ofInt (x3 + 1))), (0, .ref 74), (1, .int (Int32.ofInt x1)), (2, .int (Int32.ofInt x2))]) (st' := []) rfl ?_
  refine lf_sub (l := [(0, .ref 74), (1, .int (Int32.ofInt x1)), (2, .int (Int32.ofInt x2)), (3, .int (Int32.ofInt (x3 + 1)))]) (lf_sb1 rfl (lf_sb1 rfl (lf_sb1 rfl (lf_sb1 rfl lf_sb0)))) ?_
  exact hX19 _ _ _ h
def fm_155_p19 (Q : Int → lf_Z → Prop) (x1 : Int) (X19 : Int → Int → lf_Z → Prop) (x2 : Int) (x3 : Int) (s : lf_Z) : Prop := lf_R x3 ∧ ((4 ≤ x3 → (lf_R (s.1 74 5) ∧ ((s.1 74 5 ≤ 0 → (Q (s.1 74 6) s)) ∧ (¬ (s.1 74 5 ≤ 0) → ((0 ≤ x1 ∧ x1 < 6) ∧ (fc_156 0 x2 (s.1 19 x1) 0 0 (fun s24 => (Q (s24.1 74 6) s24)) s)))))) ∧ (¬ (4 ≤ x3) → (fm_80 x3 (fun z26 s25 => ((z26 = false → (fm_155_p51 X19 Q x1 x2 x3 s25)) ∧ (z26 = true → (fm_155_p51 X19 Q x1 (lf_or x2 (lf_shl 1 x3)) x3 (lf_up s25.1 74 5 ((s25.1 74 5) + 1), s25.2.1, s25.2.2))))) s)))
def fm_155_p19L (Q : Int → lf_Z → Prop) (x1 : Int) (x2 : Int) (x3 : Int) (s : lf_Z) : Prop := ∀ X19 : Int → Int → lf_Z → Prop, (∀ (x2 : Int) (x3 : Int) (s : lf_Z), fm_155_p19 Q x1 X19 x2 x3 s → X19 x2 x3 s) → X19 x2 x3 s
set_option maxRecDepth 100000 in
theorem gm_155_p19 {L : Nat} {xs : Nat → Int32} {d : Nat} {Q : Int → lf_Z → Prop} {x1 : Int} {x2 : Int} {x3 : Int} {s : lf_Z} {X19 : Int → Int → lf_Z → Prop} (hX19 : ∀ x2 x3 s, X19 x2 x3 s → lf_E (px_ro L xs) (d + 205) 155 19 [(0, .ref 74), (1, .int (Int32.ofInt x1)), (2, .int (Int32.ofInt x2)), (3, .int (Int32.ofInt x3))] [] s (lf_qi Q)) (h : fm_155_p19 Q x1 X19 x2 x3 s) : lf_E (px_ro L xs) (d + 205) 155 19 [(0, .ref 74), (1, .int (Int32.ofInt x1)), (2, .int (Int32.ofInt x2)), (3, .int (Int32.ofInt x3))] [] s (lf_qi Q) := by
  unfold fm_155_p19 at h
  refine lf_seg 2 (pc' := 21) (lv' := [(0, .ref 74), (1, .int (Int32.ofInt x1)), (2, .int (Int32.ofInt x2)), (3, .int (Int32.ofInt x3))]) (st' := [.int (Int32.ofInt 4), .int (Int32.ofInt x3)]) rfl ?_
  obtain ⟨o21, h⟩ := h
  refine lf_icmp_ge 57 24 rfl rfl rfl o21 ⟨by decide, by decide⟩ (fun c => ?_) (fun c => ?_)
  · have h := h.1 c
    refine lf_seg 1 (pc' := 58) (lv' := [(0, .ref 74), (1, .int (Int32.ofInt x1)), (2, .int (Int32.ofInt x2)), (3, .int (Int32.ofInt x3))]) (st' := [.ref 74]) rfl ?_
    refine lf_getI 61 5 rfl rfl rfl rfl rfl rfl rfl ?_
    obtain ⟨o22, h⟩ := h
    refine lf_if_le 81 64 rfl rfl rfl o22 (fun c => ?_) (fun c => ?_)
    · have h := h.1 c
      refine lf_seg 1 (pc' := 82) (lv' := [(0, .ref 74), (1, .int (Int32.ofInt x1)), (2, .int (Int32.ofInt x2)), (3, .int (Int32.ofInt x3))]) (st' := [.ref 74]) rfl ?_
      refine lf_getI 85 6 rfl rfl rfl rfl rfl rfl rfl ?_
      exact lf_retI rfl rfl h
    · have h := h.2 c
      refine lf_seg 6 (pc' := 74) (lv' := [(0, .ref 74), (1, .int (Int32.ofInt x1)), (2, .int (Int32.ofInt x2)), (3, .int (Int32.ofInt x3))]) (st' := [.ref 19, .int (Int32.ofInt x2), .int (Int32.ofInt 0), .ref 74]) rfl ?_
      refine lf_seg 1 (pc' := 75) (lv' := [(0, .ref 74), (1, .int (Int32.ofInt x1)), (2, .int (Int32.ofInt x2)), (3, .int (Int32.ofInt x3))]) (st' := [.int (Int32.ofInt x1), .ref 19, .int (Int32.ofInt x2), .int (Int32.ofInt 0), .ref 74]) rfl ?_
      obtain ⟨o23, h⟩ := h
      refine lf_iald 76 6 rfl rfl rfl rfl rfl rfl o23 ?_
      refine lf_seg 2 (pc' := 78) (lv' := [(0, .ref 74), (1, .int (Int32.ofInt x1)), (2, .int (Int32.ofInt x2)), (3, .int (Int32.ofInt x3))]) (st' := [.int (Int32.ofInt 0), .int (Int32.ofInt 0), .int (Int32.ofInt (s.1 19 x1)), .int (Int32.ofInt x2), .int (Int32.ofInt 0), .ref 74]) rfl ?_
      refine lf_callV 81 rfl rfl rfl rfl (gc_156 h) (fun s24 h => ?_)
      refine lf_seg 1 (pc' := 82) (lv' := [(0, .ref 74), (1, .int (Int32.ofInt x1)), (2, .int (Int32.ofInt x2)), (3, .int (Int32.ofInt x3))]) (st' := [.ref 74]) rfl ?_
      refine lf_getI 85 6 rfl rfl rfl rfl rfl rfl rfl ?_
      exact lf_retI rfl rfl h
  · have h := h.2 c
    refine lf_seg 3 (pc' := 29) (lv' := [(0, .ref 74), (1, .int (Int32.ofInt x1)), (2, .int (Int32.ofInt x2)), (3, .int (Int32.ofInt x3))]) (st' := [.int (Int32.ofInt x3), .ref 15]) rfl ?_
    refine lf_callZ 32 rfl rfl rfl rfl (gm_80 h) (fun z26 s25 h => ?_)
    refine lf_ifz_eq 51 35 rfl rfl rfl (fun c => ?_) (fun c => ?_)
    · have h := h.1 c
      refine lf_sub (l := [(0, .ref 74), (1, .int (Int32.ofInt x1)), (2, .int (Int32.ofInt x2)), (3, .int (Int32.ofInt x3))]) (lf_sb1 rfl (lf_sb1 rfl (lf_sb1 rfl (lf_sb1 rfl lf_sb0)))) ?_
      exact gm_155_p51 hX19 h
    · have h := h.2 c
      refine lf_seg 3 (pc' := 38) (lv' := [(0, .ref 74), (1, .int (Int32.ofInt x1)), (2, .int (Int32.ofInt x2)), (3, .int (Int32.ofInt x3))]) (st' := [.int (Int32.ofInt x3), .int (Int32.ofInt 1), .int (Int32.ofInt x2)]) rfl ?_
      refine lf_ishl 39 rfl rfl ?_
      refine lf_ior 40 rfl rfl ?_
      refine lf_seg 3 (pc' := 43) (lv' := [(2, .int (Int32.ofInt (lf_or x2 (lf_shl 1 x3)))), (0, .ref 74), (1, .int (Int32.ofInt x1)), (3, .int (Int32.ofInt x3))]) (st' := [.ref 74, .ref 74]) rfl ?_
      refine lf_getI 46 5 rfl rfl rfl rfl rfl rfl rfl ?_
      refine lf_seg 1 (pc' := 47) (lv' := [(2, .int (Int32.ofInt (lf_or x2 (lf_shl 1 x3)))), (0, .ref 74), (1, .int (Int32.ofInt x1)), (3, .int (Int32.ofInt x3))]) (st' := [.int (Int32.ofInt 1), .int (Int32.ofInt (s25.1 74 5)), .ref 74]) rfl ?_
      refine lf_iadd 48 rfl rfl ?_
      refine lf_putI 51 5 rfl rfl rfl rfl rfl rfl rfl rfl ?_
      refine lf_as (lf_up s25.1 74 5 ((s25.1 74 5) + 1), s25.2.1, s25.2.2) rfl ?_
      refine lf_sub (l := [(0, .ref 74), (1, .int (Int32.ofInt x1)), (2, .int (Int32.ofInt (lf_or x2 (lf_shl 1 x3)))), (3, .int (Int32.ofInt x3))]) (lf_sb1 rfl (lf_sb1 rfl (lf_sb1 rfl (lf_sb1 rfl lf_sb0)))) ?_
      exact gm_155_p51 hX19 h
theorem gm_155_p19L {L : Nat} {xs : Nat → Int32} {d : Nat} {Q : Int → lf_Z → Prop} {x1 : Int} {x2 : Int} {x3 : Int} {s : lf_Z} (h : fm_155_p19L Q x1 x2 x3 s) : lf_E (px_ro L xs) (d + 205) 155 19 [(0, .ref 74), (1, .int (Int32.ofInt x1)), (2, .int (Int32.ofInt x2)), (3, .int (Int32.ofInt x3))] [] s (lf_qi Q) :=
  h (fun x2 x3 s => lf_E (px_ro L xs) (d + 205) 155 19 [(0, .ref 74), (1, .int (Int32.ofInt x1)), (2, .int (Int32.ofInt x2)), (3, .int (Int32.ofInt x3))] [] s (lf_qi Q)) (fun x2 x3 s hb => gm_155_p19 (fun _ _ _ h => h) hb)
def fm_155 (a1 : Int) (Q : Int → lf_Z → Prop) (s : lf_Z) : Prop := fm_155_p19L Q a1 0 0 (lf_up (lf_up (lf_up s.1 74 6 (-1)) 74 5 0) 74 7 a1, s.2.1, s.2.2)
set_option maxRecDepth 100000 in
theorem gm_155 {L : Nat} {xs : Nat → Int32} {d : Nat} {a1 : Int} {Q : Int → lf_Z → Prop} {s : lf_Z} (h : fm_155 a1 Q s) : lf_M (px_ro L xs) (d + 205) 155 [.ref 74, .int (Int32.ofInt a1)] s (lf_qi Q) := by
  unfold fm_155 at h
  show lf_E (px_ro L xs) (d + 205) 155 0 [(0, .ref 74), (1, .int (Int32.ofInt a1))] [] s _
  refine lf_seg 2 (pc' := 2) (lv' := [(0, .ref 74), (1, .int (Int32.ofInt a1))]) (st' := [.int (Int32.ofInt (-1)), .ref 74]) rfl ?_
  refine lf_putI 5 6 rfl rfl rfl rfl rfl rfl rfl rfl ?_
  refine lf_as (lf_up s.1 74 6 (-1), s.2.1, s.2.2) rfl ?_
  refine lf_seg 2 (pc' := 7) (lv' := [(0, .ref 74), (1, .int (Int32.ofInt a1))]) (st' := [.int (Int32.ofInt 0), .ref 74]) rfl ?_
  refine lf_putI 10 5 rfl rfl rfl rfl rfl rfl rfl rfl ?_
  refine lf_as (lf_up (lf_up s.1 74 6 (-1)) 74 5 0, s.2.1, s.2.2) rfl ?_
  refine lf_seg 2 (pc' := 12) (lv' := [(0, .ref 74), (1, .int (Int32.ofInt a1))]) (st' := [.int (Int32.ofInt a1), .ref 74]) rfl ?_
  refine lf_putI 15 7 rfl rfl rfl rfl rfl rfl rfl rfl ?_
  refine lf_as (lf_up (lf_up (lf_up s.1 74 6 (-1)) 74 5 0) 74 7 a1, s.2.1, s.2.2) rfl ?_
  refine lf_seg 4 (pc' := 19) (lv' := [(3, .int (Int32.ofInt 0)), (2, .int (Int32.ofInt 0)), (0, .ref 74), (1, .int (Int32.ofInt a1))]) (st' := []) rfl ?_
  refine lf_sub (l := [(0, .ref 74), (1, .int (Int32.ofInt a1)), (2, .int (Int32.ofInt 0)), (3, .int (Int32.ofInt 0))]) (lf_sb1 rfl (lf_sb1 rfl (lf_sb1 rfl (lf_sb1 rfl lf_sb0)))) ?_
  exact gm_155_p19L h
-- fm_157 Errands.bunchAt 74 i
def fm_157 (a1 : Int) (Q : Int → lf_Z → Prop) (s : lf_Z) : Prop := lf_R (s.1 74 6) ∧ ((s.1 74 6 = (-1) → (Q (-1) s)) ∧ (¬ (s.1 74 6 = (-1)) → (fm_15 a1 0 ((s.1 74 5) - 1) (fun z23 s22 => ((z23 = false → (Q (-1) s22)) ∧ (z23 = true → ((0 ≤ a1 ∧ a1 < 6) ∧ (Q (s22.1 77 a1) s22))))) s)))
set_option maxRecDepth 100000 in
theorem gm_157 {L : Nat} {xs : Nat → Int32} {d : Nat} {a1 : Int} {Q : Int → lf_Z → Prop} {s : lf_Z} (h : fm_157 a1 Q s) : lf_M (px_ro L xs) (d + 2) 157 [.ref 74, .int (Int32.ofInt a1)] s (lf_qi Q) := by
  unfold fm_157 at h
  show lf_E (px_ro L xs) (d + 2) 157 0 [(0, .ref 74), (1, .int (Int32.ofInt a1))] [] s _
  refine lf_seg 1 (pc' := 1) (lv' := [(0, .ref 74), (1, .int (Int32.ofInt a1))]) (st' := [.ref 74]) rfl ?_
  refine lf_getI 4 6 rfl rfl rfl rfl rfl rfl rfl ?_
  refine lf_seg 1 (pc' := 5) (lv' := [(0, .ref 74), (1, .int (Int32.ofInt a1))]) (st' := [.int (Int32.ofInt (-1)), .int (Int32.ofInt (s.1 74 6))]) rfl ?_
  obtain ⟨o21, h⟩ := h
  refine lf_icmp_eq 31 8 rfl rfl rfl o21 ⟨by decide, by decide⟩ (fun c => ?_) (fun c => ?_)
  · have h := h.1 c
    refine lf_seg 1 (pc' := 32) (lv' := [(0, .ref 74), (1, .int (Int32.ofInt a1))]) (st' := [.int (Int32.ofInt (-1))]) rfl ?_
    exact lf_retI rfl rfl h
  · have h := h.2 c
    refine lf_seg 3 (pc' := 11) (lv' := [(0, .ref 74), (1, .int (Int32.ofInt a1))]) (st' := [.ref 74, .int (Int32.ofInt 0), .int (Int32.ofInt a1)]) rfl ?_
    refine lf_getI 14 5 rfl rfl rfl rfl rfl rfl rfl ?_
    refine lf_seg 1 (pc' := 15) (lv' := [(0, .ref 74), (1, .int (Int32.ofInt a1))]) (st' := [.int (Int32.ofInt 1), .int (Int32.ofInt (s.1 74 5)), .int (Int32.ofInt 0), .int (Int32.ofInt a1)]) rfl ?_
    refine lf_isub 16 rfl rfl ?_
    refine lf_callZ 19 rfl rfl rfl rfl (gm_15 h) (fun z23 s22 h => ?_)
    refine lf_ifz_eq 31 22 rfl rfl rfl (fun c => ?_) (fun c => ?_)
    · have h := h.1 c
      refine lf_seg 1 (pc' := 32) (lv' := [(0, .ref 74), (1, .int (Int32.ofInt a1))]) (st' := [.int (Int32.ofInt (-1))]) rfl ?_
      exact lf_retI rfl rfl h
    · have h := h.2 c
      refine lf_seg 3 (pc' := 27) (lv' := [(0, .ref 74), (1, .int (Int32.ofInt a1))]) (st' := [.int (Int32.ofInt a1), .ref 77]) rfl ?_
      obtain ⟨o24, h⟩ := h
      refine lf_iald 28 6 rfl rfl rfl rfl rfl rfl o24 ?_
      refine lf_seg 1 (pc' := 32) (lv' := [(0, .ref 74), (1, .int (Int32.ofInt a1))]) (st' := [.int (Int32.ofInt (s22.1 77 a1))]) rfl ?_
      exact lf_retI rfl rfl h
-- fm_154 ElevenBullocks.after 0 i i
def fm_154 (a1 : Int) (a2 : Int) (Q : Int → lf_Z → Prop) (s : lf_Z) : Prop := fm_99 a1 (fun z22 s21 => ((z22 = false → (Q (-1) s21)) ∧ (z22 = true → (lf_R a2 ∧ (((-1) ≤ a2 → (fm_155 a1 (fun r25 s24 => ((a2 ≠ (-1) → (fm_157 a2 (fun r27 s26 => (Q r27 s26)) s24)) ∧ (¬ (a2 ≠ (-1)) → (Q r25 s24)))) s21)) ∧ (¬ ((-1) ≤ a2) → (Q (-1) s21))))))) s
set_option maxRecDepth 100000 in
theorem gm_154 {L : Nat} {xs : Nat → Int32} {d : Nat} {a1 : Int} {a2 : Int} {Q : Int → lf_Z → Prop} {s : lf_Z} (h : fm_154 a1 a2 Q s) : lf_M (px_ro L xs) (d + 206) 154 [.ref 0, .int (Int32.ofInt a1), .int (Int32.ofInt a2)] s (lf_qi Q) := by
  unfold fm_154 at h
  show lf_E (px_ro L xs) (d + 206) 154 0 [(0, .ref 0), (1, .int (Int32.ofInt a1)), (2, .int (Int32.ofInt a2))] [] s _
  refine lf_seg 3 (pc' := 5) (lv' := [(0, .ref 0), (1, .int (Int32.ofInt a1)), (2, .int (Int32.ofInt a2))]) (st' := [.int (Int32.ofInt a1), .ref 1]) rfl ?_
  refine lf_callZ 8 rfl rfl rfl rfl (gm_99 h) (fun z22 s21 h => ?_)
  refine lf_ifz_eq 16 11 rfl rfl rfl (fun c => ?_) (fun c => ?_)
  · have h := h.1 c
    refine lf_seg 1 (pc' := 17) (lv' := [(0, .ref 0), (1, .int (Int32.ofInt a1)), (2, .int (Int32.ofInt a2))]) (st' := [.int (Int32.ofInt (-1))]) rfl ?_
    exact lf_retI rfl rfl h
  · have h := h.2 c
    refine lf_seg 2 (pc' := 13) (lv' := [(0, .ref 0), (1, .int (Int32.ofInt a1)), (2, .int (Int32.ofInt a2))]) (st' := [.int (Int32.ofInt (-1)), .int (Int32.ofInt a2)]) rfl ?_
    obtain ⟨o23, h⟩ := h
    refine lf_icmp_ge 18 16 rfl rfl rfl o23 ⟨by decide, by decide⟩ (fun c => ?_) (fun c => ?_)
    · have h := h.1 c
      refine lf_seg 3 (pc' := 23) (lv' := [(0, .ref 0), (1, .int (Int32.ofInt a1)), (2, .int (Int32.ofInt a2))]) (st' := [.int (Int32.ofInt a1), .ref 74]) rfl ?_
      refine lf_callI 26 rfl rfl rfl rfl (gm_155 h) (fun r25 s24 h => ?_)
      refine lf_seg 3 (pc' := 29) (lv' := [(3, .int (Int32.ofInt r25)), (0, .ref 0), (1, .int (Int32.ofInt a1)), (2, .int (Int32.ofInt a2))]) (st' := [.int (Int32.ofInt (-1)), .int (Int32.ofInt a2)]) rfl ?_
      refine lf_icmp_ne 36 32 rfl rfl rfl o23 ⟨by decide, by decide⟩ (fun c => ?_) (fun c => ?_)
      · have h := h.1 c
        refine lf_seg 3 (pc' := 41) (lv' := [(3, .int (Int32.ofInt r25)), (0, .ref 0), (1, .int (Int32.ofInt a1)), (2, .int (Int32.ofInt a2))]) (st' := [.int (Int32.ofInt a2), .ref 74]) rfl ?_
        refine lf_callI 44 rfl rfl rfl rfl (gm_157 h) (fun r27 s26 h => ?_)
        exact lf_retI rfl rfl h
      · have h := h.2 c
        refine lf_seg 2 (pc' := 44) (lv' := [(3, .int (Int32.ofInt r25)), (0, .ref 0), (1, .int (Int32.ofInt a1)), (2, .int (Int32.ofInt a2))]) (st' := [.int (Int32.ofInt r25)]) rfl ?_
        exact lf_retI rfl rfl h
    · have h := h.2 c
      refine lf_seg 1 (pc' := 17) (lv' := [(0, .ref 0), (1, .int (Int32.ofInt a1)), (2, .int (Int32.ofInt a2))]) (st' := [.int (Int32.ofInt (-1))]) rfl ?_
      exact lf_retI rfl rfl h
-- fm_312 Model.layBunches 95 i
def fm_312_p61 (X38 : Int → lf_Z → Prop) (Q : Int → lf_Z → Prop) (x1 : Int) (x2 : Int) (x3 : Int) (X61 : Int → lf_Z → Prop) (x4 : Int) (s : lf_Z) : Prop := lf_R x4 ∧ (lf_R x2 ∧ ((x2 ≤ x4 → (fm_239 x1 (fun r31 s30 => (fm_299 x1 r31 (fun r33 s32 => ((0 ≤ 16 + x3 ∧ 16 + x3 < 20) ∧ (X38 (x3 + 1) (lf_up s32.1 119 (16 + x3) r33, s32.2.1, s32.2.2)))) s30)) s)) ∧ (¬ (x2 ≤ x4) → ((0 ≤ x4 ∧ x4 < 4) ∧ (fm_255 (s.1 118 x4) (fun r37 s36 => (fm_299 x1 r37 (fun r39 s38 => ((0 ≤ (4 * x4) + x3 ∧ (4 * x4) + x3 < 20) ∧ (X61 (x4 + 1) (lf_up s38.1 119 ((4 * x4) + x3) r39, s38.2.1, s38.2.2)))) s36)) s)))))
def fm_312_p61L (X38 : Int → lf_Z → Prop) (Q : Int → lf_Z → Prop) (x1 : Int) (x2 : Int) (x3 : Int) (x4 : Int) (s : lf_Z) : Prop := ∀ X61 : Int → lf_Z → Prop, (∀ (x4 : Int) (s : lf_Z), fm_312_p61 X38 Q x1 x2 x3 X61 x4 s → X61 x4 s) → X61 x4 s
set_option maxRecDepth 100000 in
theorem gm_312_p61 {L : Nat} {xs : Nat → Int32} {d : Nat} {X38 : Int → lf_Z → Prop} {Q : Int → lf_Z → Prop} {x1 : Int} {x2 : Int} {x3 : Int} {x4 : Int} {s : lf_Z} {X61 : Int → lf_Z → Prop} (hX38 : ∀ x3 s, X38 x3 s → lf_E (px_ro L xs) (d + 3) 312 38 [(0, .ref 95), (1, .int (Int32.ofInt x1)), (2, .int (Int32.ofInt x2)), (3, .int (Int32.ofInt x3))] [] s (lf_qi Q)) (hX61 : ∀ x4 s, X61 x4 s → lf_E (px_ro L xs) (d + 3) 312 61 [(0, .ref 95), (1, .int (Int32.ofInt x1)), (2, .int (Int32.ofInt x2)), (3, .int (Int32.ofInt x3)), (4, .int (Int32.ofInt x4))] [] s (lf_qi Q)) (h : fm_312_p61 X38 Q x1 x2 x3 X61 x4 s) : lf_E (px_ro L xs) (d + 3) 312 61 [(0, .ref 95), (1, .int (Int32.ofInt x1)), (2, .int (Int32.ofInt x2)), (3, .int (Int32.ofInt x3)), (4, .int (Int32.ofInt x4))] [] s (lf_qi Q) := by
  unfold fm_312_p61 at h
  refine lf_seg 2 (pc' := 64) (lv' := [(0, .ref 95), (1, .int (Int32.ofInt x1)), (2, .int (Int32.ofInt x2)), (3, .int (Int32.ofInt x3)), (4, .int (Int32.ofInt x4))]) (st' := [.int (Int32.ofInt x2), .int (Int32.ofInt x4)]) rfl ?_
  obtain ⟨o28, h⟩ := h
  obtain ⟨o29, h⟩ := h
  refine lf_icmp_ge 100 67 rfl rfl rfl o28 o29 (fun c => ?_) (fun c => ?_)
  · have h := h.1 c
    refine lf_seg 2 (pc' := 104) (lv' := [(0, .ref 95), (1, .int (Int32.ofInt x1)), (2, .int (Int32.ofInt x2)), (3, .int (Int32.ofInt x3)), (4, .int (Int32.ofInt x4))]) (st' := [.ref 119]) rfl ?_
    refine lf_bipush 106 16 rfl rfl (by decide) (by decide) ?_
    refine lf_seg 1 (pc' := 107) (lv' := [(0, .ref 95), (1, .int (Int32.ofInt x1)), (2, .int (Int32.ofInt x2)), (3, .int (Int32.ofInt x3)), (4, .int (Int32.ofInt x4))]) (st' := [.int (Int32.ofInt x3), .int (Int32.ofInt 16), .ref 119]) rfl ?_
    refine lf_iadd 108 rfl rfl ?_
    refine lf_seg 5 (pc' := 113) (lv' := [(0, .ref 95), (1, .int (Int32.ofInt x1)), (2, .int (Int32.ofInt x2)), (3, .int (Int32.ofInt x3)), (4, .int (Int32.ofInt x4))]) (st' := [.int (Int32.ofInt 3), .int (Int32.ofInt x1), .ref 95, .int (Int32.ofInt x1), .ref 95, .int (Int32.ofInt (16 + x3)), .ref 119]) rfl ?_
    refine lf_callI 116 rfl rfl rfl rfl (gm_239 h) (fun r31 s30 h => ?_)
    refine lf_callI 119 rfl rfl rfl rfl (gm_299 h) (fun r33 s32 h => ?_)
    obtain ⟨o34, h⟩ := h
    refine lf_iast 120 20 rfl rfl rfl rfl rfl rfl o34 ?_
    refine lf_as (lf_up s32.1 119 (16 + x3) r33, s32.2.1, s32.2.2) rfl ?_
    refine lf_iinc 123 rfl rfl rfl rfl ?_
    refine lf_seg 1 (pc' := 38) (lv' := [(3, .int (Int32.ofInt (x3 + 1))), (0, .ref 95), (1, .int (Int32.ofInt x1)), (2, .int (Int32.ofInt x2)), (4, .int (Int32.ofInt x4))]) (st' := []) rfl ?_
    refine lf_sub (l := [(0, .ref 95), (1, .int (Int32.ofInt x1)), (2, .int (Int32.ofInt x2)), (3, .int (Int32.ofInt (x3 + 1)))]) (lf_sb1 rfl (lf_sb1 rfl (lf_sb1 rfl (lf_sb1 rfl lf_sb0)))) ?_
    exact hX38 _ _ h
  · have h := h.2 c
    refine lf_seg 4 (pc' := 74) (lv' := [(0, .ref 95), (1, .int (Int32.ofInt x1)), (2, .int (Int32.ofInt x2)), (3, .int (Int32.ofInt x3)), (4, .int (Int32.ofInt x4))]) (st' := [.int (Int32.ofInt x4), .int (Int32.ofInt 4), .ref 119]) rfl ?_
    refine lf_imul 75 rfl rfl ?_
    refine lf_seg 1 (pc' := 76) (lv' := [(0, .ref 95), (1, .int (Int32.ofInt x1)), (2, .int (Int32.ofInt x2)), (3, .int (Int32.ofInt x3)), (4, .int (Int32.ofInt x4))]) (st' := [.int (Int32.ofInt x3), .int (Int32.ofInt (4 * x4)), .ref 119]) rfl ?_
    refine lf_iadd 77 rfl rfl ?_
    refine lf_seg 6 (pc' := 86) (lv' := [(0, .ref 95), (1, .int (Int32.ofInt x1)), (2, .int (Int32.ofInt x2)), (3, .int (Int32.ofInt x3)), (4, .int (Int32.ofInt x4))]) (st' := [.int (Int32.ofInt x4), .ref 118, .ref 95, .int (Int32.ofInt x1), .ref 95, .int (Int32.ofInt ((4 * x4) + x3)), .ref 119]) rfl ?_
    obtain ⟨o35, h⟩ := h
    refine lf_iald 87 4 rfl rfl rfl rfl rfl rfl o35 ?_
    refine lf_callI 90 rfl rfl rfl rfl (gm_255 h) (fun r37 s36 h => ?_)
    refine lf_callI 93 rfl rfl rfl rfl (gm_299 h) (fun r39 s38 h => ?_)
    obtain ⟨o40, h⟩ := h
    refine lf_iast 94 20 rfl rfl rfl rfl rfl rfl o40 ?_
    refine lf_as (lf_up s38.1 119 ((4 * x4) + x3) r39, s38.2.1, s38.2.2) rfl ?_
    refine lf_iinc 97 rfl rfl rfl rfl ?_
    refine lf_seg 1 (pc' := 61) (lv' := [(4, .int (Int32.ofInt (x4 + 1))), (0, .ref 95), (1, .int (Int32.ofInt x1)), (2, .int (Int32.ofInt x2)), (3, .int (Int32.ofInt x3))]) (st' := []) rfl ?_
    refine lf_sub (l := [(0, .ref 95), (1, .int (Int32.ofInt x1)), (2, .int (Int32.ofInt x2)), (3, .int (Int32.ofInt x3)), (4, .int (Int32.ofInt (x4 + 1)))]) (lf_sb1 rfl (lf_sb1 rfl (lf_sb1 rfl (lf_sb1 rfl (lf_sb1 rfl lf_sb0))))) ?_
    exact hX61 _ _ h
theorem gm_312_p61L {L : Nat} {xs : Nat → Int32} {d : Nat} {X38 : Int → lf_Z → Prop} {Q : Int → lf_Z → Prop} {x1 : Int} {x2 : Int} {x3 : Int} {x4 : Int} {s : lf_Z} (hX38 : ∀ x3 s, X38 x3 s → lf_E (px_ro L xs) (d + 3) 312 38 [(0, .ref 95), (1, .int (Int32.ofInt x1)), (2, .int (Int32.ofInt x2)), (3, .int (Int32.ofInt x3))] [] s (lf_qi Q)) (h : fm_312_p61L X38 Q x1 x2 x3 x4 s) : lf_E (px_ro L xs) (d + 3) 312 61 [(0, .ref 95), (1, .int (Int32.ofInt x1)), (2, .int (Int32.ofInt x2)), (3, .int (Int32.ofInt x3)), (4, .int (Int32.ofInt x4))] [] s (lf_qi Q) :=
  h (fun x4 s => lf_E (px_ro L xs) (d + 3) 312 61 [(0, .ref 95), (1, .int (Int32.ofInt x1)), (2, .int (Int32.ofInt x2)), (3, .int (Int32.ofInt x3)), (4, .int (Int32.ofInt x4))] [] s (lf_qi Q)) (fun x4 s hb => gm_312_p61 hX38 (fun _ _ h => h) hb)
def fm_312_p38 (Q : Int → lf_Z → Prop) (x1 : Int) (x2 : Int) (X38 : Int → lf_Z → Prop) (x3 : Int) (s : lf_Z) : Prop := lf_R x3 ∧ (lf_R x2 ∧ ((x2 ≤ x3 → (Q x2 s)) ∧ (¬ (x2 ≤ x3) → ((0 ≤ x3 ∧ x3 < 4) ∧ (fm_255 (s.1 118 x3) (fun r26 s25 => (fm_261 r26 1 (fun s27 => (fm_312_p61L X38 Q x1 x2 x3 0 s27)) s25)) s)))))
def fm_312_p38L (Q : Int → lf_Z → Prop) (x1 : Int) (x2 : Int) (x3 : Int) (s : lf_Z) : Prop := ∀ X38 : Int → lf_Z → Prop, (∀ (x3 : Int) (s : lf_Z), fm_312_p38 Q x1 x2 X38 x3 s → X38 x3 s) → X38 x3 s
set_option maxRecDepth 100000 in
theorem gm_312_p38 {L : Nat} {xs : Nat → Int32} {d : Nat} {Q : Int → lf_Z → Prop} {x1 : Int} {x2 : Int} {x3 : Int} {s : lf_Z} {X38 : Int → lf_Z → Prop} (hX38 : ∀ x3 s, X38 x3 s → lf_E (px_ro L xs) (d + 3) 312 38 [(0, .ref 95), (1, .int (Int32.ofInt x1)), (2, .int (Int32.ofInt x2)), (3, .int (Int32.ofInt x3))] [] s (lf_qi Q)) (h : fm_312_p38 Q x1 x2 X38 x3 s) : lf_E (px_ro L xs) (d + 3) 312 38 [(0, .ref 95), (1, .int (Int32.ofInt x1)), (2, .int (Int32.ofInt x2)), (3, .int (Int32.ofInt x3))] [] s (lf_qi Q) := by
  unfold fm_312_p38 at h
  refine lf_seg 2 (pc' := 40) (lv' := [(0, .ref 95), (1, .int (Int32.ofInt x1)), (2, .int (Int32.ofInt x2)), (3, .int (Int32.ofInt x3))]) (st' := [.int (Int32.ofInt x2), .int (Int32.ofInt x3)]) rfl ?_
  obtain ⟨o22, h⟩ := h
  obtain ⟨o23, h⟩ := h
  refine lf_icmp_ge 126 43 rfl rfl rfl o22 o23 (fun c => ?_) (fun c => ?_)
  · have h := h.1 c
    refine lf_seg 1 (pc' := 127) (lv' := [(0, .ref 95), (1, .int (Int32.ofInt x1)), (2, .int (Int32.ofInt x2)), (3, .int (Int32.ofInt x3))]) (st' := [.int (Int32.ofInt x2)]) rfl ?_
    exact lf_retI rfl rfl h
  · have h := h.2 c
    refine lf_seg 5 (pc' := 50) (lv' := [(0, .ref 95), (1, .int (Int32.ofInt x1)), (2, .int (Int32.ofInt x2)), (3, .int (Int32.ofInt x3))]) (st' := [.int (Int32.ofInt x3), .ref 118, .ref 95, .ref 95]) rfl ?_
    obtain ⟨o24, h⟩ := h
    refine lf_iald 51 4 rfl rfl rfl rfl rfl rfl o24 ?_
    refine lf_callI 54 rfl rfl rfl rfl (gm_255 h) (fun r26 s25 h => ?_)
    refine lf_seg 1 (pc' := 55) (lv' := [(0, .ref 95), (1, .int (Int32.ofInt x1)), (2, .int (Int32.ofInt x2)), (3, .int (Int32.ofInt x3))]) (st' := [.int (Int32.ofInt 1), .int (Int32.ofInt r26), .ref 95]) rfl ?_
    refine lf_callV 58 rfl rfl rfl rfl (gm_261 h) (fun s27 h => ?_)
    refine lf_seg 2 (pc' := 61) (lv' := [(4, .int (Int32.ofInt 0)), (0, .ref 95), (1, .int (Int32.ofInt x1)), (2, .int (Int32.ofInt x2)), (3, .int (Int32.ofInt x3))]) (st' := []) rfl ?_
    refine lf_sub (l := [(0, .ref 95), (1, .int (Int32.ofInt x1)), (2, .int (Int32.ofInt x2)), (3, .int (Int32.ofInt x3)), (4, .int (Int32.ofInt 0))]) (lf_sb1 rfl (lf_sb1 rfl (lf_sb1 rfl (lf_sb1 rfl (lf_sb1 rfl lf_sb0))))) ?_
    exact gm_312_p61L hX38 h
theorem gm_312_p38L {L : Nat} {xs : Nat → Int32} {d : Nat} {Q : Int → lf_Z → Prop} {x1 : Int} {x2 : Int} {x3 : Int} {s : lf_Z} (h : fm_312_p38L Q x1 x2 x3 s) : lf_E (px_ro L xs) (d + 3) 312 38 [(0, .ref 95), (1, .int (Int32.ofInt x1)), (2, .int (Int32.ofInt x2)), (3, .int (Int32.ofInt x3))] [] s (lf_qi Q) :=
  h (fun x3 s => lf_E (px_ro L xs) (d + 3) 312 38 [(0, .ref 95), (1, .int (Int32.ofInt x1)), (2, .int (Int32.ofInt x2)), (3, .int (Int32.ofInt x3))] [] s (lf_qi Q)) (fun x3 s hb => gm_312_p38 (fun _ _ h => h) hb)
def fm_312_p30 (X4 : Int → Int → lf_Z → Prop) (Q : Int → lf_Z → Prop) (x1 : Int) (x2 : Int) (x3 : Int) (s : lf_Z) : Prop := X4 x2 (x3 + 1) s
set_option maxRecDepth 100000 in
theorem gm_312_p30 {L : Nat} {xs : Nat → Int32} {d : Nat} {X4 : Int → Int → lf_Z → Prop} {Q : Int → lf_Z → Prop} {x1 : Int} {x2 : Int} {x3 : Int} {s : lf_Z} (hX4 : ∀ x2 x3 s, X4 x2 x3 s → lf_E (px_ro L xs) (d + 3) 312 4 [(0, .ref 95), (1, .int (Int32.ofInt x1)), (2, .int (Int32.ofInt x2)), (3, .int (Int32.ofInt x3))] [] s (lf_qi Q)) (h : fm_312_p30 X4 Q x1 x2 x3 s) : lf_E (px_ro L xs) (d + 3) 312 30 [(0, .ref 95), (1, .int (Int32.ofInt x1)), (2, .int (Int32.ofInt x2)), (3, .int (Int32.ofInt x3))] [] s (lf_qi Q) := by
  unfold fm_312_p30 at h
  refine lf_iinc 33 rfl rfl rfl rfl ?_
  refine lf_seg 1 (pc' := 4) (lv' := [(3, .int (Int32.ofInt (x3 + 1))), (0, .ref 95), (1, .int (Int32.ofInt x1)), (2, .int (Int32.ofInt x2))]) (st' := []) rfl ?_
  refine lf_sub (l := [(0, .ref 95), (1, .int (Int32.ofInt x1)), (2, .int (Int32.ofInt x2)), (3, .int (Int32.ofInt (x3 + 1)))]) (lf_sb1 rfl (lf_sb1 rfl (lf_sb1 rfl (lf_sb1 rfl lf_sb0)))) ?_
  exact hX4 _ _ _ h
def fm_312_p4 (Q : Int → lf_Z → Prop) (x1 : Int) (X4 : Int → Int → lf_Z → Prop) (x2 : Int) (x3 : Int) (s : lf_Z) : Prop := lf_R x3 ∧ ((4 ≤ x3 → (fm_312_p38L Q x1 x2 0 s)) ∧ (¬ (4 ≤ x3) → (fm_242 x3 (fun r42 s41 => (lf_R r42 ∧ ((r42 ≠ 0 → ((0 ≤ x2 ∧ x2 < 4) ∧ (fm_312_p30 X4 Q x1 (x2 + 1) x3 (lf_up s41.1 118 x2 x3, s41.2.1, s41.2.2)))) ∧ (¬ (r42 ≠ 0) → (fm_312_p30 X4 Q x1 x2 x3 s41))))) s)))
def fm_312_p4L (Q : Int → lf_Z → Prop) (x1 : Int) (x2 : Int) (x3 : Int) (s : lf_Z) : Prop := ∀ X4 : Int → Int → lf_Z → Prop, (∀ (x2 : Int) (x3 : Int) (s : lf_Z), fm_312_p4 Q x1 X4 x2 x3 s → X4 x2 x3 s) → X4 x2 x3 s
set_option maxRecDepth 100000 in
theorem gm_312_p4 {L : Nat} {xs : Nat → Int32} {d : Nat} {Q : Int → lf_Z → Prop} {x1 : Int} {x2 : Int} {x3 : Int} {s : lf_Z} {X4 : Int → Int → lf_Z → Prop} (hX4 : ∀ x2 x3 s, X4 x2 x3 s → lf_E (px_ro L xs) (d + 3) 312 4 [(0, .ref 95), (1, .int (Int32.ofInt x1)), (2, .int (Int32.ofInt x2)), (3, .int (Int32.ofInt x3))] [] s (lf_qi Q)) (h : fm_312_p4 Q x1 X4 x2 x3 s) : lf_E (px_ro L xs) (d + 3) 312 4 [(0, .ref 95), (1, .int (Int32.ofInt x1)), (2, .int (Int32.ofInt x2)), (3, .int (Int32.ofInt x3))] [] s (lf_qi Q) := by
  unfold fm_312_p4 at h
  refine lf_seg 2 (pc' := 6) (lv' := [(0, .ref 95), (1, .int (Int32.ofInt x1)), (2, .int (Int32.ofInt x2)), (3, .int (Int32.ofInt x3))]) (st' := [.int (Int32.ofInt 4), .int (Int32.ofInt x3)]) rfl ?_
  obtain ⟨o21, h⟩ := h
  refine lf_icmp_ge 36 9 rfl rfl rfl o21 ⟨by decide, by decide⟩ (fun c => ?_) (fun c => ?_)
  · have h := h.1 c
    refine lf_seg 2 (pc' := 38) (lv' := [(3, .int (Int32.ofInt 0)), (0, .ref 95), (1, .int (Int32.ofInt x1)), (2, .int (Int32.ofInt x2))]) (st' := []) rfl ?_
    refine lf_sub (l := [(0, .ref 95), (1, .int (Int32.ofInt x1)), (2, .int (Int32.ofInt x2)), (3, .int (Int32.ofInt 0))]) (lf_sb1 rfl (lf_sb1 rfl (lf_sb1 rfl (lf_sb1 rfl lf_sb0)))) ?_
    exact gm_312_p38L h
  · have h := h.2 c
    refine lf_seg 2 (pc' := 11) (lv' := [(0, .ref 95), (1, .int (Int32.ofInt x1)), (2, .int (Int32.ofInt x2)), (3, .int (Int32.ofInt x3))]) (st' := [.int (Int32.ofInt x3), .ref 95]) rfl ?_
    refine lf_callI 14 rfl rfl rfl rfl (gm_242 h) (fun r42 s41 h => ?_)
    obtain ⟨o43, h⟩ := h
    refine lf_if_ne 20 17 rfl rfl rfl o43 (fun c => ?_) (fun c => ?_)
    · have h := h.1 c
      refine lf_seg 4 (pc' := 26) (lv' := [(0, .ref 95), (1, .int (Int32.ofInt x1)), (2, .int (Int32.ofInt x2)), (3, .int (Int32.ofInt x3))]) (st' := [.int (Int32.ofInt x3), .int (Int32.ofInt x2), .ref 118]) rfl ?_
      obtain ⟨o44, h⟩ := h
      refine lf_iast 27 4 rfl rfl rfl rfl rfl rfl o44 ?_
      refine lf_as (lf_up s41.1 118 x2 x3, s41.2.1, s41.2.2) rfl ?_
      refine lf_iinc 30 rfl rfl rfl rfl ?_
      refine lf_seg 0 (pc' := 30) (lv' := [(2, .int (Int32.ofInt (x2 + 1))), (0, .ref 95), (1, .int (Int32.ofInt x1)), (3, .int (Int32.ofInt x3))]) (st' := []) rfl ?_
      refine lf_sub (l := [(0, .ref 95), (1, .int (Int32.ofInt x1)), (2, .int (Int32.ofInt (x2 + 1))), (3, .int (Int32.ofInt x3))]) (lf_sb1 rfl (lf_sb1 rfl (lf_sb1 rfl (lf_sb1 rfl lf_sb0)))) ?_
      exact gm_312_p30 hX4 h
    · have h := h.2 c
      refine lf_seg 1 (pc' := 30) (lv' := [(0, .ref 95), (1, .int (Int32.ofInt x1)), (2, .int (Int32.ofInt x2)), (3, .int (Int32.ofInt x3))]) (st' := []) rfl ?_
      refine lf_sub (l := [(0, .ref 95), (1, .int (Int32.ofInt x1)), (2, .int (Int32.ofInt x2)), (3, .int (Int32.ofInt x3))]) (lf_sb1 rfl (lf_sb1 rfl (lf_sb1 rfl (lf_sb1 rfl lf_sb0)))) ?_
      exact gm_312_p30 hX4 h
theorem gm_312_p4L {L : Nat} {xs : Nat → Int32} {d : Nat} {Q : Int → lf_Z → Prop} {x1 : Int} {x2 : Int} {x3 : Int} {s : lf_Z} (h : fm_312_p4L Q x1 x2 x3 s) : lf_E (px_ro L xs) (d + 3) 312 4 [(0, .ref 95), (1, .int (Int32.ofInt x1)), (2, .int (Int32.ofInt x2)), (3, .int (Int32.ofInt x3))] [] s (lf_qi Q) :=
  h (fun x2 x3 s => lf_E (px_ro L xs) (d + 3) 312 4 [(0, .ref 95), (1, .int (Int32.ofInt x1)), (2, .int (Int32.ofInt x2)), (3, .int (Int32.ofInt x3))] [] s (lf_qi Q)) (fun x2 x3 s hb => gm_312_p4 (fun _ _ _ h => h) hb)
def fm_312 (a1 : Int) (Q : Int → lf_Z → Prop) (s : lf_Z) : Prop := fm_312_p4L Q a1 0 0 s
set_option maxRecDepth 100000 in
theorem gm_312 {L : Nat} {xs : Nat → Int32} {d : Nat} {a1 : Int} {Q : Int → lf_Z → Prop} {s : lf_Z} (h : fm_312 a1 Q s) : lf_M (px_ro L xs) (d + 3) 312 [.ref 95, .int (Int32.ofInt a1)] s (lf_qi Q) := by
  unfold fm_312 at h
  show lf_E (px_ro L xs) (d + 3) 312 0 [(0, .ref 95), (1, .int (Int32.ofInt a1))] [] s _
  refine lf_seg 4 (pc' := 4) (lv' := [(3, .int (Int32.ofInt 0)), (2, .int (Int32.ofInt 0)), (0, .ref 95), (1, .int (Int32.ofInt a1))]) (st' := []) rfl ?_
  refine lf_sub (l := [(0, .ref 95), (1, .int (Int32.ofInt a1)), (2, .int (Int32.ofInt 0)), (3, .int (Int32.ofInt 0))]) (lf_sb1 rfl (lf_sb1 rfl (lf_sb1 rfl (lf_sb1 rfl lf_sb0)))) ?_
  exact gm_312_p4L h
-- fm_313 Model.harmBy 95 i
def fm_313_p10 (Q : Int → lf_Z → Prop) (x1 : Int) (X10 : Int → Int → Int → Int → lf_Z → Prop) (x2 : Int) (x3 : Int) (x4 : Int) (x5 : Int) (s : lf_Z) : Prop := lf_R x5 ∧ (lf_R x1 ∧ ((x1 ≤ x5 → (Q x2 s)) ∧ (¬ (x1 ≤ x5) → ((0 ≤ x5 ∧ x5 < 6) ∧ ((0 ≤ s.1 116 x5 ∧ s.1 116 x5 < 4) ∧ ((0 ≤ (4 * x4) + (s.1 116 x5) ∧ (4 * x4) + (s.1 116 x5) < 20) ∧ (fm_242 (s.1 118 (s.1 116 x5)) (fun r27 s26 => (fm_255 (s.1 118 (s.1 116 x5)) (fun r29 s28 => (fm_277 r29 (fun r31 s30 => (X10 (x2 + ((r27 * r31) * (x3 + (s.1 119 ((4 * x4) + (s.1 116 x5)))))) (x3 + (s.1 119 ((4 * x4) + (s.1 116 x5)))) (s.1 116 x5) (x5 + 1) s30)) s28)) s26)) s)))))))
def fm_313_p10L (Q : Int → lf_Z → Prop) (x1 : Int) (x2 : Int) (x3 : Int) (x4 : Int) (x5 : Int) (s : lf_Z) : Prop := ∀ X10 : Int → Int → Int → Int → lf_Z → Prop, (∀ (x2 : Int) (x3 : Int) (x4 : Int) (x5 : Int) (s : lf_Z), fm_313_p10 Q x1 X10 x2 x3 x4 x5 s → X10 x2 x3 x4 x5 s) → X10 x2 x3 x4 x5 s
set_option maxRecDepth 100000 in
theorem gm_313_p10 {L : Nat} {xs : Nat → Int32} {d : Nat} {Q : Int → lf_Z → Prop} {x1 : Int} {x2 : Int} {x3 : Int} {x4 : Int} {x5 : Int} {s : lf_Z} {X10 : Int → Int → Int → Int → lf_Z → Prop} (hX10 : ∀ x2 x3 x4 x5 s, X10 x2 x3 x4 x5 s → lf_E (px_ro L xs) (d + 2) 313 10 [(0, .ref 95), (1, .int (Int32.ofInt x1)), (2, .int (Int32.ofInt x2)), (3, .int (Int32.ofInt x3)), (4, .int (Int32.ofInt x4)), (5, .int (Int32.ofInt x5))] [] s (lf_qi Q)) (h : fm_313_p10 Q x1 X10 x2 x3 x4 x5 s) : lf_E (px_ro L xs) (d + 2) 313 10 [(0, .ref 95), (1, .int (Int32.ofInt x1)), (2, .int (Int32.ofInt x2)), (3, .int (Int32.ofInt x3)), (4, .int (Int32.ofInt x4)), (5, .int (Int32.ofInt x5))] [] s (lf_qi Q) := by
  unfold fm_313_p10 at h
  refine lf_seg 2 (pc' := 13) (lv' := [(0, .ref 95), (1, .int (Int32.ofInt x1)), (2, .int (Int32.ofInt x2)), (3, .int (Int32.ofInt x3)), (4, .int (Int32.ofInt x4)), (5, .int (Int32.ofInt x5))]) (st' := [.int (Int32.ofInt x1), .int (Int32.ofInt x5)]) rfl ?_
  obtain ⟨o21, h⟩ := h
  obtain ⟨o22, h⟩ := h
  refine lf_icmp_ge 87 16 rfl rfl rfl o21 o22 (fun c => ?_) (fun c => ?_)
  · have h := h.1 c
    refine lf_seg 1 (pc' := 88) (lv' := [(0, .ref 95), (1, .int (Int32.ofInt x1)), (2, .int (Int32.ofInt x2)), (3, .int (Int32.ofInt x3)), (4, .int (Int32.ofInt x4)), (5, .int (Int32.ofInt x5))]) (st' := [.int (Int32.ofInt x2)]) rfl ?_
    exact lf_retI rfl rfl h
  · have h := h.2 c
    refine lf_seg 5 (pc' := 26) (lv' := [(0, .ref 95), (1, .int (Int32.ofInt x1)), (2, .int (Int32.ofInt x2)), (3, .int (Int32.ofInt x3)), (4, .int (Int32.ofInt x4)), (5, .int (Int32.ofInt x5))]) (st' := [.int (Int32.ofInt x5), .ref 116, .ref 118]) rfl ?_
    obtain ⟨o23, h⟩ := h
    refine lf_iald 27 6 rfl rfl rfl rfl rfl rfl o23 ?_
    obtain ⟨o24, h⟩ := h
    refine lf_iald 28 4 rfl rfl rfl rfl rfl rfl o24 ?_
    refine lf_seg 6 (pc' := 38) (lv' := [(6, .int (Int32.ofInt (s.1 118 (s.1 116 x5)))), (0, .ref 95), (1, .int (Int32.ofInt x1)), (2, .int (Int32.ofInt x2)), (3, .int (Int32.ofInt x3)), (4, .int (Int32.ofInt x4)), (5, .int (Int32.ofInt x5))]) (st' := [.int (Int32.ofInt x4), .int (Int32.ofInt 4), .ref 119, .int (Int32.ofInt x3)]) rfl ?_
    refine lf_imul 39 rfl rfl ?_
    refine lf_seg 3 (pc' := 45) (lv' := [(6, .int (Int32.ofInt (s.1 118 (s.1 116 x5)))), (0, .ref 95), (1, .int (Int32.ofInt x1)), (2, .int (Int32.ofInt x2)), (3, .int (Int32.ofInt x3)), (4, .int (Int32.ofInt x4)), (5, .int (Int32.ofInt x5))]) (st' := [.int (Int32.ofInt x5), .ref 116, .int (Int32.ofInt (4 * x4)), .ref 119, .int (Int32.ofInt x3)]) rfl ?_
    refine lf_iald 46 6 rfl rfl rfl rfl rfl rfl o23 ?_
    refine lf_iadd 47 rfl rfl ?_
    obtain ⟨o25, h⟩ := h
    refine lf_iald 48 20 rfl rfl rfl rfl rfl rfl o25 ?_
    refine lf_iadd 49 rfl rfl ?_
    refine lf_seg 4 (pc' := 56) (lv' := [(3, .int (Int32.ofInt (x3 + (s.1 119 ((4 * x4) + (s.1 116 x5)))))), (6, .int (Int32.ofInt (s.1 118 (s.1 116 x5)))), (0, .ref 95), (1, .int (Int32.ofInt x1)), (2, .int (Int32.ofInt x2)), (4, .int (Int32.ofInt x4)), (5, .int (Int32.ofInt x5))]) (st' := [.int (Int32.ofInt x5), .ref 116]) rfl ?_
    refine lf_iald 57 6 rfl rfl rfl rfl rfl rfl o23 ?_
    refine lf_seg 4 (pc' := 63) (lv' := [(4, .int (Int32.ofInt (s.1 116 x5))), (3, .int (Int32.ofInt (x3 + (s.1 119 ((4 * x4) + (s.1 116 x5)))))), (6, .int (Int32.ofInt (s.1 118 (s.1 116 x5)))), (0, .ref 95), (1, .int (Int32.ofInt x1)), (2, .int (Int32.ofInt x2)), (5, .int (Int32.ofInt x5))]) (st' := [.int (Int32.ofInt (s.1 118 (s.1 116 x5))), .ref 95, .int (Int32.ofInt x2)]) rfl ?_
    refine lf_callI 66 rfl rfl rfl rfl (gm_242 h) (fun r27 s26 h => ?_)
    refine lf_seg 3 (pc' := 70) (lv' := [(4, .int (Int32.ofInt (s.1 116 x5))), (3, .int (Int32.ofInt (x3 + (s.1 119 ((4 * x4) + (s.1 116 x5)))))), (6, .int (Int32.ofInt (s.1 118 (s.1 116 x5)))), (0, .ref 95), (1, .int (Int32.ofInt x1)), (2, .int (Int32.ofInt x2)), (5, .int (Int32.ofInt x5))]) (st' := [.int (Int32.ofInt (s.1 118 (s.1 116 x5))), .ref 95, .ref 95, .int (Int32.ofInt r27), .int (Int32.ofInt x2)]) rfl ?_
    refine lf_callI 73 rfl rfl rfl rfl (gm_255 h) (fun r29 s28 h => ?_)
    refine lf_callI 76 rfl rfl rfl rfl (gm_277 h) (fun r31 s30 h => ?_)
    refine lf_imul 77 rfl rfl ?_
    refine lf_seg 1 (pc' := 78) (lv' := [(4, .int (Int32.ofInt (s.1 116 x5))), (3, .int (Int32.ofInt (x3 + (s.1 119 ((4 * x4) + (s.1 116 x5)))))), (6, .int (Int32.ofInt (s.1 118 (s.1 116 x5)))), (0, .ref 95), (1, .int (Int32.ofInt x1)), (2, .int (Int32.ofInt x2)), (5, .int (Int32.ofInt x5))]) (st' := [.int (Int32.ofInt (x3 + (s.1 119 ((4 * x4) + (s.1 116 x5))))), .int (Int32.ofInt (r27 * r31)), .int (Int32.ofInt x2)]) rfl ?_
    refine lf_imul 79 rfl rfl ?_
    refine lf_iadd 80 rfl rfl ?_
    refine lf_seg 1 (pc' := 81) (lv' := [(2, .int (Int32.ofInt (x2 + ((r27 * r31) * (x3 + (s.1 119 ((4 * x4) + (s.1 116 x5)))))))), (4, .int (Int32.ofInt (s.1 116 x5))), (3, .int (Int32.ofInt (x3 + (s.1 119 ((4 * x4) + (s.1 116 x5)))))), (6, .int (Int32.ofInt (s.1 118 (s.1 116 x5)))), (0, .ref 95), (1, .int (Int32.ofInt x1)), (5, .int (Int32.ofInt x5))]) (st' := []) rfl ?_
    refine lf_iinc 84 rfl rfl rfl rfl ?_
    refine lf_seg 1 (pc' := 10) (lv' := [(5, .int (Int32.ofInt (x5 + 1))), (2, .int (Int32.ofInt (x2 + ((r27 * r31) * (x3 + (s.1 119 ((4 * x4) + (s.1 116 x5)))))))), (4, .int (Int32.ofInt (s.1 116 x5))), (3, .int (Int32.ofInt (x3 + (s.1 119 ((4 * x4) + (s.1 116 x5)))))), (6, .int (Int32.ofInt (s.1 118 (s.1 116 x5)))), (0, .ref 95), (1, .int (Int32.ofInt x1))]) (st' := []) rfl ?_
    refine lf_sub (l := [(0, .ref 95), (1, .int (Int32.ofInt x1)), (2, .int (Int32.ofInt (x2 + ((r27 * r31) * (x3 + (s.1 119 ((4 * x4) + (s.1 116 x5)))))))), (3, .int (Int32.ofInt (x3 + (s.1 119 ((4 * x4) + (s.1 116 x5)))))), (4, .int (Int32.ofInt (s.1 116 x5))), (5, .int (Int32.ofInt (x5 + 1)))]) (lf_sb1 rfl (lf_sb1 rfl (lf_sb1 rfl (lf_sb1 rfl (lf_sb1 rfl (lf_sb1 rfl lf_sb0)))))) ?_
    exact hX10 _ _ _ _ _ h
theorem gm_313_p10L {L : Nat} {xs : Nat → Int32} {d : Nat} {Q : Int → lf_Z → Prop} {x1 : Int} {x2 : Int} {x3 : Int} {x4 : Int} {x5 : Int} {s : lf_Z} (h : fm_313_p10L Q x1 x2 x3 x4 x5 s) : lf_E (px_ro L xs) (d + 2) 313 10 [(0, .ref 95), (1, .int (Int32.ofInt x1)), (2, .int (Int32.ofInt x2)), (3, .int (Int32.ofInt x3)), (4, .int (Int32.ofInt x4)), (5, .int (Int32.ofInt x5))] [] s (lf_qi Q) :=
  h (fun x2 x3 x4 x5 s => lf_E (px_ro L xs) (d + 2) 313 10 [(0, .ref 95), (1, .int (Int32.ofInt x1)), (2, .int (Int32.ofInt x2)), (3, .int (Int32.ofInt x3)), (4, .int (Int32.ofInt x4)), (5, .int (Int32.ofInt x5))] [] s (lf_qi Q)) (fun x2 x3 x4 x5 s hb => gm_313_p10 (fun _ _ _ _ _ h => h) hb)
def fm_313 (a1 : Int) (Q : Int → lf_Z → Prop) (s : lf_Z) : Prop := fm_313_p10L Q a1 0 0 4 0 s
set_option maxRecDepth 100000 in
theorem gm_313 {L : Nat} {xs : Nat → Int32} {d : Nat} {a1 : Int} {Q : Int → lf_Z → Prop} {s : lf_Z} (h : fm_313 a1 Q s) : lf_M (px_ro L xs) (d + 2) 313 [.ref 95, .int (Int32.ofInt a1)] s (lf_qi Q) := by
  unfold fm_313 at h
  show lf_E (px_ro L xs) (d + 2) 313 0 [(0, .ref 95), (1, .int (Int32.ofInt a1))] [] s _
  refine lf_seg 6 (pc' := 7) (lv' := [(4, .int (Int32.ofInt 4)), (3, .int (Int32.ofInt 0)), (2, .int (Int32.ofInt 0)), (0, .ref 95), (1, .int (Int32.ofInt a1))]) (st' := []) rfl ?_
  refine lf_seg 2 (pc' := 10) (lv' := [(5, .int (Int32.ofInt 0)), (4, .int (Int32.ofInt 4)), (3, .int (Int32.ofInt 0)), (2, .int (Int32.ofInt 0)), (0, .ref 95), (1, .int (Int32.ofInt a1))]) (st' := []) rfl ?_
  refine lf_sub (l := [(0, .ref 95), (1, .int (Int32.ofInt a1)), (2, .int (Int32.ofInt 0)), (3, .int (Int32.ofInt 0)), (4, .int (Int32.ofInt 4)), (5, .int (Int32.ofInt 0))]) (lf_sb1 rfl (lf_sb1 rfl (lf_sb1 rfl (lf_sb1 rfl (lf_sb1 rfl (lf_sb1 rfl lf_sb0)))))) ?_
  exact gm_313_p10L h
-- fm_311 Model.after 95 i i
def fm_311_p168 (X94 : Int → Int → lf_Z → Prop) (Q : Int → lf_Z → Prop) (x2 : Int) (x3 : Int) (x4 : Int) (s : lf_Z) : Prop := fm_304 x3 x3 (fun z39 s38 => (X94 x4 (lf_b z39) s38)) s
set_option maxRecDepth 100000 in
theorem gm_311_p168 {L : Nat} {xs : Nat → Int32} {d : Nat} {X94 : Int → Int → lf_Z → Prop} {Q : Int → lf_Z → Prop} {x2 : Int} {x3 : Int} {x4 : Int} {s : lf_Z} (hX94 : ∀ x4 x5 s, X94 x4 x5 s → lf_E (px_ro L xs) (d + 4) 311 94 [(0, .ref 95), (2, .int (Int32.ofInt x2)), (3, .int (Int32.ofInt x3)), (4, .int (Int32.ofInt x4)), (5, .int (Int32.ofInt x5))] [] s (lf_qi Q)) (h : fm_311_p168 X94 Q x2 x3 x4 s) : lf_E (px_ro L xs) (d + 4) 311 168 [(0, .ref 95), (2, .int (Int32.ofInt x2)), (3, .int (Int32.ofInt x3)), (4, .int (Int32.ofInt x4))] [] s (lf_qi Q) := by
  unfold fm_311_p168 at h
  refine lf_seg 3 (pc' := 171) (lv' := [(0, .ref 95), (2, .int (Int32.ofInt x2)), (3, .int (Int32.ofInt x3)), (4, .int (Int32.ofInt x4))]) (st' := [.int (Int32.ofInt x3), .int (Int32.ofInt x3), .ref 95]) rfl ?_
  refine lf_callZ 174 rfl rfl rfl rfl (gm_304 h) (fun z39 s38 h => ?_)
  refine lf_seg 2 (pc' := 94) (lv' := [(5, .int (Int32.ofInt (lf_b z39))), (0, .ref 95), (2, .int (Int32.ofInt x2)), (3, .int (Int32.ofInt x3)), (4, .int (Int32.ofInt x4))]) (st' := []) rfl ?_
  refine lf_sub (l := [(0, .ref 95), (2, .int (Int32.ofInt x2)), (3, .int (Int32.ofInt x3)), (4, .int (Int32.ofInt x4)), (5, .int (Int32.ofInt (lf_b z39)))]) (lf_sb1 rfl (lf_sb1 rfl (lf_sb1 rfl (lf_sb1 rfl (lf_sb1 rfl lf_sb0))))) ?_
  exact hX94 _ _ _ h
def fm_311_p142 (X94 : Int → Int → lf_Z → Prop) (Q : Int → lf_Z → Prop) (x2 : Int) (x3 : Int) (x4 : Int) (X142 : Int → lf_Z → Prop) (x7 : Int) (s : lf_Z) : Prop := lf_R x7 ∧ (lf_R x3 ∧ ((x3 ≤ x7 → (fm_311_p168 X94 Q x2 x3 x4 s)) ∧ (¬ (x3 ≤ x7) → ((0 ≤ x7 ∧ x7 < 6) ∧ (X142 (x7 + 1) (lf_up s.1 117 x7 (s.1 116 x7), s.2.1, s.2.2))))))
def fm_311_p142L (X94 : Int → Int → lf_Z → Prop) (Q : Int → lf_Z → Prop) (x2 : Int) (x3 : Int) (x4 : Int) (x7 : Int) (s : lf_Z) : Prop := ∀ X142 : Int → lf_Z → Prop, (∀ (x7 : Int) (s : lf_Z), fm_311_p142 X94 Q x2 x3 x4 X142 x7 s → X142 x7 s) → X142 x7 s
set_option maxRecDepth 100000 in
theorem gm_311_p142 {L : Nat} {xs : Nat → Int32} {d : Nat} {X94 : Int → Int → lf_Z → Prop} {Q : Int → lf_Z → Prop} {x2 : Int} {x3 : Int} {x4 : Int} {x7 : Int} {s : lf_Z} {X142 : Int → lf_Z → Prop} (hX94 : ∀ x4 x5 s, X94 x4 x5 s → lf_E (px_ro L xs) (d + 4) 311 94 [(0, .ref 95), (2, .int (Int32.ofInt x2)), (3, .int (Int32.ofInt x3)), (4, .int (Int32.ofInt x4)), (5, .int (Int32.ofInt x5))] [] s (lf_qi Q)) (hX142 : ∀ x7 s, X142 x7 s → lf_E (px_ro L xs) (d + 4) 311 142 [(0, .ref 95), (2, .int (Int32.ofInt x2)), (3, .int (Int32.ofInt x3)), (4, .int (Int32.ofInt x4)), (7, .int (Int32.ofInt x7))] [] s (lf_qi Q)) (h : fm_311_p142 X94 Q x2 x3 x4 X142 x7 s) : lf_E (px_ro L xs) (d + 4) 311 142 [(0, .ref 95), (2, .int (Int32.ofInt x2)), (3, .int (Int32.ofInt x3)), (4, .int (Int32.ofInt x4)), (7, .int (Int32.ofInt x7))] [] s (lf_qi Q) := by
  unfold fm_311_p142 at h
  refine lf_seg 2 (pc' := 145) (lv' := [(0, .ref 95), (2, .int (Int32.ofInt x2)), (3, .int (Int32.ofInt x3)), (4, .int (Int32.ofInt x4)), (7, .int (Int32.ofInt x7))]) (st' := [.int (Int32.ofInt x3), .int (Int32.ofInt x7)]) rfl ?_
  obtain ⟨o41, h⟩ := h
  obtain ⟨o42, h⟩ := h
  refine lf_icmp_ge 168 148 rfl rfl rfl o41 o42 (fun c => ?_) (fun c => ?_)
  · have h := h.1 c
    refine lf_sub (l := [(0, .ref 95), (2, .int (Int32.ofInt x2)), (3, .int (Int32.ofInt x3)), (4, .int (Int32.ofInt x4))]) (lf_sb1 rfl (lf_sb1 rfl (lf_sb1 rfl (lf_sb1 rfl lf_sb0)))) ?_
    exact gm_311_p168 hX94 h
  · have h := h.2 c
    refine lf_seg 6 (pc' := 160) (lv' := [(0, .ref 95), (2, .int (Int32.ofInt x2)), (3, .int (Int32.ofInt x3)), (4, .int (Int32.ofInt x4)), (7, .int (Int32.ofInt x7))]) (st' := [.int (Int32.ofInt x7), .ref 116, .int (Int32.ofInt x7), .ref 117]) rfl ?_
    obtain ⟨o43, h⟩ := h
    refine lf_iald 161 6 rfl rfl rfl rfl rfl rfl o43 ?_
    refine lf_iast 162 6 rfl rfl rfl rfl rfl rfl o43 ?_
    refine lf_as (lf_up s.1 117 x7 (s.1 116 x7), s.2.1, s.2.2) rfl ?_
    refine lf_iinc 165 rfl rfl rfl rfl ?_
    refine lf_seg 1 (pc' := 142) (lv' := [(7, .int (Int32.ofInt (x7 + 1))), (0, .ref 95), (2, .int (Int32.ofInt x2)), (3, .int (Int32.ofInt x3)), (4, .int (Int32.ofInt x4))]) (st' := []) rfl ?_
    refine lf_sub (l := [(0, .ref 95), (2, .int (Int32.ofInt x2)), (3, .int (Int32.ofInt x3)), (4, .int (Int32.ofInt x4)), (7, .int (Int32.ofInt (x7 + 1)))]) (lf_sb1 rfl (lf_sb1 rfl (lf_sb1 rfl (lf_sb1 rfl (lf_sb1 rfl lf_sb0))))) ?_
    exact hX142 _ _ h
theorem gm_311_p142L {L : Nat} {xs : Nat → Int32} {d : Nat} {X94 : Int → Int → lf_Z → Prop} {Q : Int → lf_Z → Prop} {x2 : Int} {x3 : Int} {x4 : Int} {x7 : Int} {s : lf_Z} (hX94 : ∀ x4 x5 s, X94 x4 x5 s → lf_E (px_ro L xs) (d + 4) 311 94 [(0, .ref 95), (2, .int (Int32.ofInt x2)), (3, .int (Int32.ofInt x3)), (4, .int (Int32.ofInt x4)), (5, .int (Int32.ofInt x5))] [] s (lf_qi Q)) (h : fm_311_p142L X94 Q x2 x3 x4 x7 s) : lf_E (px_ro L xs) (d + 4) 311 142 [(0, .ref 95), (2, .int (Int32.ofInt x2)), (3, .int (Int32.ofInt x3)), (4, .int (Int32.ofInt x4)), (7, .int (Int32.ofInt x7))] [] s (lf_qi Q) :=
  h (fun x7 s => lf_E (px_ro L xs) (d + 4) 311 142 [(0, .ref 95), (2, .int (Int32.ofInt x2)), (3, .int (Int32.ofInt x3)), (4, .int (Int32.ofInt x4)), (7, .int (Int32.ofInt x7))] [] s (lf_qi Q)) (fun x7 s hb => gm_311_p142 hX94 (fun _ _ h => h) hb)
def fm_311_p135 (X94 : Int → Int → lf_Z → Prop) (Q : Int → lf_Z → Prop) (x2 : Int) (x3 : Int) (x6 : Int) (s : lf_Z) : Prop := fm_311_p142L X94 Q x2 x3 x6 0 s
set_option maxRecDepth 100000 in
theorem gm_311_p135 {L : Nat} {xs : Nat → Int32} {d : Nat} {X94 : Int → Int → lf_Z → Prop} {Q : Int → lf_Z → Prop} {x2 : Int} {x3 : Int} {x6 : Int} {s : lf_Z} (hX94 : ∀ x4 x5 s, X94 x4 x5 s → lf_E (px_ro L xs) (d + 4) 311 94 [(0, .ref 95), (2, .int (Int32.ofInt x2)), (3, .int (Int32.ofInt x3)), (4, .int (Int32.ofInt x4)), (5, .int (Int32.ofInt x5))] [] s (lf_qi Q)) (h : fm_311_p135 X94 Q x2 x3 x6 s) : lf_E (px_ro L xs) (d + 4) 311 135 [(0, .ref 95), (2, .int (Int32.ofInt x2)), (3, .int (Int32.ofInt x3)), (6, .int (Int32.ofInt x6))] [] s (lf_qi Q) := by
  unfold fm_311_p135 at h
  refine lf_seg 4 (pc' := 142) (lv' := [(7, .int (Int32.ofInt 0)), (4, .int (Int32.ofInt x6)), (0, .ref 95), (2, .int (Int32.ofInt x2)), (3, .int (Int32.ofInt x3)), (6, .int (Int32.ofInt x6))]) (st' := []) rfl ?_
  refine lf_sub (l := [(0, .ref 95), (2, .int (Int32.ofInt x2)), (3, .int (Int32.ofInt x3)), (4, .int (Int32.ofInt x6)), (7, .int (Int32.ofInt 0))]) (lf_sb1 rfl (lf_sb1 rfl (lf_sb1 rfl (lf_sb1 rfl (lf_sb1 rfl lf_sb0))))) ?_
  exact gm_311_p142L hX94 h
def fm_311_p116 (X94 : Int → Int → lf_Z → Prop) (Q : Int → lf_Z → Prop) (x2 : Int) (x3 : Int) (x4 : Int) (y0 : Int) (s : lf_Z) : Prop := lf_R y0 ∧ ((y0 < 0 → (fm_311_p168 X94 Q x2 x3 x4 s)) ∧ (¬ (y0 < 0) → (lf_R x4 ∧ ((x4 < 0 → (fm_311_p135 X94 Q x2 x3 y0 s)) ∧ (¬ (x4 < 0) → ((x4 ≤ y0 → (fm_311_p168 X94 Q x2 x3 x4 s)) ∧ (¬ (x4 ≤ y0) → (fm_311_p135 X94 Q x2 x3 y0 s))))))))
set_option maxRecDepth 100000 in
theorem gm_311_p116 {L : Nat} {xs : Nat → Int32} {d : Nat} {X94 : Int → Int → lf_Z → Prop} {Q : Int → lf_Z → Prop} {x2 : Int} {x3 : Int} {x4 : Int} {y0 : Int} {s : lf_Z} (hX94 : ∀ x4 x5 s, X94 x4 x5 s → lf_E (px_ro L xs) (d + 4) 311 94 [(0, .ref 95), (2, .int (Int32.ofInt x2)), (3, .int (Int32.ofInt x3)), (4, .int (Int32.ofInt x4)), (5, .int (Int32.ofInt x5))] [] s (lf_qi Q)) (h : fm_311_p116 X94 Q x2 x3 x4 y0 s) : lf_E (px_ro L xs) (d + 4) 311 116 [(0, .ref 95), (2, .int (Int32.ofInt x2)), (3, .int (Int32.ofInt x3)), (4, .int (Int32.ofInt x4))] [.int (Int32.ofInt y0)] s (lf_qi Q) := by
  unfold fm_311_p116 at h
  refine lf_seg 2 (pc' := 120) (lv' := [(6, .int (Int32.ofInt y0)), (0, .ref 95), (2, .int (Int32.ofInt x2)), (3, .int (Int32.ofInt x3)), (4, .int (Int32.ofInt x4))]) (st' := [.int (Int32.ofInt y0)]) rfl ?_
  obtain ⟨o37, h⟩ := h
  refine lf_if_lt 168 123 rfl rfl rfl o37 (fun c => ?_) (fun c => ?_)
  · have h := h.1 c
    refine lf_sub (l := [(0, .ref 95), (2, .int (Int32.ofInt x2)), (3, .int (Int32.ofInt x3)), (4, .int (Int32.ofInt x4))]) (lf_sb1 rfl (lf_sb1 rfl (lf_sb1 rfl (lf_sb1 rfl lf_sb0)))) ?_
    exact gm_311_p168 hX94 h
  · have h := h.2 c
    refine lf_seg 1 (pc' := 125) (lv' := [(6, .int (Int32.ofInt y0)), (0, .ref 95), (2, .int (Int32.ofInt x2)), (3, .int (Int32.ofInt x3)), (4, .int (Int32.ofInt x4))]) (st' := [.int (Int32.ofInt x4)]) rfl ?_
    obtain ⟨o40, h⟩ := h
    refine lf_if_lt 135 128 rfl rfl rfl o40 (fun c => ?_) (fun c => ?_)
    · have h := h.1 c
      refine lf_sub (l := [(0, .ref 95), (2, .int (Int32.ofInt x2)), (3, .int (Int32.ofInt x3)), (6, .int (Int32.ofInt y0))]) (lf_sb1 rfl (lf_sb1 rfl (lf_sb1 rfl (lf_sb1 rfl lf_sb0)))) ?_
      exact gm_311_p135 hX94 h
    · have h := h.2 c
      refine lf_seg 2 (pc' := 132) (lv' := [(6, .int (Int32.ofInt y0)), (0, .ref 95), (2, .int (Int32.ofInt x2)), (3, .int (Int32.ofInt x3)), (4, .int (Int32.ofInt x4))]) (st' := [.int (Int32.ofInt x4), .int (Int32.ofInt y0)]) rfl ?_
      refine lf_icmp_ge 168 135 rfl rfl rfl o37 o40 (fun c => ?_) (fun c => ?_)
      · have h := h.1 c
        refine lf_sub (l := [(0, .ref 95), (2, .int (Int32.ofInt x2)), (3, .int (Int32.ofInt x3)), (4, .int (Int32.ofInt x4))]) (lf_sb1 rfl (lf_sb1 rfl (lf_sb1 rfl (lf_sb1 rfl lf_sb0)))) ?_
        exact gm_311_p168 hX94 h
      · have h := h.2 c
        refine lf_sub (l := [(0, .ref 95), (2, .int (Int32.ofInt x2)), (3, .int (Int32.ofInt x3)), (6, .int (Int32.ofInt y0))]) (lf_sb1 rfl (lf_sb1 rfl (lf_sb1 rfl (lf_sb1 rfl lf_sb0)))) ?_
        exact gm_311_p135 hX94 h
def fm_311_p94 (Q : Int → lf_Z → Prop) (x2 : Int) (x3 : Int) (X94 : Int → Int → lf_Z → Prop) (x4 : Int) (x5 : Int) (s : lf_Z) : Prop := lf_R x5 ∧ ((x5 = 0 → (lf_R x2 ∧ ((x2 ≠ (-1) → ((0 ≤ x2 ∧ x2 < 6) ∧ ((0 ≤ s.1 117 x2 ∧ s.1 117 x2 < 4) ∧ (Q (s.1 118 (s.1 117 x2)) s)))) ∧ (¬ (x2 ≠ (-1)) → (Q x4 s))))) ∧ (¬ (x5 = 0) → (fm_303 x3 (fun z36 s35 => ((z36 = false → (fm_311_p116 X94 Q x2 x3 x4 (-1) s35)) ∧ (z36 = true → (fm_313 x3 (fun r45 s44 => (fm_311_p116 X94 Q x2 x3 x4 r45 s44)) s35)))) s)))
def fm_311_p94L (Q : Int → lf_Z → Prop) (x2 : Int) (x3 : Int) (x4 : Int) (x5 : Int) (s : lf_Z) : Prop := ∀ X94 : Int → Int → lf_Z → Prop, (∀ (x4 : Int) (x5 : Int) (s : lf_Z), fm_311_p94 Q x2 x3 X94 x4 x5 s → X94 x4 x5 s) → X94 x4 x5 s
set_option maxRecDepth 100000 in
theorem gm_311_p94 {L : Nat} {xs : Nat → Int32} {d : Nat} {Q : Int → lf_Z → Prop} {x2 : Int} {x3 : Int} {x4 : Int} {x5 : Int} {s : lf_Z} {X94 : Int → Int → lf_Z → Prop} (hX94 : ∀ x4 x5 s, X94 x4 x5 s → lf_E (px_ro L xs) (d + 4) 311 94 [(0, .ref 95), (2, .int (Int32.ofInt x2)), (3, .int (Int32.ofInt x3)), (4, .int (Int32.ofInt x4)), (5, .int (Int32.ofInt x5))] [] s (lf_qi Q)) (h : fm_311_p94 Q x2 x3 X94 x4 x5 s) : lf_E (px_ro L xs) (d + 4) 311 94 [(0, .ref 95), (2, .int (Int32.ofInt x2)), (3, .int (Int32.ofInt x3)), (4, .int (Int32.ofInt x4)), (5, .int (Int32.ofInt x5))] [] s (lf_qi Q) := by
  unfold fm_311_p94 at h
  refine lf_seg 1 (pc' := 96) (lv' := [(0, .ref 95), (2, .int (Int32.ofInt x2)), (3, .int (Int32.ofInt x3)), (4, .int (Int32.ofInt x4)), (5, .int (Int32.ofInt x5))]) (st' := [.int (Int32.ofInt x5)]) rfl ?_
  obtain ⟨o31, h⟩ := h
  refine lf_if_eq 179 99 rfl rfl rfl o31 (fun c => ?_) (fun c => ?_)
  · have h := h.1 c
    refine lf_seg 2 (pc' := 181) (lv' := [(0, .ref 95), (2, .int (Int32.ofInt x2)), (3, .int (Int32.ofInt x3)), (4, .int (Int32.ofInt x4)), (5, .int (Int32.ofInt x5))]) (st' := [.int (Int32.ofInt (-1)), .int (Int32.ofInt x2)]) rfl ?_
    obtain ⟨o32, h⟩ := h
    refine lf_icmp_ne 189 184 rfl rfl rfl o32 ⟨by decide, by decide⟩ (fun c => ?_) (fun c => ?_)
    · have h := h.1 c
      refine lf_seg 5 (pc' := 198) (lv' := [(0, .ref 95), (2, .int (Int32.ofInt x2)), (3, .int (Int32.ofInt x3)), (4, .int (Int32.ofInt x4)), (5, .int (Int32.ofInt x5))]) (st' := [.int (Int32.ofInt x2), .ref 117, .ref 118]) rfl ?_
      obtain ⟨o33, h⟩ := h
      refine lf_iald 199 6 rfl rfl rfl rfl rfl rfl o33 ?_
      obtain ⟨o34, h⟩ := h
      refine lf_iald 200 4 rfl rfl rfl rfl rfl rfl o34 ?_
      exact lf_retI rfl rfl h
    · have h := h.2 c
      refine lf_seg 2 (pc' := 200) (lv' := [(0, .ref 95), (2, .int (Int32.ofInt x2)), (3, .int (Int32.ofInt x3)), (4, .int (Int32.ofInt x4)), (5, .int (Int32.ofInt x5))]) (st' := [.int (Int32.ofInt x4)]) rfl ?_
      exact lf_retI rfl rfl h
  · have h := h.2 c
    refine lf_seg 2 (pc' := 101) (lv' := [(0, .ref 95), (2, .int (Int32.ofInt x2)), (3, .int (Int32.ofInt x3)), (4, .int (Int32.ofInt x4)), (5, .int (Int32.ofInt x5))]) (st' := [.int (Int32.ofInt x3), .ref 95]) rfl ?_
    refine lf_callZ 104 rfl rfl rfl rfl (gm_303 h) (fun z36 s35 h => ?_)
    refine lf_ifz_eq 115 107 rfl rfl rfl (fun c => ?_) (fun c => ?_)
    · have h := h.1 c
      refine lf_seg 1 (pc' := 116) (lv' := [(0, .ref 95), (2, .int (Int32.ofInt x2)), (3, .int (Int32.ofInt x3)), (4, .int (Int32.ofInt x4)), (5, .int (Int32.ofInt x5))]) (st' := [.int (Int32.ofInt (-1))]) rfl ?_
      refine lf_sub (l := [(0, .ref 95), (2, .int (Int32.ofInt x2)), (3, .int (Int32.ofInt x3)), (4, .int (Int32.ofInt x4))]) (lf_sb1 rfl (lf_sb1 rfl (lf_sb1 rfl (lf_sb1 rfl lf_sb0)))) ?_
      exact gm_311_p116 hX94 h
    · have h := h.2 c
      refine lf_seg 2 (pc' := 109) (lv' := [(0, .ref 95), (2, .int (Int32.ofInt x2)), (3, .int (Int32.ofInt x3)), (4, .int (Int32.ofInt x4)), (5, .int (Int32.ofInt x5))]) (st' := [.int (Int32.ofInt x3), .ref 95]) rfl ?_
      refine lf_callI 112 rfl rfl rfl rfl (gm_313 h) (fun r45 s44 h => ?_)
      refine lf_seg 1 (pc' := 116) (lv' := [(0, .ref 95), (2, .int (Int32.ofInt x2)), (3, .int (Int32.ofInt x3)), (4, .int (Int32.ofInt x4)), (5, .int (Int32.ofInt x5))]) (st' := [.int (Int32.ofInt r45)]) rfl ?_
      refine lf_sub (l := [(0, .ref 95), (2, .int (Int32.ofInt x2)), (3, .int (Int32.ofInt x3)), (4, .int (Int32.ofInt x4))]) (lf_sb1 rfl (lf_sb1 rfl (lf_sb1 rfl (lf_sb1 rfl lf_sb0)))) ?_
      exact gm_311_p116 hX94 h
theorem gm_311_p94L {L : Nat} {xs : Nat → Int32} {d : Nat} {Q : Int → lf_Z → Prop} {x2 : Int} {x3 : Int} {x4 : Int} {x5 : Int} {s : lf_Z} (h : fm_311_p94L Q x2 x3 x4 x5 s) : lf_E (px_ro L xs) (d + 4) 311 94 [(0, .ref 95), (2, .int (Int32.ofInt x2)), (3, .int (Int32.ofInt x3)), (4, .int (Int32.ofInt x4)), (5, .int (Int32.ofInt x5))] [] s (lf_qi Q) :=
  h (fun x4 x5 s => lf_E (px_ro L xs) (d + 4) 311 94 [(0, .ref 95), (2, .int (Int32.ofInt x2)), (3, .int (Int32.ofInt x3)), (4, .int (Int32.ofInt x4)), (5, .int (Int32.ofInt x5))] [] s (lf_qi Q)) (fun x4 x5 s hb => gm_311_p94 (fun _ _ _ h => h) hb)
def fm_311_p71 (Q : Int → lf_Z → Prop) (x2 : Int) (x3 : Int) (x4 : Int) (X71 : Int → lf_Z → Prop) (x5 : Int) (s : lf_Z) : Prop := lf_R x5 ∧ (lf_R x3 ∧ ((x3 ≤ x5 → (fm_311_p94L Q x2 x3 x4 1 s)) ∧ (¬ (x3 ≤ x5) → ((0 ≤ x5 ∧ x5 < 6) ∧ (X71 (x5 + 1) (lf_up s.1 116 x5 0, s.2.1, s.2.2))))))
def fm_311_p71L (Q : Int → lf_Z → Prop) (x2 : Int) (x3 : Int) (x4 : Int) (x5 : Int) (s : lf_Z) : Prop := ∀ X71 : Int → lf_Z → Prop, (∀ (x5 : Int) (s : lf_Z), fm_311_p71 Q x2 x3 x4 X71 x5 s → X71 x5 s) → X71 x5 s
set_option maxRecDepth 100000 in
theorem gm_311_p71 {L : Nat} {xs : Nat → Int32} {d : Nat} {Q : Int → lf_Z → Prop} {x2 : Int} {x3 : Int} {x4 : Int} {x5 : Int} {s : lf_Z} {X71 : Int → lf_Z → Prop} (hX71 : ∀ x5 s, X71 x5 s → lf_E (px_ro L xs) (d + 4) 311 71 [(0, .ref 95), (2, .int (Int32.ofInt x2)), (3, .int (Int32.ofInt x3)), (4, .int (Int32.ofInt x4)), (5, .int (Int32.ofInt x5))] [] s (lf_qi Q)) (h : fm_311_p71 Q x2 x3 x4 X71 x5 s) : lf_E (px_ro L xs) (d + 4) 311 71 [(0, .ref 95), (2, .int (Int32.ofInt x2)), (3, .int (Int32.ofInt x3)), (4, .int (Int32.ofInt x4)), (5, .int (Int32.ofInt x5))] [] s (lf_qi Q) := by
  unfold fm_311_p71 at h
  refine lf_seg 2 (pc' := 74) (lv' := [(0, .ref 95), (2, .int (Int32.ofInt x2)), (3, .int (Int32.ofInt x3)), (4, .int (Int32.ofInt x4)), (5, .int (Int32.ofInt x5))]) (st' := [.int (Int32.ofInt x3), .int (Int32.ofInt x5)]) rfl ?_
  obtain ⟨o29, h⟩ := h
  obtain ⟨o30, h⟩ := h
  refine lf_icmp_ge 91 77 rfl rfl rfl o29 o30 (fun c => ?_) (fun c => ?_)
  · have h := h.1 c
    refine lf_seg 2 (pc' := 94) (lv' := [(5, .int (Int32.ofInt 1)), (0, .ref 95), (2, .int (Int32.ofInt x2)), (3, .int (Int32.ofInt x3)), (4, .int (Int32.ofInt x4))]) (st' := []) rfl ?_
    refine lf_sub (l := [(0, .ref 95), (2, .int (Int32.ofInt x2)), (3, .int (Int32.ofInt x3)), (4, .int (Int32.ofInt x4)), (5, .int (Int32.ofInt 1))]) (lf_sb1 rfl (lf_sb1 rfl (lf_sb1 rfl (lf_sb1 rfl (lf_sb1 rfl lf_sb0))))) ?_
    exact gm_311_p94L h
  · have h := h.2 c
    refine lf_seg 4 (pc' := 84) (lv' := [(0, .ref 95), (2, .int (Int32.ofInt x2)), (3, .int (Int32.ofInt x3)), (4, .int (Int32.ofInt x4)), (5, .int (Int32.ofInt x5))]) (st' := [.int (Int32.ofInt 0), .int (Int32.ofInt x5), .ref 116]) rfl ?_
    obtain ⟨o46, h⟩ := h
    refine lf_iast 85 6 rfl rfl rfl rfl rfl rfl o46 ?_
    refine lf_as (lf_up s.1 116 x5 0, s.2.1, s.2.2) rfl ?_
    refine lf_iinc 88 rfl rfl rfl rfl ?_
    refine lf_seg 1 (pc' := 71) (lv' := [(5, .int (Int32.ofInt (x5 + 1))), (0, .ref 95), (2, .int (Int32.ofInt x2)), (3, .int (Int32.ofInt x3)), (4, .int (Int32.ofInt x4))]) (st' := []) rfl ?_
    refine lf_sub (l := [(0, .ref 95), (2, .int (Int32.ofInt x2)), (3, .int (Int32.ofInt x3)), (4, .int (Int32.ofInt x4)), (5, .int (Int32.ofInt (x5 + 1)))]) (lf_sb1 rfl (lf_sb1 rfl (lf_sb1 rfl (lf_sb1 rfl (lf_sb1 rfl lf_sb0))))) ?_
    exact hX71 _ _ h
theorem gm_311_p71L {L : Nat} {xs : Nat → Int32} {d : Nat} {Q : Int → lf_Z → Prop} {x2 : Int} {x3 : Int} {x4 : Int} {x5 : Int} {s : lf_Z} (h : fm_311_p71L Q x2 x3 x4 x5 s) : lf_E (px_ro L xs) (d + 4) 311 71 [(0, .ref 95), (2, .int (Int32.ofInt x2)), (3, .int (Int32.ofInt x3)), (4, .int (Int32.ofInt x4)), (5, .int (Int32.ofInt x5))] [] s (lf_qi Q) :=
  h (fun x5 s => lf_E (px_ro L xs) (d + 4) 311 71 [(0, .ref 95), (2, .int (Int32.ofInt x2)), (3, .int (Int32.ofInt x3)), (4, .int (Int32.ofInt x4)), (5, .int (Int32.ofInt x5))] [] s (lf_qi Q)) (fun x5 s hb => gm_311_p71 (fun _ _ h => h) hb)
def fm_311_p35 (Q : Int → lf_Z → Prop) (x2 : Int) (x3 : Int) (X35 : Int → lf_Z → Prop) (x4 : Int) (s : lf_Z) : Prop := lf_R x4 ∧ (lf_R x3 ∧ ((x3 ≤ x4 → (fm_311_p71L Q x2 x3 (-1) 0 s)) ∧ (¬ (x3 ≤ x4) → ((0 ≤ 16 + x4 ∧ 16 + x4 < 20) ∧ (lf_R (s.1 119 (16 + x4)) ∧ ((s.1 119 (16 + x4) < 1000 → (X35 (x4 + 1) s)) ∧ (¬ (s.1 119 (16 + x4) < 1000) → (Q (-1) s))))))))
def fm_311_p35L (Q : Int → lf_Z → Prop) (x2 : Int) (x3 : Int) (x4 : Int) (s : lf_Z) : Prop := ∀ X35 : Int → lf_Z → Prop, (∀ (x4 : Int) (s : lf_Z), fm_311_p35 Q x2 x3 X35 x4 s → X35 x4 s) → X35 x4 s
set_option maxRecDepth 100000 in
theorem gm_311_p35 {L : Nat} {xs : Nat → Int32} {d : Nat} {Q : Int → lf_Z → Prop} {x2 : Int} {x3 : Int} {x4 : Int} {s : lf_Z} {X35 : Int → lf_Z → Prop} (hX35 : ∀ x4 s, X35 x4 s → lf_E (px_ro L xs) (d + 4) 311 35 [(0, .ref 95), (2, .int (Int32.ofInt x2)), (3, .int (Int32.ofInt x3)), (4, .int (Int32.ofInt x4))] [] s (lf_qi Q)) (h : fm_311_p35 Q x2 x3 X35 x4 s) : lf_E (px_ro L xs) (d + 4) 311 35 [(0, .ref 95), (2, .int (Int32.ofInt x2)), (3, .int (Int32.ofInt x3)), (4, .int (Int32.ofInt x4))] [] s (lf_qi Q) := by
  unfold fm_311_p35 at h
  refine lf_seg 2 (pc' := 38) (lv' := [(0, .ref 95), (2, .int (Int32.ofInt x2)), (3, .int (Int32.ofInt x3)), (4, .int (Int32.ofInt x4))]) (st' := [.int (Int32.ofInt x3), .int (Int32.ofInt x4)]) rfl ?_
  obtain ⟨o27, h⟩ := h
  obtain ⟨o28, h⟩ := h
  refine lf_icmp_ge 65 41 rfl rfl rfl o27 o28 (fun c => ?_) (fun c => ?_)
  · have h := h.1 c
    refine lf_seg 4 (pc' := 71) (lv' := [(5, .int (Int32.ofInt 0)), (4, .int (Int32.ofInt (-1))), (0, .ref 95), (2, .int (Int32.ofInt x2)), (3, .int (Int32.ofInt x3))]) (st' := []) rfl ?_
    refine lf_sub (l := [(0, .ref 95), (2, .int (Int32.ofInt x2)), (3, .int (Int32.ofInt x3)), (4, .int (Int32.ofInt (-1))), (5, .int (Int32.ofInt 0))]) (lf_sb1 rfl (lf_sb1 rfl (lf_sb1 rfl (lf_sb1 rfl (lf_sb1 rfl lf_sb0))))) ?_
    exact gm_311_p71L h
  · have h := h.2 c
    refine lf_seg 2 (pc' := 45) (lv' := [(0, .ref 95), (2, .int (Int32.ofInt x2)), (3, .int (Int32.ofInt x3)), (4, .int (Int32.ofInt x4))]) (st' := [.ref 119]) rfl ?_
    refine lf_bipush 47 16 rfl rfl (by decide) (by decide) ?_
    refine lf_seg 1 (pc' := 49) (lv' := [(0, .ref 95), (2, .int (Int32.ofInt x2)), (3, .int (Int32.ofInt x3)), (4, .int (Int32.ofInt x4))]) (st' := [.int (Int32.ofInt x4), .int (Int32.ofInt 16), .ref 119]) rfl ?_
    refine lf_iadd 50 rfl rfl ?_
    obtain ⟨o47, h⟩ := h
    refine lf_iald 51 20 rfl rfl rfl rfl rfl rfl o47 ?_
    refine lf_sipush 54 1000 rfl rfl (by decide) (by decide) ?_
    obtain ⟨o48, h⟩ := h
    refine lf_icmp_lt 59 57 rfl rfl rfl o48 ⟨by decide, by decide⟩ (fun c => ?_) (fun c => ?_)
    · have h := h.1 c
      refine lf_iinc 62 rfl rfl rfl rfl ?_
      refine lf_seg 1 (pc' := 35) (lv' := [(4, .int (Int32.ofInt (x4 + 1))), (0, .ref 95), (2, .int (Int32.ofInt x2)), (3, .int (Int32.ofInt x3))]) (st' := []) rfl ?_
      refine lf_sub (l := [(0, .ref 95), (2, .int (Int32.ofInt x2)), (3, .int (Int32.ofInt x3)), (4, .int (Int32.ofInt (x4 + 1)))]) (lf_sb1 rfl (lf_sb1 rfl (lf_sb1 rfl (lf_sb1 rfl lf_sb0)))) ?_
      exact hX35 _ _ h
    · have h := h.2 c
      refine lf_seg 1 (pc' := 58) (lv' := [(0, .ref 95), (2, .int (Int32.ofInt x2)), (3, .int (Int32.ofInt x3)), (4, .int (Int32.ofInt x4))]) (st' := [.int (Int32.ofInt (-1))]) rfl ?_
      exact lf_retI rfl rfl h
theorem gm_311_p35L {L : Nat} {xs : Nat → Int32} {d : Nat} {Q : Int → lf_Z → Prop} {x2 : Int} {x3 : Int} {x4 : Int} {s : lf_Z} (h : fm_311_p35L Q x2 x3 x4 s) : lf_E (px_ro L xs) (d + 4) 311 35 [(0, .ref 95), (2, .int (Int32.ofInt x2)), (3, .int (Int32.ofInt x3)), (4, .int (Int32.ofInt x4))] [] s (lf_qi Q) :=
  h (fun x4 s => lf_E (px_ro L xs) (d + 4) 311 35 [(0, .ref 95), (2, .int (Int32.ofInt x2)), (3, .int (Int32.ofInt x3)), (4, .int (Int32.ofInt x4))] [] s (lf_qi Q)) (fun x4 s hb => gm_311_p35 (fun _ _ h => h) hb)
def fm_311 (a1 : Int) (a2 : Int) (Q : Int → lf_Z → Prop) (s : lf_Z) : Prop := fm_249 a1 (fun z22 s21 => ((z22 = false → (Q (-1) s21)) ∧ (z22 = true → (lf_R a2 ∧ (((-1) ≤ a2 → (fm_312 a1 (fun r25 s24 => (lf_R r25 ∧ ((r25 = 0 → (Q (-1) s24)) ∧ (¬ (r25 = 0) → ((a2 < r25 → (fm_311_p35L Q a2 r25 0 s24)) ∧ (¬ (a2 < r25) → (Q (-1) s24))))))) s21)) ∧ (¬ ((-1) ≤ a2) → (Q (-1) s21))))))) s
set_option maxRecDepth 100000 in
theorem gm_311 {L : Nat} {xs : Nat → Int32} {d : Nat} {a1 : Int} {a2 : Int} {Q : Int → lf_Z → Prop} {s : lf_Z} (h : fm_311 a1 a2 Q s) : lf_M (px_ro L xs) (d + 4) 311 [.ref 95, .int (Int32.ofInt a1), .int (Int32.ofInt a2)] s (lf_qi Q) := by
  unfold fm_311 at h
  show lf_E (px_ro L xs) (d + 4) 311 0 [(0, .ref 95), (1, .int (Int32.ofInt a1)), (2, .int (Int32.ofInt a2))] [] s _
  refine lf_seg 2 (pc' := 2) (lv' := [(0, .ref 95), (1, .int (Int32.ofInt a1)), (2, .int (Int32.ofInt a2))]) (st' := [.int (Int32.ofInt a1), .ref 95]) rfl ?_
  refine lf_callZ 5 rfl rfl rfl rfl (gm_249 h) (fun z22 s21 h => ?_)
  refine lf_ifz_eq 13 8 rfl rfl rfl (fun c => ?_) (fun c => ?_)
  · have h := h.1 c
    refine lf_seg 1 (pc' := 14) (lv' := [(0, .ref 95), (1, .int (Int32.ofInt a1)), (2, .int (Int32.ofInt a2))]) (st' := [.int (Int32.ofInt (-1))]) rfl ?_
    exact lf_retI rfl rfl h
  · have h := h.2 c
    refine lf_seg 2 (pc' := 10) (lv' := [(0, .ref 95), (1, .int (Int32.ofInt a1)), (2, .int (Int32.ofInt a2))]) (st' := [.int (Int32.ofInt (-1)), .int (Int32.ofInt a2)]) rfl ?_
    obtain ⟨o23, h⟩ := h
    refine lf_icmp_ge 15 13 rfl rfl rfl o23 ⟨by decide, by decide⟩ (fun c => ?_) (fun c => ?_)
    · have h := h.1 c
      refine lf_seg 2 (pc' := 17) (lv' := [(0, .ref 95), (1, .int (Int32.ofInt a1)), (2, .int (Int32.ofInt a2))]) (st' := [.int (Int32.ofInt a1), .ref 95]) rfl ?_
      refine lf_callI 20 rfl rfl rfl rfl (gm_312 h) (fun r25 s24 h => ?_)
      refine lf_seg 2 (pc' := 22) (lv' := [(3, .int (Int32.ofInt r25)), (0, .ref 95), (1, .int (Int32.ofInt a1)), (2, .int (Int32.ofInt a2))]) (st' := [.int (Int32.ofInt r25)]) rfl ?_
      obtain ⟨o26, h⟩ := h
      refine lf_if_eq 30 25 rfl rfl rfl o26 (fun c => ?_) (fun c => ?_)
      · have h := h.1 c
        refine lf_seg 1 (pc' := 31) (lv' := [(3, .int (Int32.ofInt r25)), (0, .ref 95), (1, .int (Int32.ofInt a1)), (2, .int (Int32.ofInt a2))]) (st' := [.int (Int32.ofInt (-1))]) rfl ?_
        exact lf_retI rfl rfl h
      · have h := h.2 c
        refine lf_seg 2 (pc' := 27) (lv' := [(3, .int (Int32.ofInt r25)), (0, .ref 95), (1, .int (Int32.ofInt a1)), (2, .int (Int32.ofInt a2))]) (st' := [.int (Int32.ofInt r25), .int (Int32.ofInt a2)]) rfl ?_
        refine lf_icmp_lt 32 30 rfl rfl rfl o23 o26 (fun c => ?_) (fun c => ?_)
        · have h := h.1 c
          refine lf_seg 2 (pc' := 35) (lv' := [(4, .int (Int32.ofInt 0)), (3, .int (Int32.ofInt r25)), (0, .ref 95), (1, .int (Int32.ofInt a1)), (2, .int (Int32.ofInt a2))]) (st' := []) rfl ?_
          refine lf_sub (l := [(0, .ref 95), (2, .int (Int32.ofInt a2)), (3, .int (Int32.ofInt r25)), (4, .int (Int32.ofInt 0))]) (lf_sb1 rfl (lf_sb1 rfl (lf_sb1 rfl (lf_sb1 rfl lf_sb0)))) ?_
          exact gm_311_p35L h
        · have h := h.2 c
          refine lf_seg 1 (pc' := 31) (lv' := [(3, .int (Int32.ofInt r25)), (0, .ref 95), (1, .int (Int32.ofInt a1)), (2, .int (Int32.ofInt a2))]) (st' := [.int (Int32.ofInt (-1))]) rfl ?_
          exact lf_retI rfl rfl h
    · have h := h.2 c
      refine lf_seg 1 (pc' := 14) (lv' := [(0, .ref 95), (1, .int (Int32.ofInt a1)), (2, .int (Int32.ofInt a2))]) (st' := [.int (Int32.ofInt (-1))]) rfl ?_
      exact lf_retI rfl rfl h
