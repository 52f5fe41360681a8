-- fm_116 ElevenBullocks.where 0 i i i i
def fm_116_p31 (Q : Int → lf_Z → Prop) (s : lf_Z) : Prop := Q (-1) s
set_option maxRecDepth 100000 in
theorem gm_116_p31 {L : Nat} {xs : Nat → Int32} {d : Nat} {Q : Int → lf_Z → Prop} {s : lf_Z} (h : fm_116_p31 Q s) : lf_E (px_ro L xs) (d + 8) 116 31 [] [] s (lf_ql Q) := by
  unfold fm_116_p31 at h
  refine lf_ldc2 34 (-1) rfl rfl rfl (by decide) ?_
  exact lf_retL rfl rfl h
def fm_116 (a1 : Int) (a2 : Int) (a3 : Int) (a4 : Int) (Q : Int → lf_Z → Prop) (s : lf_Z) : Prop := fm_80 a1 (fun z22 s21 => ((z22 = false → (fm_116_p31 Q s21)) ∧ (z22 = true → (fm_15 a2 0 4 (fun z24 s23 => ((z24 = false → (fm_116_p31 Q s23)) ∧ (z24 = true → (fm_18 a3 (fun z26 s25 => ((z26 = true → (fm_117 a1 a2 a3 (fun r28 s27 => (fm_124 a2 (fun r30 s29 => (fm_125 (lf_wl r28) (lf_wl r30) a4 (fun r32 s31 => (Q (lf_wl r32) s31)) s29)) s27)) s25)) ∧ (z26 = false → (fm_116_p31 Q s25)))) s23)))) s21)))) s
set_option maxRecDepth 100000 in
theorem gm_116 {L : Nat} {xs : Nat → Int32} {d : Nat} {a1 : Int} {a2 : Int} {a3 : Int} {a4 : Int} {Q : Int → lf_Z → Prop} {s : lf_Z} (h : fm_116 a1 a2 a3 a4 Q s) : lf_M (px_ro L xs) (d + 8) 116 [.ref 0, .int (Int32.ofInt a1), .int (Int32.ofInt a2), .int (Int32.ofInt a3), .int (Int32.ofInt a4)] s (lf_ql Q) := by
  unfold fm_116 at h
  show lf_E (px_ro L xs) (d + 8) 116 0 [(0, .ref 0), (1, .int (Int32.ofInt a1)), (2, .int (Int32.ofInt a2)), (3, .int (Int32.ofInt a3)), (4, .int (Int32.ofInt a4))] [] s _
  refine lf_seg 3 (pc' := 5) (lv' := [(0, .ref 0), (1, .int (Int32.ofInt a1)), (2, .int (Int32.ofInt a2)), (3, .int (Int32.ofInt a3)), (4, .int (Int32.ofInt a4))]) (st' := [.int (Int32.ofInt a1), .ref 15]) rfl ?_
  refine lf_callZ 8 rfl rfl rfl rfl (gm_80 h) (fun z22 s21 h => ?_)
  refine lf_ifz_eq 31 11 rfl rfl rfl (fun c => ?_) (fun c => ?_)
  · have h := h.1 c
    refine lf_sub (l := []) lf_sb0 ?_
    exact gm_116_p31 h
  · have h := h.2 c
    refine lf_seg 3 (pc' := 14) (lv' := [(0, .ref 0), (1, .int (Int32.ofInt a1)), (2, .int (Int32.ofInt a2)), (3, .int (Int32.ofInt a3)), (4, .int (Int32.ofInt a4))]) (st' := [.int (Int32.ofInt 4), .int (Int32.ofInt 0), .int (Int32.ofInt a2)]) rfl ?_
    refine lf_callZ 17 rfl rfl rfl rfl (gm_15 h) (fun z24 s23 h => ?_)
    refine lf_ifz_eq 31 20 rfl rfl rfl (fun c => ?_) (fun c => ?_)
    · have h := h.1 c
      refine lf_sub (l := []) lf_sb0 ?_
      exact gm_116_p31 h
    · have h := h.2 c
      refine lf_seg 3 (pc' := 25) (lv' := [(0, .ref 0), (1, .int (Int32.ofInt a1)), (2, .int (Int32.ofInt a2)), (3, .int (Int32.ofInt a3)), (4, .int (Int32.ofInt a4))]) (st' := [.int (Int32.ofInt a3), .ref 1]) rfl ?_
      refine lf_callZ 28 rfl rfl rfl rfl (gm_18 h) (fun z26 s25 h => ?_)
      refine lf_ifz_ne 35 31 rfl rfl rfl (fun c => ?_) (fun c => ?_)
      · have h := h.1 c
        refine lf_seg 5 (pc' := 42) (lv' := [(0, .ref 0), (1, .int (Int32.ofInt a1)), (2, .int (Int32.ofInt a2)), (3, .int (Int32.ofInt a3)), (4, .int (Int32.ofInt a4))]) (st' := [.int (Int32.ofInt a3), .int (Int32.ofInt a2), .int (Int32.ofInt a1), .ref 68]) rfl ?_
        refine lf_callL 45 rfl rfl rfl rfl (gm_117 h) (fun r28 s27 h => ?_)
        refine lf_wtL ?_
        refine lf_seg 4 (pc' := 52) (lv' := [(5, .long (Int64.ofInt (lf_wl r28))), (0, .ref 0), (1, .int (Int32.ofInt a1)), (2, .int (Int32.ofInt a2)), (3, .int (Int32.ofInt a3)), (4, .int (Int32.ofInt a4))]) (st' := [.int (Int32.ofInt a2), .ref 68]) rfl ?_
        refine lf_callL 55 rfl rfl rfl rfl (gm_124 h) (fun r30 s29 h => ?_)
        refine lf_wtL ?_
        refine lf_seg 4 (pc' := 63) (lv' := [(7, .long (Int64.ofInt (lf_wl r30))), (5, .long (Int64.ofInt (lf_wl r28))), (0, .ref 0), (1, .int (Int32.ofInt a1)), (2, .int (Int32.ofInt a2)), (3, .int (Int32.ofInt a3)), (4, .int (Int32.ofInt a4))]) (st' := [.int (Int32.ofInt a4), .long (Int64.ofInt (lf_wl r30)), .long (Int64.ofInt (lf_wl r28))]) rfl ?_
        refine lf_callL 66 rfl rfl rfl rfl (gm_125 h) (fun r32 s31 h => ?_)
        refine lf_wtL ?_
        exact lf_retL rfl rfl h
      · have h := h.2 c
        refine lf_sub (l := []) lf_sb0 ?_
        exact gm_116_p31 h
-- fm_292 Model.common l l
def fm_292_p6 (Q : Int → lf_Z → Prop) (X6 : Int → Int → lf_Z → Prop) (x4 : Int) (x6 : Int) (s : lf_Z) : Prop := (lf_wl x6 = 0 → (Q (lf_wl x4) s)) ∧ (¬ (lf_wl x6 = 0) → ((lf_wl x6) ≠ 0 ∧ (X6 x6 (lf_wl ((lf_wl x4).tmod (lf_wl x6))) s)))
def fm_292_p6L (Q : Int → lf_Z → Prop) (x4 : Int) (x6 : Int) (s : lf_Z) : Prop := ∀ X6 : Int → Int → lf_Z → Prop, (∀ (x4 : Int) (x6 : Int) (s : lf_Z), fm_292_p6 Q X6 x4 x6 s → X6 x4 x6 s) → X6 x4 x6 s
set_option maxRecDepth 100000 in
theorem gm_292_p6 {L : Nat} {xs : Nat → Int32} {d : Nat} {Q : Int → lf_Z → Prop} {x4 : Int} {x6 : Int} {s : lf_Z} {X6 : Int → Int → lf_Z → Prop} (hX6 : ∀ x4 x6 s, X6 x4 x6 s → lf_E (px_ro L xs) (d + 1) 292 6 [(4, .long (Int64.ofInt x4)), (6, .long (Int64.ofInt x6))] [] s (lf_ql Q)) (h : fm_292_p6 Q X6 x4 x6 s) : lf_E (px_ro L xs) (d + 1) 292 6 [(4, .long (Int64.ofInt x4)), (6, .long (Int64.ofInt x6))] [] s (lf_ql Q) := by
  unfold fm_292_p6 at h
  refine lf_eqs (lv' := [(4, .long (Int64.ofInt (lf_wl x4))), (6, .long (Int64.ofInt (lf_wl x6)))]) (st' := []) (by simp only [lf_wlE]) rfl ?_
  refine lf_seg 1 (pc' := 8) (lv' := [(4, .long (Int64.ofInt (lf_wl x4))), (6, .long (Int64.ofInt (lf_wl x6)))]) (st' := [.long (Int64.ofInt (lf_wl x6))]) rfl ?_
  refine lf_lconst 9 0 rfl rfl (by decide) ?_
  refine lf_lif_eq 31 13 rfl rfl rfl rfl lf_RLwl ⟨by decide, by decide⟩ (fun c => ?_) (fun c => ?_)
  · have h := h.1 c
    refine lf_seg 1 (pc' := 33) (lv' := [(4, .long (Int64.ofInt (lf_wl x4))), (6, .long (Int64.ofInt (lf_wl x6)))]) (st' := [.long (Int64.ofInt (lf_wl x4))]) rfl ?_
    exact lf_retL rfl rfl h
  · have h := h.2 c
    refine lf_seg 2 (pc' := 17) (lv' := [(4, .long (Int64.ofInt (lf_wl x4))), (6, .long (Int64.ofInt (lf_wl x6)))]) (st' := [.long (Int64.ofInt (lf_wl x6)), .long (Int64.ofInt (lf_wl x4))]) rfl ?_
    obtain ⟨o21, h⟩ := h
    refine lf_lrem 18 rfl rfl lf_RLwl lf_RLwl o21 ?_
    refine lf_wtL ?_
    refine lf_seg 6 (pc' := 6) (lv' := [(6, .long (Int64.ofInt (lf_wl ((lf_wl x4).tmod (lf_wl x6))))), (4, .long (Int64.ofInt (lf_wl x6))), (8, .long (Int64.ofInt (lf_wl ((lf_wl x4).tmod (lf_wl x6)))))]) (st' := []) rfl ?_
    refine lf_eqs (lv' := [(6, .long (Int64.ofInt (lf_wl ((lf_wl x4).tmod (lf_wl x6))))), (4, .long (Int64.ofInt x6)), (8, .long (Int64.ofInt (lf_wl ((lf_wl x4).tmod (lf_wl x6)))))]) (st' := []) (by simp only [lf_wlE]) rfl ?_
    refine lf_sub (l := [(4, .long (Int64.ofInt x6)), (6, .long (Int64.ofInt (lf_wl ((lf_wl x4).tmod (lf_wl x6)))))]) (lf_sb1 rfl (lf_sb1 rfl lf_sb0)) ?_
    exact hX6 _ _ _ h
theorem gm_292_p6L {L : Nat} {xs : Nat → Int32} {d : Nat} {Q : Int → lf_Z → Prop} {x4 : Int} {x6 : Int} {s : lf_Z} (h : fm_292_p6L Q x4 x6 s) : lf_E (px_ro L xs) (d + 1) 292 6 [(4, .long (Int64.ofInt x4)), (6, .long (Int64.ofInt x6))] [] s (lf_ql Q) :=
  h (fun x4 x6 s => lf_E (px_ro L xs) (d + 1) 292 6 [(4, .long (Int64.ofInt x4)), (6, .long (Int64.ofInt x6))] [] s (lf_ql Q)) (fun x4 x6 s hb => gm_292_p6 (fun _ _ _ h => h) hb)
def fm_292 (a0 : Int) (a1 : Int) (Q : Int → lf_Z → Prop) (s : lf_Z) : Prop := fm_292_p6L Q a0 a1 s
set_option maxRecDepth 100000 in
theorem gm_292 {L : Nat} {xs : Nat → Int32} {d : Nat} {a0 : Int} {a1 : Int} {Q : Int → lf_Z → Prop} {s : lf_Z} (h : fm_292 a0 a1 Q s) : lf_M (px_ro L xs) (d + 1) 292 [.long (Int64.ofInt a0), .long (Int64.ofInt a1)] s (lf_ql Q) := by
  unfold fm_292 at h
  show lf_E (px_ro L xs) (d + 1) 292 0 [(0, .long (Int64.ofInt a0)), (2, .long (Int64.ofInt a1))] [] s _
  refine lf_eqs (lv' := [(0, .long (Int64.ofInt (lf_wl a0))), (2, .long (Int64.ofInt (lf_wl a1)))]) (st' := []) (by simp only [lf_wlE]) rfl ?_
  refine lf_seg 4 (pc' := 6) (lv' := [(6, .long (Int64.ofInt (lf_wl a1))), (4, .long (Int64.ofInt (lf_wl a0))), (0, .long (Int64.ofInt (lf_wl a0))), (2, .long (Int64.ofInt (lf_wl a1)))]) (st' := []) rfl ?_
  refine lf_eqs (lv' := [(6, .long (Int64.ofInt a1)), (4, .long (Int64.ofInt a0)), (0, .long (Int64.ofInt a0)), (2, .long (Int64.ofInt a1))]) (st' := []) (by simp only [lf_wlE]) rfl ?_
  refine lf_sub (l := [(4, .long (Int64.ofInt a0)), (6, .long (Int64.ofInt a1))]) (lf_sb1 rfl (lf_sb1 rfl lf_sb0)) ?_
  exact gm_292_p6L h
-- fm_291 Model.part l l i
def fm_291_p10 (Q : Int → lf_Z → Prop) (x0 : Int) (x2 : Int) (y0 : Int) (s : lf_Z) : Prop := fm_292 (lf_wl x0) (lf_wl x2) (fun r23 s22 => ((lf_wl r23) ≠ 0 ∧ (Q (lf_wl ((lf_wl y0).tdiv (lf_wl r23))) s22))) s
set_option maxRecDepth 100000 in
theorem gm_291_p10 {L : Nat} {xs : Nat → Int32} {d : Nat} {Q : Int → lf_Z → Prop} {x0 : Int} {x2 : Int} {y0 : Int} {s : lf_Z} (h : fm_291_p10 Q x0 x2 y0 s) : lf_E (px_ro L xs) (d + 2) 291 10 [(0, .long (Int64.ofInt x0)), (2, .long (Int64.ofInt x2))] [.long (Int64.ofInt y0)] s (lf_ql Q) := by
  unfold fm_291_p10 at h
  refine lf_eqs (lv' := [(0, .long (Int64.ofInt (lf_wl x0))), (2, .long (Int64.ofInt (lf_wl x2)))]) (st' := [.long (Int64.ofInt (lf_wl y0))]) (by simp only [lf_wlE]) (by simp only [lf_wlE]) ?_
  refine lf_seg 2 (pc' := 12) (lv' := [(0, .long (Int64.ofInt (lf_wl x0))), (2, .long (Int64.ofInt (lf_wl x2)))]) (st' := [.long (Int64.ofInt (lf_wl x2)), .long (Int64.ofInt (lf_wl x0)), .long (Int64.ofInt (lf_wl y0))]) rfl ?_
  refine lf_callL 15 rfl rfl rfl rfl (gm_292 h) (fun r23 s22 h => ?_)
  refine lf_wtL ?_
  obtain ⟨o24, h⟩ := h
  refine lf_ldiv 16 rfl rfl lf_RLwl lf_RLwl o24 ?_
  refine lf_wtL ?_
  exact lf_retL rfl rfl h
def fm_291 (a0 : Int) (a1 : Int) (a2 : Int) (Q : Int → lf_Z → Prop) (s : lf_Z) : Prop := lf_R a2 ∧ ((a2 = 0 → (fm_291_p10 Q a0 a1 a0 s)) ∧ (¬ (a2 = 0) → (fm_291_p10 Q a0 a1 a1 s)))
set_option maxRecDepth 100000 in
theorem gm_291 {L : Nat} {xs : Nat → Int32} {d : Nat} {a0 : Int} {a1 : Int} {a2 : Int} {Q : Int → lf_Z → Prop} {s : lf_Z} (h : fm_291 a0 a1 a2 Q s) : lf_M (px_ro L xs) (d + 2) 291 [.long (Int64.ofInt a0), .long (Int64.ofInt a1), .int (Int32.ofInt a2)] s (lf_ql Q) := by
  unfold fm_291 at h
  show lf_E (px_ro L xs) (d + 2) 291 0 [(0, .long (Int64.ofInt a0)), (2, .long (Int64.ofInt a1)), (4, .int (Int32.ofInt a2))] [] s _
  refine lf_eqs (lv' := [(0, .long (Int64.ofInt (lf_wl a0))), (2, .long (Int64.ofInt (lf_wl a1))), (4, .int (Int32.ofInt a2))]) (st' := []) (by simp only [lf_wlE]) rfl ?_
  refine lf_seg 1 (pc' := 2) (lv' := [(0, .long (Int64.ofInt (lf_wl a0))), (2, .long (Int64.ofInt (lf_wl a1))), (4, .int (Int32.ofInt a2))]) (st' := [.int (Int32.ofInt a2)]) rfl ?_
  obtain ⟨o21, h⟩ := h
  refine lf_if_eq 9 5 rfl rfl rfl o21 (fun c => ?_) (fun c => ?_)
  · have h := h.1 c
    refine lf_seg 1 (pc' := 10) (lv' := [(0, .long (Int64.ofInt (lf_wl a0))), (2, .long (Int64.ofInt (lf_wl a1))), (4, .int (Int32.ofInt a2))]) (st' := [.long (Int64.ofInt (lf_wl a0))]) rfl ?_
    refine lf_eqs (lv' := [(0, .long (Int64.ofInt a0)), (2, .long (Int64.ofInt a1)), (4, .int (Int32.ofInt a2))]) (st' := [.long (Int64.ofInt a0)]) (by simp only [lf_wlE]) (by simp only [lf_wlE]) ?_
    refine lf_sub (l := [(0, .long (Int64.ofInt a0)), (2, .long (Int64.ofInt a1))]) (lf_sb1 rfl (lf_sb1 rfl lf_sb0)) ?_
    exact gm_291_p10 h
  · have h := h.2 c
    refine lf_seg 2 (pc' := 10) (lv' := [(0, .long (Int64.ofInt (lf_wl a0))), (2, .long (Int64.ofInt (lf_wl a1))), (4, .int (Int32.ofInt a2))]) (st' := [.long (Int64.ofInt (lf_wl a1))]) rfl ?_
    refine lf_eqs (lv' := [(0, .long (Int64.ofInt a0)), (2, .long (Int64.ofInt a1)), (4, .int (Int32.ofInt a2))]) (st' := [.long (Int64.ofInt a1)]) (by simp only [lf_wlE]) (by simp only [lf_wlE]) ?_
    refine lf_sub (l := [(0, .long (Int64.ofInt a0)), (2, .long (Int64.ofInt a1))]) (lf_sb1 rfl (lf_sb1 rfl lf_sb0)) ?_
    exact gm_291_p10 h
-- fm_290 Model.spread 95 i i
def fm_290_p98 (X20 : Int → Int → lf_Z → Prop) (Q : lf_Z → Prop) (x1 : Int) (x2 : Int) (x3 : Int) (x4 : Int) (x6 : Int) (s : lf_Z) : Prop := X20 x4 (x6 + 1) s
set_option maxRecDepth 100000 in
theorem gm_290_p98 {L : Nat} {xs : Nat → Int32} {d : Nat} {X20 : Int → Int → lf_Z → Prop} {Q : lf_Z → Prop} {x1 : Int} {x2 : Int} {x3 : Int} {x4 : Int} {x6 : Int} {s : lf_Z} (hX20 : ∀ x4 x6 s, X20 x4 x6 s → lf_E (px_ro L xs) (d + 6) 290 20 [(0, .ref 95), (1, .int (Int32.ofInt x1)), (2, .int (Int32.ofInt x2)), (3, .int (Int32.ofInt x3)), (4, .long (Int64.ofInt x4)), (6, .int (Int32.ofInt x6))] [] s (lf_qv Q)) (h : fm_290_p98 X20 Q x1 x2 x3 x4 x6 s) : lf_E (px_ro L xs) (d + 6) 290 98 [(0, .ref 95), (1, .int (Int32.ofInt x1)), (2, .int (Int32.ofInt x2)), (3, .int (Int32.ofInt x3)), (4, .long (Int64.ofInt x4)), (6, .int (Int32.ofInt x6))] [] s (lf_qv Q) := by
  unfold fm_290_p98 at h
  refine lf_eqs (lv' := [(0, .ref 95), (1, .int (Int32.ofInt x1)), (2, .int (Int32.ofInt x2)), (3, .int (Int32.ofInt x3)), (4, .long (Int64.ofInt (lf_wl x4))), (6, .int (Int32.ofInt x6))]) (st' := []) (by simp only [lf_wlE]) rfl ?_
  refine lf_iinc 101 rfl rfl rfl rfl ?_
  refine lf_seg 1 (pc' := 20) (lv' := [(6, .int (Int32.ofInt (x6 + 1))), (0, .ref 95), (1, .int (Int32.ofInt x1)), (2, .int (Int32.ofInt x2)), (3, .int (Int32.ofInt x3)), (4, .long (Int64.ofInt (lf_wl x4)))]) (st' := []) rfl ?_
  refine lf_eqs (lv' := [(6, .int (Int32.ofInt (x6 + 1))), (0, .ref 95), (1, .int (Int32.ofInt x1)), (2, .int (Int32.ofInt x2)), (3, .int (Int32.ofInt x3)), (4, .long (Int64.ofInt x4))]) (st' := []) (by simp only [lf_wlE]) rfl ?_
  refine lf_sub (l := [(0, .ref 95), (1, .int (Int32.ofInt x1)), (2, .int (Int32.ofInt x2)), (3, .int (Int32.ofInt x3)), (4, .long (Int64.ofInt x4)), (6, .int (Int32.ofInt (x6 + 1)))]) (lf_sb1 rfl (lf_sb1 rfl (lf_sb1 rfl (lf_sb1 rfl (lf_sb1 rfl (lf_sb1 rfl lf_sb0)))))) ?_
  exact hX20 _ _ _ h
def fm_290_p20 (Q : lf_Z → Prop) (x1 : Int) (x2 : Int) (x3 : Int) (X20 : Int → Int → lf_Z → Prop) (x4 : Int) (x6 : Int) (s : lf_Z) : Prop := lf_R x6 ∧ (lf_R (s.1 96 1) ∧ ((s.1 96 1 ≤ x6 → ((0 ≤ x2 ∧ x2 < 156) ∧ (Q (s.1, lf_up s.2.1 110 x2 (lf_wl ((lf_wl (s.2.1 110 x2)) + (lf_wl x4))), s.2.2)))) ∧ (¬ (s.1 96 1 ≤ x6) → (lf_R x2 ∧ (fm_273 x1 x3 ((x2.tmod 13) - 1) x6 (fun r28 s27 => (lf_R r28 ∧ ((r28 ≠ 0 → (fm_187 x6 x3 (fun r31 s30 => ((0 ≤ ((13 * r31) + x3) + 1 ∧ ((13 * r31) + x3) + 1 < 156) ∧ (fm_290_p98 X20 Q x1 x2 x3 (lf_wl ((lf_wl x4) - (lf_wl ((lf_wl ((lf_wl x4).tdiv 10)) * r28)))) x6 (s30.1, lf_up s30.2.1 110 (((13 * r31) + x3) + 1) (lf_wl ((lf_wl (s30.2.1 110 (((13 * r31) + x3) + 1))) + (lf_wl ((lf_wl ((lf_wl x4).tdiv 10)) * r28)))), s30.2.2)))) s27)) ∧ (¬ (r28 ≠ 0) → (fm_290_p98 X20 Q x1 x2 x3 x4 x6 s27))))) s)))))
def fm_290_p20L (Q : lf_Z → Prop) (x1 : Int) (x2 : Int) (x3 : Int) (x4 : Int) (x6 : Int) (s : lf_Z) : Prop := ∀ X20 : Int → Int → lf_Z → Prop, (∀ (x4 : Int) (x6 : Int) (s : lf_Z), fm_290_p20 Q x1 x2 x3 X20 x4 x6 s → X20 x4 x6 s) → X20 x4 x6 s
set_option maxRecDepth 100000 in
theorem gm_290_p20 {L : Nat} {xs : Nat → Int32} {d : Nat} {Q : lf_Z → Prop} {x1 : Int} {x2 : Int} {x3 : Int} {x4 : Int} {x6 : Int} {s : lf_Z} {X20 : Int → Int → lf_Z → Prop} (hX20 : ∀ x4 x6 s, X20 x4 x6 s → lf_E (px_ro L xs) (d + 6) 290 20 [(0, .ref 95), (1, .int (Int32.ofInt x1)), (2, .int (Int32.ofInt x2)), (3, .int (Int32.ofInt x3)), (4, .long (Int64.ofInt x4)), (6, .int (Int32.ofInt x6))] [] s (lf_qv Q)) (h : fm_290_p20 Q x1 x2 x3 X20 x4 x6 s) : lf_E (px_ro L xs) (d + 6) 290 20 [(0, .ref 95), (1, .int (Int32.ofInt x1)), (2, .int (Int32.ofInt x2)), (3, .int (Int32.ofInt x3)), (4, .long (Int64.ofInt x4)), (6, .int (Int32.ofInt x6))] [] s (lf_qv Q) := by
  unfold fm_290_p20 at h
  refine lf_eqs (lv' := [(0, .ref 95), (1, .int (Int32.ofInt x1)), (2, .int (Int32.ofInt x2)), (3, .int (Int32.ofInt x3)), (4, .long (Int64.ofInt (lf_wl x4))), (6, .int (Int32.ofInt x6))]) (st' := []) (by simp only [lf_wlE]) rfl ?_
  refine lf_seg 4 (pc' := 27) (lv' := [(0, .ref 95), (1, .int (Int32.ofInt x1)), (2, .int (Int32.ofInt x2)), (3, .int (Int32.ofInt x3)), (4, .long (Int64.ofInt (lf_wl x4))), (6, .int (Int32.ofInt x6))]) (st' := [.int (Int32.ofInt 1), .ref 96, .int (Int32.ofInt x6)]) rfl ?_
  refine lf_iald 28 1538 rfl rfl rfl rfl rfl rfl ⟨by decide, by decide⟩ ?_
  obtain ⟨o23, h⟩ := h
  obtain ⟨o24, h⟩ := h
  refine lf_icmp_ge 104 31 rfl rfl rfl o23 o24 (fun c => ?_) (fun c => ?_)
  · have h := h.1 c
    refine lf_seg 4 (pc' := 110) (lv' := [(0, .ref 95), (1, .int (Int32.ofInt x1)), (2, .int (Int32.ofInt x2)), (3, .int (Int32.ofInt x3)), (4, .long (Int64.ofInt (lf_wl x4))), (6, .int (Int32.ofInt x6))]) (st' := [.int (Int32.ofInt x2), .ref 110, .int (Int32.ofInt x2), .ref 110]) rfl ?_
    obtain ⟨o25, h⟩ := h
    refine lf_lald 111 156 rfl rfl rfl rfl rfl rfl o25 ?_
    refine lf_wtL ?_
    refine lf_seg 1 (pc' := 113) (lv' := [(0, .ref 95), (1, .int (Int32.ofInt x1)), (2, .int (Int32.ofInt x2)), (3, .int (Int32.ofInt x3)), (4, .long (Int64.ofInt (lf_wl x4))), (6, .int (Int32.ofInt x6))]) (st' := [.long (Int64.ofInt (lf_wl x4)), .long (Int64.ofInt (lf_wl (s.2.1 110 x2))), .int (Int32.ofInt x2), .ref 110]) rfl ?_
    refine lf_ladd 114 rfl rfl ?_
    refine lf_wtL ?_
    refine lf_last 115 156 rfl rfl rfl rfl rfl rfl o25 ?_
    refine lf_as (s.1, lf_up s.2.1 110 x2 (lf_wl ((lf_wl (s.2.1 110 x2)) + (lf_wl x4))), s.2.2) rfl ?_
    exact lf_retV rfl rfl h
  · have h := h.2 c
    refine lf_seg 4 (pc' := 35) (lv' := [(0, .ref 95), (1, .int (Int32.ofInt x1)), (2, .int (Int32.ofInt x2)), (3, .int (Int32.ofInt x3)), (4, .long (Int64.ofInt (lf_wl x4))), (6, .int (Int32.ofInt x6))]) (st' := [.int (Int32.ofInt x2), .int (Int32.ofInt x3), .int (Int32.ofInt x1), .ref 95]) rfl ?_
    refine lf_bipush 37 13 rfl rfl (by decide) (by decide) ?_
    obtain ⟨o26, h⟩ := h
    refine lf_irem 38 rfl rfl o26 ⟨by decide, by decide⟩ (by decide) ?_
    refine lf_seg 1 (pc' := 39) (lv' := [(0, .ref 95), (1, .int (Int32.ofInt x1)), (2, .int (Int32.ofInt x2)), (3, .int (Int32.ofInt x3)), (4, .long (Int64.ofInt (lf_wl x4))), (6, .int (Int32.ofInt x6))]) (st' := [.int (Int32.ofInt 1), .int (Int32.ofInt (x2.tmod 13)), .int (Int32.ofInt x3), .int (Int32.ofInt x1), .ref 95]) rfl ?_
    refine lf_isub 40 rfl rfl ?_
    refine lf_seg 1 (pc' := 42) (lv' := [(0, .ref 95), (1, .int (Int32.ofInt x1)), (2, .int (Int32.ofInt x2)), (3, .int (Int32.ofInt x3)), (4, .long (Int64.ofInt (lf_wl x4))), (6, .int (Int32.ofInt x6))]) (st' := [.int (Int32.ofInt x6), .int (Int32.ofInt ((x2.tmod 13) - 1)), .int (Int32.ofInt x3), .int (Int32.ofInt x1), .ref 95]) rfl ?_
    refine lf_callI 45 rfl rfl rfl rfl (gm_273 h) (fun r28 s27 h => ?_)
    refine lf_seg 2 (pc' := 49) (lv' := [(7, .int (Int32.ofInt r28)), (0, .ref 95), (1, .int (Int32.ofInt x1)), (2, .int (Int32.ofInt x2)), (3, .int (Int32.ofInt x3)), (4, .long (Int64.ofInt (lf_wl x4))), (6, .int (Int32.ofInt x6))]) (st' := [.int (Int32.ofInt r28)]) rfl ?_
    obtain ⟨o29, h⟩ := h
    refine lf_if_ne 55 52 rfl rfl rfl o29 (fun c => ?_) (fun c => ?_)
    · have h := h.1 c
      refine lf_seg 1 (pc' := 57) (lv' := [(7, .int (Int32.ofInt r28)), (0, .ref 95), (1, .int (Int32.ofInt x1)), (2, .int (Int32.ofInt x2)), (3, .int (Int32.ofInt x3)), (4, .long (Int64.ofInt (lf_wl x4))), (6, .int (Int32.ofInt x6))]) (st' := [.long (Int64.ofInt (lf_wl x4))]) rfl ?_
      refine lf_ldc2 60 10 rfl rfl rfl (by decide) ?_
      refine lf_ldiv 61 rfl rfl lf_RLwl ⟨by decide, by decide⟩ (by decide) ?_
      refine lf_wtL ?_
      refine lf_seg 1 (pc' := 63) (lv' := [(7, .int (Int32.ofInt r28)), (0, .ref 95), (1, .int (Int32.ofInt x1)), (2, .int (Int32.ofInt x2)), (3, .int (Int32.ofInt x3)), (4, .long (Int64.ofInt (lf_wl x4))), (6, .int (Int32.ofInt x6))]) (st' := [.int (Int32.ofInt r28), .long (Int64.ofInt (lf_wl ((lf_wl x4).tdiv 10)))]) rfl ?_
      refine lf_i2l 64 rfl rfl o29 ?_
      refine lf_lmul 65 rfl rfl ?_
      refine lf_wtL ?_
      refine lf_seg 3 (pc' := 71) (lv' := [(8, .long (Int64.ofInt (lf_wl ((lf_wl ((lf_wl x4).tdiv 10)) * r28)))), (7, .int (Int32.ofInt r28)), (0, .ref 95), (1, .int (Int32.ofInt x1)), (2, .int (Int32.ofInt x2)), (3, .int (Int32.ofInt x3)), (4, .long (Int64.ofInt (lf_wl x4))), (6, .int (Int32.ofInt x6))]) (st' := [.ref 110]) rfl ?_
      refine lf_bipush 73 13 rfl rfl (by decide) (by decide) ?_
      refine lf_seg 3 (pc' := 77) (lv' := [(8, .long (Int64.ofInt (lf_wl ((lf_wl ((lf_wl x4).tdiv 10)) * r28)))), (7, .int (Int32.ofInt r28)), (0, .ref 95), (1, .int (Int32.ofInt x1)), (2, .int (Int32.ofInt x2)), (3, .int (Int32.ofInt x3)), (4, .long (Int64.ofInt (lf_wl x4))), (6, .int (Int32.ofInt x6))]) (st' := [.int (Int32.ofInt x3), .int (Int32.ofInt x6), .ref 95, .int (Int32.ofInt 13), .ref 110]) rfl ?_
      refine lf_callI 80 rfl rfl rfl rfl (gm_187 h) (fun r31 s30 h => ?_)
      refine lf_imul 81 rfl rfl ?_
      refine lf_seg 1 (pc' := 82) (lv' := [(8, .long (Int64.ofInt (lf_wl ((lf_wl ((lf_wl x4).tdiv 10)) * r28)))), (7, .int (Int32.ofInt r28)), (0, .ref 95), (1, .int (Int32.ofInt x1)), (2, .int (Int32.ofInt x2)), (3, .int (Int32.ofInt x3)), (4, .long (Int64.ofInt (lf_wl x4))), (6, .int (Int32.ofInt x6))]) (st' := [.int (Int32.ofInt x3), .int (Int32.ofInt (13 * r31)), .ref 110]) rfl ?_
      refine lf_iadd 83 rfl rfl ?_
      refine lf_seg 1 (pc' := 84) (lv' := [(8, .long (Int64.ofInt (lf_wl ((lf_wl ((lf_wl x4).tdiv 10)) * r28)))), (7, .int (Int32.ofInt r28)), (0, .ref 95), (1, .int (Int32.ofInt x1)), (2, .int (Int32.ofInt x2)), (3, .int (Int32.ofInt x3)), (4, .long (Int64.ofInt (lf_wl x4))), (6, .int (Int32.ofInt x6))]) (st' := [.int (Int32.ofInt 1), .int (Int32.ofInt ((13 * r31) + x3)), .ref 110]) rfl ?_
      refine lf_iadd 85 rfl rfl ?_
      refine lf_seg 1 (pc' := 86) (lv' := [(8, .long (Int64.ofInt (lf_wl ((lf_wl ((lf_wl x4).tdiv 10)) * r28)))), (7, .int (Int32.ofInt r28)), (0, .ref 95), (1, .int (Int32.ofInt x1)), (2, .int (Int32.ofInt x2)), (3, .int (Int32.ofInt x3)), (4, .long (Int64.ofInt (lf_wl x4))), (6, .int (Int32.ofInt x6))]) (st' := [.int (Int32.ofInt (((13 * r31) + x3) + 1)), .ref 110, .int (Int32.ofInt (((13 * r31) + x3) + 1)), .ref 110]) rfl ?_
      obtain ⟨o32, h⟩ := h
      refine lf_lald 87 156 rfl rfl rfl rfl rfl rfl o32 ?_
      refine lf_wtL ?_
      refine lf_seg 1 (pc' := 89) (lv' := [(8, .long (Int64.ofInt (lf_wl ((lf_wl ((lf_wl x4).tdiv 10)) * r28)))), (7, .int (Int32.ofInt r28)), (0, .ref 95), (1, .int (Int32.ofInt x1)), (2, .int (Int32.ofInt x2)), (3, .int (Int32.ofInt x3)), (4, .long (Int64.ofInt (lf_wl x4))), (6, .int (Int32.ofInt x6))]) (st' := [.long (Int64.ofInt (lf_wl ((lf_wl ((lf_wl x4).tdiv 10)) * r28))), .long (Int64.ofInt (lf_wl (s30.2.1 110 (((13 * r31) + x3) + 1)))), .int (Int32.ofInt (((13 * r31) + x3) + 1)), .ref 110]) rfl ?_
      refine lf_ladd 90 rfl rfl ?_
      refine lf_wtL ?_
      refine lf_last 91 156 rfl rfl rfl rfl rfl rfl o32 ?_
      refine lf_as (s30.1, lf_up s30.2.1 110 (((13 * r31) + x3) + 1) (lf_wl ((lf_wl (s30.2.1 110 (((13 * r31) + x3) + 1))) + (lf_wl ((lf_wl ((lf_wl x4).tdiv 10)) * r28)))), s30.2.2) rfl ?_
      refine lf_seg 2 (pc' := 95) (lv' := [(8, .long (Int64.ofInt (lf_wl ((lf_wl ((lf_wl x4).tdiv 10)) * r28)))), (7, .int (Int32.ofInt r28)), (0, .ref 95), (1, .int (Int32.ofInt x1)), (2, .int (Int32.ofInt x2)), (3, .int (Int32.ofInt x3)), (4, .long (Int64.ofInt (lf_wl x4))), (6, .int (Int32.ofInt x6))]) (st' := [.long (Int64.ofInt (lf_wl ((lf_wl ((lf_wl x4).tdiv 10)) * r28))), .long (Int64.ofInt (lf_wl x4))]) rfl ?_
      refine lf_lsub 96 rfl rfl ?_
      refine lf_wtL ?_
      refine lf_seg 1 (pc' := 98) (lv' := [(4, .long (Int64.ofInt (lf_wl ((lf_wl x4) - (lf_wl ((lf_wl ((lf_wl x4).tdiv 10)) * r28)))))), (8, .long (Int64.ofInt (lf_wl ((lf_wl ((lf_wl x4).tdiv 10)) * r28)))), (7, .int (Int32.ofInt r28)), (0, .ref 95), (1, .int (Int32.ofInt x1)), (2, .int (Int32.ofInt x2)), (3, .int (Int32.ofInt x3)), (6, .int (Int32.ofInt x6))]) (st' := []) rfl ?_
      refine lf_sub (l := [(0, .ref 95), (1, .int (Int32.ofInt x1)), (2, .int (Int32.ofInt x2)), (3, .int (Int32.ofInt x3)), (4, .long (Int64.ofInt (lf_wl ((lf_wl x4) - (lf_wl ((lf_wl ((lf_wl x4).tdiv 10)) * r28)))))), (6, .int (Int32.ofInt x6))]) (lf_sb1 rfl (lf_sb1 rfl (lf_sb1 rfl (lf_sb1 rfl (lf_sb1 rfl (lf_sb1 rfl lf_sb0)))))) ?_
      exact gm_290_p98 hX20 h
    · have h := h.2 c
      refine lf_seg 1 (pc' := 98) (lv' := [(7, .int (Int32.ofInt r28)), (0, .ref 95), (1, .int (Int32.ofInt x1)), (2, .int (Int32.ofInt x2)), (3, .int (Int32.ofInt x3)), (4, .long (Int64.ofInt (lf_wl x4))), (6, .int (Int32.ofInt x6))]) (st' := []) rfl ?_
      refine lf_eqs (lv' := [(7, .int (Int32.ofInt r28)), (0, .ref 95), (1, .int (Int32.ofInt x1)), (2, .int (Int32.ofInt x2)), (3, .int (Int32.ofInt x3)), (4, .long (Int64.ofInt x4)), (6, .int (Int32.ofInt x6))]) (st' := []) (by simp only [lf_wlE]) rfl ?_
      refine lf_sub (l := [(0, .ref 95), (1, .int (Int32.ofInt x1)), (2, .int (Int32.ofInt x2)), (3, .int (Int32.ofInt x3)), (4, .long (Int64.ofInt x4)), (6, .int (Int32.ofInt x6))]) (lf_sb1 rfl (lf_sb1 rfl (lf_sb1 rfl (lf_sb1 rfl (lf_sb1 rfl (lf_sb1 rfl lf_sb0)))))) ?_
      exact gm_290_p98 hX20 h
theorem gm_290_p20L {L : Nat} {xs : Nat → Int32} {d : Nat} {Q : lf_Z → Prop} {x1 : Int} {x2 : Int} {x3 : Int} {x4 : Int} {x6 : Int} {s : lf_Z} (h : fm_290_p20L Q x1 x2 x3 x4 x6 s) : lf_E (px_ro L xs) (d + 6) 290 20 [(0, .ref 95), (1, .int (Int32.ofInt x1)), (2, .int (Int32.ofInt x2)), (3, .int (Int32.ofInt x3)), (4, .long (Int64.ofInt x4)), (6, .int (Int32.ofInt x6))] [] s (lf_qv Q) :=
  h (fun x4 x6 s => lf_E (px_ro L xs) (d + 6) 290 20 [(0, .ref 95), (1, .int (Int32.ofInt x1)), (2, .int (Int32.ofInt x2)), (3, .int (Int32.ofInt x3)), (4, .long (Int64.ofInt x4)), (6, .int (Int32.ofInt x6))] [] s (lf_qv Q)) (fun x4 x6 s hb => gm_290_p20 (fun _ _ _ h => h) hb)
def fm_290 (a1 : Int) (a2 : Int) (Q : lf_Z → Prop) (s : lf_Z) : Prop := lf_R a2 ∧ ((0 ≤ a2 ∧ a2 < 156) ∧ (fm_290_p20L Q a1 a2 (a2.tdiv 13) (lf_wl ((lf_wl (s.2.1 109 a2)) * 10000)) 0 s))
set_option maxRecDepth 100000 in
theorem gm_290 {L : Nat} {xs : Nat → Int32} {d : Nat} {a1 : Int} {a2 : Int} {Q : lf_Z → Prop} {s : lf_Z} (h : fm_290 a1 a2 Q s) : lf_M (px_ro L xs) (d + 6) 290 [.ref 95, .int (Int32.ofInt a1), .int (Int32.ofInt a2)] s (lf_qv Q) := by
  unfold fm_290 at h
  show lf_E (px_ro L xs) (d + 6) 290 0 [(0, .ref 95), (1, .int (Int32.ofInt a1)), (2, .int (Int32.ofInt a2))] [] s _
  refine lf_seg 1 (pc' := 1) (lv' := [(0, .ref 95), (1, .int (Int32.ofInt a1)), (2, .int (Int32.ofInt a2))]) (st' := [.int (Int32.ofInt a2)]) rfl ?_
  refine lf_bipush 3 13 rfl rfl (by decide) (by decide) ?_
  obtain ⟨o21, h⟩ := h
  refine lf_idiv 4 rfl rfl o21 ⟨by decide, by decide⟩ (by decide) ?_
  refine lf_seg 4 (pc' := 10) (lv' := [(3, .int (Int32.ofInt (a2.tdiv 13))), (0, .ref 95), (1, .int (Int32.ofInt a1)), (2, .int (Int32.ofInt a2))]) (st' := [.int (Int32.ofInt a2), .ref 109]) rfl ?_
  obtain ⟨o22, h⟩ := h
  refine lf_lald 11 156 rfl rfl rfl rfl rfl rfl o22 ?_
  refine lf_wtL ?_
  refine lf_ldc2 14 10000 rfl rfl rfl (by decide) ?_
  refine lf_lmul 15 rfl rfl ?_
  refine lf_wtL ?_
  refine lf_seg 3 (pc' := 20) (lv' := [(6, .int (Int32.ofInt 0)), (4, .long (Int64.ofInt (lf_wl ((lf_wl (s.2.1 109 a2)) * 10000)))), (3, .int (Int32.ofInt (a2.tdiv 13))), (0, .ref 95), (1, .int (Int32.ofInt a1)), (2, .int (Int32.ofInt a2))]) (st' := []) rfl ?_
  refine lf_sub (l := [(0, .ref 95), (1, .int (Int32.ofInt a1)), (2, .int (Int32.ofInt a2)), (3, .int (Int32.ofInt (a2.tdiv 13))), (4, .long (Int64.ofInt (lf_wl ((lf_wl (s.2.1 109 a2)) * 10000)))), (6, .int (Int32.ofInt 0))]) (lf_sb1 rfl (lf_sb1 rfl (lf_sb1 rfl (lf_sb1 rfl (lf_sb1 rfl (lf_sb1 rfl lf_sb0)))))) ?_
  exact gm_290_p20L h
-- fm_289 Model.where 95 i i i i
def fm_289_p25 (Q : Int → lf_Z → Prop) (s : lf_Z) : Prop := Q (-1) s
set_option maxRecDepth 100000 in
theorem gm_289_p25 {L : Nat} {xs : Nat → Int32} {d : Nat} {Q : Int → lf_Z → Prop} {s : lf_Z} (h : fm_289_p25 Q s) : lf_E (px_ro L xs) (d + 7) 289 25 [] [] s (lf_ql Q) := by
  unfold fm_289_p25 at h
  refine lf_ldc2 28 (-1) rfl rfl rfl (by decide) ?_
  exact lf_retL rfl rfl h
def fm_289_p204 (Q : Int → lf_Z → Prop) (x3 : Int) (x4 : Int) (x5 : Int) (X204 : Int → Int → lf_Z → Prop) (x7 : Int) (x9 : Int) (s : lf_Z) : Prop := lf_R x9 ∧ ((13 ≤ x9 → (fm_291 (lf_wl x7) (lf_wl x5) x4 (fun r37 s36 => (Q (lf_wl r37) s36)) s)) ∧ (¬ (13 ≤ x9) → ((0 ≤ (13 * x3) + x9 ∧ (13 * x3) + x9 < 156) ∧ (X204 (lf_wl ((lf_wl x7) + (lf_wl (s.2.1 109 ((13 * x3) + x9))))) (x9 + 1) s))))
def fm_289_p204L (Q : Int → lf_Z → Prop) (x3 : Int) (x4 : Int) (x5 : Int) (x7 : Int) (x9 : Int) (s : lf_Z) : Prop := ∀ X204 : Int → Int → lf_Z → Prop, (∀ (x7 : Int) (x9 : Int) (s : lf_Z), fm_289_p204 Q x3 x4 x5 X204 x7 x9 s → X204 x7 x9 s) → X204 x7 x9 s
set_option maxRecDepth 100000 in
theorem gm_289_p204 {L : Nat} {xs : Nat → Int32} {d : Nat} {Q : Int → lf_Z → Prop} {x3 : Int} {x4 : Int} {x5 : Int} {x7 : Int} {x9 : Int} {s : lf_Z} {X204 : Int → Int → lf_Z → Prop} (hX204 : ∀ x7 x9 s, X204 x7 x9 s → lf_E (px_ro L xs) (d + 7) 289 204 [(0, .ref 95), (3, .int (Int32.ofInt x3)), (4, .int (Int32.ofInt x4)), (5, .long (Int64.ofInt x5)), (7, .long (Int64.ofInt x7)), (9, .int (Int32.ofInt x9))] [] s (lf_ql Q)) (h : fm_289_p204 Q x3 x4 x5 X204 x7 x9 s) : lf_E (px_ro L xs) (d + 7) 289 204 [(0, .ref 95), (3, .int (Int32.ofInt x3)), (4, .int (Int32.ofInt x4)), (5, .long (Int64.ofInt x5)), (7, .long (Int64.ofInt x7)), (9, .int (Int32.ofInt x9))] [] s (lf_ql Q) := by
  unfold fm_289_p204 at h
  refine lf_eqs (lv' := [(0, .ref 95), (3, .int (Int32.ofInt x3)), (4, .int (Int32.ofInt x4)), (5, .long (Int64.ofInt (lf_wl x5))), (7, .long (Int64.ofInt (lf_wl x7))), (9, .int (Int32.ofInt x9))]) (st' := []) (by simp only [lf_wlE]) rfl ?_
  refine lf_seg 1 (pc' := 206) (lv' := [(0, .ref 95), (3, .int (Int32.ofInt x3)), (4, .int (Int32.ofInt x4)), (5, .long (Int64.ofInt (lf_wl x5))), (7, .long (Int64.ofInt (lf_wl x7))), (9, .int (Int32.ofInt x9))]) (st' := [.int (Int32.ofInt x9)]) rfl ?_
  refine lf_bipush 208 13 rfl rfl (by decide) (by decide) ?_
  obtain ⟨o35, h⟩ := h
  refine lf_icmp_ge 234 211 rfl rfl rfl o35 ⟨by decide, by decide⟩ (fun c => ?_) (fun c => ?_)
  · have h := h.1 c
    refine lf_seg 3 (pc' := 240) (lv' := [(0, .ref 95), (3, .int (Int32.ofInt x3)), (4, .int (Int32.ofInt x4)), (5, .long (Int64.ofInt (lf_wl x5))), (7, .long (Int64.ofInt (lf_wl x7))), (9, .int (Int32.ofInt x9))]) (st' := [.int (Int32.ofInt x4), .long (Int64.ofInt (lf_wl x5)), .long (Int64.ofInt (lf_wl x7))]) rfl ?_
    refine lf_callL 243 rfl rfl rfl rfl (gm_291 h) (fun r37 s36 h => ?_)
    refine lf_wtL ?_
    exact lf_retL rfl rfl h
  · have h := h.2 c
    refine lf_seg 3 (pc' := 217) (lv' := [(0, .ref 95), (3, .int (Int32.ofInt x3)), (4, .int (Int32.ofInt x4)), (5, .long (Int64.ofInt (lf_wl x5))), (7, .long (Int64.ofInt (lf_wl x7))), (9, .int (Int32.ofInt x9))]) (st' := [.ref 109, .long (Int64.ofInt (lf_wl x7))]) rfl ?_
    refine lf_bipush 219 13 rfl rfl (by decide) (by decide) ?_
    refine lf_seg 1 (pc' := 220) (lv' := [(0, .ref 95), (3, .int (Int32.ofInt x3)), (4, .int (Int32.ofInt x4)), (5, .long (Int64.ofInt (lf_wl x5))), (7, .long (Int64.ofInt (lf_wl x7))), (9, .int (Int32.ofInt x9))]) (st' := [.int (Int32.ofInt x3), .int (Int32.ofInt 13), .ref 109, .long (Int64.ofInt (lf_wl x7))]) rfl ?_
    refine lf_imul 221 rfl rfl ?_
    refine lf_seg 1 (pc' := 223) (lv' := [(0, .ref 95), (3, .int (Int32.ofInt x3)), (4, .int (Int32.ofInt x4)), (5, .long (Int64.ofInt (lf_wl x5))), (7, .long (Int64.ofInt (lf_wl x7))), (9, .int (Int32.ofInt x9))]) (st' := [.int (Int32.ofInt x9), .int (Int32.ofInt (13 * x3)), .ref 109, .long (Int64.ofInt (lf_wl x7))]) rfl ?_
    refine lf_iadd 224 rfl rfl ?_
    obtain ⟨o38, h⟩ := h
    refine lf_lald 225 156 rfl rfl rfl rfl rfl rfl o38 ?_
    refine lf_wtL ?_
    refine lf_ladd 226 rfl rfl ?_
    refine lf_wtL ?_
    refine lf_seg 1 (pc' := 228) (lv' := [(7, .long (Int64.ofInt (lf_wl ((lf_wl x7) + (lf_wl (s.2.1 109 ((13 * x3) + x9))))))), (0, .ref 95), (3, .int (Int32.ofInt x3)), (4, .int (Int32.ofInt x4)), (5, .long (Int64.ofInt (lf_wl x5))), (9, .int (Int32.ofInt x9))]) (st' := []) rfl ?_
    refine lf_iinc 231 rfl rfl rfl rfl ?_
    refine lf_seg 1 (pc' := 204) (lv' := [(9, .int (Int32.ofInt (x9 + 1))), (7, .long (Int64.ofInt (lf_wl ((lf_wl x7) + (lf_wl (s.2.1 109 ((13 * x3) + x9))))))), (0, .ref 95), (3, .int (Int32.ofInt x3)), (4, .int (Int32.ofInt x4)), (5, .long (Int64.ofInt (lf_wl x5)))]) (st' := []) rfl ?_
    refine lf_eqs (lv' := [(9, .int (Int32.ofInt (x9 + 1))), (7, .long (Int64.ofInt (lf_wl ((lf_wl x7) + (lf_wl (s.2.1 109 ((13 * x3) + x9))))))), (0, .ref 95), (3, .int (Int32.ofInt x3)), (4, .int (Int32.ofInt x4)), (5, .long (Int64.ofInt x5))]) (st' := []) (by simp only [lf_wlE]) rfl ?_
    refine lf_sub (l := [(0, .ref 95), (3, .int (Int32.ofInt x3)), (4, .int (Int32.ofInt x4)), (5, .long (Int64.ofInt x5)), (7, .long (Int64.ofInt (lf_wl ((lf_wl x7) + (lf_wl (s.2.1 109 ((13 * x3) + x9))))))), (9, .int (Int32.ofInt (x9 + 1)))]) (lf_sb1 rfl (lf_sb1 rfl (lf_sb1 rfl (lf_sb1 rfl (lf_sb1 rfl (lf_sb1 rfl lf_sb0)))))) ?_
    exact hX204 _ _ _ h
theorem gm_289_p204L {L : Nat} {xs : Nat → Int32} {d : Nat} {Q : Int → lf_Z → Prop} {x3 : Int} {x4 : Int} {x5 : Int} {x7 : Int} {x9 : Int} {s : lf_Z} (h : fm_289_p204L Q x3 x4 x5 x7 x9 s) : lf_E (px_ro L xs) (d + 7) 289 204 [(0, .ref 95), (3, .int (Int32.ofInt x3)), (4, .int (Int32.ofInt x4)), (5, .long (Int64.ofInt x5)), (7, .long (Int64.ofInt x7)), (9, .int (Int32.ofInt x9))] [] s (lf_ql Q) :=
  h (fun x7 x9 s => lf_E (px_ro L xs) (d + 7) 289 204 [(0, .ref 95), (3, .int (Int32.ofInt x3)), (4, .int (Int32.ofInt x4)), (5, .long (Int64.ofInt x5)), (7, .long (Int64.ofInt x7)), (9, .int (Int32.ofInt x9))] [] s (lf_ql Q)) (fun x7 x9 s hb => gm_289_p204 (fun _ _ _ h => h) hb)
def fm_289_p156 (X82 : Int → Int → lf_Z → Prop) (Q : Int → lf_Z → Prop) (x1 : Int) (x2 : Int) (x3 : Int) (x4 : Int) (x5 : Int) (x7 : Int) (X156 : Int → lf_Z → Prop) (x8 : Int) (s : lf_Z) : Prop := lf_R x8 ∧ ((156 ≤ x8 → (X82 (lf_wl ((lf_wl x5) * 10000)) (x7 + 1) s)) ∧ (¬ (156 ≤ x8) → ((0 ≤ x8 ∧ x8 < 156) ∧ (X156 (x8 + 1) (s.1, lf_up s.2.1 109 x8 (lf_wl (s.2.1 110 x8)), s.2.2)))))
def fm_289_p156L (X82 : Int → Int → lf_Z → Prop) (Q : Int → lf_Z → Prop) (x1 : Int) (x2 : Int) (x3 : Int) (x4 : Int) (x5 : Int) (x7 : Int) (x8 : Int) (s : lf_Z) : Prop := ∀ X156 : Int → lf_Z → Prop, (∀ (x8 : Int) (s : lf_Z), fm_289_p156 X82 Q x1 x2 x3 x4 x5 x7 X156 x8 s → X156 x8 s) → X156 x8 s
set_option maxRecDepth 100000 in
theorem gm_289_p156 {L : Nat} {xs : Nat → Int32} {d : Nat} {X82 : Int → Int → lf_Z → Prop} {Q : Int → lf_Z → Prop} {x1 : Int} {x2 : Int} {x3 : Int} {x4 : Int} {x5 : Int} {x7 : Int} {x8 : Int} {s : lf_Z} {X156 : Int → lf_Z → Prop} (hX82 : ∀ x5 x7 s, X82 x5 x7 s → lf_E (px_ro L xs) (d + 7) 289 82 [(0, .ref 95), (1, .int (Int32.ofInt x1)), (2, .int (Int32.ofInt x2)), (3, .int (Int32.ofInt x3)), (4, .int (Int32.ofInt x4)), (5, .long (Int64.ofInt x5)), (7, .int (Int32.ofInt x7))] [] s (lf_ql Q)) (hX156 : ∀ x8 s, X156 x8 s → lf_E (px_ro L xs) (d + 7) 289 156 [(0, .ref 95), (1, .int (Int32.ofInt x1)), (2, .int (Int32.ofInt x2)), (3, .int (Int32.ofInt x3)), (4, .int (Int32.ofInt x4)), (5, .long (Int64.ofInt x5)), (7, .int (Int32.ofInt x7)), (8, .int (Int32.ofInt x8))] [] s (lf_ql Q)) (h : fm_289_p156 X82 Q x1 x2 x3 x4 x5 x7 X156 x8 s) : lf_E (px_ro L xs) (d + 7) 289 156 [(0, .ref 95), (1, .int (Int32.ofInt x1)), (2, .int (Int32.ofInt x2)), (3, .int (Int32.ofInt x3)), (4, .int (Int32.ofInt x4)), (5, .long (Int64.ofInt x5)), (7, .int (Int32.ofInt x7)), (8, .int (Int32.ofInt x8))] [] s (lf_ql Q) := by
  unfold fm_289_p156 at h
  refine lf_eqs (lv' := [(0, .ref 95), (1, .int (Int32.ofInt x1)), (2, .int (Int32.ofInt x2)), (3, .int (Int32.ofInt x3)), (4, .int (Int32.ofInt x4)), (5, .long (Int64.ofInt (lf_wl x5))), (7, .int (Int32.ofInt x7)), (8, .int (Int32.ofInt x8))]) (st' := []) (by simp only [lf_wlE]) rfl ?_
  refine lf_seg 1 (pc' := 158) (lv' := [(0, .ref 95), (1, .int (Int32.ofInt x1)), (2, .int (Int32.ofInt x2)), (3, .int (Int32.ofInt x3)), (4, .int (Int32.ofInt x4)), (5, .long (Int64.ofInt (lf_wl x5))), (7, .int (Int32.ofInt x7)), (8, .int (Int32.ofInt x8))]) (st' := [.int (Int32.ofInt x8)]) rfl ?_
  refine lf_sipush 161 156 rfl rfl (by decide) (by decide) ?_
  obtain ⟨o41, h⟩ := h
  refine lf_icmp_ge 184 164 rfl rfl rfl o41 ⟨by decide, by decide⟩ (fun c => ?_) (fun c => ?_)
  · have h := h.1 c
    refine lf_seg 1 (pc' := 186) (lv' := [(0, .ref 95), (1, .int (Int32.ofInt x1)), (2, .int (Int32.ofInt x2)), (3, .int (Int32.ofInt x3)), (4, .int (Int32.ofInt x4)), (5, .long (Int64.ofInt (lf_wl x5))), (7, .int (Int32.ofInt x7)), (8, .int (Int32.ofInt x8))]) (st' := [.long (Int64.ofInt (lf_wl x5))]) rfl ?_
    refine lf_ldc2 189 10000 rfl rfl rfl (by decide) ?_
    refine lf_lmul 190 rfl rfl ?_
    refine lf_wtL ?_
    refine lf_seg 1 (pc' := 192) (lv' := [(5, .long (Int64.ofInt (lf_wl ((lf_wl x5) * 10000)))), (0, .ref 95), (1, .int (Int32.ofInt x1)), (2, .int (Int32.ofInt x2)), (3, .int (Int32.ofInt x3)), (4, .int (Int32.ofInt x4)), (7, .int (Int32.ofInt x7)), (8, .int (Int32.ofInt x8))]) (st' := []) rfl ?_
    refine lf_iinc 195 rfl rfl rfl rfl ?_
    refine lf_seg 1 (pc' := 82) (lv' := [(7, .int (Int32.ofInt (x7 + 1))), (5, .long (Int64.ofInt (lf_wl ((lf_wl x5) * 10000)))), (0, .ref 95), (1, .int (Int32.ofInt x1)), (2, .int (Int32.ofInt x2)), (3, .int (Int32.ofInt x3)), (4, .int (Int32.ofInt x4)), (8, .int (Int32.ofInt x8))]) (st' := []) rfl ?_
    refine lf_sub (l := [(0, .ref 95), (1, .int (Int32.ofInt x1)), (2, .int (Int32.ofInt x2)), (3, .int (Int32.ofInt x3)), (4, .int (Int32.ofInt x4)), (5, .long (Int64.ofInt (lf_wl ((lf_wl x5) * 10000)))), (7, .int (Int32.ofInt (x7 + 1)))]) (lf_sb1 rfl (lf_sb1 rfl (lf_sb1 rfl (lf_sb1 rfl (lf_sb1 rfl (lf_sb1 rfl (lf_sb1 rfl lf_sb0))))))) ?_
    exact hX82 _ _ _ h
  · have h := h.2 c
    refine lf_seg 6 (pc' := 176) (lv' := [(0, .ref 95), (1, .int (Int32.ofInt x1)), (2, .int (Int32.ofInt x2)), (3, .int (Int32.ofInt x3)), (4, .int (Int32.ofInt x4)), (5, .long (Int64.ofInt (lf_wl x5))), (7, .int (Int32.ofInt x7)), (8, .int (Int32.ofInt x8))]) (st' := [.int (Int32.ofInt x8), .ref 110, .int (Int32.ofInt x8), .ref 109]) rfl ?_
    obtain ⟨o42, h⟩ := h
    refine lf_lald 177 156 rfl rfl rfl rfl rfl rfl o42 ?_
    refine lf_wtL ?_
    refine lf_last 178 156 rfl rfl rfl rfl rfl rfl o42 ?_
    refine lf_as (s.1, lf_up s.2.1 109 x8 (lf_wl (s.2.1 110 x8)), s.2.2) rfl ?_
    refine lf_iinc 181 rfl rfl rfl rfl ?_
    refine lf_seg 1 (pc' := 156) (lv' := [(8, .int (Int32.ofInt (x8 + 1))), (0, .ref 95), (1, .int (Int32.ofInt x1)), (2, .int (Int32.ofInt x2)), (3, .int (Int32.ofInt x3)), (4, .int (Int32.ofInt x4)), (5, .long (Int64.ofInt (lf_wl x5))), (7, .int (Int32.ofInt x7))]) (st' := []) rfl ?_
    refine lf_eqs (lv' := [(8, .int (Int32.ofInt (x8 + 1))), (0, .ref 95), (1, .int (Int32.ofInt x1)), (2, .int (Int32.ofInt x2)), (3, .int (Int32.ofInt x3)), (4, .int (Int32.ofInt x4)), (5, .long (Int64.ofInt x5)), (7, .int (Int32.ofInt x7))]) (st' := []) (by simp only [lf_wlE]) rfl ?_
    refine lf_sub (l := [(0, .ref 95), (1, .int (Int32.ofInt x1)), (2, .int (Int32.ofInt x2)), (3, .int (Int32.ofInt x3)), (4, .int (Int32.ofInt x4)), (5, .long (Int64.ofInt x5)), (7, .int (Int32.ofInt x7)), (8, .int (Int32.ofInt (x8 + 1)))]) (lf_sb1 rfl (lf_sb1 rfl (lf_sb1 rfl (lf_sb1 rfl (lf_sb1 rfl (lf_sb1 rfl (lf_sb1 rfl (lf_sb1 rfl lf_sb0)))))))) ?_
    exact hX156 _ _ h
theorem gm_289_p156L {L : Nat} {xs : Nat → Int32} {d : Nat} {X82 : Int → Int → lf_Z → Prop} {Q : Int → lf_Z → Prop} {x1 : Int} {x2 : Int} {x3 : Int} {x4 : Int} {x5 : Int} {x7 : Int} {x8 : Int} {s : lf_Z} (hX82 : ∀ x5 x7 s, X82 x5 x7 s → lf_E (px_ro L xs) (d + 7) 289 82 [(0, .ref 95), (1, .int (Int32.ofInt x1)), (2, .int (Int32.ofInt x2)), (3, .int (Int32.ofInt x3)), (4, .int (Int32.ofInt x4)), (5, .long (Int64.ofInt x5)), (7, .int (Int32.ofInt x7))] [] s (lf_ql Q)) (h : fm_289_p156L X82 Q x1 x2 x3 x4 x5 x7 x8 s) : lf_E (px_ro L xs) (d + 7) 289 156 [(0, .ref 95), (1, .int (Int32.ofInt x1)), (2, .int (Int32.ofInt x2)), (3, .int (Int32.ofInt x3)), (4, .int (Int32.ofInt x4)), (5, .long (Int64.ofInt x5)), (7, .int (Int32.ofInt x7)), (8, .int (Int32.ofInt x8))] [] s (lf_ql Q) :=
  h (fun x8 s => lf_E (px_ro L xs) (d + 7) 289 156 [(0, .ref 95), (1, .int (Int32.ofInt x1)), (2, .int (Int32.ofInt x2)), (3, .int (Int32.ofInt x3)), (4, .int (Int32.ofInt x4)), (5, .long (Int64.ofInt x5)), (7, .int (Int32.ofInt x7)), (8, .int (Int32.ofInt x8))] [] s (lf_ql Q)) (fun x8 s hb => gm_289_p156 hX82 (fun _ _ h => h) hb)
def fm_289_p147 (X82 : Int → Int → lf_Z → Prop) (X116 : Int → lf_Z → Prop) (Q : Int → lf_Z → Prop) (x1 : Int) (x2 : Int) (x3 : Int) (x4 : Int) (x5 : Int) (x7 : Int) (x8 : Int) (s : lf_Z) : Prop := X116 (x8 + 1) s
set_option maxRecDepth 100000 in
theorem gm_289_p147 {L : Nat} {xs : Nat → Int32} {d : Nat} {X82 : Int → Int → lf_Z → Prop} {X116 : Int → lf_Z → Prop} {Q : Int → lf_Z → Prop} {x1 : Int} {x2 : Int} {x3 : Int} {x4 : Int} {x5 : Int} {x7 : Int} {x8 : Int} {s : lf_Z} (hX82 : ∀ x5 x7 s, X82 x5 x7 s → lf_E (px_ro L xs) (d + 7) 289 82 [(0, .ref 95), (1, .int (Int32.ofInt x1)), (2, .int (Int32.ofInt x2)), (3, .int (Int32.ofInt x3)), (4, .int (Int32.ofInt x4)), (5, .long (Int64.ofInt x5)), (7, .int (Int32.ofInt x7))] [] s (lf_ql Q)) (hX116 : ∀ x8 s, X116 x8 s → lf_E (px_ro L xs) (d + 7) 289 116 [(0, .ref 95), (1, .int (Int32.ofInt x1)), (2, .int (Int32.ofInt x2)), (3, .int (Int32.ofInt x3)), (4, .int (Int32.ofInt x4)), (5, .long (Int64.ofInt x5)), (7, .int (Int32.ofInt x7)), (8, .int (Int32.ofInt x8))] [] s (lf_ql Q)) (h : fm_289_p147 X82 X116 Q x1 x2 x3 x4 x5 x7 x8 s) : lf_E (px_ro L xs) (d + 7) 289 147 [(0, .ref 95), (1, .int (Int32.ofInt x1)), (2, .int (Int32.ofInt x2)), (3, .int (Int32.ofInt x3)), (4, .int (Int32.ofInt x4)), (5, .long (Int64.ofInt x5)), (7, .int (Int32.ofInt x7)), (8, .int (Int32.ofInt x8))] [] s (lf_ql Q) := by
  unfold fm_289_p147 at h
  refine lf_eqs (lv' := [(0, .ref 95), (1, .int (Int32.ofInt x1)), (2, .int (Int32.ofInt x2)), (3, .int (Int32.ofInt x3)), (4, .int (Int32.ofInt x4)), (5, .long (Int64.ofInt (lf_wl x5))), (7, .int (Int32.ofInt x7)), (8, .int (Int32.ofInt x8))]) (st' := []) (by simp only [lf_wlE]) rfl ?_
  refine lf_iinc 150 rfl rfl rfl rfl ?_
  refine lf_seg 1 (pc' := 116) (lv' := [(8, .int (Int32.ofInt (x8 + 1))), (0, .ref 95), (1, .int (Int32.ofInt x1)), (2, .int (Int32.ofInt x2)), (3, .int (Int32.ofInt x3)), (4, .int (Int32.ofInt x4)), (5, .long (Int64.ofInt (lf_wl x5))), (7, .int (Int32.ofInt x7))]) (st' := []) rfl ?_
  refine lf_eqs (lv' := [(8, .int (Int32.ofInt (x8 + 1))), (0, .ref 95), (1, .int (Int32.ofInt x1)), (2, .int (Int32.ofInt x2)), (3, .int (Int32.ofInt x3)), (4, .int (Int32.ofInt x4)), (5, .long (Int64.ofInt x5)), (7, .int (Int32.ofInt x7))]) (st' := []) (by simp only [lf_wlE]) rfl ?_
  refine lf_sub (l := [(0, .ref 95), (1, .int (Int32.ofInt x1)), (2, .int (Int32.ofInt x2)), (3, .int (Int32.ofInt x3)), (4, .int (Int32.ofInt x4)), (5, .long (Int64.ofInt x5)), (7, .int (Int32.ofInt x7)), (8, .int (Int32.ofInt (x8 + 1)))]) (lf_sb1 rfl (lf_sb1 rfl (lf_sb1 rfl (lf_sb1 rfl (lf_sb1 rfl (lf_sb1 rfl (lf_sb1 rfl (lf_sb1 rfl lf_sb0)))))))) ?_
  exact hX116 _ _ h
def fm_289_p116 (X82 : Int → Int → lf_Z → Prop) (Q : Int → lf_Z → Prop) (x1 : Int) (x2 : Int) (x3 : Int) (x4 : Int) (x5 : Int) (x7 : Int) (X116 : Int → lf_Z → Prop) (x8 : Int) (s : lf_Z) : Prop := lf_R x8 ∧ ((156 ≤ x8 → (fm_289_p156L X82 Q x1 x2 x3 x4 x5 x7 0 s)) ∧ (¬ (156 ≤ x8) → ((0 ≤ x8 ∧ x8 < 156) ∧ ((lf_wl (s.2.1 109 x8) ≤ 0 → (fm_289_p147 X82 X116 Q x1 x2 x3 x4 x5 x7 x8 s)) ∧ (¬ (lf_wl (s.2.1 109 x8) ≤ 0) → (fm_242 x1 (fun r45 s44 => (fm_290 r45 x8 (fun s46 => (fm_289_p147 X82 X116 Q x1 x2 x3 x4 x5 x7 x8 s46)) s44)) s))))))
def fm_289_p116L (X82 : Int → Int → lf_Z → Prop) (Q : Int → lf_Z → Prop) (x1 : Int) (x2 : Int) (x3 : Int) (x4 : Int) (x5 : Int) (x7 : Int) (x8 : Int) (s : lf_Z) : Prop := ∀ X116 : Int → lf_Z → Prop, (∀ (x8 : Int) (s : lf_Z), fm_289_p116 X82 Q x1 x2 x3 x4 x5 x7 X116 x8 s → X116 x8 s) → X116 x8 s
set_option maxRecDepth 100000 in
theorem gm_289_p116 {L : Nat} {xs : Nat → Int32} {d : Nat} {X82 : Int → Int → lf_Z → Prop} {Q : Int → lf_Z → Prop} {x1 : Int} {x2 : Int} {x3 : Int} {x4 : Int} {x5 : Int} {x7 : Int} {x8 : Int} {s : lf_Z} {X116 : Int → lf_Z → Prop} (hX82 : ∀ x5 x7 s, X82 x5 x7 s → lf_E (px_ro L xs) (d + 7) 289 82 [(0, .ref 95), (1, .int (Int32.ofInt x1)), (2, .int (Int32.ofInt x2)), (3, .int (Int32.ofInt x3)), (4, .int (Int32.ofInt x4)), (5, .long (Int64.ofInt x5)), (7, .int (Int32.ofInt x7))] [] s (lf_ql Q)) (hX116 : ∀ x8 s, X116 x8 s → lf_E (px_ro L xs) (d + 7) 289 116 [(0, .ref 95), (1, .int (Int32.ofInt x1)), (2, .int (Int32.ofInt x2)), (3, .int (Int32.ofInt x3)), (4, .int (Int32.ofInt x4)), (5, .long (Int64.ofInt x5)), (7, .int (Int32.ofInt x7)), (8, .int (Int32.ofInt x8))] [] s (lf_ql Q)) (h : fm_289_p116 X82 Q x1 x2 x3 x4 x5 x7 X116 x8 s) : lf_E (px_ro L xs) (d + 7) 289 116 [(0, .ref 95), (1, .int (Int32.ofInt x1)), (2, .int (Int32.ofInt x2)), (3, .int (Int32.ofInt x3)), (4, .int (Int32.ofInt x4)), (5, .long (Int64.ofInt x5)), (7, .int (Int32.ofInt x7)), (8, .int (Int32.ofInt x8))] [] s (lf_ql Q) := by
  unfold fm_289_p116 at h
  refine lf_eqs (lv' := [(0, .ref 95), (1, .int (Int32.ofInt x1)), (2, .int (Int32.ofInt x2)), (3, .int (Int32.ofInt x3)), (4, .int (Int32.ofInt x4)), (5, .long (Int64.ofInt (lf_wl x5))), (7, .int (Int32.ofInt x7)), (8, .int (Int32.ofInt x8))]) (st' := []) (by simp only [lf_wlE]) rfl ?_
  refine lf_seg 1 (pc' := 118) (lv' := [(0, .ref 95), (1, .int (Int32.ofInt x1)), (2, .int (Int32.ofInt x2)), (3, .int (Int32.ofInt x3)), (4, .int (Int32.ofInt x4)), (5, .long (Int64.ofInt (lf_wl x5))), (7, .int (Int32.ofInt x7)), (8, .int (Int32.ofInt x8))]) (st' := [.int (Int32.ofInt x8)]) rfl ?_
  refine lf_sipush 121 156 rfl rfl (by decide) (by decide) ?_
  obtain ⟨o40, h⟩ := h
  refine lf_icmp_ge 153 124 rfl rfl rfl o40 ⟨by decide, by decide⟩ (fun c => ?_) (fun c => ?_)
  · have h := h.1 c
    refine lf_seg 2 (pc' := 156) (lv' := [(8, .int (Int32.ofInt 0)), (0, .ref 95), (1, .int (Int32.ofInt x1)), (2, .int (Int32.ofInt x2)), (3, .int (Int32.ofInt x3)), (4, .int (Int32.ofInt x4)), (5, .long (Int64.ofInt (lf_wl x5))), (7, .int (Int32.ofInt x7))]) (st' := []) rfl ?_
    refine lf_eqs (lv' := [(8, .int (Int32.ofInt 0)), (0, .ref 95), (1, .int (Int32.ofInt x1)), (2, .int (Int32.ofInt x2)), (3, .int (Int32.ofInt x3)), (4, .int (Int32.ofInt x4)), (5, .long (Int64.ofInt x5)), (7, .int (Int32.ofInt x7))]) (st' := []) (by simp only [lf_wlE]) rfl ?_
    refine lf_sub (l := [(0, .ref 95), (1, .int (Int32.ofInt x1)), (2, .int (Int32.ofInt x2)), (3, .int (Int32.ofInt x3)), (4, .int (Int32.ofInt x4)), (5, .long (Int64.ofInt x5)), (7, .int (Int32.ofInt x7)), (8, .int (Int32.ofInt 0))]) (lf_sb1 rfl (lf_sb1 rfl (lf_sb1 rfl (lf_sb1 rfl (lf_sb1 rfl (lf_sb1 rfl (lf_sb1 rfl (lf_sb1 rfl lf_sb0)))))))) ?_
    exact gm_289_p156L hX82 h
  · have h := h.2 c
    refine lf_seg 3 (pc' := 130) (lv' := [(0, .ref 95), (1, .int (Int32.ofInt x1)), (2, .int (Int32.ofInt x2)), (3, .int (Int32.ofInt x3)), (4, .int (Int32.ofInt x4)), (5, .long (Int64.ofInt (lf_wl x5))), (7, .int (Int32.ofInt x7)), (8, .int (Int32.ofInt x8))]) (st' := [.int (Int32.ofInt x8), .ref 109]) rfl ?_
    obtain ⟨o43, h⟩ := h
    refine lf_lald 131 156 rfl rfl rfl rfl rfl rfl o43 ?_
    refine lf_wtL ?_
    refine lf_lconst 132 0 rfl rfl (by decide) ?_
    refine lf_lif_le 147 136 rfl rfl rfl rfl lf_RLwl ⟨by decide, by decide⟩ (fun c => ?_) (fun c => ?_)
    · have h := h.1 c
      refine lf_eqs (lv' := [(0, .ref 95), (1, .int (Int32.ofInt x1)), (2, .int (Int32.ofInt x2)), (3, .int (Int32.ofInt x3)), (4, .int (Int32.ofInt x4)), (5, .long (Int64.ofInt x5)), (7, .int (Int32.ofInt x7)), (8, .int (Int32.ofInt x8))]) (st' := []) (by simp only [lf_wlE]) rfl ?_
      refine lf_sub (l := [(0, .ref 95), (1, .int (Int32.ofInt x1)), (2, .int (Int32.ofInt x2)), (3, .int (Int32.ofInt x3)), (4, .int (Int32.ofInt x4)), (5, .long (Int64.ofInt x5)), (7, .int (Int32.ofInt x7)), (8, .int (Int32.ofInt x8))]) (lf_sb1 rfl (lf_sb1 rfl (lf_sb1 rfl (lf_sb1 rfl (lf_sb1 rfl (lf_sb1 rfl (lf_sb1 rfl (lf_sb1 rfl lf_sb0)))))))) ?_
      exact gm_289_p147 hX82 hX116 h
    · have h := h.2 c
      refine lf_seg 3 (pc' := 139) (lv' := [(0, .ref 95), (1, .int (Int32.ofInt x1)), (2, .int (Int32.ofInt x2)), (3, .int (Int32.ofInt x3)), (4, .int (Int32.ofInt x4)), (5, .long (Int64.ofInt (lf_wl x5))), (7, .int (Int32.ofInt x7)), (8, .int (Int32.ofInt x8))]) (st' := [.int (Int32.ofInt x1), .ref 95, .ref 95]) rfl ?_
      refine lf_callI 142 rfl rfl rfl rfl (gm_242 h) (fun r45 s44 h => ?_)
      refine lf_seg 1 (pc' := 144) (lv' := [(0, .ref 95), (1, .int (Int32.ofInt x1)), (2, .int (Int32.ofInt x2)), (3, .int (Int32.ofInt x3)), (4, .int (Int32.ofInt x4)), (5, .long (Int64.ofInt (lf_wl x5))), (7, .int (Int32.ofInt x7)), (8, .int (Int32.ofInt x8))]) (st' := [.int (Int32.ofInt x8), .int (Int32.ofInt r45), .ref 95]) rfl ?_
      refine lf_callV 147 rfl rfl rfl rfl (gm_290 h) (fun s46 h => ?_)
      refine lf_eqs (lv' := [(0, .ref 95), (1, .int (Int32.ofInt x1)), (2, .int (Int32.ofInt x2)), (3, .int (Int32.ofInt x3)), (4, .int (Int32.ofInt x4)), (5, .long (Int64.ofInt x5)), (7, .int (Int32.ofInt x7)), (8, .int (Int32.ofInt x8))]) (st' := []) (by simp only [lf_wlE]) rfl ?_
      refine lf_sub (l := [(0, .ref 95), (1, .int (Int32.ofInt x1)), (2, .int (Int32.ofInt x2)), (3, .int (Int32.ofInt x3)), (4, .int (Int32.ofInt x4)), (5, .long (Int64.ofInt x5)), (7, .int (Int32.ofInt x7)), (8, .int (Int32.ofInt x8))]) (lf_sb1 rfl (lf_sb1 rfl (lf_sb1 rfl (lf_sb1 rfl (lf_sb1 rfl (lf_sb1 rfl (lf_sb1 rfl (lf_sb1 rfl lf_sb0)))))))) ?_
      exact gm_289_p147 hX82 hX116 h
theorem gm_289_p116L {L : Nat} {xs : Nat → Int32} {d : Nat} {X82 : Int → Int → lf_Z → Prop} {Q : Int → lf_Z → Prop} {x1 : Int} {x2 : Int} {x3 : Int} {x4 : Int} {x5 : Int} {x7 : Int} {x8 : Int} {s : lf_Z} (hX82 : ∀ x5 x7 s, X82 x5 x7 s → lf_E (px_ro L xs) (d + 7) 289 82 [(0, .ref 95), (1, .int (Int32.ofInt x1)), (2, .int (Int32.ofInt x2)), (3, .int (Int32.ofInt x3)), (4, .int (Int32.ofInt x4)), (5, .long (Int64.ofInt x5)), (7, .int (Int32.ofInt x7))] [] s (lf_ql Q)) (h : fm_289_p116L X82 Q x1 x2 x3 x4 x5 x7 x8 s) : lf_E (px_ro L xs) (d + 7) 289 116 [(0, .ref 95), (1, .int (Int32.ofInt x1)), (2, .int (Int32.ofInt x2)), (3, .int (Int32.ofInt x3)), (4, .int (Int32.ofInt x4)), (5, .long (Int64.ofInt x5)), (7, .int (Int32.ofInt x7)), (8, .int (Int32.ofInt x8))] [] s (lf_ql Q) :=
  h (fun x8 s => lf_E (px_ro L xs) (d + 7) 289 116 [(0, .ref 95), (1, .int (Int32.ofInt x1)), (2, .int (Int32.ofInt x2)), (3, .int (Int32.ofInt x3)), (4, .int (Int32.ofInt x4)), (5, .long (Int64.ofInt x5)), (7, .int (Int32.ofInt x7)), (8, .int (Int32.ofInt x8))] [] s (lf_ql Q)) (fun x8 s hb => gm_289_p116 hX82 (fun _ _ h => h) hb)
def fm_289_p91 (X82 : Int → Int → lf_Z → Prop) (Q : Int → lf_Z → Prop) (x1 : Int) (x2 : Int) (x3 : Int) (x4 : Int) (x5 : Int) (x7 : Int) (X91 : Int → lf_Z → Prop) (x8 : Int) (s : lf_Z) : Prop := lf_R x8 ∧ ((156 ≤ x8 → (fm_289_p116L X82 Q x1 x2 x3 x4 x5 x7 0 s)) ∧ (¬ (156 ≤ x8) → ((0 ≤ x8 ∧ x8 < 156) ∧ (X91 (x8 + 1) (s.1, lf_up s.2.1 110 x8 0, s.2.2)))))
def fm_289_p91L (X82 : Int → Int → lf_Z → Prop) (Q : Int → lf_Z → Prop) (x1 : Int) (x2 : Int) (x3 : Int) (x4 : Int) (x5 : Int) (x7 : Int) (x8 : Int) (s : lf_Z) : Prop := ∀ X91 : Int → lf_Z → Prop, (∀ (x8 : Int) (s : lf_Z), fm_289_p91 X82 Q x1 x2 x3 x4 x5 x7 X91 x8 s → X91 x8 s) → X91 x8 s
set_option maxRecDepth 100000 in
theorem gm_289_p91 {L : Nat} {xs : Nat → Int32} {d : Nat} {X82 : Int → Int → lf_Z → Prop} {Q : Int → lf_Z → Prop} {x1 : Int} {x2 : Int} {x3 : Int} {x4 : Int} {x5 : Int} {x7 : Int} {x8 : Int} {s : lf_Z} {X91 : Int → lf_Z → Prop} (hX82 : ∀ x5 x7 s, X82 x5 x7 s → lf_E (px_ro L xs) (d + 7) 289 82 [(0, .ref 95), (1, .int (Int32.ofInt x1)), (2, .int (Int32.ofInt x2)), (3, .int (Int32.ofInt x3)), (4, .int (Int32.ofInt x4)), (5, .long (Int64.ofInt x5)), (7, .int (Int32.ofInt x7))] [] s (lf_ql Q)) (hX91 : ∀ x8 s, X91 x8 s → lf_E (px_ro L xs) (d + 7) 289 91 [(0, .ref 95), (1, .int (Int32.ofInt x1)), (2, .int (Int32.ofInt x2)), (3, .int (Int32.ofInt x3)), (4, .int (Int32.ofInt x4)), (5, .long (Int64.ofInt x5)), (7, .int (Int32.ofInt x7)), (8, .int (Int32.ofInt x8))] [] s (lf_ql Q)) (h : fm_289_p91 X82 Q x1 x2 x3 x4 x5 x7 X91 x8 s) : lf_E (px_ro L xs) (d + 7) 289 91 [(0, .ref 95), (1, .int (Int32.ofInt x1)), (2, .int (Int32.ofInt x2)), (3, .int (Int32.ofInt x3)), (4, .int (Int32.ofInt x4)), (5, .long (Int64.ofInt x5)), (7, .int (Int32.ofInt x7)), (8, .int (Int32.ofInt x8))] [] s (lf_ql Q) := by
  unfold fm_289_p91 at h
  refine lf_eqs (lv' := [(0, .ref 95), (1, .int (Int32.ofInt x1)), (2, .int (Int32.ofInt x2)), (3, .int (Int32.ofInt x3)), (4, .int (Int32.ofInt x4)), (5, .long (Int64.ofInt (lf_wl x5))), (7, .int (Int32.ofInt x7)), (8, .int (Int32.ofInt x8))]) (st' := []) (by simp only [lf_wlE]) rfl ?_
  refine lf_seg 1 (pc' := 93) (lv' := [(0, .ref 95), (1, .int (Int32.ofInt x1)), (2, .int (Int32.ofInt x2)), (3, .int (Int32.ofInt x3)), (4, .int (Int32.ofInt x4)), (5, .long (Int64.ofInt (lf_wl x5))), (7, .int (Int32.ofInt x7)), (8, .int (Int32.ofInt x8))]) (st' := [.int (Int32.ofInt x8)]) rfl ?_
  refine lf_sipush 96 156 rfl rfl (by decide) (by decide) ?_
  obtain ⟨o39, h⟩ := h
  refine lf_icmp_ge 113 99 rfl rfl rfl o39 ⟨by decide, by decide⟩ (fun c => ?_) (fun c => ?_)
  · have h := h.1 c
    refine lf_seg 2 (pc' := 116) (lv' := [(8, .int (Int32.ofInt 0)), (0, .ref 95), (1, .int (Int32.ofInt x1)), (2, .int (Int32.ofInt x2)), (3, .int (Int32.ofInt x3)), (4, .int (Int32.ofInt x4)), (5, .long (Int64.ofInt (lf_wl x5))), (7, .int (Int32.ofInt x7))]) (st' := []) rfl ?_
    refine lf_eqs (lv' := [(8, .int (Int32.ofInt 0)), (0, .ref 95), (1, .int (Int32.ofInt x1)), (2, .int (Int32.ofInt x2)), (3, .int (Int32.ofInt x3)), (4, .int (Int32.ofInt x4)), (5, .long (Int64.ofInt x5)), (7, .int (Int32.ofInt x7))]) (st' := []) (by simp only [lf_wlE]) rfl ?_
    refine lf_sub (l := [(0, .ref 95), (1, .int (Int32.ofInt x1)), (2, .int (Int32.ofInt x2)), (3, .int (Int32.ofInt x3)), (4, .int (Int32.ofInt x4)), (5, .long (Int64.ofInt x5)), (7, .int (Int32.ofInt x7)), (8, .int (Int32.ofInt 0))]) (lf_sb1 rfl (lf_sb1 rfl (lf_sb1 rfl (lf_sb1 rfl (lf_sb1 rfl (lf_sb1 rfl (lf_sb1 rfl (lf_sb1 rfl lf_sb0)))))))) ?_
    exact gm_289_p116L hX82 h
  · have h := h.2 c
    refine lf_seg 3 (pc' := 105) (lv' := [(0, .ref 95), (1, .int (Int32.ofInt x1)), (2, .int (Int32.ofInt x2)), (3, .int (Int32.ofInt x3)), (4, .int (Int32.ofInt x4)), (5, .long (Int64.ofInt (lf_wl x5))), (7, .int (Int32.ofInt x7)), (8, .int (Int32.ofInt x8))]) (st' := [.int (Int32.ofInt x8), .ref 110]) rfl ?_
    refine lf_lconst 106 0 rfl rfl (by decide) ?_
    obtain ⟨o47, h⟩ := h
    refine lf_last 107 156 rfl rfl rfl rfl rfl rfl o47 ?_
    refine lf_as (s.1, lf_up s.2.1 110 x8 0, s.2.2) rfl ?_
    refine lf_iinc 110 rfl rfl rfl rfl ?_
    refine lf_seg 1 (pc' := 91) (lv' := [(8, .int (Int32.ofInt (x8 + 1))), (0, .ref 95), (1, .int (Int32.ofInt x1)), (2, .int (Int32.ofInt x2)), (3, .int (Int32.ofInt x3)), (4, .int (Int32.ofInt x4)), (5, .long (Int64.ofInt (lf_wl x5))), (7, .int (Int32.ofInt x7))]) (st' := []) rfl ?_
    refine lf_eqs (lv' := [(8, .int (Int32.ofInt (x8 + 1))), (0, .ref 95), (1, .int (Int32.ofInt x1)), (2, .int (Int32.ofInt x2)), (3, .int (Int32.ofInt x3)), (4, .int (Int32.ofInt x4)), (5, .long (Int64.ofInt x5)), (7, .int (Int32.ofInt x7))]) (st' := []) (by simp only [lf_wlE]) rfl ?_
    refine lf_sub (l := [(0, .ref 95), (1, .int (Int32.ofInt x1)), (2, .int (Int32.ofInt x2)), (3, .int (Int32.ofInt x3)), (4, .int (Int32.ofInt x4)), (5, .long (Int64.ofInt x5)), (7, .int (Int32.ofInt x7)), (8, .int (Int32.ofInt (x8 + 1)))]) (lf_sb1 rfl (lf_sb1 rfl (lf_sb1 rfl (lf_sb1 rfl (lf_sb1 rfl (lf_sb1 rfl (lf_sb1 rfl (lf_sb1 rfl lf_sb0)))))))) ?_
    exact hX91 _ _ h
theorem gm_289_p91L {L : Nat} {xs : Nat → Int32} {d : Nat} {X82 : Int → Int → lf_Z → Prop} {Q : Int → lf_Z → Prop} {x1 : Int} {x2 : Int} {x3 : Int} {x4 : Int} {x5 : Int} {x7 : Int} {x8 : Int} {s : lf_Z} (hX82 : ∀ x5 x7 s, X82 x5 x7 s → lf_E (px_ro L xs) (d + 7) 289 82 [(0, .ref 95), (1, .int (Int32.ofInt x1)), (2, .int (Int32.ofInt x2)), (3, .int (Int32.ofInt x3)), (4, .int (Int32.ofInt x4)), (5, .long (Int64.ofInt x5)), (7, .int (Int32.ofInt x7))] [] s (lf_ql Q)) (h : fm_289_p91L X82 Q x1 x2 x3 x4 x5 x7 x8 s) : lf_E (px_ro L xs) (d + 7) 289 91 [(0, .ref 95), (1, .int (Int32.ofInt x1)), (2, .int (Int32.ofInt x2)), (3, .int (Int32.ofInt x3)), (4, .int (Int32.ofInt x4)), (5, .long (Int64.ofInt x5)), (7, .int (Int32.ofInt x7)), (8, .int (Int32.ofInt x8))] [] s (lf_ql Q) :=
  h (fun x8 s => lf_E (px_ro L xs) (d + 7) 289 91 [(0, .ref 95), (1, .int (Int32.ofInt x1)), (2, .int (Int32.ofInt x2)), (3, .int (Int32.ofInt x3)), (4, .int (Int32.ofInt x4)), (5, .long (Int64.ofInt x5)), (7, .int (Int32.ofInt x7)), (8, .int (Int32.ofInt x8))] [] s (lf_ql Q)) (fun x8 s hb => gm_289_p91 hX82 (fun _ _ h => h) hb)
def fm_289_p82 (Q : Int → lf_Z → Prop) (x1 : Int) (x2 : Int) (x3 : Int) (x4 : Int) (X82 : Int → Int → lf_Z → Prop) (x5 : Int) (x7 : Int) (s : lf_Z) : Prop := lf_R x7 ∧ (lf_R x2 ∧ ((x2 ≤ x7 → (fm_289_p204L Q x3 x4 x5 0 0 s)) ∧ (¬ (x2 ≤ x7) → (fm_289_p91L X82 Q x1 x2 x3 x4 x5 x7 0 s))))
def fm_289_p82L (Q : Int → lf_Z → Prop) (x1 : Int) (x2 : Int) (x3 : Int) (x4 : Int) (x5 : Int) (x7 : Int) (s : lf_Z) : Prop := ∀ X82 : Int → Int → lf_Z → Prop, (∀ (x5 : Int) (x7 : Int) (s : lf_Z), fm_289_p82 Q x1 x2 x3 x4 X82 x5 x7 s → X82 x5 x7 s) → X82 x5 x7 s
set_option maxRecDepth 100000 in
theorem gm_289_p82 {L : Nat} {xs : Nat → Int32} {d : Nat} {Q : Int → lf_Z → Prop} {x1 : Int} {x2 : Int} {x3 : Int} {x4 : Int} {x5 : Int} {x7 : Int} {s : lf_Z} {X82 : Int → Int → lf_Z → Prop} (hX82 : ∀ x5 x7 s, X82 x5 x7 s → lf_E (px_ro L xs) (d + 7) 289 82 [(0, .ref 95), (1, .int (Int32.ofInt x1)), (2, .int (Int32.ofInt x2)), (3, .int (Int32.ofInt x3)), (4, .int (Int32.ofInt x4)), (5, .long (Int64.ofInt x5)), (7, .int (Int32.ofInt x7))] [] s (lf_ql Q)) (h : fm_289_p82 Q x1 x2 x3 x4 X82 x5 x7 s) : lf_E (px_ro L xs) (d + 7) 289 82 [(0, .ref 95), (1, .int (Int32.ofInt x1)), (2, .int (Int32.ofInt x2)), (3, .int (Int32.ofInt x3)), (4, .int (Int32.ofInt x4)), (5, .long (Int64.ofInt x5)), (7, .int (Int32.ofInt x7))] [] s (lf_ql Q) := by
  unfold fm_289_p82 at h
  refine lf_eqs (lv' := [(0, .ref 95), (1, .int (Int32.ofInt x1)), (2, .int (Int32.ofInt x2)), (3, .int (Int32.ofInt x3)), (4, .int (Int32.ofInt x4)), (5, .long (Int64.ofInt (lf_wl x5))), (7, .int (Int32.ofInt x7))]) (st' := []) (by simp only [lf_wlE]) rfl ?_
  refine lf_seg 2 (pc' := 85) (lv' := [(0, .ref 95), (1, .int (Int32.ofInt x1)), (2, .int (Int32.ofInt x2)), (3, .int (Int32.ofInt x3)), (4, .int (Int32.ofInt x4)), (5, .long (Int64.ofInt (lf_wl x5))), (7, .int (Int32.ofInt x7))]) (st' := [.int (Int32.ofInt x2), .int (Int32.ofInt x7)]) rfl ?_
  obtain ⟨o33, h⟩ := h
  obtain ⟨o34, h⟩ := h
  refine lf_icmp_ge 198 88 rfl rfl rfl o33 o34 (fun c => ?_) (fun c => ?_)
  · have h := h.1 c
    refine lf_lconst 199 0 rfl rfl (by decide) ?_
    refine lf_seg 3 (pc' := 204) (lv' := [(9, .int (Int32.ofInt 0)), (7, .long (Int64.ofInt 0)), (0, .ref 95), (1, .int (Int32.ofInt x1)), (2, .int (Int32.ofInt x2)), (3, .int (Int32.ofInt x3)), (4, .int (Int32.ofInt x4)), (5, .long (Int64.ofInt (lf_wl x5)))]) (st' := []) rfl ?_
    refine lf_eqs (lv' := [(9, .int (Int32.ofInt 0)), (7, .long (Int64.ofInt 0)), (0, .ref 95), (1, .int (Int32.ofInt x1)), (2, .int (Int32.ofInt x2)), (3, .int (Int32.ofInt x3)), (4, .int (Int32.ofInt x4)), (5, .long (Int64.ofInt x5))]) (st' := []) (by simp only [lf_wlE]) rfl ?_
    refine lf_sub (l := [(0, .ref 95), (3, .int (Int32.ofInt x3)), (4, .int (Int32.ofInt x4)), (5, .long (Int64.ofInt x5)), (7, .long (Int64.ofInt 0)), (9, .int (Int32.ofInt 0))]) (lf_sb1 rfl (lf_sb1 rfl (lf_sb1 rfl (lf_sb1 rfl (lf_sb1 rfl (lf_sb1 rfl lf_sb0)))))) ?_
    exact gm_289_p204L h
  · have h := h.2 c
    refine lf_seg 2 (pc' := 91) (lv' := [(8, .int (Int32.ofInt 0)), (0, .ref 95), (1, .int (Int32.ofInt x1)), (2, .int (Int32.ofInt x2)), (3, .int (Int32.ofInt x3)), (4, .int (Int32.ofInt x4)), (5, .long (Int64.ofInt (lf_wl x5))), (7, .int (Int32.ofInt x7))]) (st' := []) rfl ?_
    refine lf_eqs (lv' := [(8, .int (Int32.ofInt 0)), (0, .ref 95), (1, .int (Int32.ofInt x1)), (2, .int (Int32.ofInt x2)), (3, .int (Int32.ofInt x3)), (4, .int (Int32.ofInt x4)), (5, .long (Int64.ofInt x5)), (7, .int (Int32.ofInt x7))]) (st' := []) (by simp only [lf_wlE]) rfl ?_
    refine lf_sub (l := [(0, .ref 95), (1, .int (Int32.ofInt x1)), (2, .int (Int32.ofInt x2)), (3, .int (Int32.ofInt x3)), (4, .int (Int32.ofInt x4)), (5, .long (Int64.ofInt x5)), (7, .int (Int32.ofInt x7)), (8, .int (Int32.ofInt 0))]) (lf_sb1 rfl (lf_sb1 rfl (lf_sb1 rfl (lf_sb1 rfl (lf_sb1 rfl (lf_sb1 rfl (lf_sb1 rfl (lf_sb1 rfl lf_sb0)))))))) ?_
    exact gm_289_p91L hX82 h
theorem gm_289_p82L {L : Nat} {xs : Nat → Int32} {d : Nat} {Q : Int → lf_Z → Prop} {x1 : Int} {x2 : Int} {x3 : Int} {x4 : Int} {x5 : Int} {x7 : Int} {s : lf_Z} (h : fm_289_p82L Q x1 x2 x3 x4 x5 x7 s) : lf_E (px_ro L xs) (d + 7) 289 82 [(0, .ref 95), (1, .int (Int32.ofInt x1)), (2, .int (Int32.ofInt x2)), (3, .int (Int32.ofInt x3)), (4, .int (Int32.ofInt x4)), (5, .long (Int64.ofInt x5)), (7, .int (Int32.ofInt x7))] [] s (lf_ql Q) :=
  h (fun x5 x7 s => lf_E (px_ro L xs) (d + 7) 289 82 [(0, .ref 95), (1, .int (Int32.ofInt x1)), (2, .int (Int32.ofInt x2)), (3, .int (Int32.ofInt x3)), (4, .int (Int32.ofInt x4)), (5, .long (Int64.ofInt x5)), (7, .int (Int32.ofInt x7))] [] s (lf_ql Q)) (fun x5 x7 s hb => gm_289_p82 (fun _ _ _ h => h) hb)
def fm_289_p32 (Q : Int → lf_Z → Prop) (x1 : Int) (x2 : Int) (x3 : Int) (x4 : Int) (X32 : Int → lf_Z → Prop) (x5 : Int) (s : lf_Z) : Prop := lf_R x5 ∧ ((156 ≤ x5 → (fm_255 x1 (fun r29 s28 => (fm_256 x1 (fun r31 s30 => ((0 ≤ ((13 * r29) + r31) + 1 ∧ ((13 * r29) + r31) + 1 < 156) ∧ (fm_289_p82L Q x1 x2 x3 x4 1 0 (s30.1, lf_up s30.2.1 109 (((13 * r29) + r31) + 1) 1, s30.2.2)))) s28)) s)) ∧ (¬ (156 ≤ x5) → ((0 ≤ x5 ∧ x5 < 156) ∧ (X32 (x5 + 1) (s.1, lf_up s.2.1 109 x5 0, s.2.2)))))
def fm_289_p32L (Q : Int → lf_Z → Prop) (x1 : Int) (x2 : Int) (x3 : Int) (x4 : Int) (x5 : Int) (s : lf_Z) : Prop := ∀ X32 : Int → lf_Z → Prop, (∀ (x5 : Int) (s : lf_Z), fm_289_p32 Q x1 x2 x3 x4 X32 x5 s → X32 x5 s) → X32 x5 s
set_option maxRecDepth 100000 in
theorem gm_289_p32 {L : Nat} {xs : Nat → Int32} {d : Nat} {Q : Int → lf_Z → Prop} {x1 : Int} {x2 : Int} {x3 : Int} {x4 : Int} {x5 : Int} {s : lf_Z} {X32 : Int → lf_Z → Prop} (hX32 : ∀ x5 s, X32 x5 s → lf_E (px_ro L xs) (d + 7) 289 32 [(0, .ref 95), (1, .int (Int32.ofInt x1)), (2, .int (Int32.ofInt x2)), (3, .int (Int32.ofInt x3)), (4, .int (Int32.ofInt x4)), (5, .int (Int32.ofInt x5))] [] s (lf_ql Q)) (h : fm_289_p32 Q x1 x2 x3 x4 X32 x5 s) : lf_E (px_ro L xs) (d + 7) 289 32 [(0, .ref 95), (1, .int (Int32.ofInt x1)), (2, .int (Int32.ofInt x2)), (3, .int (Int32.ofInt x3)), (4, .int (Int32.ofInt x4)), (5, .int (Int32.ofInt x5))] [] s (lf_ql Q) := by
  unfold fm_289_p32 at h
  refine lf_seg 1 (pc' := 34) (lv' := [(0, .ref 95), (1, .int (Int32.ofInt x1)), (2, .int (Int32.ofInt x2)), (3, .int (Int32.ofInt x3)), (4, .int (Int32.ofInt x4)), (5, .int (Int32.ofInt x5))]) (st' := [.int (Int32.ofInt x5)]) rfl ?_
  refine lf_sipush 37 156 rfl rfl (by decide) (by decide) ?_
  obtain ⟨o27, h⟩ := h
  refine lf_icmp_ge 54 40 rfl rfl rfl o27 ⟨by decide, by decide⟩ (fun c => ?_) (fun c => ?_)
  · have h := h.1 c
    refine lf_seg 2 (pc' := 58) (lv' := [(0, .ref 95), (1, .int (Int32.ofInt x1)), (2, .int (Int32.ofInt x2)), (3, .int (Int32.ofInt x3)), (4, .int (Int32.ofInt x4)), (5, .int (Int32.ofInt x5))]) (st' := [.ref 109]) rfl ?_
    refine lf_bipush 60 13 rfl rfl (by decide) (by decide) ?_
    refine lf_seg 2 (pc' := 62) (lv' := [(0, .ref 95), (1, .int (Int32.ofInt x1)), (2, .int (Int32.ofInt x2)), (3, .int (Int32.ofInt x3)), (4, .int (Int32.ofInt x4)), (5, .int (Int32.ofInt x5))]) (st' := [.int (Int32.ofInt x1), .ref 95, .int (Int32.ofInt 13), .ref 109]) rfl ?_
    refine lf_callI 65 rfl rfl rfl rfl (gm_255 h) (fun r29 s28 h => ?_)
    refine lf_imul 66 rfl rfl ?_
    refine lf_seg 2 (pc' := 68) (lv' := [(0, .ref 95), (1, .int (Int32.ofInt x1)), (2, .int (Int32.ofInt x2)), (3, .int (Int32.ofInt x3)), (4, .int (Int32.ofInt x4)), (5, .int (Int32.ofInt x5))]) (st' := [.int (Int32.ofInt x1), .ref 95, .int (Int32.ofInt (13 * r29)), .ref 109]) rfl ?_
    refine lf_callI 71 rfl rfl rfl rfl (gm_256 h) (fun r31 s30 h => ?_)
    refine lf_iadd 72 rfl rfl ?_
    refine lf_seg 1 (pc' := 73) (lv' := [(0, .ref 95), (1, .int (Int32.ofInt x1)), (2, .int (Int32.ofInt x2)), (3, .int (Int32.ofInt x3)), (4, .int (Int32.ofInt x4)), (5, .int (Int32.ofInt x5))]) (st' := [.int (Int32.ofInt 1), .int (Int32.ofInt ((13 * r29) + r31)), .ref 109]) rfl ?_
    refine lf_iadd 74 rfl rfl ?_
    refine lf_lconst 75 1 rfl rfl (by decide) ?_
    obtain ⟨o32, h⟩ := h
    refine lf_last 76 156 rfl rfl rfl rfl rfl rfl o32 ?_
    refine lf_as (s30.1, lf_up s30.2.1 109 (((13 * r29) + r31) + 1) 1, s30.2.2) rfl ?_
    refine lf_lconst 77 1 rfl rfl (by decide) ?_
    refine lf_seg 3 (pc' := 82) (lv' := [(7, .int (Int32.ofInt 0)), (5, .long (Int64.ofInt 1)), (0, .ref 95), (1, .int (Int32.ofInt x1)), (2, .int (Int32.ofInt x2)), (3, .int (Int32.ofInt x3)), (4, .int (Int32.ofInt x4))]) (st' := []) rfl ?_
    refine lf_sub (l := [(0, .ref 95), (1, .int (Int32.ofInt x1)), (2, .int (Int32.ofInt x2)), (3, .int (Int32.ofInt x3)), (4, .int (Int32.ofInt x4)), (5, .long (Int64.ofInt 1)), (7, .int (Int32.ofInt 0))]) (lf_sb1 rfl (lf_sb1 rfl (lf_sb1 rfl (lf_sb1 rfl (lf_sb1 rfl (lf_sb1 rfl (lf_sb1 rfl lf_sb0))))))) ?_
    exact gm_289_p82L h
  · have h := h.2 c
    refine lf_seg 3 (pc' := 46) (lv' := [(0, .ref 95), (1, .int (Int32.ofInt x1)), (2, .int (Int32.ofInt x2)), (3, .int (Int32.ofInt x3)), (4, .int (Int32.ofInt x4)), (5, .int (Int32.ofInt x5))]) (st' := [.int (Int32.ofInt x5), .ref 109]) rfl ?_
    refine lf_lconst 47 0 rfl rfl (by decide) ?_
    obtain ⟨o48, h⟩ := h
    refine lf_last 48 156 rfl rfl rfl rfl rfl rfl o48 ?_
    refine lf_as (s.1, lf_up s.2.1 109 x5 0, s.2.2) rfl ?_
    refine lf_iinc 51 rfl rfl rfl rfl ?_
    refine lf_seg 1 (pc' := 32) (lv' := [(5, .int (Int32.ofInt (x5 + 1))), (0, .ref 95), (1, .int (Int32.ofInt x1)), (2, .int (Int32.ofInt x2)), (3, .int (Int32.ofInt x3)), (4, .int (Int32.ofInt x4))]) (st' := []) rfl ?_
    refine lf_sub (l := [(0, .ref 95), (1, .int (Int32.ofInt x1)), (2, .int (Int32.ofInt x2)), (3, .int (Int32.ofInt x3)), (4, .int (Int32.ofInt x4)), (5, .int (Int32.ofInt (x5 + 1)))]) (lf_sb1 rfl (lf_sb1 rfl (lf_sb1 rfl (lf_sb1 rfl (lf_sb1 rfl (lf_sb1 rfl lf_sb0)))))) ?_
    exact hX32 _ _ h
theorem gm_289_p32L {L : Nat} {xs : Nat → Int32} {d : Nat} {Q : Int → lf_Z → Prop} {x1 : Int} {x2 : Int} {x3 : Int} {x4 : Int} {x5 : Int} {s : lf_Z} (h : fm_289_p32L Q x1 x2 x3 x4 x5 s) : lf_E (px_ro L xs) (d + 7) 289 32 [(0, .ref 95), (1, .int (Int32.ofInt x1)), (2, .int (Int32.ofInt x2)), (3, .int (Int32.ofInt x3)), (4, .int (Int32.ofInt x4)), (5, .int (Int32.ofInt x5))] [] s (lf_ql Q) :=
  h (fun x5 s => lf_E (px_ro L xs) (d + 7) 289 32 [(0, .ref 95), (1, .int (Int32.ofInt x1)), (2, .int (Int32.ofInt x2)), (3, .int (Int32.ofInt x3)), (4, .int (Int32.ofInt x4)), (5, .int (Int32.ofInt x5))] [] s (lf_ql Q)) (fun x5 s hb => gm_289_p32 (fun _ _ h => h) hb)
def fm_289 (a1 : Int) (a2 : Int) (a3 : Int) (a4 : Int) (Q : Int → lf_Z → Prop) (s : lf_Z) : Prop := fm_254 a1 (fun z22 s21 => ((z22 = false → (fm_289_p25 Q s21)) ∧ (z22 = true → (fm_183 a2 0 4 (fun z24 s23 => ((z24 = false → (fm_289_p25 Q s23)) ∧ (z24 = true → (fm_185 a3 (fun z26 s25 => ((z26 = true → (fm_289_p32L Q a1 a2 a3 a4 0 s25)) ∧ (z26 = false → (fm_289_p25 Q s25)))) s23)))) s21)))) s
set_option maxRecDepth 100000 in
theorem gm_289 {L : Nat} {xs : Nat → Int32} {d : Nat} {a1 : Int} {a2 : Int} {a3 : Int} {a4 : Int} {Q : Int → lf_Z → Prop} {s : lf_Z} (h : fm_289 a1 a2 a3 a4 Q s) : lf_M (px_ro L xs) (d + 7) 289 [.ref 95, .int (Int32.ofInt a1), .int (Int32.ofInt a2), .int (Int32.ofInt a3), .int (Int32.ofInt a4)] s (lf_ql Q) := by
  unfold fm_289 at h
  show lf_E (px_ro L xs) (d + 7) 289 0 [(0, .ref 95), (1, .int (Int32.ofInt a1)), (2, .int (Int32.ofInt a2)), (3, .int (Int32.ofInt a3)), (4, .int (Int32.ofInt a4))] [] s _
  refine lf_seg 2 (pc' := 2) (lv' := [(0, .ref 95), (1, .int (Int32.ofInt a1)), (2, .int (Int32.ofInt a2)), (3, .int (Int32.ofInt a3)), (4, .int (Int32.ofInt a4))]) (st' := [.int (Int32.ofInt a1), .ref 95]) rfl ?_
  refine lf_callZ 5 rfl rfl rfl rfl (gm_254 h) (fun z22 s21 h => ?_)
  refine lf_ifz_eq 25 8 rfl rfl rfl (fun c => ?_) (fun c => ?_)
  · have h := h.1 c
    refine lf_sub (l := []) lf_sb0 ?_
    exact gm_289_p25 h
  · have h := h.2 c
    refine lf_seg 3 (pc' := 11) (lv' := [(0, .ref 95), (1, .int (Int32.ofInt a1)), (2, .int (Int32.ofInt a2)), (3, .int (Int32.ofInt a3)), (4, .int (Int32.ofInt a4))]) (st' := [.int (Int32.ofInt 4), .int (Int32.ofInt 0), .int (Int32.ofInt a2)]) rfl ?_
    refine lf_callZ 14 rfl rfl rfl rfl (gm_183 h) (fun z24 s23 h => ?_)
    refine lf_ifz_eq 25 17 rfl rfl rfl (fun c => ?_) (fun c => ?_)
    · have h := h.1 c
      refine lf_sub (l := []) lf_sb0 ?_
      exact gm_289_p25 h
    · have h := h.2 c
      refine lf_seg 2 (pc' := 19) (lv' := [(0, .ref 95), (1, .int (Int32.ofInt a1)), (2, .int (Int32.ofInt a2)), (3, .int (Int32.ofInt a3)), (4, .int (Int32.ofInt a4))]) (st' := [.int (Int32.ofInt a3), .ref 95]) rfl ?_
      refine lf_callZ 22 rfl rfl rfl rfl (gm_185 h) (fun z26 s25 h => ?_)
      refine lf_ifz_ne 29 25 rfl rfl rfl (fun c => ?_) (fun c => ?_)
      · have h := h.1 c
        refine lf_seg 2 (pc' := 32) (lv' := [(5, .int (Int32.ofInt 0)), (0, .ref 95), (1, .int (Int32.ofInt a1)), (2, .int (Int32.ofInt a2)), (3, .int (Int32.ofInt a3)), (4, .int (Int32.ofInt a4))]) (st' := []) rfl ?_
        refine lf_sub (l := [(0, .ref 95), (1, .int (Int32.ofInt a1)), (2, .int (Int32.ofInt a2)), (3, .int (Int32.ofInt a3)), (4, .int (Int32.ofInt a4)), (5, .int (Int32.ofInt 0))]) (lf_sb1 rfl (lf_sb1 rfl (lf_sb1 rfl (lf_sb1 rfl (lf_sb1 rfl (lf_sb1 rfl lf_sb0)))))) ?_
        exact gm_289_p32L h
      · have h := h.2 c
        refine lf_sub (l := []) lf_sb0 ?_
        exact gm_289_p25 h
-- fm_129 Walk.goFrom 68 i i
def fm_129_p113 (X11 : Int → Int → lf_Z → Prop) (Q : Int → lf_Z → Prop) (x1 : Int) (x3 : Int) (x4 : Int) (x5 : Int) (x7 : Int) (s : lf_Z) : Prop := lf_R x7 ∧ ((x7 ≠ 10 → (X11 x4 (x5 + 1) s)) ∧ (¬ (x7 ≠ 10) → (Q x4 s)))
set_option maxRecDepth 100000 in
theorem gm_129_p113 {L : Nat} {xs : Nat → Int32} {d : Nat} {X11 : Int → Int → lf_Z → Prop} {Q : Int → lf_Z → Prop} {x1 : Int} {x3 : Int} {x4 : Int} {x5 : Int} {x7 : Int} {s : lf_Z} (hX11 : ∀ x4 x5 s, X11 x4 x5 s → lf_E (px_ro L xs) (d + 5) 129 11 [(0, .ref 68), (1, .int (Int32.ofInt x1)), (3, .int (Int32.ofInt x3)), (4, .int (Int32.ofInt x4)), (5, .int (Int32.ofInt x5))] [] s (lf_qi Q)) (h : fm_129_p113 X11 Q x1 x3 x4 x5 x7 s) : lf_E (px_ro L xs) (d + 5) 129 113 [(0, .ref 68), (1, .int (Int32.ofInt x1)), (3, .int (Int32.ofInt x3)), (4, .int (Int32.ofInt x4)), (5, .int (Int32.ofInt x5)), (7, .int (Int32.ofInt x7))] [] s (lf_qi Q) := by
  unfold fm_129_p113 at h
  refine lf_seg 1 (pc' := 115) (lv' := [(0, .ref 68), (1, .int (Int32.ofInt x1)), (3, .int (Int32.ofInt x3)), (4, .int (Int32.ofInt x4)), (5, .int (Int32.ofInt x5)), (7, .int (Int32.ofInt x7))]) (st' := [.int (Int32.ofInt x7)]) rfl ?_
  refine lf_bipush 117 10 rfl rfl (by decide) (by decide) ?_
  obtain ⟨o34, h⟩ := h
  refine lf_icmp_ne 123 120 rfl rfl rfl o34 ⟨by decide, by decide⟩ (fun c => ?_) (fun c => ?_)
  · have h := h.1 c
    refine lf_iinc 126 rfl rfl rfl rfl ?_
    refine lf_seg 1 (pc' := 11) (lv' := [(5, .int (Int32.ofInt (x5 + 1))), (0, .ref 68), (1, .int (Int32.ofInt x1)), (3, .int (Int32.ofInt x3)), (4, .int (Int32.ofInt x4)), (7, .int (Int32.ofInt x7))]) (st' := []) rfl ?_
    refine lf_sub (l := [(0, .ref 68), (1, .int (Int32.ofInt x1)), (3, .int (Int32.ofInt x3)), (4, .int (Int32.ofInt x4)), (5, .int (Int32.ofInt (x5 + 1)))]) (lf_sb1 rfl (lf_sb1 rfl (lf_sb1 rfl (lf_sb1 rfl (lf_sb1 rfl lf_sb0))))) ?_
    exact hX11 _ _ _ h
  · have h := h.2 c
    refine lf_seg 2 (pc' := 131) (lv' := [(0, .ref 68), (1, .int (Int32.ofInt x1)), (3, .int (Int32.ofInt x3)), (4, .int (Int32.ofInt x4)), (5, .int (Int32.ofInt x5)), (7, .int (Int32.ofInt x7))]) (st' := [.int (Int32.ofInt x4)]) rfl ?_
    exact lf_retI rfl rfl h
def fm_129_p11 (Q : Int → lf_Z → Prop) (x1 : Int) (x3 : Int) (X11 : Int → Int → lf_Z → Prop) (x4 : Int) (x5 : Int) (s : lf_Z) : Prop := fm_76 x3 (fun r23 s22 => (lf_R x5 ∧ (lf_R r23 ∧ ((r23 ≤ x5 → (Q x4 s22)) ∧ (¬ (r23 ≤ x5) → (fm_77 x3 x5 (fun r27 s26 => (lf_R x1 ∧ (fm_123 r27 x3 ((x1.tmod 13) - 1) (fun r30 s29 => (fm_78 r27 x3 (fun r32 s31 => (lf_R r30 ∧ ((r30 ≤ 0 → (fm_129_p113 X11 Q x1 x3 x4 x5 r30 s31)) ∧ (¬ (r30 ≤ 0) → ((0 ≤ ((r32 * 13) + x3) + 1 ∧ ((r32 * 13) + x3) + 1 < 156) ∧ (lf_R (s31.1 71 (((r32 * 13) + x3) + 1)) ∧ ((s31.1 71 (((r32 * 13) + x3) + 1) ≠ 0 → (fm_129_p113 X11 Q x1 x3 x4 x5 r30 s31)) ∧ (¬ (s31.1 71 (((r32 * 13) + x3) + 1) ≠ 0) → (lf_R x4 ∧ ((156 ≤ x4 → (fm_129_p113 X11 Q x1 x3 x4 x5 r30 s31)) ∧ (¬ (156 ≤ x4) → ((0 ≤ x4 ∧ x4 < 156) ∧ (fm_129_p113 X11 Q x1 x3 (x4 + 1) x5 r30 (lf_up (lf_up s31.1 71 (((r32 * 13) + x3) + 1) 1) 70 x4 (((r32 * 13) + x3) + 1), s31.2.1, s31.2.2)))))))))))))) s29)) s26))) s22)))))) s
def fm_129_p11L (Q : Int → lf_Z → Prop) (x1 : Int) (x3 : Int) (x4 : Int) (x5 : Int) (s : lf_Z) : Prop := ∀ X11 : Int → Int → lf_Z → Prop, (∀ (x4 : Int) (x5 : Int) (s : lf_Z), fm_129_p11 Q x1 x3 X11 x4 x5 s → X11 x4 x5 s) → X11 x4 x5 s
set_option maxRecDepth 100000 in
theorem gm_129_p11 {L : Nat} {xs : Nat → Int32} {d : Nat} {Q : Int → lf_Z → Prop} {x1 : Int} {x3 : Int} {x4 : Int} {x5 : Int} {s : lf_Z} {X11 : Int → Int → lf_Z → Prop} (hX11 : ∀ x4 x5 s, X11 x4 x5 s → lf_E (px_ro L xs) (d + 5) 129 11 [(0, .ref 68), (1, .int (Int32.ofInt x1)), (3, .int (Int32.ofInt x3)), (4, .int (Int32.ofInt x4)), (5, .int (Int32.ofInt x5))] [] s (lf_qi Q)) (h : fm_129_p11 Q x1 x3 X11 x4 x5 s) : lf_E (px_ro L xs) (d + 5) 129 11 [(0, .ref 68), (1, .int (Int32.ofInt x1)), (3, .int (Int32.ofInt x3)), (4, .int (Int32.ofInt x4)), (5, .int (Int32.ofInt x5))] [] s (lf_qi Q) := by
  unfold fm_129_p11 at h
  refine lf_seg 4 (pc' := 18) (lv' := [(0, .ref 68), (1, .int (Int32.ofInt x1)), (3, .int (Int32.ofInt x3)), (4, .int (Int32.ofInt x4)), (5, .int (Int32.ofInt x5))]) (st' := [.int (Int32.ofInt x3), .ref 1, .int (Int32.ofInt x5)]) rfl ?_
  refine lf_callI 21 rfl rfl rfl rfl (gm_76 h) (fun r23 s22 h => ?_)
  obtain ⟨o24, h⟩ := h
  obtain ⟨o25, h⟩ := h
  refine lf_icmp_ge 129 24 rfl rfl rfl o24 o25 (fun c => ?_) (fun c => ?_)
  · have h := h.1 c
    refine lf_seg 1 (pc' := 131) (lv' := [(0, .ref 68), (1, .int (Int32.ofInt x1)), (3, .int (Int32.ofInt x3)), (4, .int (Int32.ofInt x4)), (5, .int (Int32.ofInt x5))]) (st' := [.int (Int32.ofInt x4)]) rfl ?_
    exact lf_retI rfl rfl h
  · have h := h.2 c
    refine lf_seg 4 (pc' := 31) (lv' := [(0, .ref 68), (1, .int (Int32.ofInt x1)), (3, .int (Int32.ofInt x3)), (4, .int (Int32.ofInt x4)), (5, .int (Int32.ofInt x5))]) (st' := [.int (Int32.ofInt x5), .int (Int32.ofInt x3), .ref 1]) rfl ?_
    refine lf_callI 34 rfl rfl rfl rfl (gm_77 h) (fun r27 s26 h => ?_)
    refine lf_seg 5 (pc' := 41) (lv' := [(6, .int (Int32.ofInt r27)), (0, .ref 68), (1, .int (Int32.ofInt x1)), (3, .int (Int32.ofInt x3)), (4, .int (Int32.ofInt x4)), (5, .int (Int32.ofInt x5))]) (st' := [.int (Int32.ofInt x1), .int (Int32.ofInt x3), .int (Int32.ofInt r27), .ref 68]) rfl ?_
    refine lf_bipush 43 13 rfl rfl (by decide) (by decide) ?_
    obtain ⟨o28, h⟩ := h
    refine lf_irem 44 rfl rfl o28 ⟨by decide, by decide⟩ (by decide) ?_
    refine lf_seg 1 (pc' := 45) (lv' := [(6, .int (Int32.ofInt r27)), (0, .ref 68), (1, .int (Int32.ofInt x1)), (3, .int (Int32.ofInt x3)), (4, .int (Int32.ofInt x4)), (5, .int (Int32.ofInt x5))]) (st' := [.int (Int32.ofInt 1), .int (Int32.ofInt (x1.tmod 13)), .int (Int32.ofInt x3), .int (Int32.ofInt r27), .ref 68]) rfl ?_
    refine lf_isub 46 rfl rfl ?_
    refine lf_callI 49 rfl rfl rfl rfl (gm_123 h) (fun r30 s29 h => ?_)
    refine lf_seg 5 (pc' := 58) (lv' := [(7, .int (Int32.ofInt r30)), (6, .int (Int32.ofInt r27)), (0, .ref 68), (1, .int (Int32.ofInt x1)), (3, .int (Int32.ofInt x3)), (4, .int (Int32.ofInt x4)), (5, .int (Int32.ofInt x5))]) (st' := [.int (Int32.ofInt x3), .int (Int32.ofInt r27), .ref 1]) rfl ?_
    refine lf_callI 61 rfl rfl rfl rfl (gm_78 h) (fun r32 s31 h => ?_)
    refine lf_bipush 63 13 rfl rfl (by decide) (by decide) ?_
    refine lf_imul 64 rfl rfl ?_
    refine lf_seg 1 (pc' := 65) (lv' := [(7, .int (Int32.ofInt r30)), (6, .int (Int32.ofInt r27)), (0, .ref 68), (1, .int (Int32.ofInt x1)), (3, .int (Int32.ofInt x3)), (4, .int (Int32.ofInt x4)), (5, .int (Int32.ofInt x5))]) (st' := [.int (Int32.ofInt x3), .int (Int32.ofInt (r32 * 13))]) rfl ?_
    refine lf_iadd 66 rfl rfl ?_
    refine lf_seg 1 (pc' := 67) (lv' := [(7, .int (Int32.ofInt r30)), (6, .int (Int32.ofInt r27)), (0, .ref 68), (1, .int (Int32.ofInt x1)), (3, .int (Int32.ofInt x3)), (4, .int (Int32.ofInt x4)), (5, .int (Int32.ofInt x5))]) (st' := [.int (Int32.ofInt 1), .int (Int32.ofInt ((r32 * 13) + x3))]) rfl ?_
    refine lf_iadd 68 rfl rfl ?_
    refine lf_seg 2 (pc' := 72) (lv' := [(8, .int (Int32.ofInt (((r32 * 13) + x3) + 1))), (7, .int (Int32.ofInt r30)), (6, .int (Int32.ofInt r27)), (0, .ref 68), (1, .int (Int32.ofInt x1)), (3, .int (Int32.ofInt x3)), (4, .int (Int32.ofInt x4)), (5, .int (Int32.ofInt x5))]) (st' := [.int (Int32.ofInt r30)]) rfl ?_
    obtain ⟨o33, h⟩ := h
    refine lf_if_le 113 75 rfl rfl rfl o33 (fun c => ?_) (fun c => ?_)
    · have h := h.1 c
      refine lf_sub (l := [(0, .ref 68), (1, .int (Int32.ofInt x1)), (3, .int (Int32.ofInt x3)), (4, .int (Int32.ofInt x4)), (5, .int (Int32.ofInt x5)), (7, .int (Int32.ofInt r30))]) (lf_sb1 rfl (lf_sb1 rfl (lf_sb1 rfl (lf_sb1 rfl (lf_sb1 rfl (lf_sb1 rfl lf_sb0)))))) ?_
      exact gm_129_p113 hX11 h
    · have h := h.2 c
      refine lf_seg 3 (pc' := 81) (lv' := [(8, .int (Int32.ofInt (((r32 * 13) + x3) + 1))), (7, .int (Int32.ofInt r30)), (6, .int (Int32.ofInt r27)), (0, .ref 68), (1, .int (Int32.ofInt x1)), (3, .int (Int32.ofInt x3)), (4, .int (Int32.ofInt x4)), (5, .int (Int32.ofInt x5))]) (st' := [.int (Int32.ofInt (((r32 * 13) + x3) + 1)), .ref 71]) rfl ?_
      obtain ⟨o35, h⟩ := h
      refine lf_iald 82 156 rfl rfl rfl rfl rfl rfl o35 ?_
      obtain ⟨o36, h⟩ := h
      refine lf_if_ne 113 85 rfl rfl rfl o36 (fun c => ?_) (fun c => ?_)
      · have h := h.1 c
        refine lf_sub (l := [(0, .ref 68), (1, .int (Int32.ofInt x1)), (3, .int (Int32.ofInt x3)), (4, .int (Int32.ofInt x4)), (5, .int (Int32.ofInt x5)), (7, .int (Int32.ofInt r30))]) (lf_sb1 rfl (lf_sb1 rfl (lf_sb1 rfl (lf_sb1 rfl (lf_sb1 rfl (lf_sb1 rfl lf_sb0)))))) ?_
        exact gm_129_p113 hX11 h
      · have h := h.2 c
        refine lf_seg 1 (pc' := 87) (lv' := [(8, .int (Int32.ofInt (((r32 * 13) + x3) + 1))), (7, .int (Int32.ofInt r30)), (6, .int (Int32.ofInt r27)), (0, .ref 68), (1, .int (Int32.ofInt x1)), (3, .int (Int32.ofInt x3)), (4, .int (Int32.ofInt x4)), (5, .int (Int32.ofInt x5))]) (st' := [.int (Int32.ofInt x4)]) rfl ?_
        refine lf_sipush 90 156 rfl rfl (by decide) (by decide) ?_
        obtain ⟨o37, h⟩ := h
        refine lf_icmp_ge 113 93 rfl rfl rfl o37 ⟨by decide, by decide⟩ (fun c => ?_) (fun c => ?_)
        · have h := h.1 c
          refine lf_sub (l := [(0, .ref 68), (1, .int (Int32.ofInt x1)), (3, .int (Int32.ofInt x3)), (4, .int (Int32.ofInt x4)), (5, .int (Int32.ofInt x5)), (7, .int (Int32.ofInt r30))]) (lf_sb1 rfl (lf_sb1 rfl (lf_sb1 rfl (lf_sb1 rfl (lf_sb1 rfl (lf_sb1 rfl lf_sb0)))))) ?_
          exact gm_129_p113 hX11 h
        · have h := h.2 c
          refine lf_seg 4 (pc' := 100) (lv' := [(8, .int (Int32.ofInt (((r32 * 13) + x3) + 1))), (7, .int (Int32.ofInt r30)), (6, .int (Int32.ofInt r27)), (0, .ref 68), (1, .int (Int32.ofInt x1)), (3, .int (Int32.ofInt x3)), (4, .int (Int32.ofInt x4)), (5, .int (Int32.ofInt x5))]) (st' := [.int (Int32.ofInt 1), .int (Int32.ofInt (((r32 * 13) + x3) + 1)), .ref 71]) rfl ?_
          refine lf_iast 101 156 rfl rfl rfl rfl rfl rfl o35 ?_
          refine lf_as (lf_up s31.1 71 (((r32 * 13) + x3) + 1) 1, s31.2.1, s31.2.2) rfl ?_
          refine lf_seg 4 (pc' := 109) (lv' := [(8, .int (Int32.ofInt (((r32 * 13) + x3) + 1))), (7, .int (Int32.ofInt r30)), (6, .int (Int32.ofInt r27)), (0, .ref 68), (1, .int (Int32.ofInt x1)), (3, .int (Int32.ofInt x3)), (4, .int (Int32.ofInt x4)), (5, .int (Int32.ofInt x5))]) (st' := [.int (Int32.ofInt (((r32 * 13) + x3) + 1)), .int (Int32.ofInt x4), .ref 70]) rfl ?_
          obtain ⟨o38, h⟩ := h
          refine lf_iast 110 156 rfl rfl rfl rfl rfl rfl o38 ?_
          refine lf_as (lf_up (lf_up s31.1 71 (((r32 * 13) + x3) + 1) 1) 70 x4 (((r32 * 13) + x3) + 1), s31.2.1, s31.2.2) rfl ?_
          refine lf_iinc 113 rfl rfl rfl rfl ?_
          refine lf_seg 0 (pc' := 113) (lv' := [(4, .int (Int32.ofInt (x4 + 1))), (8, .int (Int32.ofInt (((r32 * 13) + x3) + 1))), (7, .int (Int32.ofInt r30)), (6, .int (Int32.ofInt r27)), (0, .ref 68), (1, .int (Int32.ofInt x1)), (3, .int (Int32.ofInt x3)), (5, .int (Int32.ofInt x5))]) (st' := []) rfl ?_
          refine lf_sub (l := [(0, .ref 68), (1, .int (Int32.ofInt x1)), (3, .int (Int32.ofInt x3)), (4, .int (Int32.ofInt (x4 + 1))), (5, .int (Int32.ofInt x5)), (7, .int (Int32.ofInt r30))]) (lf_sb1 rfl (lf_sb1 rfl (lf_sb1 rfl (lf_sb1 rfl (lf_sb1 rfl (lf_sb1 rfl lf_sb0)))))) ?_
          exact gm_129_p113 hX11 h
theorem gm_129_p11L {L : Nat} {xs : Nat → Int32} {d : Nat} {Q : Int → lf_Z → Prop} {x1 : Int} {x3 : Int} {x4 : Int} {x5 : Int} {s : lf_Z} (h : fm_129_p11L Q x1 x3 x4 x5 s) : lf_E (px_ro L xs) (d + 5) 129 11 [(0, .ref 68), (1, .int (Int32.ofInt x1)), (3, .int (Int32.ofInt x3)), (4, .int (Int32.ofInt x4)), (5, .int (Int32.ofInt x5))] [] s (lf_qi Q) :=
  h (fun x4 x5 s => lf_E (px_ro L xs) (d + 5) 129 11 [(0, .ref 68), (1, .int (Int32.ofInt x1)), (3, .int (Int32.ofInt x3)), (4, .int (Int32.ofInt x4)), (5, .int (Int32.ofInt x5))] [] s (lf_qi Q)) (fun x4 x5 s hb => gm_129_p11 (fun _ _ _ h => h) hb)
def fm_129 (a1 : Int) (a2 : Int) (Q : Int → lf_Z → Prop) (s : lf_Z) : Prop := lf_R a1 ∧ (fm_129_p11L Q a1 (a1.tdiv 13) a2 0 s)
set_option maxRecDepth 100000 in
theorem gm_129 {L : Nat} {xs : Nat → Int32} {d : Nat} {a1 : Int} {a2 : Int} {Q : Int → lf_Z → Prop} {s : lf_Z} (h : fm_129 a1 a2 Q s) : lf_M (px_ro L xs) (d + 5) 129 [.ref 68, .int (Int32.ofInt a1), .int (Int32.ofInt a2)] s (lf_qi Q) := by
  unfold fm_129 at h
  show lf_E (px_ro L xs) (d + 5) 129 0 [(0, .ref 68), (1, .int (Int32.ofInt a1)), (2, .int (Int32.ofInt a2))] [] s _
  refine lf_seg 1 (pc' := 1) (lv' := [(0, .ref 68), (1, .int (Int32.ofInt a1)), (2, .int (Int32.ofInt a2))]) (st' := [.int (Int32.ofInt a1)]) rfl ?_
  refine lf_bipush 3 13 rfl rfl (by decide) (by decide) ?_
  obtain ⟨o21, h⟩ := h
  refine lf_idiv 4 rfl rfl o21 ⟨by decide, by decide⟩ (by decide) ?_
  refine lf_seg 5 (pc' := 11) (lv' := [(5, .int (Int32.ofInt 0)), (4, .int (Int32.ofInt a2)), (3, .int (Int32.ofInt (a1.tdiv 13))), (0, .ref 68), (1, .int (Int32.ofInt a1)), (2, .int (Int32.ofInt a2))]) (st' := []) rfl ?_
  refine lf_sub (l := [(0, .ref 68), (1, .int (Int32.ofInt a1)), (3, .int (Int32.ofInt (a1.tdiv 13))), (4, .int (Int32.ofInt a2)), (5, .int (Int32.ofInt 0))]) (lf_sb1 rfl (lf_sb1 rfl (lf_sb1 rfl (lf_sb1 rfl (lf_sb1 rfl lf_sb0))))) ?_
  exact gm_129_p11L h
-- fm_128 Walk.spread 68 i
def fm_128_p38 (Q : Int → lf_Z → Prop) (X38 : Int → Int → Int → lf_Z → Prop) (x2 : Int) (x3 : Int) (x4 : Int) (s : lf_Z) : Prop := lf_R x4 ∧ (lf_R x2 ∧ ((x2 ≤ x4 → (Q x3 s)) ∧ (¬ (x2 ≤ x4) → ((156 ≤ x4 → (Q x3 s)) ∧ (¬ (156 ≤ x4) → ((0 ≤ x4 ∧ x4 < 156) ∧ (lf_R (s.1 70 x4) ∧ (fm_129 (s.1 70 x4) x2 (fun r29 s28 => (X38 r29 (lf_or x3 (lf_shl 1 ((s.1 70 x4).tdiv 13))) (x4 + 1) s28)) s))))))))
def fm_128_p38L (Q : Int → lf_Z → Prop) (x2 : Int) (x3 : Int) (x4 : Int) (s : lf_Z) : Prop := ∀ X38 : Int → Int → Int → lf_Z → Prop, (∀ (x2 : Int) (x3 : Int) (x4 : Int) (s : lf_Z), fm_128_p38 Q X38 x2 x3 x4 s → X38 x2 x3 x4 s) → X38 x2 x3 x4 s
set_option maxRecDepth 100000 in
theorem gm_128_p38 {L : Nat} {xs : Nat → Int32} {d : Nat} {Q : Int → lf_Z → Prop} {x2 : Int} {x3 : Int} {x4 : Int} {s : lf_Z} {X38 : Int → Int → Int → lf_Z → Prop} (hX38 : ∀ x2 x3 x4 s, X38 x2 x3 x4 s → lf_E (px_ro L xs) (d + 6) 128 38 [(0, .ref 68), (2, .int (Int32.ofInt x2)), (3, .int (Int32.ofInt x3)), (4, .int (Int32.ofInt x4))] [] s (lf_qi Q)) (h : fm_128_p38 Q X38 x2 x3 x4 s) : lf_E (px_ro L xs) (d + 6) 128 38 [(0, .ref 68), (2, .int (Int32.ofInt x2)), (3, .int (Int32.ofInt x3)), (4, .int (Int32.ofInt x4))] [] s (lf_qi Q) := by
  unfold fm_128_p38 at h
  refine lf_seg 2 (pc' := 41) (lv' := [(0, .ref 68), (2, .int (Int32.ofInt x2)), (3, .int (Int32.ofInt x3)), (4, .int (Int32.ofInt x4))]) (st' := [.int (Int32.ofInt x2), .int (Int32.ofInt x4)]) rfl ?_
  obtain ⟨o24, h⟩ := h
  obtain ⟨o25, h⟩ := h
  refine lf_icmp_ge 86 44 rfl rfl rfl o24 o25 (fun c => ?_) (fun c => ?_)
  · have h := h.1 c
    refine lf_seg 1 (pc' := 87) (lv' := [(0, .ref 68), (2, .int (Int32.ofInt x2)), (3, .int (Int32.ofInt x3)), (4, .int (Int32.ofInt x4))]) (st' := [.int (Int32.ofInt x3)]) rfl ?_
    exact lf_retI rfl rfl h
  · have h := h.2 c
    refine lf_seg 1 (pc' := 46) (lv' := [(0, .ref 68), (2, .int (Int32.ofInt x2)), (3, .int (Int32.ofInt x3)), (4, .int (Int32.ofInt x4))]) (st' := [.int (Int32.ofInt x4)]) rfl ?_
    refine lf_sipush 49 156 rfl rfl (by decide) (by decide) ?_
    refine lf_icmp_ge 86 52 rfl rfl rfl o24 ⟨by decide, by decide⟩ (fun c => ?_) (fun c => ?_)
    · have h := h.1 c
      refine lf_seg 1 (pc' := 87) (lv' := [(0, .ref 68), (2, .int (Int32.ofInt x2)), (3, .int (Int32.ofInt x3)), (4, .int (Int32.ofInt x4))]) (st' := [.int (Int32.ofInt x3)]) rfl ?_
      exact lf_retI rfl rfl h
    · have h := h.2 c
      refine lf_seg 5 (pc' := 60) (lv' := [(0, .ref 68), (2, .int (Int32.ofInt x2)), (3, .int (Int32.ofInt x3)), (4, .int (Int32.ofInt x4))]) (st' := [.int (Int32.ofInt x4), .ref 70, .int (Int32.ofInt 1), .int (Int32.ofInt x3)]) rfl ?_
      obtain ⟨o26, h⟩ := h
      refine lf_iald 61 156 rfl rfl rfl rfl rfl rfl o26 ?_
      refine lf_bipush 63 13 rfl rfl (by decide) (by decide) ?_
      obtain ⟨o27, h⟩ := h
      refine lf_idiv 64 rfl rfl o27 ⟨by decide, by decide⟩ (by decide) ?_
      refine lf_ishl 65 rfl rfl ?_
      refine lf_ior 66 rfl rfl ?_
      refine lf_seg 5 (pc' := 74) (lv' := [(3, .int (Int32.ofInt (lf_or x3 (lf_shl 1 ((s.1 70 x4).tdiv 13))))), (0, .ref 68), (2, .int (Int32.ofInt x2)), (4, .int (Int32.ofInt x4))]) (st' := [.int (Int32.ofInt x4), .ref 70, .ref 68]) rfl ?_
      refine lf_iald 75 156 rfl rfl rfl rfl rfl rfl o26 ?_
      refine lf_seg 1 (pc' := 76) (lv' := [(3, .int (Int32.ofInt (lf_or x3 (lf_shl 1 ((s.1 70 x4).tdiv 13))))), (0, .ref 68), (2, .int (Int32.ofInt x2)), (4, .int (Int32.ofInt x4))]) (st' := [.int (Int32.ofInt x2), .int (Int32.ofInt (s.1 70 x4)), .ref 68]) rfl ?_
      refine lf_callI 79 rfl rfl rfl rfl (gm_129 h) (fun r29 s28 h => ?_)
      refine lf_seg 1 (pc' := 80) (lv' := [(2, .int (Int32.ofInt r29)), (3, .int (Int32.ofInt (lf_or x3 (lf_shl 1 ((s.1 70 x4).tdiv 13))))), (0, .ref 68), (4, .int (Int32.ofInt x4))]) (st' := []) rfl ?_
      refine lf_iinc 83 rfl rfl rfl rfl ?_
      refine lf_seg 1 (pc' := 38) (lv' := [(4, .int (Int32.ofInt (x4 + 1))), (2, .int (Int32.ofInt r29)), (3, .int (Int32.ofInt (lf_or x3 (lf_shl 1 ((s.1 70 x4).tdiv 13))))), (0, .ref 68)]) (st' := []) rfl ?_
      refine lf_sub (l := [(0, .ref 68), (2, .int (Int32.ofInt r29)), (3, .int (Int32.ofInt (lf_or x3 (lf_shl 1 ((s.1 70 x4).tdiv 13))))), (4, .int (Int32.ofInt (x4 + 1)))]) (lf_sb1 rfl (lf_sb1 rfl (lf_sb1 rfl (lf_sb1 rfl lf_sb0)))) ?_
      exact hX38 _ _ _ _ h
theorem gm_128_p38L {L : Nat} {xs : Nat → Int32} {d : Nat} {Q : Int → lf_Z → Prop} {x2 : Int} {x3 : Int} {x4 : Int} {s : lf_Z} (h : fm_128_p38L Q x2 x3 x4 s) : lf_E (px_ro L xs) (d + 6) 128 38 [(0, .ref 68), (2, .int (Int32.ofInt x2)), (3, .int (Int32.ofInt x3)), (4, .int (Int32.ofInt x4))] [] s (lf_qi Q) :=
  h (fun x2 x3 x4 s => lf_E (px_ro L xs) (d + 6) 128 38 [(0, .ref 68), (2, .int (Int32.ofInt x2)), (3, .int (Int32.ofInt x3)), (4, .int (Int32.ofInt x4))] [] s (lf_qi Q)) (fun x2 x3 x4 s hb => gm_128_p38 (fun _ _ _ _ h => h) hb)
def fm_128 (a1 : Int) (Q : Int → lf_Z → Prop) (s : lf_Z) : Prop := fm_120 a1 (fun r22 s21 => ((0 ≤ r22 ∧ r22 < 156) ∧ (fm_128_p38L Q 1 0 0 (lf_up (lf_up s21.1 70 0 r22) 71 r22 1, s21.2.1, s21.2.2)))) (lf_fl s.1 71 156 0, s.2.1, s.2.2)
set_option maxRecDepth 100000 in
theorem gm_128 {L : Nat} {xs : Nat → Int32} {d : Nat} {a1 : Int} {Q : Int → lf_Z → Prop} {s : lf_Z} (h : fm_128 a1 Q s) : lf_M (px_ro L xs) (d + 6) 128 [.ref 68, .int (Int32.ofInt a1)] s (lf_qi Q) := by
  unfold fm_128 at h
  show lf_E (px_ro L xs) (d + 6) 128 0 [(0, .ref 68), (1, .int (Int32.ofInt a1))] [] s _
  refine lf_seg 3 (pc' := 5) (lv' := [(0, .ref 68), (1, .int (Int32.ofInt a1))]) (st' := [.int (Int32.ofInt 0), .ref 71]) rfl ?_
  refine lf_callV (Q1 := fun s1 => s1 = (lf_fl s.1 71 156 0, s.2.1, s.2.2)) 8 rfl rfl rfl rfl (lf_fill (m := 156) rfl rfl rfl rfl rfl rfl) (fun s1 hs1 => ?_)
  refine lf_as (lf_fl s.1 71 156 0, s.2.1, s.2.2) hs1 ?_
  refine lf_seg 5 (pc' := 15) (lv' := [(0, .ref 68), (1, .int (Int32.ofInt a1))]) (st' := [.int (Int32.ofInt a1), .ref 68, .int (Int32.ofInt 0), .ref 70]) rfl ?_
  refine lf_callI 18 rfl rfl rfl rfl (gm_120 h) (fun r22 s21 h => ?_)
  refine lf_iast 19 156 rfl rfl rfl rfl rfl rfl ⟨by decide, by decide⟩ ?_
  refine lf_as (lf_up s21.1 70 0 r22, s21.2.1, s21.2.2) rfl ?_
  refine lf_seg 5 (pc' := 28) (lv' := [(0, .ref 68), (1, .int (Int32.ofInt a1))]) (st' := [.int (Int32.ofInt 0), .ref 70, .ref 71]) rfl ?_
  refine lf_iald 29 156 rfl rfl rfl rfl rfl rfl ⟨by decide, by decide⟩ ?_
  refine lf_seg 1 (pc' := 30) (lv' := [(0, .ref 68), (1, .int (Int32.ofInt a1))]) (st' := [.int (Int32.ofInt 1), .int (Int32.ofInt r22), .ref 71]) rfl ?_
  obtain ⟨o23, h⟩ := h
  refine lf_iast 31 156 rfl rfl rfl rfl rfl rfl o23 ?_
  refine lf_as (lf_up (lf_up s21.1 70 0 r22) 71 r22 1, s21.2.1, s21.2.2) rfl ?_
  refine lf_seg 6 (pc' := 38) (lv' := [(4, .int (Int32.ofInt 0)), (3, .int (Int32.ofInt 0)), (2, .int (Int32.ofInt 1)), (0, .ref 68), (1, .int (Int32.ofInt a1))]) (st' := []) rfl ?_
  refine lf_sub (l := [(0, .ref 68), (2, .int (Int32.ofInt 1)), (3, .int (Int32.ofInt 0)), (4, .int (Int32.ofInt 0))]) (lf_sb1 rfl (lf_sb1 rfl (lf_sb1 rfl (lf_sb1 rfl lf_sb0)))) ?_
  exact gm_128_p38L h
