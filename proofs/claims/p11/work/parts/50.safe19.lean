-- fm_300 Model.whom 95 i i i
theorem sm_300_p203 {X203 : Int → lf_Z → Prop} {Q : Int → lf_Z → Prop} {x3 : Int} {x7 : Int} {s : lf_Z} (hQ : ∀ (r : Int) (s' : lf_Z), iv_A s'.1 s'.2.2 → lf_fq [108, 113, 114, 115, 116, 117] 1000000 true s.1 s.2.2 s'.1 s'.2.2 → ((-1) ≤ r ∧ r ≤ 999) → Q r s') {M203 : Nat} (hX203 : ∀ (x7 : Int) (s' : lf_Z), iv_A s'.1 s'.2.2 → lf_fq [108, 113, 114, 115, 116, 117] 1000000 true s.1 s.2.2 s'.1 s'.2.2 → 0 ≤ x7 ∧ x7 ≤ 6 → (wh_E (s'.1 114) (x3) (x7)) → (6 - x7).toNat < M203 → X203 x7 s') (hM203 : (6 - x7).toNat ≤ M203) (hI : iv_A s.1 s.2.2) (bx3 : 0 ≤ x3 ∧ x3 ≤ 11) (bx7 : 0 ≤ x7 ∧ x7 ≤ 6) (kv0 : wh_E (s.1 114) (x3) (x7)) : fm_300_p203 Q x3 X203 x7 s := by
  unfold fm_300_p203
  have b39 : x7 < 6 := wh_lt kv0
  refine ⟨(show (0 : Int) ≤ x7 ∧ x7 < (12 : Int) from by omega), ?_⟩
  have b40 : 0 ≤ s.1 114 x7 ∧ s.1 114 x7 ≤ 11 := iv_r114 hI _
  refine ⟨(show lf_R (s.1 114 x7) from lf_Rof (by omega)), ?_⟩
  refine ⟨(show lf_R x3 from lf_Rof (by omega)), ?_⟩
  refine ⟨fun c41 => ?_, fun c41 => ?_⟩
  · skip
    replace c41 : s.1 114 x7 = x3 := c41
    refine ⟨(show (0 : Int) ≤ x7 ∧ x7 < (6 : Int) from by omega), ?_⟩
    have b42 : 0 ≤ s.1 117 x7 ∧ s.1 117 x7 ≤ 5 := iv_r117 hI _
    refine ⟨(show (0 : Int) ≤ s.1 117 x7 ∧ s.1 117 x7 < (6 : Int) from by omega), ?_⟩
    have b43 : 0 ≤ s.1 113 (s.1 117 x7) ∧ s.1 113 (s.1 117 x7) ≤ 5 := iv_r113 hI _
    exact hQ (s.1 113 (s.1 117 x7)) s hI (lf_fq_rf) (show (-1 : Int) ≤ s.1 113 (s.1 117 x7) ∧ s.1 113 (s.1 117 x7) ≤ (999 : Int) from by omega)
  · skip
    replace c41 : ¬ (s.1 114 x7 = x3) := c41
    have b44 : wh_E ((s.1 114)) (x3) ((x7 + 1)) := by first | exact wh_s (hI.1 114 rfl) kv1 (by omega) (by omega) | exact wh_S kv0 (by omega)
    exact hX203 (x7 + 1) s hI (lf_fq_rf) (show (0 : Int) ≤ x7 + 1 ∧ x7 + 1 ≤ (6 : Int) from by omega) (show wh_E ((s.1 114)) (x3) ((x7 + 1)) from by first | with_reducible assumption | assumption) (show (6 - (x7 + 1)).toNat < M203 from by omega)
theorem sm_300_p203L {Q : Int → lf_Z → Prop} {x3 : Int} {x7 : Int} {s : lf_Z} (hQ : ∀ (r : Int) (s' : lf_Z), iv_A s'.1 s'.2.2 → lf_fq [108, 113, 114, 115, 116, 117] 1000000 true s.1 s.2.2 s'.1 s'.2.2 → ((-1) ≤ r ∧ r ≤ 999) → Q r s') (hI : iv_A s.1 s.2.2) (bx3 : 0 ≤ x3 ∧ x3 ≤ 11) (bx7 : 0 ≤ x7 ∧ x7 ≤ 6) (kv0 : wh_E (s.1 114) (x3) (x7)) : fm_300_p203L Q x3 x7 s := by
  intro X203 hX
  have key : ∀ (m9 : Nat) (x7 : Int) (s' : lf_Z), iv_A s'.1 s'.2.2 → lf_fq [108, 113, 114, 115, 116, 117] 1000000 true s.1 s.2.2 s'.1 s'.2.2 → 0 ≤ x7 ∧ x7 ≤ 6 → (wh_E (s'.1 114) (x3) (x7)) → (6 - x7).toNat < m9 → X203 x7 s' := by
    intro m9
    induction m9 with
    | zero => intro x7 s' _ _ bx7 kv0 h9; exact absurd h9 (Nat.not_lt_zero _)
    | succ m9 ih => intro x7 s' i7 f7 bx7 kv0 h9; exact hX _ _ (sm_300_p203 (fun r9 t9 i9 f9 => hQ r9 t9 i9 (lf_fq_tr f7 f9))   (fun x7' t8 i8 f8 bx7' kv0' h8 => ih x7' t8 i8 (lf_fq_tr f7 f8) bx7' kv0' (by omega)) (Nat.le_refl _)  i7  bx3 bx7  kv0)
  exact key _ _ s hI lf_fq_rf bx7 kv0 (Nat.lt_succ_self _)
theorem sm_300_p117 {X95 : Int → lf_Z → Prop} {X117 : Int → lf_Z → Prop} {Q : Int → lf_Z → Prop} {x3 : Int} {x4 : Int} {x5 : Int} {x6 : Int} {x7 : Int} {s : lf_Z} (hQ : ∀ (r : Int) (s' : lf_Z), iv_A s'.1 s'.2.2 → lf_fq [108, 113, 114, 115, 116, 117] 1000000 true s.1 s.2.2 s'.1 s'.2.2 → ((-1) ≤ r ∧ r ≤ 999) → Q r s') {M95 : Nat} (hX95 : ∀ (x6 : Int) (s' : lf_Z), iv_A s'.1 s'.2.2 → lf_fq [108, 113, 114, 115, 116, 117] 1000000 true s.1 s.2.2 s'.1 s'.2.2 → 0 ≤ x6 ∧ x6 ≤ 12 → (x5 ≤ 6 ∧ 1 ≤ x4) → (wh_H (s'.1 114) (x5) (x3)) → (12 - x6).toNat < M95 → X95 x6 s') (hM95 : (12 - x6).toNat ≤ M95) {M117 : Nat} (hX117 : ∀ (x7 : Int) (s' : lf_Z), iv_A s'.1 s'.2.2 → lf_fq [108, 113, 114, 115, 116, 117] 1000000 true s.1 s.2.2 s'.1 s'.2.2 → 0 ≤ x7 ∧ x7 ≤ 6 → (x5 ≤ 6 ∧ 1 ≤ x4) → (wh_H (s'.1 114) (x5) (x3)) → (6 - x7).toNat < M117 → X117 x7 s') (hM117 : (6 - x7).toNat ≤ M117) (hI : iv_A s.1 s.2.2) (bx3 : (-1) ≤ x3 ∧ x3 ≤ 11) (bx4 : 0 ≤ x4 ∧ x4 ≤ 6) (bx5 : 1 ≤ x5 ∧ x5 ≤ 12) (bx6 : 0 ≤ x6 ∧ x6 ≤ 11) (bx7 : 0 ≤ x7 ∧ x7 ≤ 6) (kv0 : x5 ≤ 6 ∧ 1 ≤ x4) (kv1 : wh_H (s.1 114) (x5) (x3)) : fm_300_p117 X95 Q x3 x4 x5 x6 X117 x7 s := by
  unfold fm_300_p117
  refine ⟨(show lf_R x7 from lf_Rof (by omega)), ?_⟩
  refine ⟨(show lf_R x4 from lf_Rof (by omega)), ?_⟩
  refine ⟨fun c52 => ?_, fun c52 => ?_⟩
  · skip
    replace c52 : x4 ≤ x7 := c52
    have b53 : wh_H ((s.1 114)) (x5) (x3) := by first | with_reducible assumption | exact wh_i hI (by omega)
    exact hX95 (x6 + 1) s hI (lf_fq_rf) (show (0 : Int) ≤ x6 + 1 ∧ x6 + 1 ≤ (12 : Int) from by omega) (show x5 ≤ 6 ∧ 1 ≤ x4 from by omega) (show wh_H ((s.1 114)) (x5) (x3) from by first | with_reducible assumption | assumption) (show (12 - (x6 + 1)).toNat < M95 from by omega)
  · skip
    replace c52 : ¬ (x4 ≤ x7) := c52
    refine ⟨(show (0 : Int) ≤ x7 ∧ x7 < (6 : Int) from by omega), ?_⟩
    have b54 : 0 ≤ s.1 113 x7 ∧ s.1 113 x7 ≤ 5 := iv_r113 hI _
    refine sm_239 hI (show (0 : Int) ≤ s.1 113 x7 ∧ s.1 113 x7 ≤ (5 : Int) from by omega) (fun r53 q55 => ?_)
    obtain ⟨q55, q55x⟩ := q55
    replace q55x : r53 = s.1 96 (126 + 6 * (s.1 113 x7) + 3) := q55x
    refine sm_299 hI (show (0 : Int) ≤ s.1 113 x7 ∧ s.1 113 x7 ≤ (5 : Int) from by omega) (show (0 : Int) ≤ r53 ∧ r53 ≤ (11 : Int) from by omega) (fun r55 q56 => ?_)
    refine ⟨(show (0 : Int) ≤ (12 * x7) + x6 ∧ (12 * x7) + x6 < (72 : Int) from by omega), ?_⟩
    have hI57 : iv_A (lf_up s.1 115 ((12 * x7) + x6) r55) s.2.2 := iv_w115 hI (by omega)
    have fr58 : lf_fq [108, 113, 114, 115, 116, 117] 1000000 true s.1 s.2.2 (lf_up s.1 115 ((12 * x7) + x6) r55) s.2.2 := lf_fq_up (lf_fq_rf) rfl (fun h => absurd h (by decide))
    have b59 : wh_H ((s.1 114)) (x5) (x3) := by first | with_reducible assumption | exact wh_c (hI.1 114 rfl) kv1
    exact hX117 (x7 + 1) (lf_up s.1 115 ((12 * x7) + x6) r55, s.2.1, s.2.2) hI57 fr58 (show (0 : Int) ≤ x7 + 1 ∧ x7 + 1 ≤ (6 : Int) from by omega) (show x5 ≤ 6 ∧ 1 ≤ x4 from by omega) (show wh_H ((s.1 114)) (x5) (x3) from by first | with_reducible assumption | assumption) (show (6 - (x7 + 1)).toNat < M117 from by omega)
theorem sm_300_p117L {X95 : Int → lf_Z → Prop} {Q : Int → lf_Z → Prop} {x3 : Int} {x4 : Int} {x5 : Int} {x6 : Int} {x7 : Int} {s : lf_Z} (hQ : ∀ (r : Int) (s' : lf_Z), iv_A s'.1 s'.2.2 → lf_fq [108, 113, 114, 115, 116, 117] 1000000 true s.1 s.2.2 s'.1 s'.2.2 → ((-1) ≤ r ∧ r ≤ 999) → Q r s') {M95 : Nat} (hX95 : ∀ (x6 : Int) (s' : lf_Z), iv_A s'.1 s'.2.2 → lf_fq [108, 113, 114, 115, 116, 117] 1000000 true s.1 s.2.2 s'.1 s'.2.2 → 0 ≤ x6 ∧ x6 ≤ 12 → (x5 ≤ 6 ∧ 1 ≤ x4) → (wh_H (s'.1 114) (x5) (x3)) → (12 - x6).toNat < M95 → X95 x6 s') (hM95 : (12 - x6).toNat ≤ M95) (hI : iv_A s.1 s.2.2) (bx3 : (-1) ≤ x3 ∧ x3 ≤ 11) (bx4 : 0 ≤ x4 ∧ x4 ≤ 6) (bx5 : 1 ≤ x5 ∧ x5 ≤ 12) (bx6 : 0 ≤ x6 ∧ x6 ≤ 11) (bx7 : 0 ≤ x7 ∧ x7 ≤ 6) (kv0 : x5 ≤ 6 ∧ 1 ≤ x4) (kv1 : wh_H (s.1 114) (x5) (x3)) : fm_300_p117L X95 Q x3 x4 x5 x6 x7 s := by
  intro X117 hX
  have key : ∀ (m9 : Nat) (x7 : Int) (s' : lf_Z), iv_A s'.1 s'.2.2 → lf_fq [108, 113, 114, 115, 116, 117] 1000000 true s.1 s.2.2 s'.1 s'.2.2 → 0 ≤ x7 ∧ x7 ≤ 6 → (x5 ≤ 6 ∧ 1 ≤ x4) → (wh_H (s'.1 114) (x5) (x3)) → (6 - x7).toNat < m9 → X117 x7 s' := by
    intro m9
    induction m9 with
    | zero => intro x7 s' _ _ bx7 kv0 kv1 h9; exact absurd h9 (Nat.not_lt_zero _)
    | succ m9 ih => intro x7 s' i7 f7 bx7 kv0 kv1 h9; exact hX _ _ (sm_300_p117 (fun r9 t9 i9 f9 => hQ r9 t9 i9 (lf_fq_tr f7 f9))  (fun p0 t9 i9 f9 => hX95 p0 t9 i9 (lf_fq_tr f7 f9)) hM95 (fun x7' t8 i8 f8 bx7' kv0' kv1' h8 => ih x7' t8 i8 (lf_fq_tr f7 f8) bx7' kv0' kv1' (by omega)) (Nat.le_refl _)  i7  bx3 bx4 bx5 bx6 bx7  kv0 kv1)
  exact key _ _ s hI lf_fq_rf bx7 kv0 kv1 (Nat.lt_succ_self _)
theorem sm_300_p95 {X95 : Int → lf_Z → Prop} {Q : Int → lf_Z → Prop} {x3 : Int} {x4 : Int} {x5 : Int} {x6 : Int} {s : lf_Z} (hQ : ∀ (r : Int) (s' : lf_Z), iv_A s'.1 s'.2.2 → lf_fq [108, 113, 114, 115, 116, 117] 1000000 true s.1 s.2.2 s'.1 s'.2.2 → ((-1) ≤ r ∧ r ≤ 999) → Q r s') {M95 : Nat} (hX95 : ∀ (x6 : Int) (s' : lf_Z), iv_A s'.1 s'.2.2 → lf_fq [108, 113, 114, 115, 116, 117] 1000000 true s.1 s.2.2 s'.1 s'.2.2 → 0 ≤ x6 ∧ x6 ≤ 12 → (x5 ≤ 6 ∧ 1 ≤ x4) → (wh_H (s'.1 114) (x5) (x3)) → (12 - x6).toNat < M95 → X95 x6 s') (hM95 : (12 - x6).toNat ≤ M95) (hI : iv_A s.1 s.2.2) (bx3 : (-1) ≤ x3 ∧ x3 ≤ 11) (bx4 : 0 ≤ x4 ∧ x4 ≤ 6) (bx5 : 0 ≤ x5 ∧ x5 ≤ 12) (bx6 : 0 ≤ x6 ∧ x6 ≤ 12) (kv0 : x5 ≤ 6 ∧ 1 ≤ x4) (kv1 : wh_H (s.1 114) (x5) (x3)) : fm_300_p95 Q x3 x4 x5 X95 x6 s := by
  unfold fm_300_p95
  refine ⟨(show lf_R x6 from lf_Rof (by omega)), ?_⟩
  refine ⟨(show lf_R x5 from lf_Rof (by omega)), ?_⟩
  refine ⟨fun c31 => ?_, fun c31 => ?_⟩
  · skip
    replace c31 : x5 ≤ x6 := c31
    refine sm_302 hI (show (0 : Int) ≤ x5 ∧ x5 ≤ (12 : Int) from by omega) (show (0 : Int) ≤ x4 ∧ x4 ≤ (6 : Int) from by omega) (show x5 ≤ 6 from by omega) (show 1 ≤ x4 ∧ x4 ≤ 6 from by omega) (fun r39 s38 hI33 fr32 q34 => ?_)
    have fr35 : lf_fq [108, 113, 114, 115, 116, 117] 1000000 true s.1 s.2.2 s38.1 s38.2.2 := lf_fq_tr (lf_fq_rf) (lf_fq_wk fr32 rfl (by decide) (by decide))
    refine ⟨(show lf_R r39 from lf_Rof (by omega)), ?_⟩
    refine ⟨fun c36 => ?_, fun c36 => ?_⟩
    · skip
      replace c36 : r39 < 1000 := c36
      refine ⟨(show lf_R x3 from lf_Rof (by omega)), ?_⟩
      refine ⟨fun c37 => ?_, fun c37 => ?_⟩
      · skip
        replace c37 : x3 ≠ (-1) := c37
        have b38 : wh_E ((s38.1 114)) (x3) (0) := by first | exact wh_s (fr32.1 114 rfl) kv1 (by omega) (by omega) | exact wh_S kv0 (by omega)
        exact sm_300_p203L (fun r9 t9 i9 f9 => hQ r9 t9 i9 (lf_fq_tr fr35 f9)) hI33 (show (0 : Int) ≤ x3 ∧ x3 ≤ (11 : Int) from by omega) (show (0 : Int) ≤ 0 ∧ 0 ≤ (6 : Int) from by omega) (show wh_E ((s38.1 114)) (x3) (0) from by first | with_reducible assumption | assumption)
      · skip
        replace c37 : ¬ (x3 ≠ (-1)) := c37
        exact hQ r39 s38 hI33 fr35 (show (-1 : Int) ≤ r39 ∧ r39 ≤ (999 : Int) from by omega)
    · skip
      replace c36 : ¬ (r39 < 1000) := c36
      exact hQ (-1) s38 hI33 fr35 (show (-1 : Int) ≤ (-1) ∧ (-1) ≤ (999 : Int) from by omega)
  · skip
    replace c31 : ¬ (x5 ≤ x6) := c31
    refine ⟨(show (0 : Int) ≤ x6 ∧ x6 < (12 : Int) from by omega), ?_⟩
    have b45 : 0 ≤ s.1 114 x6 ∧ s.1 114 x6 ≤ 11 := iv_r114 hI _
    refine sm_261 hI (show (-1 : Int) ≤ s.1 114 x6 ∧ s.1 114 x6 ≤ (11 : Int) from by omega) (show (0 : Int) ≤ 1 ∧ 1 ≤ (1 : Int) from by omega) (fun s48 hI47 fr46 ps49 => ?_)
    replace ps49 : (1 : Int) = 1 → bf_G (s48.1 96) (s48.1 108) ((s.1 114 x6)) := ps49
    have fr50 : lf_fq [108, 113, 114, 115, 116, 117] 1000000 true s.1 s.2.2 s48.1 s48.2.2 := lf_fq_tr (lf_fq_rf) (lf_fq_wk fr46 rfl (by decide) (by decide))
    have b51 : wh_H ((s48.1 114)) (x5) (x3) := by first | with_reducible assumption | exact wh_c (fr46.1 114 rfl) kv1
    exact sm_300_p117L (fun r9 t9 i9 f9 => hQ r9 t9 i9 (lf_fq_tr fr50 f9)) (fun p0 t9 i9 f9 => hX95 p0 t9 i9 (lf_fq_tr fr50 f9)) (show (12 - x6).toNat ≤ M95 from by omega) hI47 (show (-1 : Int) ≤ x3 ∧ x3 ≤ (11 : Int) from by omega) (show (0 : Int) ≤ x4 ∧ x4 ≤ (6 : Int) from by omega) (show (1 : Int) ≤ x5 ∧ x5 ≤ (12 : Int) from by omega) (show (0 : Int) ≤ x6 ∧ x6 ≤ (11 : Int) from by omega) (show (0 : Int) ≤ 0 ∧ 0 ≤ (6 : Int) from by omega) (show x5 ≤ 6 ∧ 1 ≤ x4 from by omega) (show wh_H ((s48.1 114)) (x5) (x3) from by first | with_reducible assumption | assumption)
theorem sm_300_p95L {Q : Int → lf_Z → Prop} {x3 : Int} {x4 : Int} {x5 : Int} {x6 : Int} {s : lf_Z} (hQ : ∀ (r : Int) (s' : lf_Z), iv_A s'.1 s'.2.2 → lf_fq [108, 113, 114, 115, 116, 117] 1000000 true s.1 s.2.2 s'.1 s'.2.2 → ((-1) ≤ r ∧ r ≤ 999) → Q r s') (hI : iv_A s.1 s.2.2) (bx3 : (-1) ≤ x3 ∧ x3 ≤ 11) (bx4 : 0 ≤ x4 ∧ x4 ≤ 6) (bx5 : 0 ≤ x5 ∧ x5 ≤ 12) (bx6 : 0 ≤ x6 ∧ x6 ≤ 12) (kv0 : x5 ≤ 6 ∧ 1 ≤ x4) (kv1 : wh_H (s.1 114) (x5) (x3)) : fm_300_p95L Q x3 x4 x5 x6 s := by
  intro X95 hX
  have key : ∀ (m9 : Nat) (x6 : Int) (s' : lf_Z), iv_A s'.1 s'.2.2 → lf_fq [108, 113, 114, 115, 116, 117] 1000000 true s.1 s.2.2 s'.1 s'.2.2 → 0 ≤ x6 ∧ x6 ≤ 12 → (x5 ≤ 6 ∧ 1 ≤ x4) → (wh_H (s'.1 114) (x5) (x3)) → (12 - x6).toNat < m9 → X95 x6 s' := by
    intro m9
    induction m9 with
    | zero => intro x6 s' _ _ bx6 kv0 kv1 h9; exact absurd h9 (Nat.not_lt_zero _)
    | succ m9 ih => intro x6 s' i7 f7 bx6 kv0 kv1 h9; exact hX _ _ (sm_300_p95 (fun r9 t9 i9 f9 => hQ r9 t9 i9 (lf_fq_tr f7 f9))   (fun x6' t8 i8 f8 bx6' kv0' kv1' h8 => ih x6' t8 i8 (lf_fq_tr f7 f8) bx6' kv0' kv1' (by omega)) (Nat.le_refl _)  i7  bx3 bx4 bx5 bx6  kv0 kv1)
  exact key _ _ s hI lf_fq_rf bx6 kv0 kv1 (Nat.lt_succ_self _)
theorem sm_300_p72 {Q : Int → lf_Z → Prop} {x1 : Int} {x2 : Int} {x3 : Int} {s : lf_Z} (hQ : ∀ (r : Int) (s' : lf_Z), iv_A s'.1 s'.2.2 → lf_fq [108, 113, 114, 115, 116, 117] 1000000 true s.1 s.2.2 s'.1 s'.2.2 → ((-1) ≤ r ∧ r ≤ 999) → Q r s') (hI : iv_A s.1 s.2.2) (bx1 : 1 ≤ x1 ∧ x1 ≤ 63) (bx2 : 1 ≤ x2 ∧ x2 ≤ 4095) (bx3 : (-1) ≤ x3 ∧ x3 ≤ 11) (kv0 : lf_bt (x2) 16 ≤ lf_bt (x1) 16) (kv1 : x3 = -1 ∨ (0 ≤ x3 ∧ x3 < 12 ∧ lf_and (lf_shr (x2) (x3)) 1 = 1)) : fm_300_p72 Q x1 x2 x3 s := by
  unfold fm_300_p72
  refine sm_301 hI (show (0 : Int) ≤ x1 ∧ x1 ≤ (63 : Int) from by omega) (fun r33 s32 hI17 fr16 ps19 ps20 q18 => ?_)
  replace ps19 : r33 = lf_bt (x1) 12 := ps19
  replace ps20 : lo_C (s32.1 113) (x1) (r33) 12 := ps20
  have fr21 : lf_fq [108, 113, 114, 115, 116, 117] 1000000 true s.1 s.2.2 s32.1 s32.2.2 := lf_fq_tr (lf_fq_rf) (lf_fq_wk fr16 rfl (by decide) (by decide))
  refine sm_301b hI17 (show (0 : Int) ≤ x2 ∧ x2 ≤ (4095 : Int) from by omega) (fun r35 s34 hI23 fr22 ps25 ps26 q24 => ?_)
  replace ps25 : r35 = lf_bt (x2) 12 := ps25
  replace ps26 : lo_C (s34.1 114) (x2) (r35) 12 := ps26
  have fr27 : lf_fq [108, 113, 114, 115, 116, 117] 1000000 true s.1 s.2.2 s34.1 s34.2.2 := lf_fq_tr fr21 (lf_fq_wk fr22 rfl (by decide) (by decide))
  have b28 : lf_bt (x2) 12 ≤ lf_bt (x2) 16 := lf_bt12 _
  have b29 : lf_bt (x1) 12 = lf_bt (x1) 16 ∧ lf_bt (x1) 16 ≤ 6 ∧ 1 ≤ lf_bt (x1) 16 := lf_bt6 (by omega)
  have b30 : wh_H ((s34.1 114)) (r35) (x3) := by first | with_reducible assumption | exact wh_i ps26 (by omega)
  exact sm_300_p95L (fun r9 t9 i9 f9 => hQ r9 t9 i9 (lf_fq_tr fr27 f9)) hI23 (show (-1 : Int) ≤ x3 ∧ x3 ≤ (11 : Int) from by omega) (show (0 : Int) ≤ r33 ∧ r33 ≤ (6 : Int) from by omega) (show (0 : Int) ≤ r35 ∧ r35 ≤ (12 : Int) from by omega) (show (0 : Int) ≤ 0 ∧ 0 ≤ (12 : Int) from by omega) (show r35 ≤ 6 ∧ 1 ≤ r33 from by omega) (show wh_H ((s34.1 114)) (r35) (x3) from by first | with_reducible assumption | assumption)
theorem sm_300 {a1 : Int} {a2 : Int} {a3 : Int} {Q : Int → lf_Z → Prop} {s : lf_Z} (hI : iv_A s.1 s.2.2) (ba1 : (-2147483648) ≤ a1 ∧ a1 ≤ 2147483647) (ba2 : (-2147483648) ≤ a2 ∧ a2 ≤ 2147483647) (ba3 : (-2147483648) ≤ a3 ∧ a3 ≤ 2147483647) (hQ : ∀ (r : Int) (s' : lf_Z), iv_A s'.1 s'.2.2 → lf_fq [108, 113, 114, 115, 116, 117] 1000000 true s.1 s.2.2 s'.1 s'.2.2 → ((-1) ≤ r ∧ r ≤ 999) → Q r s') : fm_300 a1 a2 a3 Q s := by
  unfold fm_300
  have b1 : 0 ≤ s.1 96 2 ∧ s.1 96 2 ≤ 6 := iv_rd96 hI (iv_f2103129b (by omega))
  have b2 : s.1 96 2 ≤ 0 ∨ 0 < s.1 96 0 := (show s.1 96 2 ≤ 0 ∨ 0 < s.1 96 0 from iv_l96_2 hI)
  have b3 : 1 ≤ lf_shl 1 (s.1 96 2) ∧ lf_shl 1 (s.1 96 2) ≤ 64 := lf_shl1 (m := 6) (by omega) (by omega) (by decide)
  refine sm_183 hI (show (-2147483648 : Int) ≤ a1 ∧ a1 ≤ (2147483647 : Int) from by omega) (show (-1 : Int) ≤ 1 ∧ 1 ≤ (97 : Int) from by omega) (show (-1 : Int) ≤ (lf_shl 1 (s.1 96 2)) - 1 ∧ (lf_shl 1 (s.1 96 2)) - 1 ≤ (9999 : Int) from by omega) (fun z22 q4 => ?_)
  refine ⟨fun c5 => ?_, fun c5 => ?_⟩
  · skip
    have dc5 := q4.2 c5
    exact hQ (-1) s hI (lf_fq_rf) (show (-1 : Int) ≤ (-1) ∧ (-1) ≤ (999 : Int) from by omega)
  · skip
    have dc5 := q4.1 c5
    have b6 : 0 ≤ s.1 96 0 ∧ s.1 96 0 ≤ 12 := iv_rd96 hI (iv_f3e1fa21c (by omega))
    have b7 : 1 ≤ lf_shl 1 (s.1 96 0) ∧ lf_shl 1 (s.1 96 0) ≤ 4096 := lf_shl1 (m := 12) (by omega) (by omega) (by decide)
    refine sm_183 hI (show (-2147483648 : Int) ≤ a2 ∧ a2 ≤ (2147483647 : Int) from by omega) (show (-1 : Int) ≤ 1 ∧ 1 ≤ (97 : Int) from by omega) (show (-1 : Int) ≤ (lf_shl 1 (s.1 96 0)) - 1 ∧ (lf_shl 1 (s.1 96 0)) - 1 ≤ (9999 : Int) from by omega) (fun z24 q8 => ?_)
    refine ⟨fun c9 => ?_, fun c9 => ?_⟩
    · skip
      have dc9 := q8.2 c9
      exact hQ (-1) s hI (lf_fq_rf) (show (-1 : Int) ≤ (-1) ∧ (-1) ≤ (999 : Int) from by omega)
    · skip
      have dc9 := q8.1 c9
      refine sm_188 hI (show (-2147483648 : Int) ≤ a2 ∧ a2 ≤ (2147483647 : Int) from by omega) (fun r26 ps11 q10 => ?_)
      replace ps11 : r26 = lf_bt (a2) 16 := ps11
      refine sm_188 hI (show (-2147483648 : Int) ≤ a1 ∧ a1 ≤ (2147483647 : Int) from by omega) (fun r28 ps13 q12 => ?_)
      replace ps13 : r28 = lf_bt (a1) 16 := ps13
      refine ⟨(show lf_R r26 from lf_Rof (by omega)), ?_⟩
      refine ⟨(show lf_R r28 from lf_Rof (by omega)), ?_⟩
      refine ⟨fun c14 => ?_, fun c14 => ?_⟩
      · skip
        replace c14 : r26 ≤ r28 := c14
        refine ⟨(show lf_R a3 from lf_Rof (by omega)), ?_⟩
        refine ⟨fun c15 => ?_, fun c15 => ?_⟩
        · skip
          replace c15 : a3 = (-1) := c15
          exact sm_300_p72 hQ hI (show (1 : Int) ≤ a1 ∧ a1 ≤ (63 : Int) from by omega) (show (1 : Int) ≤ a2 ∧ a2 ≤ (4095 : Int) from by omega) (show (-1 : Int) ≤ a3 ∧ a3 ≤ (11 : Int) from by omega) (show lf_bt (a2) 16 ≤ lf_bt (a1) 16 from by omega) (show a3 = -1 ∨ (0 ≤ a3 ∧ a3 < 12 ∧ lf_and (lf_shr (a2) (a3)) 1 = 1) from by omega)
        · skip
          replace c15 : ¬ (a3 = (-1)) := c15
          refine sm_185 hI (show (-2147483648 : Int) ≤ a3 ∧ a3 ≤ (2147483647 : Int) from by omega) (fun z58 q60 => ?_)
          refine ⟨fun c61 => ?_, fun c61 => ?_⟩
          · skip
            have dc61 := q60.2 c61
            exact hQ (-1) s hI (lf_fq_rf) (show (-1 : Int) ≤ (-1) ∧ (-1) ≤ (999 : Int) from by omega)
          · skip
            have dc61 := q60.1 c61
            refine sm_210 hI (show (-2147483648 : Int) ≤ a2 ∧ a2 ≤ (2147483647 : Int) from by omega) (show (-1 : Int) ≤ a3 ∧ a3 ≤ (15 : Int) from by omega) (fun z60 q62 => ?_)
            refine ⟨fun c63 => ?_, fun c63 => ?_⟩
            · skip
              have dc63 := q62.1 c63
              exact sm_300_p72 hQ hI (show (1 : Int) ≤ a1 ∧ a1 ≤ (63 : Int) from by omega) (show (1 : Int) ≤ a2 ∧ a2 ≤ (4095 : Int) from by omega) (show (-1 : Int) ≤ a3 ∧ a3 ≤ (11 : Int) from by omega) (show lf_bt (a2) 16 ≤ lf_bt (a1) 16 from by omega) (show a3 = -1 ∨ (0 ≤ a3 ∧ a3 < 12 ∧ lf_and (lf_shr (a2) (a3)) 1 = 1) from by omega)
            · skip
              have dc63 := q62.2 c63
              exact hQ (-1) s hI (lf_fq_rf) (show (-1 : Int) ≤ (-1) ∧ (-1) ≤ (999 : Int) from by omega)
      · skip
        replace c14 : ¬ (r26 ≤ r28) := c14
        exact hQ (-1) s hI (lf_fq_rf) (show (-1 : Int) ≤ (-1) ∧ (-1) ≤ (999 : Int) from by omega)
-- fm_144 Walk.openGates 68
theorem sm_144_p43 {X4 : Int → Int → lf_Z → Prop} {Q : Int → lf_Z → Prop} {x1 : Int} {x2 : Int} {s : lf_Z} (hQ : ∀ (r : Int), ((-2147483648) ≤ r ∧ r ≤ 2147483647) → Q r s) {M4 : Nat} (hX4 : ∀ (x1 : Int) (x2 : Int), (-2147483648) ≤ x1 ∧ x1 ≤ 2147483647 → 0 ≤ x2 ∧ x2 ≤ 16 → (16 - x2).toNat < M4 → X4 x1 x2 s) (hM4 : (16 - x2).toNat ≤ M4) (hI : iv_A s.1 s.2.2) (bx1 : (-2147483648) ≤ x1 ∧ x1 ≤ 2147483647) (bx2 : 0 ≤ x2 ∧ x2 ≤ 15) : fm_144_p43 X4 Q x1 x2 s := by
  unfold fm_144_p43
  exact hX4 (x1) (x2 + 1) (show (-2147483648 : Int) ≤ x1 ∧ x1 ≤ (2147483647 : Int) from by omega) (show (0 : Int) ≤ x2 + 1 ∧ x2 + 1 ≤ (16 : Int) from by omega) (show (16 - (x2 + 1)).toNat < M4 from by omega)
theorem sm_144_p4 {X4 : Int → Int → lf_Z → Prop} {Q : Int → lf_Z → Prop} {x1 : Int} {x2 : Int} {s : lf_Z} (hQ : ∀ (r : Int), ((-2147483648) ≤ r ∧ r ≤ 2147483647) → Q r s) {M4 : Nat} (hX4 : ∀ (x1 : Int) (x2 : Int), (-2147483648) ≤ x1 ∧ x1 ≤ 2147483647 → 0 ≤ x2 ∧ x2 ≤ 16 → (16 - x2).toNat < M4 → X4 x1 x2 s) (hM4 : (16 - x2).toNat ≤ M4) (hI : iv_A s.1 s.2.2) (bx1 : (-2147483648) ≤ x1 ∧ x1 ≤ 2147483647) (bx2 : 0 ≤ x2 ∧ x2 ≤ 16) : fm_144_p4 Q X4 x1 x2 s := by
  unfold fm_144_p4
  have b1 : 0 ≤ s.1 1 1 ∧ s.1 1 1 ≤ 16 := iv_r1_1 hI
  refine ⟨(show lf_R x2 from lf_Rof (by omega)), ?_⟩
  refine ⟨(show lf_R (s.1 1 1) from lf_Rof (by omega)), ?_⟩
  refine ⟨fun c2 => ?_, fun c2 => ?_⟩
  · skip
    replace c2 : s.1 1 1 ≤ x2 := c2
    exact hQ x1 (show (-2147483648 : Int) ≤ x1 ∧ x1 ≤ (2147483647 : Int) from by omega)
  · skip
    replace c2 : ¬ (s.1 1 1 ≤ x2) := c2
    refine sm_89 hI (show (-2147483648 : Int) ≤ x2 ∧ x2 ≤ (2147483647 : Int) from by omega) (fun z24 q3 => ?_)
    have b4 : 0 ≤ s.1 6 x2 ∧ s.1 6 x2 ≤ 1 := iv_r6 hI _
    refine ⟨fun c5 => ?_, fun c5 => ?_⟩
    · skip
      have dc5 := q3.2 c5
      exact sm_144_p43 hQ hX4 (show (16 - x2).toNat ≤ M4 from by omega) hI (show (-2147483648 : Int) ≤ x1 ∧ x1 ≤ (2147483647 : Int) from by omega) (show (0 : Int) ≤ x2 ∧ x2 ≤ (15 : Int) from by omega)
    · skip
      have dc5 := q3.1 c5
      refine sm_90 hI (show (0 : Int) ≤ x2 ∧ x2 ≤ (15 : Int) from by omega) (fun z26 => ?_)
      refine ⟨fun c7 => ?_, fun c7 => ?_⟩
      · skip
        exact sm_144_p43 hQ hX4 (show (16 - x2).toNat ≤ M4 from by omega) hI (show (-2147483648 : Int) ≤ x1 ∧ x1 ≤ (2147483647 : Int) from by omega) (show (0 : Int) ≤ x2 ∧ x2 ≤ (15 : Int) from by omega)
      · skip
        have b8 : 1 ≤ lf_shl 1 x2 ∧ lf_shl 1 x2 ≤ 32768 := lf_shl1 (m := 15) (by omega) (by omega) (by decide)
        have b9 : (-2147483648) ≤ lf_or x1 (lf_shl 1 x2) ∧ lf_or x1 (lf_shl 1 x2) ≤ 2147483647 := lf_orB
        exact sm_144_p43 hQ hX4 (show (16 - x2).toNat ≤ M4 from by omega) hI (show (-2147483648 : Int) ≤ lf_or x1 (lf_shl 1 x2) ∧ lf_or x1 (lf_shl 1 x2) ≤ (2147483647 : Int) from by omega) (show (0 : Int) ≤ x2 ∧ x2 ≤ (15 : Int) from by omega)
theorem sm_144_p4L {Q : Int → lf_Z → Prop} {x1 : Int} {x2 : Int} {s : lf_Z} (hQ : ∀ (r : Int), ((-2147483648) ≤ r ∧ r ≤ 2147483647) → Q r s) (hI : iv_A s.1 s.2.2) (bx1 : (-2147483648) ≤ x1 ∧ x1 ≤ 2147483647) (bx2 : 0 ≤ x2 ∧ x2 ≤ 16) : fm_144_p4L Q x1 x2 s := by
  intro X4 hX
  have key : ∀ (m9 : Nat) (x1 : Int) (x2 : Int), (-2147483648) ≤ x1 ∧ x1 ≤ 2147483647 → 0 ≤ x2 ∧ x2 ≤ 16 → (16 - x2).toNat < m9 → X4 x1 x2 s := by
    intro m9
    induction m9 with
    | zero => intro x1 x2 bx1 bx2 h9; exact absurd h9 (Nat.not_lt_zero _)
    | succ m9 ih => intro x1 x2 bx1 bx2 h9; exact hX _ _ _ (sm_144_p4 hQ   (fun x1' x2' bx1' bx2' h8 => ih x1' x2' bx1' bx2' (by omega)) (Nat.le_refl _)  hI  bx1 bx2  )
  exact key _ _ _ bx1 bx2   (Nat.lt_succ_self _)
theorem sm_144 {Q : Int → lf_Z → Prop} {s : lf_Z} (hI : iv_A s.1 s.2.2) (hQ : ∀ (r : Int), ((-2147483648) ≤ r ∧ r ≤ 2147483647) → Q r s) : fm_144 Q s := by
  unfold fm_144
  exact sm_144_p4L hQ hI (show (-2147483648 : Int) ≤ 0 ∧ 0 ≤ (2147483647 : Int) from by omega) (show (0 : Int) ≤ 0 ∧ 0 ≤ (16 : Int) from by omega)
-- fm_143 Walk.fewestToShut 68 i
theorem sm_143_p152 {X53 : Int → lf_Z → Prop} {Q : Int → lf_Z → Prop} {x1 : Int} {x2 : Int} {x3 : Int} {x4 : Int} {x5 : Int} {x6 : Int} {s : lf_Z} (hQ : ∀ (r : Int) (s' : lf_Z), iv_A s'.1 s'.2.2 → lf_fq [63, 64, 65, 66, 68, 69, 70, 71] 1000000 true s.1 s.2.2 s'.1 s'.2.2 → ((-2147483648) ≤ r ∧ r ≤ 65535) → Q r s') {M53 : Nat} (hX53 : ∀ (x6 : Int) (s' : lf_Z), iv_A s'.1 s'.2.2 → lf_fq [63, 64, 65, 66, 68, 69, 70, 71] 1000000 true s.1 s.2.2 s'.1 s'.2.2 → 0 ≤ x6 ∧ x6 ≤ 4 → (0 < s'.1 16 x1) → (4 - x6).toNat < M53 → X53 x6 s') (hM53 : (4 - x6).toNat ≤ M53) (hI : iv_A s.1 s.2.2) (bx1 : 0 ≤ x1 ∧ x1 ≤ 3) (bx2 : (-2147483648) ≤ x2 ∧ x2 ≤ 2147483647) (bx3 : (-2147483648) ≤ x3 ∧ x3 ≤ 2147483647) (bx4 : (-2147483648) ≤ x4 ∧ x4 ≤ 2147483647) (bx5 : 1 ≤ x5 ∧ x5 ≤ 65536) (bx6 : 0 ≤ x6 ∧ x6 ≤ 3) (kv0 : 0 < s.1 16 x1) : fm_143_p152 X53 Q x1 x2 x3 x4 x5 x6 s := by
  unfold fm_143_p152
  have b20 : (-2147483648) ≤ s.1 16 x1 ∧ s.1 16 x1 ≤ 2147483647 := iv_full hI
  exact hX53 (x6 + 1) s hI (lf_fq_rf) (show (0 : Int) ≤ x6 + 1 ∧ x6 + 1 ≤ (4 : Int) from by omega) (show 0 < (s.1 16 x1) from by omega) (show (4 - (x6 + 1)).toNat < M53 from by omega)
theorem sm_143_p144 {X53 : Int → lf_Z → Prop} {X70 : Int → Int → lf_Z → Prop} {Q : Int → lf_Z → Prop} {x1 : Int} {x2 : Int} {x3 : Int} {x4 : Int} {x5 : Int} {x6 : Int} {x8 : Int} {y0 : Int} {s : lf_Z} (hQ : ∀ (r : Int) (s' : lf_Z), iv_A s'.1 s'.2.2 → lf_fq [63, 64, 65, 66, 68, 69, 70, 71] 1000000 true s.1 s.2.2 s'.1 s'.2.2 → ((-2147483648) ≤ r ∧ r ≤ 65535) → Q r s') {M53 : Nat} (hX53 : ∀ (x6 : Int) (s' : lf_Z), iv_A s'.1 s'.2.2 → lf_fq [63, 64, 65, 66, 68, 69, 70, 71] 1000000 true s.1 s.2.2 s'.1 s'.2.2 → 0 ≤ x6 ∧ x6 ≤ 4 → (0 < s'.1 16 x1) → (4 - x6).toNat < M53 → X53 x6 s') (hM53 : (4 - x6).toNat ≤ M53) {M70 : Nat} (hX70 : ∀ (x7 : Int) (x8 : Int) (s' : lf_Z), iv_A s'.1 s'.2.2 → lf_fq [63, 64, 65, 66, 68, 69, 70, 71] 1000000 true s.1 s.2.2 s'.1 s'.2.2 → (-2147483648) ≤ x7 ∧ x7 ≤ 2147483647 → 0 ≤ x8 ∧ x8 ≤ 1000 → (0 < s'.1 16 x1) → (1000 - x8).toNat < M70 → X70 x7 x8 s') (hM70 : (1000 - x8).toNat ≤ M70) (hI : iv_A s.1 s.2.2) (bx1 : 0 ≤ x1 ∧ x1 ≤ 3) (bx2 : (-2147483648) ≤ x2 ∧ x2 ≤ 2147483647) (bx3 : (-2147483648) ≤ x3 ∧ x3 ≤ 2147483647) (bx4 : (-2147483648) ≤ x4 ∧ x4 ≤ 2147483647) (bx5 : 1 ≤ x5 ∧ x5 ≤ 65536) (bx6 : 0 ≤ x6 ∧ x6 ≤ 3) (bx8 : 0 ≤ x8 ∧ x8 ≤ 999) (by0 : (-2147483648) ≤ y0 ∧ y0 ≤ 2147483647) (kv0 : 0 < s.1 16 x1) : fm_143_p144 X53 X70 Q x1 x2 x3 x4 x5 x6 x8 y0 s := by
  unfold fm_143_p144
  have b35 : (-2147483648) ≤ s.1 16 x1 ∧ s.1 16 x1 ≤ 2147483647 := iv_full hI
  exact hX70 (y0) (x8 + 1) s hI (lf_fq_rf) (show (-2147483648 : Int) ≤ y0 ∧ y0 ≤ (2147483647 : Int) from by omega) (show (0 : Int) ≤ x8 + 1 ∧ x8 + 1 ≤ (1000 : Int) from by omega) (show 0 < (s.1 16 x1) from by omega) (show (1000 - (x8 + 1)).toNat < M70 from by omega)
theorem sm_143_p129 {X53 : Int → lf_Z → Prop} {X70 : Int → Int → lf_Z → Prop} {Q : Int → lf_Z → Prop} {x1 : Int} {x2 : Int} {x3 : Int} {x4 : Int} {x5 : Int} {x6 : Int} {x7 : Int} {x8 : Int} {s : lf_Z} (hQ : ∀ (r : Int) (s' : lf_Z), iv_A s'.1 s'.2.2 → lf_fq [63, 64, 65, 66, 68, 69, 70, 71] 1000000 true s.1 s.2.2 s'.1 s'.2.2 → ((-2147483648) ≤ r ∧ r ≤ 65535) → Q r s') {M53 : Nat} (hX53 : ∀ (x6 : Int) (s' : lf_Z), iv_A s'.1 s'.2.2 → lf_fq [63, 64, 65, 66, 68, 69, 70, 71] 1000000 true s.1 s.2.2 s'.1 s'.2.2 → 0 ≤ x6 ∧ x6 ≤ 4 → (0 < s'.1 16 x1) → (4 - x6).toNat < M53 → X53 x6 s') (hM53 : (4 - x6).toNat ≤ M53) {M70 : Nat} (hX70 : ∀ (x7 : Int) (x8 : Int) (s' : lf_Z), iv_A s'.1 s'.2.2 → lf_fq [63, 64, 65, 66, 68, 69, 70, 71] 1000000 true s.1 s.2.2 s'.1 s'.2.2 → (-2147483648) ≤ x7 ∧ x7 ≤ 2147483647 → 0 ≤ x8 ∧ x8 ≤ 1000 → (0 < s'.1 16 x1) → (1000 - x8).toNat < M70 → X70 x7 x8 s') (hM70 : (1000 - x8).toNat ≤ M70) (hI : iv_A s.1 s.2.2) (bx1 : 0 ≤ x1 ∧ x1 ≤ 3) (bx2 : (-2147483648) ≤ x2 ∧ x2 ≤ 2147483647) (bx3 : (-2147483648) ≤ x3 ∧ x3 ≤ 2147483647) (bx4 : (-2147483648) ≤ x4 ∧ x4 ≤ 2147483647) (bx5 : 1 ≤ x5 ∧ x5 ≤ 65536) (bx6 : 0 ≤ x6 ∧ x6 ≤ 3) (bx7 : (-2147483648) ≤ x7 ∧ x7 ≤ 65535) (bx8 : 0 ≤ x8 ∧ x8 ≤ 999) (kv0 : 0 < s.1 16 x1) : fm_143_p129 X53 X70 Q x1 x2 x3 x4 x5 x6 x7 x8 s := by
  unfold fm_143_p129
  refine ⟨(show lf_R x6 from lf_Rof (by omega)), ?_⟩
  refine ⟨fun c32 => ?_, fun c32 => ?_⟩
  · skip
    replace c32 : x6 ≠ 0 := c32
    refine sm_133 hI (show (-2147483648 : Int) ≤ x7 ∧ x7 ≤ (65535 : Int) from by omega) (fun r36 q33 => ?_)
    have b34 : (-2147483648) ≤ s.1 16 x1 ∧ s.1 16 x1 ≤ 2147483647 := iv_full hI
    exact sm_143_p144 hQ hX53 (show (4 - x6).toNat ≤ M53 from by omega) hX70 (show (1000 - x8).toNat ≤ M70 from by omega) hI (show (0 : Int) ≤ x1 ∧ x1 ≤ (3 : Int) from by omega) (show (-2147483648 : Int) ≤ x2 ∧ x2 ≤ (2147483647 : Int) from by omega) (show (-2147483648 : Int) ≤ x3 ∧ x3 ≤ (2147483647 : Int) from by omega) (show (-2147483648 : Int) ≤ x4 ∧ x4 ≤ (2147483647 : Int) from by omega) (show (1 : Int) ≤ x5 ∧ x5 ≤ (65536 : Int) from by omega) (show (0 : Int) ≤ x6 ∧ x6 ≤ (3 : Int) from by omega) (show (0 : Int) ≤ x8 ∧ x8 ≤ (999 : Int) from by omega) (show (-2147483648 : Int) ≤ r36 ∧ r36 ≤ (2147483647 : Int) from by omega) (show 0 < (s.1 16 x1) from by omega)
  · skip
    replace c32 : ¬ (x6 ≠ 0) := c32
    have b36 : (-2147483648) ≤ s.1 16 x1 ∧ s.1 16 x1 ≤ 2147483647 := iv_full hI
    exact sm_143_p144 hQ hX53 (show (4 - x6).toNat ≤ M53 from by omega) hX70 (show (1000 - x8).toNat ≤ M70 from by omega) hI (show (0 : Int) ≤ x1 ∧ x1 ≤ (3 : Int) from by omega) (show (-2147483648 : Int) ≤ x2 ∧ x2 ≤ (2147483647 : Int) from by omega) (show (-2147483648 : Int) ≤ x3 ∧ x3 ≤ (2147483647 : Int) from by omega) (show (-2147483648 : Int) ≤ x4 ∧ x4 ≤ (2147483647 : Int) from by omega) (show (1 : Int) ≤ x5 ∧ x5 ≤ (65536 : Int) from by omega) (show (0 : Int) ≤ x6 ∧ x6 ≤ (3 : Int) from by omega) (show (0 : Int) ≤ x8 ∧ x8 ≤ (999 : Int) from by omega) (show (-2147483648 : Int) ≤ x5 ∧ x5 ≤ (2147483647 : Int) from by omega) (show 0 < (s.1 16 x1) from by omega)
theorem sm_143_p110 {X53 : Int → lf_Z → Prop} {X70 : Int → Int → lf_Z → Prop} {Q : Int → lf_Z → Prop} {x1 : Int} {x2 : Int} {x3 : Int} {x4 : Int} {x5 : Int} {x6 : Int} {x7 : Int} {x8 : Int} {y0 : Int} {s : lf_Z} (hQ : ∀ (r : Int) (s' : lf_Z), iv_A s'.1 s'.2.2 → lf_fq [63, 64, 65, 66, 68, 69, 70, 71] 1000000 true s.1 s.2.2 s'.1 s'.2.2 → ((-2147483648) ≤ r ∧ r ≤ 65535) → Q r s') {M53 : Nat} (hX53 : ∀ (x6 : Int) (s' : lf_Z), iv_A s'.1 s'.2.2 → lf_fq [63, 64, 65, 66, 68, 69, 70, 71] 1000000 true s.1 s.2.2 s'.1 s'.2.2 → 0 ≤ x6 ∧ x6 ≤ 4 → (0 < s'.1 16 x1) → (4 - x6).toNat < M53 → X53 x6 s') (hM53 : (4 - x6).toNat ≤ M53) {M70 : Nat} (hX70 : ∀ (x7 : Int) (x8 : Int) (s' : lf_Z), iv_A s'.1 s'.2.2 → lf_fq [63, 64, 65, 66, 68, 69, 70, 71] 1000000 true s.1 s.2.2 s'.1 s'.2.2 → (-2147483648) ≤ x7 ∧ x7 ≤ 2147483647 → 0 ≤ x8 ∧ x8 ≤ 1000 → (0 < s'.1 16 x1) → (1000 - x8).toNat < M70 → X70 x7 x8 s') (hM70 : (1000 - x8).toNat ≤ M70) (hI : iv_A s.1 s.2.2) (bx1 : 0 ≤ x1 ∧ x1 ≤ 3) (bx2 : (-2147483648) ≤ x2 ∧ x2 ≤ 2147483647) (bx3 : (-2147483648) ≤ x3 ∧ x3 ≤ 2147483647) (bx4 : (-2147483648) ≤ x4 ∧ x4 ≤ 2147483647) (bx5 : 1 ≤ x5 ∧ x5 ≤ 65536) (bx6 : 0 ≤ x6 ∧ x6 ≤ 3) (bx7 : (-2147483648) ≤ x7 ∧ x7 ≤ 65535) (bx8 : 0 ≤ x8 ∧ x8 ≤ 999) (by0 : (-2147483648) ≤ y0 ∧ y0 ≤ 2147483647) (kv0 : 0 < s.1 16 x1) : fm_143_p110 X53 X70 Q x1 x2 x3 x4 x5 x6 x7 x8 y0 s := by
  unfold fm_143_p110
  have b29 : (-2147483648) ≤ lf_and y0 x3 ∧ lf_and y0 x3 ≤ 2147483647 := lf_andF
  refine ⟨fun c30 => ?_, fun c30 => ?_⟩
  · skip
    replace c30 : lf_and y0 x3 ≠ 0 := c30
    have b31 : (-2147483648) ≤ s.1 16 x1 ∧ s.1 16 x1 ≤ 2147483647 := iv_full hI
    exact sm_143_p129 hQ hX53 (show (4 - x6).toNat ≤ M53 from by omega) hX70 (show (1000 - x8).toNat ≤ M70 from by omega) hI (show (0 : Int) ≤ x1 ∧ x1 ≤ (3 : Int) from by omega) (show (-2147483648 : Int) ≤ x2 ∧ x2 ≤ (2147483647 : Int) from by omega) (show (-2147483648 : Int) ≤ x3 ∧ x3 ≤ (2147483647 : Int) from by omega) (show (-2147483648 : Int) ≤ x4 ∧ x4 ≤ (2147483647 : Int) from by omega) (show (1 : Int) ≤ x5 ∧ x5 ≤ (65536 : Int) from by omega) (show (0 : Int) ≤ x6 ∧ x6 ≤ (3 : Int) from by omega) (show (-2147483648 : Int) ≤ x7 ∧ x7 ≤ (65535 : Int) from by omega) (show (0 : Int) ≤ x8 ∧ x8 ≤ (999 : Int) from by omega) (show 0 < (s.1 16 x1) from by omega)
  · skip
    replace c30 : ¬ (lf_and y0 x3 ≠ 0) := c30
    have b37 : (-2147483648) ≤ lf_and y0 x2 ∧ lf_and y0 x2 ≤ 2147483647 := lf_andF
    refine ⟨fun c38 => ?_, fun c38 => ?_⟩
    · skip
      replace c38 : lf_and y0 x2 = 0 := c38
      have b39 : (-2147483648) ≤ s.1 16 x1 ∧ s.1 16 x1 ≤ 2147483647 := iv_full hI
      exact sm_143_p129 hQ hX53 (show (4 - x6).toNat ≤ M53 from by omega) hX70 (show (1000 - x8).toNat ≤ M70 from by omega) hI (show (0 : Int) ≤ x1 ∧ x1 ≤ (3 : Int) from by omega) (show (-2147483648 : Int) ≤ x2 ∧ x2 ≤ (2147483647 : Int) from by omega) (show (-2147483648 : Int) ≤ x3 ∧ x3 ≤ (2147483647 : Int) from by omega) (show (-2147483648 : Int) ≤ x4 ∧ x4 ≤ (2147483647 : Int) from by omega) (show (1 : Int) ≤ x5 ∧ x5 ≤ (65536 : Int) from by omega) (show (0 : Int) ≤ x6 ∧ x6 ≤ (3 : Int) from by omega) (show (-2147483648 : Int) ≤ x7 ∧ x7 ≤ (65535 : Int) from by omega) (show (0 : Int) ≤ x8 ∧ x8 ≤ (999 : Int) from by omega) (show 0 < (s.1 16 x1) from by omega)
    · skip
      replace c38 : ¬ (lf_and y0 x2 = 0) := c38
      exact hQ x7 s hI (lf_fq_rf) (show (-2147483648 : Int) ≤ x7 ∧ x7 ≤ (65535 : Int) from by omega)
theorem sm_143_p70 {X53 : Int → lf_Z → Prop} {X70 : Int → Int → lf_Z → Prop} {Q : Int → lf_Z → Prop} {x1 : Int} {x2 : Int} {x3 : Int} {x4 : Int} {x5 : Int} {x6 : Int} {x7 : Int} {x8 : Int} {s : lf_Z} (hQ : ∀ (r : Int) (s' : lf_Z), iv_A s'.1 s'.2.2 → lf_fq [63, 64, 65, 66, 68, 69, 70, 71] 1000000 true s.1 s.2.2 s'.1 s'.2.2 → ((-2147483648) ≤ r ∧ r ≤ 65535) → Q r s') {M53 : Nat} (hX53 : ∀ (x6 : Int) (s' : lf_Z), iv_A s'.1 s'.2.2 → lf_fq [63, 64, 65, 66, 68, 69, 70, 71] 1000000 true s.1 s.2.2 s'.1 s'.2.2 → 0 ≤ x6 ∧ x6 ≤ 4 → (0 < s'.1 16 x1) → (4 - x6).toNat < M53 → X53 x6 s') (hM53 : (4 - x6).toNat ≤ M53) {M70 : Nat} (hX70 : ∀ (x7 : Int) (x8 : Int) (s' : lf_Z), iv_A s'.1 s'.2.2 → lf_fq [63, 64, 65, 66, 68, 69, 70, 71] 1000000 true s.1 s.2.2 s'.1 s'.2.2 → (-2147483648) ≤ x7 ∧ x7 ≤ 2147483647 → 0 ≤ x8 ∧ x8 ≤ 1000 → (0 < s'.1 16 x1) → (1000 - x8).toNat < M70 → X70 x7 x8 s') (hM70 : (1000 - x8).toNat ≤ M70) (hI : iv_A s.1 s.2.2) (bx1 : 0 ≤ x1 ∧ x1 ≤ 3) (bx2 : (-2147483648) ≤ x2 ∧ x2 ≤ 2147483647) (bx3 : (-2147483648) ≤ x3 ∧ x3 ≤ 2147483647) (bx4 : (-2147483648) ≤ x4 ∧ x4 ≤ 2147483647) (bx5 : 1 ≤ x5 ∧ x5 ≤ 65536) (bx6 : 0 ≤ x6 ∧ x6 ≤ 3) (bx7 : (-2147483648) ≤ x7 ∧ x7 ≤ 2147483647) (bx8 : 0 ≤ x8 ∧ x8 ≤ 1000) (kv0 : 0 < s.1 16 x1) : fm_143_p70 X53 Q x1 x2 x3 x4 x5 x6 X70 x7 x8 s := by
  unfold fm_143_p70
  refine ⟨(show lf_R x8 from lf_Rof (by omega)), ?_⟩
  refine ⟨fun c18 => ?_, fun c18 => ?_⟩
  · skip
    replace c18 : 1000 ≤ x8 := c18
    have b19 : (-2147483648) ≤ s.1 16 x1 ∧ s.1 16 x1 ≤ 2147483647 := iv_full hI
    exact sm_143_p152 hQ hX53 (show (4 - x6).toNat ≤ M53 from by omega) hI (show (0 : Int) ≤ x1 ∧ x1 ≤ (3 : Int) from by omega) (show (-2147483648 : Int) ≤ x2 ∧ x2 ≤ (2147483647 : Int) from by omega) (show (-2147483648 : Int) ≤ x3 ∧ x3 ≤ (2147483647 : Int) from by omega) (show (-2147483648 : Int) ≤ x4 ∧ x4 ≤ (2147483647 : Int) from by omega) (show (1 : Int) ≤ x5 ∧ x5 ≤ (65536 : Int) from by omega) (show (0 : Int) ≤ x6 ∧ x6 ≤ (3 : Int) from by omega) (show 0 < (s.1 16 x1) from by omega)
  · skip
    replace c18 : ¬ (1000 ≤ x8) := c18
    refine ⟨(show lf_R x7 from lf_Rof (by omega)), ?_⟩
    refine ⟨(show lf_R x5 from lf_Rof (by omega)), ?_⟩
    refine ⟨fun c21 => ?_, fun c21 => ?_⟩
    · skip
      replace c21 : x5 ≤ x7 := c21
      have b22 : (-2147483648) ≤ s.1 16 x1 ∧ s.1 16 x1 ≤ 2147483647 := iv_full hI
      exact sm_143_p152 hQ hX53 (show (4 - x6).toNat ≤ M53 from by omega) hI (show (0 : Int) ≤ x1 ∧ x1 ≤ (3 : Int) from by omega) (show (-2147483648 : Int) ≤ x2 ∧ x2 ≤ (2147483647 : Int) from by omega) (show (-2147483648 : Int) ≤ x3 ∧ x3 ≤ (2147483647 : Int) from by omega) (show (-2147483648 : Int) ≤ x4 ∧ x4 ≤ (2147483647 : Int) from by omega) (show (1 : Int) ≤ x5 ∧ x5 ≤ (65536 : Int) from by omega) (show (0 : Int) ≤ x6 ∧ x6 ≤ (3 : Int) from by omega) (show 0 < (s.1 16 x1) from by omega)
    · skip
      replace c21 : ¬ (x5 ≤ x7) := c21
      have hI23 : iv_A (lf_up s.1 68 9 x7) s.2.2 := iv_w68_9 hI (by omega)
      have fr24 : lf_fq [63, 64, 65, 66, 68, 69, 70, 71] 1000000 true s.1 s.2.2 (lf_up s.1 68 9 x7) s.2.2 := lf_fq_up (lf_fq_rf) rfl (fun h => absurd h (by decide))
      have b25 : (-2147483648) ≤ lf_xor x4 (-1) ∧ lf_xor x4 (-1) ≤ 2147483647 := lf_xorB
      have b26 : (-2147483648) ≤ lf_and x7 (lf_xor x4 (-1)) ∧ lf_and x7 (lf_xor x4 (-1)) ≤ 2147483647 := lf_andF
      refine ⟨fun c27 => ?_, fun c27 => ?_⟩
      · skip
        replace c27 : lf_and x7 (lf_xor x4 (-1)) ≠ 0 := c27
        have b28 : (-2147483648) ≤ s.1 16 x1 ∧ s.1 16 x1 ≤ 2147483647 := (show (-2147483648) ≤ (lf_up s.1 68 9 x7) 16 x1 ∧ (lf_up s.1 68 9 x7) 16 x1 ≤ 2147483647 from iv_full hI23)
        exact sm_143_p110 (fun r9 t9 i9 f9 => hQ r9 t9 i9 (lf_fq_tr fr24 f9)) (fun p0 t9 i9 f9 => hX53 p0 t9 i9 (lf_fq_tr fr24 f9)) (show (4 - x6).toNat ≤ M53 from by omega) (fun p0 p1 t9 i9 f9 => hX70 p0 p1 t9 i9 (lf_fq_tr fr24 f9)) (show (1000 - x8).toNat ≤ M70 from by omega) hI23 (show (0 : Int) ≤ x1 ∧ x1 ≤ (3 : Int) from by omega) (show (-2147483648 : Int) ≤ x2 ∧ x2 ≤ (2147483647 : Int) from by omega) (show (-2147483648 : Int) ≤ x3 ∧ x3 ≤ (2147483647 : Int) from by omega) (show (-2147483648 : Int) ≤ x4 ∧ x4 ≤ (2147483647 : Int) from by omega) (show (1 : Int) ≤ x5 ∧ x5 ≤ (65536 : Int) from by omega) (show (0 : Int) ≤ x6 ∧ x6 ≤ (3 : Int) from by omega) (show (-2147483648 : Int) ≤ x7 ∧ x7 ≤ (65535 : Int) from by omega) (show (0 : Int) ≤ x8 ∧ x8 ≤ (999 : Int) from by omega) (show (-2147483648 : Int) ≤ x3 ∧ x3 ≤ (2147483647 : Int) from by omega) (show 0 < (s.1 16 x1) from by omega)
      · skip
        replace c27 : ¬ (lf_and x7 (lf_xor x4 (-1)) ≠ 0) := c27
        have b42 : (-2147483648) ≤ s.1 16 x1 ∧ s.1 16 x1 ≤ 2147483647 := (show (-2147483648) ≤ (lf_up s.1 68 9 x7) 16 x1 ∧ (lf_up s.1 68 9 x7) 16 x1 ≤ 2147483647 from iv_full hI23)
        refine sm_128 hI23 (show (0 : Int) ≤ x1 ∧ x1 ≤ (3 : Int) from by omega) (show 0 < (s.1 16 x1) from by omega) (fun r38 s37 hI41 fr40 q43 => ?_)
        have fr44 : lf_fq [63, 64, 65, 66, 68, 69, 70, 71] 1000000 true s.1 s.2.2 s37.1 s37.2.2 := lf_fq_tr fr24 (lf_fq_wk fr40 rfl (by decide) (by decide))
        have b45 : (-2147483648) ≤ s37.1 16 x1 ∧ s37.1 16 x1 ≤ 2147483647 := iv_full hI41
        have b46 : s37.1 16 x1 = s.1 16 x1 := congrFun (fr40.1 16 rfl) _
        exact sm_143_p110 (fun r9 t9 i9 f9 => hQ r9 t9 i9 (lf_fq_tr fr44 f9)) (fun p0 t9 i9 f9 => hX53 p0 t9 i9 (lf_fq_tr fr44 f9)) (show (4 - x6).toNat ≤ M53 from by omega) (fun p0 p1 t9 i9 f9 => hX70 p0 p1 t9 i9 (lf_fq_tr fr44 f9)) (show (1000 - x8).toNat ≤ M70 from by omega) hI41 (show (0 : Int) ≤ x1 ∧ x1 ≤ (3 : Int) from by omega) (show (-2147483648 : Int) ≤ x2 ∧ x2 ≤ (2147483647 : Int) from by omega) (show (-2147483648 : Int) ≤ x3 ∧ x3 ≤ (2147483647 : Int) from by omega) (show (-2147483648 : Int) ≤ x4 ∧ x4 ≤ (2147483647 : Int) from by omega) (show (1 : Int) ≤ x5 ∧ x5 ≤ (65536 : Int) from by omega) (show (0 : Int) ≤ x6 ∧ x6 ≤ (3 : Int) from by omega) (show (-2147483648 : Int) ≤ x7 ∧ x7 ≤ (65535 : Int) from by omega) (show (0 : Int) ≤ x8 ∧ x8 ≤ (999 : Int) from by omega) (show (-2147483648 : Int) ≤ r38 ∧ r38 ≤ (2147483647 : Int) from by omega) (show 0 < (s37.1 16 x1) from by omega)
theorem sm_143_p70L {X53 : Int → lf_Z → Prop} {Q : Int → lf_Z → Prop} {x1 : Int} {x2 : Int} {x3 : Int} {x4 : Int} {x5 : Int} {x6 : Int} {x7 : Int} {x8 : Int} {s : lf_Z} (hQ : ∀ (r : Int) (s' : lf_Z), iv_A s'.1 s'.2.2 → lf_fq [63, 64, 65, 66, 68, 69, 70, 71] 1000000 true s.1 s.2.2 s'.1 s'.2.2 → ((-2147483648) ≤ r ∧ r ≤ 65535) → Q r s') {M53 : Nat} (hX53 : ∀ (x6 : Int) (s' : lf_Z), iv_A s'.1 s'.2.2 → lf_fq [63, 64, 65, 66, 68, 69, 70, 71] 1000000 true s.1 s.2.2 s'.1 s'.2.2 → 0 ≤ x6 ∧ x6 ≤ 4 → (0 < s'.1 16 x1) → (4 - x6).toNat < M53 → X53 x6 s') (hM53 : (4 - x6).toNat ≤ M53) (hI : iv_A s.1 s.2.2) (bx1 : 0 ≤ x1 ∧ x1 ≤ 3) (bx2 : (-2147483648) ≤ x2 ∧ x2 ≤ 2147483647) (bx3 : (-2147483648) ≤ x3 ∧ x3 ≤ 2147483647) (bx4 : (-2147483648) ≤ x4 ∧ x4 ≤ 2147483647) (bx5 : 1 ≤ x5 ∧ x5 ≤ 65536) (bx6 : 0 ≤ x6 ∧ x6 ≤ 3) (bx7 : (-2147483648) ≤ x7 ∧ x7 ≤ 2147483647) (bx8 : 0 ≤ x8 ∧ x8 ≤ 1000) (kv0 : 0 < s.1 16 x1) : fm_143_p70L X53 Q x1 x2 x3 x4 x5 x6 x7 x8 s := by
  intro X70 hX
  have key : ∀ (m9 : Nat) (x7 : Int) (x8 : Int) (s' : lf_Z), iv_A s'.1 s'.2.2 → lf_fq [63, 64, 65, 66, 68, 69, 70, 71] 1000000 true s.1 s.2.2 s'.1 s'.2.2 → (-2147483648) ≤ x7 ∧ x7 ≤ 2147483647 → 0 ≤ x8 ∧ x8 ≤ 1000 → (0 < s'.1 16 x1) → (1000 - x8).toNat < m9 → X70 x7 x8 s' := by
    intro m9
    induction m9 with
    | zero => intro x7 x8 s' _ _ bx7 bx8 kv0 h9; exact absurd h9 (Nat.not_lt_zero _)
    | succ m9 ih => intro x7 x8 s' i7 f7 bx7 bx8 kv0 h9; exact hX _ _ _ (sm_143_p70 (fun r9 t9 i9 f9 => hQ r9 t9 i9 (lf_fq_tr f7 f9))  (fun p0 t9 i9 f9 => hX53 p0 t9 i9 (lf_fq_tr f7 f9)) hM53 (fun x7' x8' t8 i8 f8 bx7' bx8' kv0' h8 => ih x7' x8' t8 i8 (lf_fq_tr f7 f8) bx7' bx8' kv0' (by omega)) (Nat.le_refl _)  i7  bx1 bx2 bx3 bx4 bx5 bx6 bx7 bx8  kv0)
  exact key _ _ _ s hI lf_fq_rf bx7 bx8 kv0 (Nat.lt_succ_self _)
theorem sm_143_p53 {X53 : Int → lf_Z → Prop} {Q : Int → lf_Z → Prop} {x1 : Int} {x2 : Int} {x3 : Int} {x4 : Int} {x5 : Int} {x6 : Int} {s : lf_Z} (hQ : ∀ (r : Int) (s' : lf_Z), iv_A s'.1 s'.2.2 → lf_fq [63, 64, 65, 66, 68, 69, 70, 71] 1000000 true s.1 s.2.2 s'.1 s'.2.2 → ((-2147483648) ≤ r ∧ r ≤ 65535) → Q r s') {M53 : Nat} (hX53 : ∀ (x6 : Int) (s' : lf_Z), iv_A s'.1 s'.2.2 → lf_fq [63, 64, 65, 66, 68, 69, 70, 71] 1000000 true s.1 s.2.2 s'.1 s'.2.2 → 0 ≤ x6 ∧ x6 ≤ 4 → (0 < s'.1 16 x1) → (4 - x6).toNat < M53 → X53 x6 s') (hM53 : (4 - x6).toNat ≤ M53) (hI : iv_A s.1 s.2.2) (bx1 : 0 ≤ x1 ∧ x1 ≤ 3) (bx2 : (-2147483648) ≤ x2 ∧ x2 ≤ 2147483647) (bx3 : (-2147483648) ≤ x3 ∧ x3 ≤ 2147483647) (bx4 : (-2147483648) ≤ x4 ∧ x4 ≤ 2147483647) (bx5 : 1 ≤ x5 ∧ x5 ≤ 65536) (bx6 : 0 ≤ x6 ∧ x6 ≤ 4) (kv0 : 0 < s.1 16 x1) : fm_143_p53 Q x1 x2 x3 x4 x5 X53 x6 s := by
  unfold fm_143_p53
  refine ⟨(show lf_R x6 from lf_Rof (by omega)), ?_⟩
  refine ⟨fun c15 => ?_, fun c15 => ?_⟩
  · skip
    replace c15 : 3 < x6 := c15
    exact hQ (-1) s hI (lf_fq_rf) (show (-2147483648 : Int) ≤ (-1) ∧ (-1) ≤ (65535 : Int) from by omega)
  · skip
    replace c15 : ¬ (3 < x6) := c15
    have b16 : 1 ≤ lf_shl 1 x6 ∧ lf_shl 1 x6 ≤ 8 := lf_shl1 (m := 3) (by omega) (by omega) (by decide)
    have b17 : (-2147483648) ≤ s.1 16 x1 ∧ s.1 16 x1 ≤ 2147483647 := iv_full hI
    exact sm_143_p70L hQ hX53 (show (4 - x6).toNat ≤ M53 from by omega) hI (show (0 : Int) ≤ x1 ∧ x1 ≤ (3 : Int) from by omega) (show (-2147483648 : Int) ≤ x2 ∧ x2 ≤ (2147483647 : Int) from by omega) (show (-2147483648 : Int) ≤ x3 ∧ x3 ≤ (2147483647 : Int) from by omega) (show (-2147483648 : Int) ≤ x4 ∧ x4 ≤ (2147483647 : Int) from by omega) (show (1 : Int) ≤ x5 ∧ x5 ≤ (65536 : Int) from by omega) (show (0 : Int) ≤ x6 ∧ x6 ≤ (3 : Int) from by omega) (show (-2147483648 : Int) ≤ (lf_shl 1 x6) - 1 ∧ (lf_shl 1 x6) - 1 ≤ (2147483647 : Int) from by omega) (show (0 : Int) ≤ 0 ∧ 0 ≤ (1000 : Int) from by omega) (show 0 < (s.1 16 x1) from by omega)
theorem sm_143_p53L {Q : Int → lf_Z → Prop} {x1 : Int} {x2 : Int} {x3 : Int} {x4 : Int} {x5 : Int} {x6 : Int} {s : lf_Z} (hQ : ∀ (r : Int) (s' : lf_Z), iv_A s'.1 s'.2.2 → lf_fq [63, 64, 65, 66, 68, 69, 70, 71] 1000000 true s.1 s.2.2 s'.1 s'.2.2 → ((-2147483648) ≤ r ∧ r ≤ 65535) → Q r s') (hI : iv_A s.1 s.2.2) (bx1 : 0 ≤ x1 ∧ x1 ≤ 3) (bx2 : (-2147483648) ≤ x2 ∧ x2 ≤ 2147483647) (bx3 : (-2147483648) ≤ x3 ∧ x3 ≤ 2147483647) (bx4 : (-2147483648) ≤ x4 ∧ x4 ≤ 2147483647) (bx5 : 1 ≤ x5 ∧ x5 ≤ 65536) (bx6 : 0 ≤ x6 ∧ x6 ≤ 4) (kv0 : 0 < s.1 16 x1) : fm_143_p53L Q x1 x2 x3 x4 x5 x6 s := by
  intro X53 hX
  have key : ∀ (m9 : Nat) (x6 : Int) (s' : lf_Z), iv_A s'.1 s'.2.2 → lf_fq [63, 64, 65, 66, 68, 69, 70, 71] 1000000 true s.1 s.2.2 s'.1 s'.2.2 → 0 ≤ x6 ∧ x6 ≤ 4 → (0 < s'.1 16 x1) → (4 - x6).toNat < m9 → X53 x6 s' := by
    intro m9
    induction m9 with
    | zero => intro x6 s' _ _ bx6 kv0 h9; exact absurd h9 (Nat.not_lt_zero _)
    | succ m9 ih => intro x6 s' i7 f7 bx6 kv0 h9; exact hX _ _ (sm_143_p53 (fun r9 t9 i9 f9 => hQ r9 t9 i9 (lf_fq_tr f7 f9))   (fun x6' t8 i8 f8 bx6' kv0' h8 => ih x6' t8 i8 (lf_fq_tr f7 f8) bx6' kv0' (by omega)) (Nat.le_refl _)  i7  bx1 bx2 bx3 bx4 bx5 bx6  kv0)
  exact key _ _ s hI lf_fq_rf bx6 kv0 (Nat.lt_succ_self _)
theorem sm_143 {a1 : Int} {Q : Int → lf_Z → Prop} {s : lf_Z} (hI : iv_A s.1 s.2.2) (ba1 : 0 ≤ a1 ∧ a1 ≤ 3) (kp0 : 0 < s.1 16 a1) (hQ : ∀ (r : Int) (s' : lf_Z), iv_A s'.1 s'.2.2 → lf_fq [63, 64, 65, 66, 68, 69, 70, 71] 1000000 true s.1 s.2.2 s'.1 s'.2.2 → ((-2147483648) ≤ r ∧ r ≤ 65535) → Q r s') : fm_143 a1 Q s := by
  unfold fm_143
  refine sm_118 hI (show (0 : Int) ≤ a1 ∧ a1 ≤ (3 : Int) from by omega) (show (0 : Int) ≤ 0 ∧ 0 ≤ (9 : Int) from by omega) (fun s21 hI2 fr1 => ?_)
  have fr4 : lf_fq [63, 64, 65, 66, 68, 69, 70, 71] 1000000 true s.1 s.2.2 s21.1 s21.2.2 := lf_fq_tr (lf_fq_rf) (lf_fq_wk fr1 rfl (by decide) (by decide))
  refine sm_132 hI2 (show (1 : Int) ≤ 3 ∧ 3 ≤ (3 : Int) from by omega) (fun r23 q5 => ?_)
  refine sm_132 hI2 (show (1 : Int) ≤ 1 ∧ 1 ≤ (3 : Int) from by omega) (fun r25 q6 => ?_)
  refine sm_132 hI2 (show (1 : Int) ≤ 2 ∧ 2 ≤ (3 : Int) from by omega) (fun r27 q7 => ?_)
  have b8 : (-2147483648) ≤ lf_or r25 r27 ∧ lf_or r25 r27 ≤ 2147483647 := lf_orB
  refine sm_144 hI2 (fun r29 q9 => ?_)
  have b10 : 0 ≤ s21.1 1 1 ∧ s21.1 1 1 ≤ 16 := iv_r1_1 hI2
  have b11 : s21.1 1 1 = s.1 1 1 := congrFun (fr1.1 1 rfl) _
  have b12 : 1 ≤ lf_shl 1 (s21.1 1 1) ∧ lf_shl 1 (s21.1 1 1) ≤ 65536 := lf_shl1 (m := 16) (by omega) (by omega) (by decide)
  have b13 : (-2147483648) ≤ s21.1 16 a1 ∧ s21.1 16 a1 ≤ 2147483647 := iv_full hI2
  have b14 : s21.1 16 a1 = s.1 16 a1 := congrFun (fr1.1 16 rfl) _
  exact sm_143_p53L (fun r9 t9 i9 f9 => hQ r9 t9 i9 (lf_fq_tr fr4 f9)) hI2 (show (0 : Int) ≤ a1 ∧ a1 ≤ (3 : Int) from by omega) (show (-2147483648 : Int) ≤ r23 ∧ r23 ≤ (2147483647 : Int) from by omega) (show (-2147483648 : Int) ≤ lf_or r25 r27 ∧ lf_or r25 r27 ≤ (2147483647 : Int) from by omega) (show (-2147483648 : Int) ≤ r29 ∧ r29 ≤ (2147483647 : Int) from by omega) (show (1 : Int) ≤ lf_shl 1 (s21.1 1 1) ∧ lf_shl 1 (s21.1 1 1) ≤ (65536 : Int) from by omega) (show (0 : Int) ≤ 0 ∧ 0 ≤ (4 : Int) from by omega) (show 0 < (s21.1 16 a1) from by omega)
-- fm_142 ElevenBullocks.home 0 i
theorem sm_142 {a1 : Int} {Q : Int → lf_Z → Prop} {s : lf_Z} (hI : iv_A s.1 s.2.2) (ba1 : (-2147483648) ≤ a1 ∧ a1 ≤ 2147483647) (hQ : ∀ (r : Int) (s' : lf_Z), iv_A s'.1 s'.2.2 → lf_fq [63, 64, 65, 66, 68, 69, 70, 71] 1000000 true s.1 s.2.2 s'.1 s'.2.2 → ((-2147483648) ≤ r ∧ r ≤ 65535) → Q r s') : fm_142 a1 Q s := by
  unfold fm_142
  refine sm_80 hI (show (-2147483648 : Int) ≤ a1 ∧ a1 ≤ (2147483647 : Int) from by omega) (fun z22 q1 => ?_)
  have b2 : (-2147483648) ≤ s.1 16 a1 ∧ s.1 16 a1 ≤ 2147483647 := iv_full hI
  refine ⟨fun c3 => ?_, fun c3 => ?_⟩
  · skip
    have dc3 := q1.2 c3
    exact hQ (-1) s hI (lf_fq_rf) (show (-2147483648 : Int) ≤ (-1) ∧ (-1) ≤ (65535 : Int) from by omega)
  · skip
    have dc3 := q1.1 c3
    refine sm_143 hI (show (0 : Int) ≤ a1 ∧ a1 ≤ (3 : Int) from by omega) (show 0 < (s.1 16 a1) from by omega) (fun r24 s23 hI5 fr4 q6 => ?_)
    have fr7 : lf_fq [63, 64, 65, 66, 68, 69, 70, 71] 1000000 true s.1 s.2.2 s23.1 s23.2.2 := lf_fq_tr (lf_fq_rf) (lf_fq_wk fr4 rfl (by decide) (by decide))
    exact hQ r24 s23 hI5 fr7 (show (-2147483648 : Int) ≤ r24 ∧ r24 ≤ (65535 : Int) from by omega)
-- fm_297 Model.home 95 i
theorem sm_297_p176 {Q : Int → lf_Z → Prop} {x2 : Int} {s : lf_Z} (hQ : ∀ (r : Int) (s' : lf_Z), iv_A s'.1 s'.2.2 → lf_fq [95, 104, 107, 111, 112] 1000000 true s.1 s.2.2 s'.1 s'.2.2 → ((-1) ≤ r ∧ r ≤ 65535) → Q r s') (hI : iv_A s.1 s.2.2) (bx2 : (-1) ≤ x2 ∧ x2 ≤ 65535) : fm_297_p176 Q x2 s := by
  unfold fm_297_p176
  have hI7 : iv_A (lf_up s.1 95 31 0) s.2.2 := iv_w95_31 hI (by omega)
  have fr8 : lf_fq [95, 104, 107, 111, 112] 1000000 true s.1 s.2.2 (lf_up s.1 95 31 0) s.2.2 := lf_fq_up (lf_fq_rf) rfl (fun h => absurd h (by decide))
  exact hQ x2 (lf_up s.1 95 31 0, s.2.1, s.2.2) hI7 fr8 (show (-1 : Int) ≤ x2 ∧ x2 ≤ (65535 : Int) from by omega)
theorem sm_297_p170 {X66 : Int → Int → lf_Z → Prop} {Q : Int → lf_Z → Prop} {x1 : Int} {x2 : Int} {x3 : Int} {x4 : Int} {s : lf_Z} (hQ : ∀ (r : Int) (s' : lf_Z), iv_A s'.1 s'.2.2 → lf_fq [95, 104, 107, 111, 112] 1000000 true s.1 s.2.2 s'.1 s'.2.2 → ((-1) ≤ r ∧ r ≤ 65535) → Q r s') {M66 : Nat} (hX66 : ∀ (x2 : Int) (x4 : Int) (s' : lf_Z), iv_A s'.1 s'.2.2 → lf_fq [95, 104, 107, 111, 112] 1000000 true s.1 s.2.2 s'.1 s'.2.2 → (-1) ≤ x2 ∧ x2 ≤ 65535 → 0 ≤ x4 ∧ x4 ≤ 4 → (4 - x4).toNat < M66 → X66 x2 x4 s') (hM66 : (4 - x4).toNat ≤ M66) (hI : iv_A s.1 s.2.2) (bx1 : 0 ≤ x1 ∧ x1 ≤ 3) (bx2 : (-1) ≤ x2 ∧ x2 ≤ 65535) (bx3 : (-2147483648) ≤ x3 ∧ x3 ≤ 2147483647) (bx4 : 0 ≤ x4 ∧ x4 ≤ 3) : fm_297_p170 X66 Q x1 x2 x3 x4 s := by
  unfold fm_297_p170
  exact hX66 (x2) (x4 + 1) s hI (lf_fq_rf) (show (-1 : Int) ≤ x2 ∧ x2 ≤ (65535 : Int) from by omega) (show (0 : Int) ≤ x4 + 1 ∧ x4 + 1 ≤ (4 : Int) from by omega) (show (4 - (x4 + 1)).toNat < M66 from by omega)
theorem sm_297_p164 {X66 : Int → Int → lf_Z → Prop} {X79 : Int → Int → lf_Z → Prop} {Q : Int → lf_Z → Prop} {x1 : Int} {x2 : Int} {x3 : Int} {x4 : Int} {x5 : Int} {s : lf_Z} (hQ : ∀ (r : Int) (s' : lf_Z), iv_A s'.1 s'.2.2 → lf_fq [95, 104, 107, 111, 112] 1000000 true s.1 s.2.2 s'.1 s'.2.2 → ((-1) ≤ r ∧ r ≤ 65535) → Q r s') {M66 : Nat} (hX66 : ∀ (x2 : Int) (x4 : Int) (s' : lf_Z), iv_A s'.1 s'.2.2 → lf_fq [95, 104, 107, 111, 112] 1000000 true s.1 s.2.2 s'.1 s'.2.2 → (-1) ≤ x2 ∧ x2 ≤ 65535 → 0 ≤ x4 ∧ x4 ≤ 4 → (4 - x4).toNat < M66 → X66 x2 x4 s') (hM66 : (4 - x4).toNat ≤ M66) {M79 : Nat} (hX79 : ∀ (x2 : Int) (x5 : Int) (s' : lf_Z), iv_A s'.1 s'.2.2 → lf_fq [95, 104, 107, 111, 112] 1000000 true s.1 s.2.2 s'.1 s'.2.2 → (-1) ≤ x2 ∧ x2 ≤ 65535 → 0 ≤ x5 ∧ x5 ≤ 2147483647 → (2147483647 - x5).toNat < M79 → X79 x2 x5 s') (hM79 : (2147483647 - x5).toNat ≤ M79) (hI : iv_A s.1 s.2.2) (bx1 : 0 ≤ x1 ∧ x1 ≤ 3) (bx2 : (-1) ≤ x2 ∧ x2 ≤ 65535) (bx3 : (-2147483648) ≤ x3 ∧ x3 ≤ 2147483647) (bx4 : 0 ≤ x4 ∧ x4 ≤ 3) (bx5 : 0 ≤ x5 ∧ x5 ≤ 2147483646) : fm_297_p164 X66 X79 Q x1 x2 x3 x4 x5 s := by
  unfold fm_297_p164
  exact hX79 (x2) (x5 + 1) s hI (lf_fq_rf) (show (-1 : Int) ≤ x2 ∧ x2 ≤ (65535 : Int) from by omega) (show (0 : Int) ≤ x5 + 1 ∧ x5 + 1 ≤ (2147483647 : Int) from by omega) (show (2147483647 - (x5 + 1)).toNat < M79 from by omega)
theorem sm_297_p79 {X66 : Int → Int → lf_Z → Prop} {X79 : Int → Int → lf_Z → Prop} {Q : Int → lf_Z → Prop} {x1 : Int} {x2 : Int} {x3 : Int} {x4 : Int} {x5 : Int} {s : lf_Z} (hQ : ∀ (r : Int) (s' : lf_Z), iv_A s'.1 s'.2.2 → lf_fq [95, 104, 107, 111, 112] 1000000 true s.1 s.2.2 s'.1 s'.2.2 → ((-1) ≤ r ∧ r ≤ 65535) → Q r s') {M66 : Nat} (hX66 : ∀ (x2 : Int) (x4 : Int) (s' : lf_Z), iv_A s'.1 s'.2.2 → lf_fq [95, 104, 107, 111, 112] 1000000 true s.1 s.2.2 s'.1 s'.2.2 → (-1) ≤ x2 ∧ x2 ≤ 65535 → 0 ≤ x4 ∧ x4 ≤ 4 → (4 - x4).toNat < M66 → X66 x2 x4 s') (hM66 : (4 - x4).toNat ≤ M66) {M79 : Nat} (hX79 : ∀ (x2 : Int) (x5 : Int) (s' : lf_Z), iv_A s'.1 s'.2.2 → lf_fq [95, 104, 107, 111, 112] 1000000 true s.1 s.2.2 s'.1 s'.2.2 → (-1) ≤ x2 ∧ x2 ≤ 65535 → 0 ≤ x5 ∧ x5 ≤ 2147483647 → (2147483647 - x5).toNat < M79 → X79 x2 x5 s') (hM79 : (2147483647 - x5).toNat ≤ M79) (hI : iv_A s.1 s.2.2) (bx1 : 0 ≤ x1 ∧ x1 ≤ 3) (bx2 : (-1) ≤ x2 ∧ x2 ≤ 65535) (bx3 : (-2147483648) ≤ x3 ∧ x3 ≤ 2147483647) (bx4 : 0 ≤ x4 ∧ x4 ≤ 3) (bx5 : 0 ≤ x5 ∧ x5 ≤ 2147483647) : fm_297_p79 X66 Q x1 x3 x4 X79 x2 x5 s := by
  unfold fm_297_p79
  have b10 : 0 ≤ s.1 96 1 ∧ s.1 96 1 ≤ 16 := iv_rd96 hI (iv_fd6ad3e54 (by omega))
  have b11 : s.1 96 1 ≤ 0 ∨ 0 < s.1 96 0 := (show s.1 96 1 ≤ 0 ∨ 0 < s.1 96 0 from iv_l96_1 hI)
  have b12 : 1 ≤ lf_shl 1 (s.1 96 1) ∧ lf_shl 1 (s.1 96 1) ≤ 65536 := lf_shl1 (m := 16) (by omega) (by omega) (by decide)
  refine ⟨(show lf_R x5 from lf_Rof (by omega)), ?_⟩
  refine ⟨fun c13 => ?_, fun c13 => ?_⟩
  · skip
    replace c13 : lf_shl 1 (s.1 96 1) ≤ x5 := c13
    exact sm_297_p170 hQ hX66 (show (4 - x4).toNat ≤ M66 from by omega) hI (show (0 : Int) ≤ x1 ∧ x1 ≤ (3 : Int) from by omega) (show (-1 : Int) ≤ x2 ∧ x2 ≤ (65535 : Int) from by omega) (show (-2147483648 : Int) ≤ x3 ∧ x3 ≤ (2147483647 : Int) from by omega) (show (0 : Int) ≤ x4 ∧ x4 ≤ (3 : Int) from by omega)
  · skip
    replace c13 : ¬ (lf_shl 1 (s.1 96 1) ≤ x5) := c13
    refine ⟨(show lf_R x2 from lf_Rof (by omega)), ?_⟩
    refine ⟨fun c14 => ?_, fun c14 => ?_⟩
    · skip
      replace c14 : 0 ≤ x2 := c14
      exact sm_297_p170 hQ hX66 (show (4 - x4).toNat ≤ M66 from by omega) hI (show (0 : Int) ≤ x1 ∧ x1 ≤ (3 : Int) from by omega) (show (-1 : Int) ≤ x2 ∧ x2 ≤ (65535 : Int) from by omega) (show (-2147483648 : Int) ≤ x3 ∧ x3 ≤ (2147483647 : Int) from by omega) (show (0 : Int) ≤ x4 ∧ x4 ≤ (3 : Int) from by omega)
    · skip
      replace c14 : ¬ (0 ≤ x2) := c14
      refine sm_188 hI (show (-2147483648 : Int) ≤ x5 ∧ x5 ≤ (2147483647 : Int) from by omega) (fun r30 ps16 q15 => ?_)
      replace ps16 : r30 = lf_bt (x5) 16 := ps16
      refine ⟨(show lf_R r30 from lf_Rof (by omega)), ?_⟩
      refine ⟨(show lf_R x4 from lf_Rof (by omega)), ?_⟩
      refine ⟨fun c17 => ?_, fun c17 => ?_⟩
      · skip
        replace c17 : r30 ≠ x4 := c17
        exact sm_297_p164 hQ hX66 (show (4 - x4).toNat ≤ M66 from by omega) hX79 (show (2147483647 - x5).toNat ≤ M79 from by omega) hI (show (0 : Int) ≤ x1 ∧ x1 ≤ (3 : Int) from by omega) (show (-1 : Int) ≤ x2 ∧ x2 ≤ (65535 : Int) from by omega) (show (-2147483648 : Int) ≤ x3 ∧ x3 ≤ (2147483647 : Int) from by omega) (show (0 : Int) ≤ x4 ∧ x4 ≤ (3 : Int) from by omega) (show (0 : Int) ≤ x5 ∧ x5 ≤ (2147483646 : Int) from by omega)
      · skip
        replace c17 : ¬ (r30 ≠ x4) := c17
        have b18 : (-2147483648) ≤ lf_xor x3 (-1) ∧ lf_xor x3 (-1) ≤ 2147483647 := lf_xorB
        have b19 : 0 ≤ lf_and x5 (lf_xor x3 (-1)) ∧ lf_and x5 (lf_xor x3 (-1)) ≤ 65535 := lf_andBl (by omega) (by omega)
        refine ⟨fun c20 => ?_, fun c20 => ?_⟩
        · skip
          replace c20 : lf_and x5 (lf_xor x3 (-1)) = 0 := c20
          have hI21 : iv_A (lf_up s.1 95 31 x5) s.2.2 := iv_w95_31 hI (by omega)
          have fr22 : lf_fq [95, 104, 107, 111, 112] 1000000 true s.1 s.2.2 (lf_up s.1 95 31 x5) s.2.2 := lf_fq_up (lf_fq_rf) rfl (fun h => absurd h (by decide))
          refine sm_294 hI21 (show (0 : Int) ≤ x1 ∧ x1 ≤ (3 : Int) from by omega) (fun r34 s33 hI24 fr23 q25 => ?_)
          have fr26 : lf_fq [95, 104, 107, 111, 112] 1000000 true s.1 s.2.2 s33.1 s33.2.2 := lf_fq_tr fr22 (lf_fq_wk fr23 rfl (by decide) (by decide))
          refine sm_296 hI24 (show (-2147483648 : Int) ≤ r34 ∧ r34 ≤ (2147483647 : Int) from by omega) (show (0 : Int) ≤ 3 ∧ 3 ≤ (3 : Int) from by omega) (fun r36 q27 => ?_)
          refine ⟨(show lf_R r36 from lf_Rof (by omega)), ?_⟩
          refine ⟨fun c28 => ?_, fun c28 => ?_⟩
          · skip
            replace c28 : r36 = 0 := c28
            exact sm_297_p164 (fun r9 t9 i9 f9 => hQ r9 t9 i9 (lf_fq_tr fr26 f9)) (fun p0 p1 t9 i9 f9 => hX66 p0 p1 t9 i9 (lf_fq_tr fr26 f9)) (show (4 - x4).toNat ≤ M66 from by omega) (fun p0 p1 t9 i9 f9 => hX79 p0 p1 t9 i9 (lf_fq_tr fr26 f9)) (show (2147483647 - x5).toNat ≤ M79 from by omega) hI24 (show (0 : Int) ≤ x1 ∧ x1 ≤ (3 : Int) from by omega) (show (-1 : Int) ≤ x2 ∧ x2 ≤ (65535 : Int) from by omega) (show (-2147483648 : Int) ≤ x3 ∧ x3 ≤ (2147483647 : Int) from by omega) (show (0 : Int) ≤ x4 ∧ x4 ≤ (3 : Int) from by omega) (show (0 : Int) ≤ x5 ∧ x5 ≤ (2147483646 : Int) from by omega)
          · skip
            replace c28 : ¬ (r36 = 0) := c28
            refine sm_296 hI24 (show (-2147483648 : Int) ≤ r34 ∧ r34 ≤ (2147483647 : Int) from by omega) (show (0 : Int) ≤ 1 ∧ 1 ≤ (3 : Int) from by omega) (fun r39 q29 => ?_)
            refine ⟨(show lf_R r39 from lf_Rof (by omega)), ?_⟩
            refine ⟨fun c30 => ?_, fun c30 => ?_⟩
            · skip
              replace c30 : r39 ≠ 0 := c30
              exact sm_297_p164 (fun r9 t9 i9 f9 => hQ r9 t9 i9 (lf_fq_tr fr26 f9)) (fun p0 p1 t9 i9 f9 => hX66 p0 p1 t9 i9 (lf_fq_tr fr26 f9)) (show (4 - x4).toNat ≤ M66 from by omega) (fun p0 p1 t9 i9 f9 => hX79 p0 p1 t9 i9 (lf_fq_tr fr26 f9)) (show (2147483647 - x5).toNat ≤ M79 from by omega) hI24 (show (0 : Int) ≤ x1 ∧ x1 ≤ (3 : Int) from by omega) (show (-1 : Int) ≤ x2 ∧ x2 ≤ (65535 : Int) from by omega) (show (-2147483648 : Int) ≤ x3 ∧ x3 ≤ (2147483647 : Int) from by omega) (show (0 : Int) ≤ x4 ∧ x4 ≤ (3 : Int) from by omega) (show (0 : Int) ≤ x5 ∧ x5 ≤ (2147483646 : Int) from by omega)
            · skip
              replace c30 : ¬ (r39 ≠ 0) := c30
              refine sm_296 hI24 (show (-2147483648 : Int) ≤ r34 ∧ r34 ≤ (2147483647 : Int) from by omega) (show (0 : Int) ≤ 2 ∧ 2 ≤ (3 : Int) from by omega) (fun r42 q31 => ?_)
              refine ⟨(show lf_R r42 from lf_Rof (by omega)), ?_⟩
              refine ⟨fun c32 => ?_, fun c32 => ?_⟩
              · skip
                replace c32 : r42 ≠ 0 := c32
                exact sm_297_p164 (fun r9 t9 i9 f9 => hQ r9 t9 i9 (lf_fq_tr fr26 f9)) (fun p0 p1 t9 i9 f9 => hX66 p0 p1 t9 i9 (lf_fq_tr fr26 f9)) (show (4 - x4).toNat ≤ M66 from by omega) (fun p0 p1 t9 i9 f9 => hX79 p0 p1 t9 i9 (lf_fq_tr fr26 f9)) (show (2147483647 - x5).toNat ≤ M79 from by omega) hI24 (show (0 : Int) ≤ x1 ∧ x1 ≤ (3 : Int) from by omega) (show (-1 : Int) ≤ x2 ∧ x2 ≤ (65535 : Int) from by omega) (show (-2147483648 : Int) ≤ x3 ∧ x3 ≤ (2147483647 : Int) from by omega) (show (0 : Int) ≤ x4 ∧ x4 ≤ (3 : Int) from by omega) (show (0 : Int) ≤ x5 ∧ x5 ≤ (2147483646 : Int) from by omega)
              · skip
                replace c32 : ¬ (r42 ≠ 0) := c32
                exact sm_297_p164 (fun r9 t9 i9 f9 => hQ r9 t9 i9 (lf_fq_tr fr26 f9)) (fun p0 p1 t9 i9 f9 => hX66 p0 p1 t9 i9 (lf_fq_tr fr26 f9)) (show (4 - x4).toNat ≤ M66 from by omega) (fun p0 p1 t9 i9 f9 => hX79 p0 p1 t9 i9 (lf_fq_tr fr26 f9)) (show (2147483647 - x5).toNat ≤ M79 from by omega) hI24 (show (0 : Int) ≤ x1 ∧ x1 ≤ (3 : Int) from by omega) (show (-1 : Int) ≤ x5 ∧ x5 ≤ (65535 : Int) from by omega) (show (-2147483648 : Int) ≤ x3 ∧ x3 ≤ (2147483647 : Int) from by omega) (show (0 : Int) ≤ x4 ∧ x4 ≤ (3 : Int) from by omega) (show (0 : Int) ≤ x5 ∧ x5 ≤ (2147483646 : Int) from by omega)
        · skip
          replace c20 : ¬ (lf_and x5 (lf_xor x3 (-1)) = 0) := c20
          exact sm_297_p164 hQ hX66 (show (4 - x4).toNat ≤ M66 from by omega) hX79 (show (2147483647 - x5).toNat ≤ M79 from by omega) hI (show (0 : Int) ≤ x1 ∧ x1 ≤ (3 : Int) from by omega) (show (-1 : Int) ≤ x2 ∧ x2 ≤ (65535 : Int) from by omega) (show (-2147483648 : Int) ≤ x3 ∧ x3 ≤ (2147483647 : Int) from by omega) (show (0 : Int) ≤ x4 ∧ x4 ≤ (3 : Int) from by omega) (show (0 : Int) ≤ x5 ∧ x5 ≤ (2147483646 : Int) from by omega)
theorem sm_297_p79L {X66 : Int → Int → lf_Z → Prop} {Q : Int → lf_Z → Prop} {x1 : Int} {x2 : Int} {x3 : Int} {x4 : Int} {x5 : Int} {s : lf_Z} (hQ : ∀ (r : Int) (s' : lf_Z), iv_A s'.1 s'.2.2 → lf_fq [95, 104, 107, 111, 112] 1000000 true s.1 s.2.2 s'.1 s'.2.2 → ((-1) ≤ r ∧ r ≤ 65535) → Q r s') {M66 : Nat} (hX66 : ∀ (x2 : Int) (x4 : Int) (s' : lf_Z), iv_A s'.1 s'.2.2 → lf_fq [95, 104, 107, 111, 112] 1000000 true s.1 s.2.2 s'.1 s'.2.2 → (-1) ≤ x2 ∧ x2 ≤ 65535 → 0 ≤ x4 ∧ x4 ≤ 4 → (4 - x4).toNat < M66 → X66 x2 x4 s') (hM66 : (4 - x4).toNat ≤ M66) (hI : iv_A s.1 s.2.2) (bx1 : 0 ≤ x1 ∧ x1 ≤ 3) (bx2 : (-1) ≤ x2 ∧ x2 ≤ 65535) (bx3 : (-2147483648) ≤ x3 ∧ x3 ≤ 2147483647) (bx4 : 0 ≤ x4 ∧ x4 ≤ 3) (bx5 : 0 ≤ x5 ∧ x5 ≤ 2147483647) : fm_297_p79L X66 Q x1 x2 x3 x4 x5 s := by
  intro X79 hX
  have key : ∀ (m9 : Nat) (x2 : Int) (x5 : Int) (s' : lf_Z), iv_A s'.1 s'.2.2 → lf_fq [95, 104, 107, 111, 112] 1000000 true s.1 s.2.2 s'.1 s'.2.2 → (-1) ≤ x2 ∧ x2 ≤ 65535 → 0 ≤ x5 ∧ x5 ≤ 2147483647 → (2147483647 - x5).toNat < m9 → X79 x2 x5 s' := by
    intro m9
    induction m9 with
    | zero => intro x2 x5 s' _ _ bx2 bx5 h9; exact absurd h9 (Nat.not_lt_zero _)
    | succ m9 ih => intro x2 x5 s' i7 f7 bx2 bx5 h9; exact hX _ _ _ (sm_297_p79 (fun r9 t9 i9 f9 => hQ r9 t9 i9 (lf_fq_tr f7 f9))  (fun p0 p1 t9 i9 f9 => hX66 p0 p1 t9 i9 (lf_fq_tr f7 f9)) hM66 (fun x2' x5' t8 i8 f8 bx2' bx5' h8 => ih x2' x5' t8 i8 (lf_fq_tr f7 f8) bx2' bx5' (by omega)) (Nat.le_refl _)  i7  bx1 bx2 bx3 bx4 bx5  )
  exact key _ _ _ s hI lf_fq_rf bx2 bx5 (Nat.lt_succ_self _)
theorem sm_297_p66 {X66 : Int → Int → lf_Z → Prop} {Q : Int → lf_Z → Prop} {x1 : Int} {x2 : Int} {x3 : Int} {x4 : Int} {s : lf_Z} (hQ : ∀ (r : Int) (s' : lf_Z), iv_A s'.1 s'.2.2 → lf_fq [95, 104, 107, 111, 112] 1000000 true s.1 s.2.2 s'.1 s'.2.2 → ((-1) ≤ r ∧ r ≤ 65535) → Q r s') {M66 : Nat} (hX66 : ∀ (x2 : Int) (x4 : Int) (s' : lf_Z), iv_A s'.1 s'.2.2 → lf_fq [95, 104, 107, 111, 112] 1000000 true s.1 s.2.2 s'.1 s'.2.2 → (-1) ≤ x2 ∧ x2 ≤ 65535 → 0 ≤ x4 ∧ x4 ≤ 4 → (4 - x4).toNat < M66 → X66 x2 x4 s') (hM66 : (4 - x4).toNat ≤ M66) (hI : iv_A s.1 s.2.2) (bx1 : 0 ≤ x1 ∧ x1 ≤ 3) (bx2 : (-1) ≤ x2 ∧ x2 ≤ 65535) (bx3 : (-2147483648) ≤ x3 ∧ x3 ≤ 2147483647) (bx4 : 0 ≤ x4 ∧ x4 ≤ 4) : fm_297_p66 Q x1 x3 X66 x2 x4 s := by
  unfold fm_297_p66
  refine ⟨(show lf_R x4 from lf_Rof (by omega)), ?_⟩
  refine ⟨fun c6 => ?_, fun c6 => ?_⟩
  · skip
    replace c6 : 3 < x4 := c6
    exact sm_297_p176 hQ hI (show (-1 : Int) ≤ x2 ∧ x2 ≤ (65535 : Int) from by omega)
  · skip
    replace c6 : ¬ (3 < x4) := c6
    refine ⟨(show lf_R x2 from lf_Rof (by omega)), ?_⟩
    refine ⟨fun c9 => ?_, fun c9 => ?_⟩
    · skip
      replace c9 : 0 ≤ x2 := c9
      exact sm_297_p176 hQ hI (show (-1 : Int) ≤ x2 ∧ x2 ≤ (65535 : Int) from by omega)
    · skip
      replace c9 : ¬ (0 ≤ x2) := c9
      exact sm_297_p79L hQ hX66 (show (4 - x4).toNat ≤ M66 from by omega) hI (show (0 : Int) ≤ x1 ∧ x1 ≤ (3 : Int) from by omega) (show (-1 : Int) ≤ x2 ∧ x2 ≤ (65535 : Int) from by omega) (show (-2147483648 : Int) ≤ x3 ∧ x3 ≤ (2147483647 : Int) from by omega) (show (0 : Int) ≤ x4 ∧ x4 ≤ (3 : Int) from by omega) (show (0 : Int) ≤ 0 ∧ 0 ≤ (2147483647 : Int) from by omega)
theorem sm_297_p66L {Q : Int → lf_Z → Prop} {x1 : Int} {x2 : Int} {x3 : Int} {x4 : Int} {s : lf_Z} (hQ : ∀ (r : Int) (s' : lf_Z), iv_A s'.1 s'.2.2 → lf_fq [95, 104, 107, 111, 112] 1000000 true s.1 s.2.2 s'.1 s'.2.2 → ((-1) ≤ r ∧ r ≤ 65535) → Q r s') (hI : iv_A s.1 s.2.2) (bx1 : 0 ≤ x1 ∧ x1 ≤ 3) (bx2 : (-1) ≤ x2 ∧ x2 ≤ 65535) (bx3 : (-2147483648) ≤ x3 ∧ x3 ≤ 2147483647) (bx4 : 0 ≤ x4 ∧ x4 ≤ 4) : fm_297_p66L Q x1 x2 x3 x4 s := by
  intro X66 hX
  have key : ∀ (m9 : Nat) (x2 : Int) (x4 : Int) (s' : lf_Z), iv_A s'.1 s'.2.2 → lf_fq [95, 104, 107, 111, 112] 1000000 true s.1 s.2.2 s'.1 s'.2.2 → (-1) ≤ x2 ∧ x2 ≤ 65535 → 0 ≤ x4 ∧ x4 ≤ 4 → (4 - x4).toNat < m9 → X66 x2 x4 s' := by
    intro m9
    induction m9 with
    | zero => intro x2 x4 s' _ _ bx2 bx4 h9; exact absurd h9 (Nat.not_lt_zero _)
    | succ m9 ih => intro x2 x4 s' i7 f7 bx2 bx4 h9; exact hX _ _ _ (sm_297_p66 (fun r9 t9 i9 f9 => hQ r9 t9 i9 (lf_fq_tr f7 f9))   (fun x2' x4' t8 i8 f8 bx2' bx4' h8 => ih x2' x4' t8 i8 (lf_fq_tr f7 f8) bx2' bx4' (by omega)) (Nat.le_refl _)  i7  bx1 bx2 bx3 bx4  )
  exact key _ _ _ s hI lf_fq_rf bx2 bx4 (Nat.lt_succ_self _)
theorem sm_297_p55 {X17 : Int → Int → lf_Z → Prop} {Q : Int → lf_Z → Prop} {x1 : Int} {x2 : Int} {x4 : Int} {y0 : Int} {y1 : Int} {s : lf_Z} (hQ : ∀ (r : Int) (s' : lf_Z), iv_A s'.1 s'.2.2 → lf_fq [95, 104, 107, 111, 112] 1000000 true s.1 s.2.2 s'.1 s'.2.2 → ((-1) ≤ r ∧ r ≤ 65535) → Q r s') {M17 : Nat} (hX17 : ∀ (x3 : Int) (x4 : Int) (s' : lf_Z), iv_A s'.1 s'.2.2 → lf_fq [95, 104, 107, 111, 112] 1000000 true s.1 s.2.2 s'.1 s'.2.2 → (-2147483648) ≤ x3 ∧ x3 ≤ 2147483647 → 0 ≤ x4 ∧ x4 ≤ 16 → (16 - x4).toNat < M17 → X17 x3 x4 s') (hM17 : (16 - x4).toNat ≤ M17) (hI : iv_A s.1 s.2.2) (bx1 : 0 ≤ x1 ∧ x1 ≤ 3) (bx2 : (-1) ≤ x2 ∧ x2 ≤ (-1)) (bx4 : 0 ≤ x4 ∧ x4 ≤ 15) (by0 : (-2147483648) ≤ y0 ∧ y0 ≤ 2147483647) (by1 : 0 ≤ y1 ∧ y1 ≤ 32768) : fm_297_p55 X17 Q x1 x2 x4 y0 y1 s := by
  unfold fm_297_p55
  have b35 : (-2147483648) ≤ lf_or y0 y1 ∧ lf_or y0 y1 ≤ 2147483647 := lf_orB
  exact hX17 (lf_or y0 y1) (x4 + 1) s hI (lf_fq_rf) (show (-2147483648 : Int) ≤ lf_or y0 y1 ∧ lf_or y0 y1 ≤ (2147483647 : Int) from by omega) (show (0 : Int) ≤ x4 + 1 ∧ x4 + 1 ≤ (16 : Int) from by omega) (show (16 - (x4 + 1)).toNat < M17 from by omega)
theorem sm_297_p54 {X17 : Int → Int → lf_Z → Prop} {Q : Int → lf_Z → Prop} {x1 : Int} {x2 : Int} {x4 : Int} {y0 : Int} {s : lf_Z} (hQ : ∀ (r : Int) (s' : lf_Z), iv_A s'.1 s'.2.2 → lf_fq [95, 104, 107, 111, 112] 1000000 true s.1 s.2.2 s'.1 s'.2.2 → ((-1) ≤ r ∧ r ≤ 65535) → Q r s') {M17 : Nat} (hX17 : ∀ (x3 : Int) (x4 : Int) (s' : lf_Z), iv_A s'.1 s'.2.2 → lf_fq [95, 104, 107, 111, 112] 1000000 true s.1 s.2.2 s'.1 s'.2.2 → (-2147483648) ≤ x3 ∧ x3 ≤ 2147483647 → 0 ≤ x4 ∧ x4 ≤ 16 → (16 - x4).toNat < M17 → X17 x3 x4 s') (hM17 : (16 - x4).toNat ≤ M17) (hI : iv_A s.1 s.2.2) (bx1 : 0 ≤ x1 ∧ x1 ≤ 3) (bx2 : (-1) ≤ x2 ∧ x2 ≤ (-1)) (bx4 : 0 ≤ x4 ∧ x4 ≤ 15) (by0 : (-2147483648) ≤ y0 ∧ y0 ≤ 2147483647) : fm_297_p54 X17 Q x1 x2 x4 y0 s := by
  unfold fm_297_p54
  exact sm_297_p55 hQ hX17 (show (16 - x4).toNat ≤ M17 from by omega) hI (show (0 : Int) ≤ x1 ∧ x1 ≤ (3 : Int) from by omega) (show (-1 : Int) ≤ x2 ∧ x2 ≤ (-1 : Int) from by omega) (show (0 : Int) ≤ x4 ∧ x4 ≤ (15 : Int) from by omega) (show (-2147483648 : Int) ≤ y0 ∧ y0 ≤ (2147483647 : Int) from by omega) (show (0 : Int) ≤ 0 ∧ 0 ≤ (32768 : Int) from by omega)
theorem sm_297_p17 {X17 : Int → Int → lf_Z → Prop} {Q : Int → lf_Z → Prop} {x1 : Int} {x2 : Int} {x3 : Int} {x4 : Int} {s : lf_Z} (hQ : ∀ (r : Int) (s' : lf_Z), iv_A s'.1 s'.2.2 → lf_fq [95, 104, 107, 111, 112] 1000000 true s.1 s.2.2 s'.1 s'.2.2 → ((-1) ≤ r ∧ r ≤ 65535) → Q r s') {M17 : Nat} (hX17 : ∀ (x3 : Int) (x4 : Int) (s' : lf_Z), iv_A s'.1 s'.2.2 → lf_fq [95, 104, 107, 111, 112] 1000000 true s.1 s.2.2 s'.1 s'.2.2 → (-2147483648) ≤ x3 ∧ x3 ≤ 2147483647 → 0 ≤ x4 ∧ x4 ≤ 16 → (16 - x4).toNat < M17 → X17 x3 x4 s') (hM17 : (16 - x4).toNat ≤ M17) (hI : iv_A s.1 s.2.2) (bx1 : 0 ≤ x1 ∧ x1 ≤ 3) (bx2 : (-1) ≤ x2 ∧ x2 ≤ (-1)) (bx3 : (-2147483648) ≤ x3 ∧ x3 ≤ 2147483647) (bx4 : 0 ≤ x4 ∧ x4 ≤ 16) : fm_297_p17 Q x1 x2 X17 x3 x4 s := by
  unfold fm_297_p17
  have b3 : 0 ≤ s.1 96 1 ∧ s.1 96 1 ≤ 16 := iv_rd96 hI (iv_fd6ad3e54 (by omega))
  have b4 : s.1 96 1 ≤ 0 ∨ 0 < s.1 96 0 := (show s.1 96 1 ≤ 0 ∨ 0 < s.1 96 0 from iv_l96_1 hI)
  refine ⟨(show lf_R x4 from lf_Rof (by omega)), ?_⟩
  refine ⟨(show lf_R (s.1 96 1) from lf_Rof (by omega)), ?_⟩
  refine ⟨fun c5 => ?_, fun c5 => ?_⟩
  · skip
    replace c5 : s.1 96 1 ≤ x4 := c5
    exact sm_297_p66L hQ hI (show (0 : Int) ≤ x1 ∧ x1 ≤ (3 : Int) from by omega) (show (-1 : Int) ≤ x2 ∧ x2 ≤ (65535 : Int) from by omega) (show (-2147483648 : Int) ≤ x3 ∧ x3 ≤ (2147483647 : Int) from by omega) (show (0 : Int) ≤ 0 ∧ 0 ≤ (4 : Int) from by omega)
  · skip
    replace c5 : ¬ (s.1 96 1 ≤ x4) := c5
    refine sm_245 hI (show (0 : Int) ≤ x4 ∧ x4 ≤ (15 : Int) from by omega) (fun z45 => ?_)
    refine ⟨fun c34 => ?_, fun c34 => ?_⟩
    · skip
      exact sm_297_p54 hQ hX17 (show (16 - x4).toNat ≤ M17 from by omega) hI (show (0 : Int) ≤ x1 ∧ x1 ≤ (3 : Int) from by omega) (show (-1 : Int) ≤ x2 ∧ x2 ≤ (-1 : Int) from by omega) (show (0 : Int) ≤ x4 ∧ x4 ≤ (15 : Int) from by omega) (show (-2147483648 : Int) ≤ x3 ∧ x3 ≤ (2147483647 : Int) from by omega)
    · skip
      refine sm_252 hI (show (0 : Int) ≤ x4 ∧ x4 ≤ (15 : Int) from by omega) (fun z47 => ?_)
      refine ⟨fun c37 => ?_, fun c37 => ?_⟩
      · skip
        exact sm_297_p54 hQ hX17 (show (16 - x4).toNat ≤ M17 from by omega) hI (show (0 : Int) ≤ x1 ∧ x1 ≤ (3 : Int) from by omega) (show (-1 : Int) ≤ x2 ∧ x2 ≤ (-1 : Int) from by omega) (show (0 : Int) ≤ x4 ∧ x4 ≤ (15 : Int) from by omega) (show (-2147483648 : Int) ≤ x3 ∧ x3 ≤ (2147483647 : Int) from by omega)
      · skip
        have b38 : 1 ≤ lf_shl 1 x4 ∧ lf_shl 1 x4 ≤ 32768 := lf_shl1 (m := 15) (by omega) (by omega) (by decide)
        exact sm_297_p55 hQ hX17 (show (16 - x4).toNat ≤ M17 from by omega) hI (show (0 : Int) ≤ x1 ∧ x1 ≤ (3 : Int) from by omega) (show (-1 : Int) ≤ x2 ∧ x2 ≤ (-1 : Int) from by omega) (show (0 : Int) ≤ x4 ∧ x4 ≤ (15 : Int) from by omega) (show (-2147483648 : Int) ≤ x3 ∧ x3 ≤ (2147483647 : Int) from by omega) (show (0 : Int) ≤ lf_shl 1 x4 ∧ lf_shl 1 x4 ≤ (32768 : Int) from by omega)
theorem sm_297_p17L {Q : Int → lf_Z → Prop} {x1 : Int} {x2 : Int} {x3 : Int} {x4 : Int} {s : lf_Z} (hQ : ∀ (r : Int) (s' : lf_Z), iv_A s'.1 s'.2.2 → lf_fq [95, 104, 107, 111, 112] 1000000 true s.1 s.2.2 s'.1 s'.2.2 → ((-1) ≤ r ∧ r ≤ 65535) → Q r s') (hI : iv_A s.1 s.2.2) (bx1 : 0 ≤ x1 ∧ x1 ≤ 3) (bx2 : (-1) ≤ x2 ∧ x2 ≤ (-1)) (bx3 : (-2147483648) ≤ x3 ∧ x3 ≤ 2147483647) (bx4 : 0 ≤ x4 ∧ x4 ≤ 16) : fm_297_p17L Q x1 x2 x3 x4 s := by
  intro X17 hX
  have key : ∀ (m9 : Nat) (x3 : Int) (x4 : Int) (s' : lf_Z), iv_A s'.1 s'.2.2 → lf_fq [95, 104, 107, 111, 112] 1000000 true s.1 s.2.2 s'.1 s'.2.2 → (-2147483648) ≤ x3 ∧ x3 ≤ 2147483647 → 0 ≤ x4 ∧ x4 ≤ 16 → (16 - x4).toNat < m9 → X17 x3 x4 s' := by
    intro m9
    induction m9 with
    | zero => intro x3 x4 s' _ _ bx3 bx4 h9; exact absurd h9 (Nat.not_lt_zero _)
    | succ m9 ih => intro x3 x4 s' i7 f7 bx3 bx4 h9; exact hX _ _ _ (sm_297_p17 (fun r9 t9 i9 f9 => hQ r9 t9 i9 (lf_fq_tr f7 f9))   (fun x3' x4' t8 i8 f8 bx3' bx4' h8 => ih x3' x4' t8 i8 (lf_fq_tr f7 f8) bx3' bx4' (by omega)) (Nat.le_refl _)  i7  bx1 bx2 bx3 bx4  )
  exact key _ _ _ s hI lf_fq_rf bx3 bx4 (Nat.lt_succ_self _)
theorem sm_297 {a1 : Int} {Q : Int → lf_Z → Prop} {s : lf_Z} (hI : iv_A s.1 s.2.2) (ba1 : (-2147483648) ≤ a1 ∧ a1 ≤ 2147483647) (hQ : ∀ (r : Int) (s' : lf_Z), iv_A s'.1 s'.2.2 → lf_fq [95, 104, 107, 111, 112] 1000000 true s.1 s.2.2 s'.1 s'.2.2 → ((-1) ≤ r ∧ r ≤ 65535) → Q r s') : fm_297 a1 Q s := by
  unfold fm_297
  refine sm_254 hI (show (-2147483648 : Int) ≤ a1 ∧ a1 ≤ (2147483647 : Int) from by omega) (fun z22 q1 => ?_)
  refine ⟨fun c2 => ?_, fun c2 => ?_⟩
  · skip
    have dc2 := q1.1 c2
    exact sm_297_p17L hQ hI (show (0 : Int) ≤ a1 ∧ a1 ≤ (3 : Int) from by omega) (show (-1 : Int) ≤ (-1) ∧ (-1) ≤ (-1 : Int) from by omega) (show (-2147483648 : Int) ≤ 0 ∧ 0 ≤ (2147483647 : Int) from by omega) (show (0 : Int) ≤ 0 ∧ 0 ≤ (16 : Int) from by omega)
  · skip
    have dc2 := q1.2 c2
    exact hQ (-1) s hI (lf_fq_rf) (show (-1 : Int) ≤ (-1) ∧ (-1) ≤ (65535 : Int) from by omega)
-- fm_146 Notes.addSight 25 i i
theorem sm_146 {a1 : Int} {a2 : Int} {Q : Int → lf_Z → Prop} {s : lf_Z} (hI : iv_A s.1 s.2.2) (ba1 : 0 ≤ a1 ∧ a1 ≤ 11) (ba2 : 0 ≤ a2 ∧ a2 ≤ 60) (hQ : ∀ (r : Int) (s' : lf_Z), iv_A s'.1 s'.2.2 → lf_fq [25, 26, 27] 1000000 true s.1 s.2.2 s'.1 s'.2.2 → ((-2) ≤ r ∧ r ≤ 6) → Q r s') : fm_146 a1 a2 Q s := by
  unfold fm_146
  have b1 : 0 ≤ s.1 25 2 ∧ s.1 25 2 ≤ 6 := iv_r25_2 hI
  refine ⟨(show lf_R (s.1 25 2) from lf_Rof (by omega)), ?_⟩
  refine ⟨fun c2 => ?_, fun c2 => ?_⟩
  · skip
    replace c2 : s.1 25 2 < 6 := c2
    refine ⟨(show (0 : Int) ≤ s.1 25 2 ∧ s.1 25 2 < (6 : Int) from by omega), ?_⟩
    have hI3 : iv_A (lf_up s.1 26 (s.1 25 2) a1) s.2.2 := iv_w26 hI (by omega)
    have fr4 : lf_fq [25, 26, 27] 1000000 true s.1 s.2.2 (lf_up s.1 26 (s.1 25 2) a1) s.2.2 := lf_fq_up (lf_fq_rf) rfl (fun h => absurd h (by decide))
    have hI5 : iv_A (lf_up (lf_up s.1 26 (s.1 25 2) a1) 27 (s.1 25 2) a2) s.2.2 := iv_w27 hI3 (by omega)
    have fr6 : lf_fq [25, 26, 27] 1000000 true s.1 s.2.2 (lf_up (lf_up s.1 26 (s.1 25 2) a1) 27 (s.1 25 2) a2) s.2.2 := lf_fq_up fr4 rfl (fun h => absurd h (by decide))
    have hI7 : iv_A (lf_up (lf_up (lf_up s.1 26 (s.1 25 2) a1) 27 (s.1 25 2) a2) 25 2 ((s.1 25 2) + 1)) s.2.2 := iv_w25_2 hI5 (by omega)
    have fr8 : lf_fq [25, 26, 27] 1000000 true s.1 s.2.2 (lf_up (lf_up (lf_up s.1 26 (s.1 25 2) a1) 27 (s.1 25 2) a2) 25 2 ((s.1 25 2) + 1)) s.2.2 := lf_fq_up fr6 rfl (fun h => absurd h (by decide))
    exact hQ ((s.1 25 2) + 1) (lf_up (lf_up (lf_up s.1 26 (s.1 25 2) a1) 27 (s.1 25 2) a2) 25 2 ((s.1 25 2) + 1), s.2.1, s.2.2) hI7 fr8 (show (-2 : Int) ≤ (s.1 25 2) + 1 ∧ (s.1 25 2) + 1 ≤ (6 : Int) from by omega)
  · skip
    replace c2 : ¬ (s.1 25 2 < 6) := c2
    exact hQ (-2) s hI (lf_fq_rf) (show (-2 : Int) ≤ (-2) ∧ (-2) ≤ (6 : Int) from by omega)
