-- fm_280 Model.played 95 i
theorem sm_280_p22 {X22 : Int → lf_Z → Prop} {Q : Int → lf_Z → Prop} {x1 : Int} {x2 : Int} {s : lf_Z} (hQ : ∀ (r : Int) (s' : lf_Z), iv_A s'.1 s'.2.2 → lf_fq [96, 104, 107, 108, 1002, 1004, 1005, 1006] 0 true s.1 s.2.2 s'.1 s'.2.2 → ((-2) ≤ r ∧ r ≤ 23) → Q r s') {M22 : Nat} (hX22 : ∀ (x2 : Int) (s' : lf_Z), iv_A s'.1 s'.2.2 → lf_fq [96, 104, 107, 108, 1002, 1004, 1005, 1006] 0 true s.1 s.2.2 s'.1 s'.2.2 → 0 ≤ x2 ∧ x2 ≤ 24 → (24 - x2).toNat < M22 → X22 x2 s') (hM22 : (24 - x2).toNat ≤ M22) (hI : iv_A s.1 s.2.2) (bx1 : 0 ≤ x1 ∧ x1 ≤ 3) (bx2 : 0 ≤ x2 ∧ x2 ≤ 24) : fm_280_p22 Q x1 X22 x2 s := by
  unfold fm_280_p22
  refine ⟨(show (0 : Int) ≤ 705 * x1 ∧ 705 * x1 < (2820 : Int) from by omega), ?_⟩
  have b4 : 0 ≤ s.1 98 (705 * x1) ∧ s.1 98 (705 * x1) ≤ 24 := iv_rd98 hI (iv_f876c6d9a (x1) (by omega) (by omega))
  refine ⟨(show lf_R x2 from lf_Rof (by omega)), ?_⟩
  refine ⟨(show lf_R (s.1 98 (705 * x1)) from lf_Rof (by omega)), ?_⟩
  refine ⟨fun c5 => ?_, fun c5 => ?_⟩
  · skip
    replace c5 : s.1 98 (705 * x1) ≤ x2 := c5
    exact hQ (-1) s hI (lf_fq_rf) (show (-2 : Int) ≤ (-1) ∧ (-1) ≤ (23 : Int) from by omega)
  · skip
    replace c5 : ¬ (s.1 98 (705 * x1) ≤ x2) := c5
    refine sm_281 hI (show (1 : Int) ≤ ((705 * x1) + 1) + (4 * x2) ∧ ((705 * x1) + 1) + (4 * x2) ≤ (2208 : Int) from by omega) (fun z27 s26 hI7 fr6 => ?_)
    have fr9 : lf_fq [96, 104, 107, 108, 1002, 1004, 1005, 1006] 0 true s.1 s.2.2 s26.1 s26.2.2 := lf_fq_tr (lf_fq_rf) (lf_fq_wk fr6 rfl (by decide) (by decide))
    refine ⟨fun c10 => ?_, fun c10 => ?_⟩
    · skip
      exact hX22 (x2 + 1) s26 hI7 fr9 (show (0 : Int) ≤ x2 + 1 ∧ x2 + 1 ≤ (24 : Int) from by omega) (show (24 - (x2 + 1)).toNat < M22 from by omega)
    · skip
      exact hQ x2 s26 hI7 fr9 (show (-2 : Int) ≤ x2 ∧ x2 ≤ (23 : Int) from by omega)
theorem sm_280_p22L {Q : Int → lf_Z → Prop} {x1 : Int} {x2 : Int} {s : lf_Z} (hQ : ∀ (r : Int) (s' : lf_Z), iv_A s'.1 s'.2.2 → lf_fq [96, 104, 107, 108, 1002, 1004, 1005, 1006] 0 true s.1 s.2.2 s'.1 s'.2.2 → ((-2) ≤ r ∧ r ≤ 23) → Q r s') (hI : iv_A s.1 s.2.2) (bx1 : 0 ≤ x1 ∧ x1 ≤ 3) (bx2 : 0 ≤ x2 ∧ x2 ≤ 24) : fm_280_p22L Q x1 x2 s := by
  intro X22 hX
  have key : ∀ (m9 : Nat) (x2 : Int) (s' : lf_Z), iv_A s'.1 s'.2.2 → lf_fq [96, 104, 107, 108, 1002, 1004, 1005, 1006] 0 true s.1 s.2.2 s'.1 s'.2.2 → 0 ≤ x2 ∧ x2 ≤ 24 → (24 - x2).toNat < m9 → X22 x2 s' := by
    intro m9
    induction m9 with
    | zero => intro x2 s' _ _ bx2 h9; exact absurd h9 (Nat.not_lt_zero _)
    | succ m9 ih => intro x2 s' i7 f7 bx2 h9; exact hX _ _ (sm_280_p22 (fun r9 t9 i9 f9 => hQ r9 t9 i9 (lf_fq_tr f7 f9))   (fun x2' t8 i8 f8 bx2' h8 => ih x2' t8 i8 (lf_fq_tr f7 f8) bx2' (by omega)) (Nat.le_refl _)  i7  bx1 bx2  )
  exact key _ _ s hI lf_fq_rf bx2 (Nat.lt_succ_self _)
theorem sm_280 {a1 : Int} {Q : Int → lf_Z → Prop} {s : lf_Z} (hI : iv_A s.1 s.2.2) (ba1 : (-2147483648) ≤ a1 ∧ a1 ≤ 2147483647) (hQ : ∀ (r : Int) (s' : lf_Z), iv_A s'.1 s'.2.2 → lf_fq [96, 104, 107, 108, 1002, 1004, 1005, 1006] 0 true s.1 s.2.2 s'.1 s'.2.2 → ((-2) ≤ r ∧ r ≤ 23) → Q r s') : fm_280 a1 Q s := by
  unfold fm_280
  have b1 : 0 ≤ s.1 96 7 ∧ s.1 96 7 ≤ 4 := iv_rd96 hI (iv_ffb272d5f (by omega))
  refine sm_183 hI (show (-2147483648 : Int) ≤ a1 ∧ a1 ≤ (2147483647 : Int) from by omega) (show (-1 : Int) ≤ 0 ∧ 0 ≤ (97 : Int) from by omega) (show (-1 : Int) ≤ (s.1 96 7) - 1 ∧ (s.1 96 7) - 1 ≤ (9999 : Int) from by omega) (fun z22 q2 => ?_)
  refine ⟨fun c3 => ?_, fun c3 => ?_⟩
  · skip
    have dc3 := q2.1 c3
    exact sm_280_p22L hQ hI (show (0 : Int) ≤ a1 ∧ a1 ≤ (3 : Int) from by omega) (show (0 : Int) ≤ 0 ∧ 0 ≤ (24 : Int) from by omega)
  · skip
    have dc3 := q2.2 c3
    exact hQ (-2) s hI (lf_fq_rf) (show (-2 : Int) ≤ (-2) ∧ (-2) ≤ (23 : Int) from by omega)
-- fm_106 ElevenBullocks.happen 0
theorem sm_106_p100 {Q : lf_Z → Prop} {y0 : Int} {s : lf_Z} (hQ : ∀  (s' : lf_Z), iv_A s'.1 s'.2.2 → lf_fq [15, 16, 17, 18, 19, 20, 21, 63, 64, 65, 66] 1000000 true s.1 s.2.2 s'.1 s'.2.2 → Q  s') (hI : iv_A s.1 s.2.2) (by0 : (-5) ≤ y0 ∧ y0 ≤ 5) : fm_106_p100 Q y0 s := by
  unfold fm_106_p100
  refine sm_99 hI (show (-2147483648 : Int) ≤ y0 ∧ y0 ≤ (2147483647 : Int) from by omega) (fun z28 q15 => ?_)
  have b16 : 0 ≤ s.1 1 2 ∧ s.1 1 2 ≤ 6 := iv_r1_2 hI
  refine ⟨fun c17 => ?_, fun c17 => ?_⟩
  · skip
    have dc17 := q15.2 c17
    exact hQ s hI (lf_fq_rf)
  · skip
    have dc17 := q15.1 c17
    have b18 : 0 ≤ s.1 1 0 ∧ s.1 1 0 ≤ 12 := iv_r1_0 hI
    refine ⟨(show lf_R (s.1 1 0) from lf_Rof (by omega)), ?_⟩
    refine ⟨fun c19 => ?_, fun c19 => ?_⟩
    · skip
      replace c19 : s.1 1 0 = 0 := c19
      exact hQ s hI (lf_fq_rf)
    · skip
      replace c19 : ¬ (s.1 1 0 = 0) := c19
      have b20 : (-2147483648) ≤ s.1 15 8 ∧ s.1 15 8 ≤ 2147483647 := iv_full hI
      refine ⟨(show lf_R (s.1 15 8) from lf_Rof (by omega)), ?_⟩
      refine ⟨(show (s.1 1 0) ≠ 0 from by omega), ?_⟩
      have b21 : (-11) ≤ (s.1 15 8).tmod (s.1 1 0) ∧ (s.1 15 8).tmod (s.1 1 0) ≤ 11 := lf_tmodM (by omega) (by omega)
      refine ⟨(show (0 : Int) ≤ y0 ∧ y0 < (6 : Int) from by omega), ?_⟩
      have hI22 : iv_A (lf_up s.1 20 y0 ((s.1 15 8).tmod (s.1 1 0))) s.2.2 := iv_w20 hI (by omega)
      have fr23 : lf_fq [15, 16, 17, 18, 19, 20, 21, 63, 64, 65, 66] 1000000 true s.1 s.2.2 (lf_up s.1 20 y0 ((s.1 15 8).tmod (s.1 1 0))) s.2.2 := lf_fq_up (lf_fq_rf) rfl (fun h => absurd h (by decide))
      exact hQ (lf_up s.1 20 y0 ((s.1 15 8).tmod (s.1 1 0)), s.2.1, s.2.2) hI22 fr23
theorem sm_106_p43 {Q : lf_Z → Prop} {y0 : Int} {s : lf_Z} (hQ : ∀  (s' : lf_Z), iv_A s'.1 s'.2.2 → lf_fq [15, 16, 17, 18, 19, 20, 21, 63, 64, 65, 66] 1000000 true s.1 s.2.2 s'.1 s'.2.2 → Q  s') (hI : iv_A s.1 s.2.2) (by0 : (-15) ≤ y0 ∧ y0 ≤ 15) : fm_106_p43 Q y0 s := by
  unfold fm_106_p43
  refine sm_89 hI (show (-2147483648 : Int) ≤ y0 ∧ y0 ≤ (2147483647 : Int) from by omega) (fun z36 q27 => ?_)
  have b28 : 0 ≤ s.1 1 1 ∧ s.1 1 1 ≤ 16 := iv_r1_1 hI
  have b29 : 0 ≤ s.1 6 y0 ∧ s.1 6 y0 ≤ 1 := iv_r6 hI _
  refine ⟨fun c30 => ?_, fun c30 => ?_⟩
  · skip
    have dc30 := q27.2 c30
    exact hQ s hI (lf_fq_rf)
  · skip
    have dc30 := q27.1 c30
    refine sm_101 hI (show (0 : Int) ≤ y0 ∧ y0 ≤ (15 : Int) from by omega) (fun s37 hI32 fr31 => ?_)
    have fr34 : lf_fq [15, 16, 17, 18, 19, 20, 21, 63, 64, 65, 66] 1000000 true s.1 s.2.2 s37.1 s37.2.2 := lf_fq_tr (lf_fq_rf) (lf_fq_wk fr31 rfl (by decide) (by decide))
    exact hQ s37 hI32 fr34
theorem sm_106 {Q : lf_Z → Prop} {s : lf_Z} (hI : iv_A s.1 s.2.2) (hQ : ∀  (s' : lf_Z), iv_A s'.1 s'.2.2 → lf_fq [15, 16, 17, 18, 19, 20, 21, 63, 64, 65, 66] 1000000 true s.1 s.2.2 s'.1 s'.2.2 → Q  s') : fm_106 Q s := by
  unfold fm_106
  have b1 : (-2147483648) ≤ s.1 15 8 ∧ s.1 15 8 ≤ 2147483647 := iv_full hI
  refine ⟨(show lf_R (s.1 15 8) from lf_Rof (by omega)), ?_⟩
  have b2 : (-4) ≤ (s.1 15 8).tmod 5 ∧ (s.1 15 8).tmod 5 ≤ 4 := lf_tmodM (by omega) (by omega)
  have b3 : (s.1 15 8).tdiv 5 ≤ 0 ∨ 0 ≤ (s.1 15 8).tmod 5 := lf_tmS (by decide)
  refine ⟨(show lf_R ((s.1 15 8).tmod 5) from lf_Rof (by omega)), ?_⟩
  refine ⟨fun c4 => ?_, fun c4 => ?_⟩
  · skip
    replace c4 : (s.1 15 8).tmod 5 ≠ 0 := c4
    refine ⟨fun c5 => ?_, fun c5 => ?_⟩
    · skip
      replace c5 : (s.1 15 8).tmod 5 ≠ 1 := c5
      have b6 : (-2147483648) ≤ s.1 15 7 ∧ s.1 15 7 ≤ 2147483647 := iv_full hI
      refine ⟨(show lf_R (s.1 15 7) from lf_Rof (by omega)), ?_⟩
      refine ⟨fun c7 => ?_, fun c7 => ?_⟩
      · skip
        replace c7 : 999 ≤ s.1 15 7 := c7
        exact hQ s hI (lf_fq_rf)
      · skip
        replace c7 : ¬ (999 ≤ s.1 15 7) := c7
        refine sm_72 hI (fun s24 hI9 fr8 => ?_)
        have fr11 : lf_fq [15, 16, 17, 18, 19, 20, 21, 63, 64, 65, 66] 1000000 true s.1 s.2.2 s24.1 s24.2.2 := lf_fq_tr (lf_fq_rf) (lf_fq_wk fr8 rfl (by decide) (by decide))
        exact hQ s24 hI9 fr11
    · skip
      replace c5 : ¬ ((s.1 15 8).tmod 5 ≠ 1) := c5
      have b12 : 0 ≤ s.1 1 2 ∧ s.1 1 2 ≤ 6 := iv_r1_2 hI
      refine ⟨(show lf_R (s.1 1 2) from lf_Rof (by omega)), ?_⟩
      refine ⟨fun c13 => ?_, fun c13 => ?_⟩
      · skip
        replace c13 : s.1 1 2 ≠ 0 := c13
        refine ⟨(show (s.1 1 2) ≠ 0 from by omega), ?_⟩
        have b14 : (-5) ≤ (s.1 15 8).tmod (s.1 1 2) ∧ (s.1 15 8).tmod (s.1 1 2) ≤ 5 := lf_tmodM (by omega) (by omega)
        exact sm_106_p100 hQ hI (show (-5 : Int) ≤ (s.1 15 8).tmod (s.1 1 2) ∧ (s.1 15 8).tmod (s.1 1 2) ≤ (5 : Int) from by omega)
      · skip
        replace c13 : ¬ (s.1 1 2 ≠ 0) := c13
        exact sm_106_p100 hQ hI (show (-5 : Int) ≤ (-1) ∧ (-1) ≤ (5 : Int) from by omega)
  · skip
    replace c4 : ¬ ((s.1 15 8).tmod 5 ≠ 0) := c4
    have b24 : 0 ≤ s.1 1 1 ∧ s.1 1 1 ≤ 16 := iv_r1_1 hI
    refine ⟨(show lf_R (s.1 1 1) from lf_Rof (by omega)), ?_⟩
    refine ⟨fun c25 => ?_, fun c25 => ?_⟩
    · skip
      replace c25 : s.1 1 1 ≠ 0 := c25
      refine ⟨(show (s.1 1 1) ≠ 0 from by omega), ?_⟩
      have b26 : (-15) ≤ (s.1 15 8).tmod (s.1 1 1) ∧ (s.1 15 8).tmod (s.1 1 1) ≤ 15 := lf_tmodM (by omega) (by omega)
      exact sm_106_p43 hQ hI (show (-15 : Int) ≤ (s.1 15 8).tmod (s.1 1 1) ∧ (s.1 15 8).tmod (s.1 1 1) ≤ (15 : Int) from by omega)
    · skip
      replace c25 : ¬ (s.1 1 1 ≠ 0) := c25
      exact sm_106_p43 hQ hI (show (-15 : Int) ≤ (-1) ∧ (-1) ≤ (15 : Int) from by omega)
-- fm_105 ElevenBullocks.day 0 i i
theorem sm_105_p66 {X66 : Int → lf_Z → Prop} {Q : Int → lf_Z → Prop} {x2 : Int} {x3 : Int} {s : lf_Z} (hQ : ∀ (r : Int) (s' : lf_Z), iv_A s'.1 s'.2.2 → lf_fq [15, 16, 17, 18, 19, 20, 21, 22, 23, 24, 63, 64, 65, 66] 1000000 true s.1 s.2.2 s'.1 s'.2.2 → ((-2147483648) ≤ r ∧ r ≤ 2147483647) → Q r s') {M66 : Nat} (hX66 : ∀ (x3 : Int) (s' : lf_Z), iv_A s'.1 s'.2.2 → lf_fq [15, 16, 17, 18, 19, 20, 21, 22, 23, 24, 63, 64, 65, 66] 1000000 true s.1 s.2.2 s'.1 s'.2.2 → 0 ≤ x3 ∧ x3 ≤ 30 → (30 - x3).toNat < M66 → X66 x3 s') (hM66 : (30 - x3).toNat ≤ M66) (hI : iv_A s.1 s.2.2) (bx2 : 1 ≤ x2 ∧ x2 ≤ 30) (bx3 : 0 ≤ x3 ∧ x3 ≤ 30) : fm_105_p66 Q x2 X66 x3 s := by
  unfold fm_105_p66
  refine ⟨(show lf_R x3 from lf_Rof (by omega)), ?_⟩
  refine ⟨(show lf_R x2 from lf_Rof (by omega)), ?_⟩
  refine ⟨fun c14 => ?_, fun c14 => ?_⟩
  · skip
    replace c14 : x2 ≤ x3 := c14
    refine sm_97 hI (fun r30 q15 => ?_)
    exact hQ r30 s hI (lf_fq_rf) (show (-2147483648 : Int) ≤ r30 ∧ r30 ≤ (2147483647 : Int) from by omega)
  · skip
    replace c14 : ¬ (x2 ≤ x3) := c14
    refine sm_106 hI (fun s31 hI17 fr16 => ?_)
    have fr19 : lf_fq [15, 16, 17, 18, 19, 20, 21, 22, 23, 24, 63, 64, 65, 66] 1000000 true s.1 s.2.2 s31.1 s31.2.2 := lf_fq_tr (lf_fq_rf) (lf_fq_wk fr16 rfl (by decide) (by decide))
    refine sm_94 hI17 (fun s32 hI21 fr20 => ?_)
    have fr23 : lf_fq [15, 16, 17, 18, 19, 20, 21, 22, 23, 24, 63, 64, 65, 66] 1000000 true s.1 s.2.2 s32.1 s32.2.2 := lf_fq_tr fr19 (lf_fq_wk fr20 rfl (by decide) (by decide))
    exact hX66 (x3 + 1) s32 hI21 fr23 (show (0 : Int) ≤ x3 + 1 ∧ x3 + 1 ≤ (30 : Int) from by omega) (show (30 - (x3 + 1)).toNat < M66 from by omega)
theorem sm_105_p66L {Q : Int → lf_Z → Prop} {x2 : Int} {x3 : Int} {s : lf_Z} (hQ : ∀ (r : Int) (s' : lf_Z), iv_A s'.1 s'.2.2 → lf_fq [15, 16, 17, 18, 19, 20, 21, 22, 23, 24, 63, 64, 65, 66] 1000000 true s.1 s.2.2 s'.1 s'.2.2 → ((-2147483648) ≤ r ∧ r ≤ 2147483647) → Q r s') (hI : iv_A s.1 s.2.2) (bx2 : 1 ≤ x2 ∧ x2 ≤ 30) (bx3 : 0 ≤ x3 ∧ x3 ≤ 30) : fm_105_p66L Q x2 x3 s := by
  intro X66 hX
  have key : ∀ (m9 : Nat) (x3 : Int) (s' : lf_Z), iv_A s'.1 s'.2.2 → lf_fq [15, 16, 17, 18, 19, 20, 21, 22, 23, 24, 63, 64, 65, 66] 1000000 true s.1 s.2.2 s'.1 s'.2.2 → 0 ≤ x3 ∧ x3 ≤ 30 → (30 - x3).toNat < m9 → X66 x3 s' := by
    intro m9
    induction m9 with
    | zero => intro x3 s' _ _ bx3 h9; exact absurd h9 (Nat.not_lt_zero _)
    | succ m9 ih => intro x3 s' i7 f7 bx3 h9; exact hX _ _ (sm_105_p66 (fun r9 t9 i9 f9 => hQ r9 t9 i9 (lf_fq_tr f7 f9))   (fun x3' t8 i8 f8 bx3' h8 => ih x3' t8 i8 (lf_fq_tr f7 f8) bx3' (by omega)) (Nat.le_refl _)  i7  bx2 bx3  )
  exact key _ _ s hI lf_fq_rf bx3 (Nat.lt_succ_self _)
theorem sm_105 {a1 : Int} {a2 : Int} {Q : Int → lf_Z → Prop} {s : lf_Z} (hI : iv_A s.1 s.2.2) (ba1 : (-2147483648) ≤ a1 ∧ a1 ≤ 2147483647) (ba2 : (-2147483648) ≤ a2 ∧ a2 ≤ 2147483647) (hQ : ∀ (r : Int) (s' : lf_Z), iv_A s'.1 s'.2.2 → lf_fq [15, 16, 17, 18, 19, 20, 21, 22, 23, 24, 63, 64, 65, 66] 1000000 true s.1 s.2.2 s'.1 s'.2.2 → ((-2147483648) ≤ r ∧ r ≤ 2147483647) → Q r s') : fm_105 a1 a2 Q s := by
  unfold fm_105
  refine sm_15 hI (show (-2147483648 : Int) ≤ a1 ∧ a1 ≤ (2147483647 : Int) from by omega) (show (-1 : Int) ≤ 0 ∧ 0 ≤ (99 : Int) from by omega) (show (-2147483648 : Int) ≤ 9999 ∧ 9999 ≤ (2147483647 : Int) from by omega) (fun z22 q1 => ?_)
  refine ⟨fun c2 => ?_, fun c2 => ?_⟩
  · skip
    have dc2 := q1.2 c2
    exact hQ (-1) s hI (lf_fq_rf) (show (-2147483648 : Int) ≤ (-1) ∧ (-1) ≤ (2147483647 : Int) from by omega)
  · skip
    have dc2 := q1.1 c2
    refine sm_15 hI (show (-2147483648 : Int) ≤ a2 ∧ a2 ≤ (2147483647 : Int) from by omega) (show (-1 : Int) ≤ 1 ∧ 1 ≤ (99 : Int) from by omega) (show (-2147483648 : Int) ≤ 30 ∧ 30 ≤ (2147483647 : Int) from by omega) (fun z24 q3 => ?_)
    refine ⟨fun c4 => ?_, fun c4 => ?_⟩
    · skip
      have dc4 := q3.2 c4
      exact hQ (-1) s hI (lf_fq_rf) (show (-2147483648 : Int) ≤ (-1) ∧ (-1) ≤ (2147483647 : Int) from by omega)
    · skip
      have dc4 := q3.1 c4
      have b5 : 0 ≤ s.1 1 1 ∧ s.1 1 1 ≤ 16 := iv_r1_1 hI
      refine ⟨(show lf_R (s.1 1 1) from lf_Rof (by omega)), ?_⟩
      refine ⟨fun c6 => ?_, fun c6 => ?_⟩
      · skip
        replace c6 : s.1 1 1 ≠ 0 := c6
        have b7 : 0 ≤ s.1 1 2 ∧ s.1 1 2 ≤ 6 := iv_r1_2 hI
        refine sm_67 hI (show (0 : Int) ≤ s.1 1 2 ∧ s.1 1 2 ≤ (6 : Int) from by omega) (fun s26 hI9 fr8 => ?_)
        have fr11 : lf_fq [15, 16, 17, 18, 19, 20, 21, 22, 23, 24, 63, 64, 65, 66] 1000000 true s.1 s.2.2 s26.1 s26.2.2 := lf_fq_tr (lf_fq_rf) (lf_fq_wk fr8 rfl (by decide) (by decide))
        have hI12 : iv_A (lf_up s26.1 15 8 ((a1 * 3) + 41)) s26.2.2 := iv_w15_8 hI9 (by omega)
        have fr13 : lf_fq [15, 16, 17, 18, 19, 20, 21, 22, 23, 24, 63, 64, 65, 66] 1000000 true s.1 s.2.2 (lf_up s26.1 15 8 ((a1 * 3) + 41)) s26.2.2 := lf_fq_up fr11 rfl (fun h => absurd h (by decide))
        exact sm_105_p66L (fun r9 t9 i9 f9 => hQ r9 t9 i9 (lf_fq_tr fr13 f9)) hI12 (show (1 : Int) ≤ a2 ∧ a2 ≤ (30 : Int) from by omega) (show (0 : Int) ≤ 0 ∧ 0 ≤ (30 : Int) from by omega)
      · skip
        replace c6 : ¬ (s.1 1 1 ≠ 0) := c6
        exact hQ (-1) s hI (lf_fq_rf) (show (-2147483648 : Int) ≤ (-1) ∧ (-1) ≤ (2147483647 : Int) from by omega)
-- fm_283 Model.happens 95
theorem sm_283 {Q : lf_Z → Prop} {s : lf_Z} (hI : iv_A s.1 s.2.2) (kp0 : 0 < s.1 96 1) (kp1 : 0 < s.1 96 0) (hQ : ∀  (s' : lf_Z), iv_A s'.1 s'.2.2 → lf_fq [96, 104, 107, 108, 1006] 3 true s.1 s.2.2 s'.1 s'.2.2 → Q  s') : fm_283 Q s := by
  unfold fm_283
  have b1 : 0 ≤ s.1 96 6 ∧ s.1 96 6 ≤ 30202 := iv_rd96 hI (iv_f060f4a97 (by omega))
  have b2 : 0 ≤ s.1 96 1 ∧ s.1 96 1 ≤ 16 := iv_rd96 hI (iv_fd6ad3e54 (by omega))
  have b3 : s.1 96 1 ≤ 0 ∨ 0 < s.1 96 0 := (show s.1 96 1 ≤ 0 ∨ 0 < s.1 96 0 from iv_l96_1 hI)
  refine ⟨(show lf_R (s.1 96 6) from lf_Rof (by omega)), ?_⟩
  refine ⟨(show lf_R (s.1 96 1) from lf_Rof (by omega)), ?_⟩
  refine ⟨(show (s.1 96 1) ≠ 0 from by omega), ?_⟩
  have b4 : 0 ≤ (s.1 96 6).tmod (s.1 96 1) ∧ (s.1 96 6).tmod (s.1 96 1) ≤ 15 := lf_tmodP (by omega) (by omega) (by omega)
  have b5 : 0 ≤ (s.1 96 6).tmod 5 ∧ (s.1 96 6).tmod 5 ≤ 4 := lf_tmodP (by omega) (by omega) (by omega)
  refine ⟨(show lf_R ((s.1 96 6).tmod 5) from lf_Rof (by omega)), ?_⟩
  refine ⟨fun c6 => ?_, fun c6 => ?_, fun c6 => ?_⟩
  · replace c6 : (s.1 96 6).tmod 5 ≠ 0 ∧ (s.1 96 6).tmod 5 ≠ 1 := c6
    have b7 : (-2147483648) ≤ s.1 96 3 ∧ s.1 96 3 ≤ 2147483647 := iv_full hI
    refine ⟨(show lf_R (s.1 96 3) from lf_Rof (by omega)), ?_⟩
    refine ⟨fun c8 => ?_, fun c8 => ?_⟩
    · skip
      replace c8 : 999 ≤ s.1 96 3 := c8
      exact hQ s hI (lf_fq_rf)
    · skip
      replace c8 : ¬ (999 ≤ s.1 96 3) := c8
      refine sm_260 hI (fun s26 hI10 fr9 => ?_)
      have fr12 : lf_fq [96, 104, 107, 108, 1006] 3 true s.1 s.2.2 s26.1 s26.2.2 := lf_fq_tr (lf_fq_rf) (lf_fq_wk fr9 rfl (by decide) (by decide))
      exact hQ s26 hI10 fr12
  · replace c6 : (s.1 96 6).tmod 5 = 0 := c6
    refine sm_252 hI (show (0 : Int) ≤ (s.1 96 6).tmod (s.1 96 1) ∧ (s.1 96 6).tmod (s.1 96 1) ≤ (15 : Int) from by omega) (fun z28 => ?_)
    refine ⟨fun c14 => ?_, fun c14 => ?_⟩
    · skip
      exact hQ s hI (lf_fq_rf)
    · skip
      refine ⟨(show (0 : Int) ≤ (50 + (4 * ((s.1 96 6).tmod (s.1 96 1)))) + 3 ∧ (50 + (4 * ((s.1 96 6).tmod (s.1 96 1)))) + 3 < (1538 : Int) from by omega), ?_⟩
      have b15 : (-2147483648) ≤ s.1 96 ((50 + (4 * ((s.1 96 6).tmod (s.1 96 1)))) + 3) ∧ s.1 96 ((50 + (4 * ((s.1 96 6).tmod (s.1 96 1)))) + 3) ≤ 2147483647 := iv_full hI
      have b16 : (-2147483648) ≤ lf_w (1 - (s.1 96 ((50 + (4 * ((s.1 96 6).tmod (s.1 96 1)))) + 3))) ∧ lf_w (1 - (s.1 96 ((50 + (4 * ((s.1 96 6).tmod (s.1 96 1)))) + 3))) ≤ 2147483647 := lf_wB
      have hI17 : iv_A (lf_up s.1 96 ((50 + (4 * ((s.1 96 6).tmod (s.1 96 1)))) + 3) (lf_w (1 - (s.1 96 ((50 + (4 * ((s.1 96 6).tmod (s.1 96 1)))) + 3))))) s.2.2 := iv_wd96 hI (lf_le2 (iv_f17fb70ea ((s.1 96 6).tmod (s.1 96 1)) (by omega) (by omega)) (by omega)) (fun h => absurd h (by omega))
      have fr18 : lf_fq [96, 104, 107, 108, 1006] 3 true s.1 s.2.2 (lf_up s.1 96 ((50 + (4 * ((s.1 96 6).tmod (s.1 96 1)))) + 3) (lf_w (1 - (s.1 96 ((50 + (4 * ((s.1 96 6).tmod (s.1 96 1)))) + 3))))) s.2.2 := lf_fq_up (lf_fq_rf) rfl (fun _ => ⟨by omega, fr_o (Or.inr (fr_n0 (by omega))) (Or.inr (fr_n1 (by omega))) (Or.inr (fr_n2 (by omega))) (Or.inr (fr_n3 (by omega))) (Or.inr (fr_n4 (by omega))) (Or.inr (fr_n5 (by omega))) (Or.inl rfl)⟩)
      exact hQ (lf_up s.1 96 ((50 + (4 * ((s.1 96 6).tmod (s.1 96 1)))) + 3) (lf_w (1 - (s.1 96 ((50 + (4 * ((s.1 96 6).tmod (s.1 96 1)))) + 3)))), s.2.1, s.2.2) hI17 fr18
  · replace c6 : (s.1 96 6).tmod 5 = 1 := c6
    have b19 : 0 ≤ s.1 96 2 ∧ s.1 96 2 ≤ 6 := iv_rd96 hI (iv_f2103129b (by omega))
    have b20 : s.1 96 2 ≤ 0 ∨ 0 < s.1 96 0 := (show s.1 96 2 ≤ 0 ∨ 0 < s.1 96 0 from iv_l96_2 hI)
    refine ⟨(show lf_R (s.1 96 2) from lf_Rof (by omega)), ?_⟩
    refine ⟨fun c21 => ?_, fun c21 => ?_⟩
    · skip
      replace c21 : s.1 96 2 ≤ 0 := c21
      exact hQ s hI (lf_fq_rf)
    · skip
      replace c21 : ¬ (s.1 96 2 ≤ 0) := c21
      refine ⟨(show (s.1 96 2) ≠ 0 from by omega), ?_⟩
      have b22 : 0 ≤ (s.1 96 6).tmod (s.1 96 2) ∧ (s.1 96 6).tmod (s.1 96 2) ≤ 5 := lf_tmodP (by omega) (by omega) (by omega)
      have b23 : 0 ≤ s.1 96 0 ∧ s.1 96 0 ≤ 12 := iv_rd96 hI (iv_f3e1fa21c (by omega))
      refine ⟨(show lf_R (s.1 96 0) from lf_Rof (by omega)), ?_⟩
      refine ⟨(show (s.1 96 0) ≠ 0 from by omega), ?_⟩
      have b24 : 0 ≤ (s.1 96 6).tmod (s.1 96 0) ∧ (s.1 96 6).tmod (s.1 96 0) ≤ 11 := lf_tmodP (by omega) (by omega) (by omega)
      refine sm_191e hI (show (0 : Int) ≤ (s.1 96 6).tmod (s.1 96 2) ∧ (s.1 96 6).tmod (s.1 96 2) ≤ (5 : Int) from by omega) (show (-1 : Int) ≤ (s.1 96 6).tmod (s.1 96 0) ∧ (s.1 96 6).tmod (s.1 96 0) ≤ (11 : Int) from by omega) (fun s34 hI26 fr25 ps28 => ?_)
      replace ps28 : ∀ i, i ≠ 126 + 6 * ((s.1 96 6).tmod (s.1 96 2)) + 4 → s34.1 96 i = (s.1 96) i := ps28
      have fr29 : lf_fq [96, 104, 107, 108, 1006] 3 true s.1 s.2.2 s34.1 s34.2.2 := lf_fq_tr (lf_fq_rf) (lf_fq_wk fr25 rfl (by decide) (by decide))
      exact hQ s34 hI26 fr29
-- fm_282 Model.day 95 i i
theorem sm_282_p51 {X51 : Int → lf_Z → Prop} {Q : Int → lf_Z → Prop} {x2 : Int} {x3 : Int} {s : lf_Z} (hQ : ∀ (r : Int) (s' : lf_Z), iv_A s'.1 s'.2.2 → lf_fq [96, 104, 107, 108, 1005, 1006] 3 true s.1 s.2.2 s'.1 s'.2.2 → ((-2147483648) ≤ r ∧ r ≤ 2147483647) → Q r s') {M51 : Nat} (hX51 : ∀ (x3 : Int) (s' : lf_Z), iv_A s'.1 s'.2.2 → lf_fq [96, 104, 107, 108, 1005, 1006] 3 true s.1 s.2.2 s'.1 s'.2.2 → 0 ≤ x3 ∧ x3 ≤ 30 → (0 < s'.1 96 1) → (0 < s'.1 96 0) → (30 - x3).toNat < M51 → X51 x3 s') (hM51 : (30 - x3).toNat ≤ M51) (hI : iv_A s.1 s.2.2) (bx2 : 1 ≤ x2 ∧ x2 ≤ 30) (bx3 : 0 ≤ x3 ∧ x3 ≤ 30) (kv0 : 0 < s.1 96 1) (kv1 : 0 < s.1 96 0) : fm_282_p51 Q x2 X51 x3 s := by
  unfold fm_282_p51
  refine ⟨(show lf_R x3 from lf_Rof (by omega)), ?_⟩
  refine ⟨(show lf_R x2 from lf_Rof (by omega)), ?_⟩
  refine ⟨fun c22 => ?_, fun c22 => ?_⟩
  · skip
    replace c22 : x2 ≤ x3 := c22
    refine sm_279 hI (fun r30 q23 => ?_)
    exact hQ r30 s hI (lf_fq_rf) (show (-2147483648 : Int) ≤ r30 ∧ r30 ≤ (2147483647 : Int) from by omega)
  · skip
    replace c22 : ¬ (x2 ≤ x3) := c22
    have b26 : 0 ≤ s.1 96 1 ∧ s.1 96 1 ≤ 16 := iv_rd96 hI (iv_fd6ad3e54 (by omega))
    have b27 : s.1 96 1 ≤ 0 ∨ 0 < s.1 96 0 := (show s.1 96 1 ≤ 0 ∨ 0 < s.1 96 0 from iv_l96_1 hI)
    have b28 : 0 ≤ s.1 96 0 ∧ s.1 96 0 ≤ 12 := iv_rd96 hI (iv_f3e1fa21c (by omega))
    refine sm_283 hI (show 0 < (s.1 96 1) from by omega) (show 0 < (s.1 96 0) from by omega) (fun s31 hI25 fr24 => ?_)
    have fr30 : lf_fq [96, 104, 107, 108, 1005, 1006] 3 true s.1 s.2.2 s31.1 s31.2.2 := lf_fq_tr (lf_fq_rf) (lf_fq_wk fr24 rfl (by decide) (by decide))
    refine sm_276 hI25 (fun s32 hI32 fr31 ps34 => ?_)
    replace ps34 : ∀ i, i ≠ 6 → s32.1 96 i = (s31.1 96) i := ps34
    have fr35 : lf_fq [96, 104, 107, 108, 1005, 1006] 3 true s.1 s.2.2 s32.1 s32.2.2 := lf_fq_tr fr30 (lf_fq_wk fr31 rfl (by decide) (by decide))
    have b36 : 0 ≤ s32.1 96 1 ∧ s32.1 96 1 ≤ 16 := iv_rd96 hI32 (iv_fd6ad3e54 (by omega))
    have b37 : s32.1 96 1 = s31.1 96 1 := fr31.2.1 1 (by decide)
    have b38 : s31.1 96 1 = s.1 96 1 := fr24.2.1 1 (by decide)
    have b39 : s32.1 96 1 ≤ 0 ∨ 0 < s32.1 96 0 := (show s32.1 96 1 ≤ 0 ∨ 0 < s32.1 96 0 from iv_l96_1 hI32)
    have b40 : 0 ≤ s32.1 96 0 ∧ s32.1 96 0 ≤ 12 := iv_rd96 hI32 (iv_f3e1fa21c (by omega))
    have b41 : s32.1 96 0 = s31.1 96 0 := fr31.2.1 0 (by decide)
    have b42 : s31.1 96 0 = s.1 96 0 := fr24.2.1 0 (by decide)
    exact hX51 (x3 + 1) s32 hI32 fr35 (show (0 : Int) ≤ x3 + 1 ∧ x3 + 1 ≤ (30 : Int) from by omega) (show 0 < (s32.1 96 1) from by omega) (show 0 < (s32.1 96 0) from by omega) (show (30 - (x3 + 1)).toNat < M51 from by omega)
theorem sm_282_p51L {Q : Int → lf_Z → Prop} {x2 : Int} {x3 : Int} {s : lf_Z} (hQ : ∀ (r : Int) (s' : lf_Z), iv_A s'.1 s'.2.2 → lf_fq [96, 104, 107, 108, 1005, 1006] 3 true s.1 s.2.2 s'.1 s'.2.2 → ((-2147483648) ≤ r ∧ r ≤ 2147483647) → Q r s') (hI : iv_A s.1 s.2.2) (bx2 : 1 ≤ x2 ∧ x2 ≤ 30) (bx3 : 0 ≤ x3 ∧ x3 ≤ 30) (kv0 : 0 < s.1 96 1) (kv1 : 0 < s.1 96 0) : fm_282_p51L Q x2 x3 s := by
  intro X51 hX
  have key : ∀ (m9 : Nat) (x3 : Int) (s' : lf_Z), iv_A s'.1 s'.2.2 → lf_fq [96, 104, 107, 108, 1005, 1006] 3 true s.1 s.2.2 s'.1 s'.2.2 → 0 ≤ x3 ∧ x3 ≤ 30 → (0 < s'.1 96 1) → (0 < s'.1 96 0) → (30 - x3).toNat < m9 → X51 x3 s' := by
    intro m9
    induction m9 with
    | zero => intro x3 s' _ _ bx3 kv0 kv1 h9; exact absurd h9 (Nat.not_lt_zero _)
    | succ m9 ih => intro x3 s' i7 f7 bx3 kv0 kv1 h9; exact hX _ _ (sm_282_p51 (fun r9 t9 i9 f9 => hQ r9 t9 i9 (lf_fq_tr f7 f9))   (fun x3' t8 i8 f8 bx3' kv0' kv1' h8 => ih x3' t8 i8 (lf_fq_tr f7 f8) bx3' kv0' kv1' (by omega)) (Nat.le_refl _)  i7  bx2 bx3  kv0 kv1)
  exact key _ _ s hI lf_fq_rf bx3 kv0 kv1 (Nat.lt_succ_self _)
theorem sm_282 {a1 : Int} {a2 : Int} {Q : Int → lf_Z → Prop} {s : lf_Z} (hI : iv_A s.1 s.2.2) (ba1 : (-2147483648) ≤ a1 ∧ a1 ≤ 2147483647) (ba2 : (-2147483648) ≤ a2 ∧ a2 ≤ 2147483647) (hQ : ∀ (r : Int) (s' : lf_Z), iv_A s'.1 s'.2.2 → lf_fq [96, 104, 107, 108, 1005, 1006] 3 true s.1 s.2.2 s'.1 s'.2.2 → ((-2147483648) ≤ r ∧ r ≤ 2147483647) → Q r s') : fm_282 a1 a2 Q s := by
  unfold fm_282
  refine sm_183 hI (show (-2147483648 : Int) ≤ a1 ∧ a1 ≤ (2147483647 : Int) from by omega) (show (-1 : Int) ≤ 0 ∧ 0 ≤ (97 : Int) from by omega) (show (-1 : Int) ≤ 9999 ∧ 9999 ≤ (9999 : Int) from by omega) (fun z22 q1 => ?_)
  refine ⟨fun c2 => ?_, fun c2 => ?_⟩
  · skip
    have dc2 := q1.2 c2
    exact hQ (-1) s hI (lf_fq_rf) (show (-2147483648 : Int) ≤ (-1) ∧ (-1) ≤ (2147483647 : Int) from by omega)
  · skip
    have dc2 := q1.1 c2
    refine sm_183 hI (show (-2147483648 : Int) ≤ a2 ∧ a2 ≤ (2147483647 : Int) from by omega) (show (-1 : Int) ≤ 1 ∧ 1 ≤ (97 : Int) from by omega) (show (-1 : Int) ≤ 30 ∧ 30 ≤ (9999 : Int) from by omega) (fun z24 q3 => ?_)
    refine ⟨fun c4 => ?_, fun c4 => ?_⟩
    · skip
      have dc4 := q3.2 c4
      exact hQ (-1) s hI (lf_fq_rf) (show (-2147483648 : Int) ≤ (-1) ∧ (-1) ≤ (2147483647 : Int) from by omega)
    · skip
      have dc4 := q3.1 c4
      have b5 : 0 ≤ s.1 96 1 ∧ s.1 96 1 ≤ 16 := iv_rd96 hI (iv_fd6ad3e54 (by omega))
      have b6 : s.1 96 1 ≤ 0 ∨ 0 < s.1 96 0 := (show s.1 96 1 ≤ 0 ∨ 0 < s.1 96 0 from iv_l96_1 hI)
      refine ⟨(show lf_R (s.1 96 1) from lf_Rof (by omega)), ?_⟩
      refine ⟨fun c7 => ?_, fun c7 => ?_⟩
      · skip
        replace c7 : s.1 96 1 ≠ 0 := c7
        refine sm_244 hI (fun s26 hI9 fr8 ps11 => ?_)
        replace ps11 : kp_F ((s.1 96)) (s26.1 96) := ps11
        have fr12 : lf_fq [96, 104, 107, 108, 1005, 1006] 3 true s.1 s.2.2 s26.1 s26.2.2 := lf_fq_tr (lf_fq_rf) (lf_fq_wk fr8 rfl (by decide) (by decide))
        have hI13 : iv_A (lf_up s26.1 96 6 ((a1 * 3) + 41)) s26.2.2 := iv_wd96 hI9 (lf_le2 (iv_fee3e924e (by omega)) (by omega)) (fun h => absurd h (by omega))
        have fr14 : lf_fq [96, 104, 107, 108, 1005, 1006] 3 true s.1 s.2.2 (lf_up s26.1 96 6 ((a1 * 3) + 41)) s26.2.2 := lf_fq_up fr12 rfl (fun _ => ⟨by omega, fr_o (Or.inr (fr_n0 (by omega))) (Or.inr (fr_n1 (by omega))) (Or.inr (fr_n2 (by omega))) (Or.inr (fr_n3 (by omega))) (Or.inr (fr_n4 (by omega))) (Or.inl rfl) (Or.inl rfl)⟩)
        have b15 : 0 ≤ s26.1 96 1 ∧ s26.1 96 1 ≤ 16 := (show 0 ≤ (lf_up s26.1 96 6 ((a1 * 3) + 41)) 96 1 ∧ (lf_up s26.1 96 6 ((a1 * 3) + 41)) 96 1 ≤ 16 from iv_rd96 hI13 (iv_fd6ad3e54 (by omega)))
        have b16 : (lf_up s26.1 96 6 ((a1 * 3) + 41)) 96 1 = s26.1 96 1 := lf_up_i (by omega)
        have b17 : s26.1 96 1 = s.1 96 1 := fr8.2.1 1 (by decide)
        have b18 : s26.1 96 1 ≤ 0 ∨ 0 < s26.1 96 0 := (show (lf_up s26.1 96 6 ((a1 * 3) + 41)) 96 1 ≤ 0 ∨ 0 < (lf_up s26.1 96 6 ((a1 * 3) + 41)) 96 0 from iv_l96_1 hI13)
        have b19 : 0 ≤ s26.1 96 0 ∧ s26.1 96 0 ≤ 12 := (show 0 ≤ (lf_up s26.1 96 6 ((a1 * 3) + 41)) 96 0 ∧ (lf_up s26.1 96 6 ((a1 * 3) + 41)) 96 0 ≤ 12 from iv_rd96 hI13 (iv_f3e1fa21c (by omega)))
        have b20 : (lf_up s26.1 96 6 ((a1 * 3) + 41)) 96 0 = s26.1 96 0 := lf_up_i (by omega)
        have b21 : s26.1 96 0 = s.1 96 0 := fr8.2.1 0 (by decide)
        exact sm_282_p51L (fun r9 t9 i9 f9 => hQ r9 t9 i9 (lf_fq_tr fr14 f9)) hI13 (show (1 : Int) ≤ a2 ∧ a2 ≤ (30 : Int) from by omega) (show (0 : Int) ≤ 0 ∧ 0 ≤ (30 : Int) from by omega) (show 0 < (s26.1 96 1) from by omega) (show 0 < (s26.1 96 0) from by omega)
      · skip
        replace c7 : ¬ (s.1 96 1 ≠ 0) := c7
        exact hQ (-1) s hI (lf_fq_rf) (show (-2147483648 : Int) ≤ (-1) ∧ (-1) ≤ (2147483647 : Int) from by omega)
-- fm_109 Stand.readFrom 15 23 i
theorem sm_109_p42 {X42 : Int → Int → lf_Z → Prop} {Q : lf_Z → Prop} {x3 : Int} {x4 : Int} {s : lf_Z} (hQ : ∀  (s' : lf_Z), iv_A s'.1 s'.2.2 → lf_fq [15, 16, 17, 18, 19, 20, 21] 1000000 true s.1 s.2.2 s'.1 s'.2.2 → Q  s') {M42 : Nat} (hX42 : ∀ (x3 : Int) (x4 : Int) (s' : lf_Z), iv_A s'.1 s'.2.2 → lf_fq [15, 16, 17, 18, 19, 20, 21] 1000000 true s.1 s.2.2 s'.1 s'.2.2 → 12 ≤ x3 ∧ x3 ≤ 1155 → 0 ≤ x4 ∧ x4 ≤ 6 → (x3 = 39 * s'.1 22 2 + 12 + 2 * x4) → (6 - x4).toNat < M42 → X42 x3 x4 s') (hM42 : (6 - x4).toNat ≤ M42) (hI : iv_A s.1 s.2.2) (bx3 : 12 ≤ x3 ∧ x3 ≤ 1155) (bx4 : 0 ≤ x4 ∧ x4 ≤ 6) (kv0 : x3 = 39 * s.1 22 2 + 12 + 2 * x4) : fm_109_p42 Q X42 x3 x4 s := by
  unfold fm_109_p42
  refine ⟨(show lf_R x4 from lf_Rof (by omega)), ?_⟩
  refine ⟨fun c4 => ?_, fun c4 => ?_⟩
  · skip
    replace c4 : 6 ≤ x4 := c4
    refine ⟨(show (0 : Int) ≤ x3 ∧ (0 : Int) ≤ 0 ∧ (0 : Int) ≤ 12 ∧ (x3 : Int) + 12 ≤ 1170 ∧ (0 : Int) + 12 ≤ 12 from by omega), ?_⟩
    have hI5 : iv_A (lf_cp s.1 23 21 x3 0 12) s.2.2 := iv_cp23_21 hI
    have fr6 : lf_fq [15, 16, 17, 18, 19, 20, 21] 1000000 true s.1 s.2.2 (lf_cp s.1 23 21 x3 0 12) s.2.2 := lf_fq_cp (lf_fq_rf) rfl (by decide)
    refine ⟨(show (0 : Int) ≤ x3 + 12 ∧ x3 + 12 < (1170 : Int) from by omega), ?_⟩
    have b7 : (-2147483648) ≤ (lf_cp s.1 23 21 x3 0 12) 23 (x3 + 12) ∧ (lf_cp s.1 23 21 x3 0 12) 23 (x3 + 12) ≤ 2147483647 := iv_full hI5
    have b8 : (lf_cp s.1 23 21 x3 0 12) 23 (x3 + 12) = s.1 23 (x3 + 12) := lf_cp_c (by omega)
    have hI9 : iv_A (lf_up (lf_cp s.1 23 21 x3 0 12) 15 6 ((lf_cp s.1 23 21 x3 0 12) 23 (x3 + 12))) s.2.2 := iv_w15_6 hI5 (by omega)
    have fr10 : lf_fq [15, 16, 17, 18, 19, 20, 21] 1000000 true s.1 s.2.2 (lf_up (lf_cp s.1 23 21 x3 0 12) 15 6 ((lf_cp s.1 23 21 x3 0 12) 23 (x3 + 12))) s.2.2 := lf_fq_up fr6 rfl (fun h => absurd h (by decide))
    refine ⟨(show (0 : Int) ≤ (x3 + 12) + 1 ∧ (x3 + 12) + 1 < (1170 : Int) from by omega), ?_⟩
    have b11 : (-2147483648) ≤ (lf_cp s.1 23 21 x3 0 12) 23 ((x3 + 12) + 1) ∧ (lf_cp s.1 23 21 x3 0 12) 23 ((x3 + 12) + 1) ≤ 2147483647 := (show (-2147483648) ≤ (lf_up (lf_cp s.1 23 21 x3 0 12) 15 6 ((lf_cp s.1 23 21 x3 0 12) 23 (x3 + 12))) 23 ((x3 + 12) + 1) ∧ (lf_up (lf_cp s.1 23 21 x3 0 12) 15 6 ((lf_cp s.1 23 21 x3 0 12) 23 (x3 + 12))) 23 ((x3 + 12) + 1) ≤ 2147483647 from iv_full hI9)
    have b12 : (lf_cp s.1 23 21 x3 0 12) 23 ((x3 + 12) + 1) = s.1 23 ((x3 + 12) + 1) := lf_cp_c (by omega)
    have hI13 : iv_A (lf_up (lf_up (lf_cp s.1 23 21 x3 0 12) 15 6 ((lf_cp s.1 23 21 x3 0 12) 23 (x3 + 12))) 15 7 ((lf_cp s.1 23 21 x3 0 12) 23 ((x3 + 12) + 1))) s.2.2 := iv_w15_7 hI9 (by omega)
    have fr14 : lf_fq [15, 16, 17, 18, 19, 20, 21] 1000000 true s.1 s.2.2 (lf_up (lf_up (lf_cp s.1 23 21 x3 0 12) 15 6 ((lf_cp s.1 23 21 x3 0 12) 23 (x3 + 12))) 15 7 ((lf_cp s.1 23 21 x3 0 12) 23 ((x3 + 12) + 1))) s.2.2 := lf_fq_up fr10 rfl (fun h => absurd h (by decide))
    refine ⟨(show (0 : Int) ≤ (x3 + 12) + 2 ∧ (x3 + 12) + 2 < (1170 : Int) from by omega), ?_⟩
    have b15 : (-2147483648) ≤ (lf_cp s.1 23 21 x3 0 12) 23 ((x3 + 12) + 2) ∧ (lf_cp s.1 23 21 x3 0 12) 23 ((x3 + 12) + 2) ≤ 2147483647 := (show (-2147483648) ≤ (lf_up (lf_up (lf_cp s.1 23 21 x3 0 12) 15 6 ((lf_cp s.1 23 21 x3 0 12) 23 (x3 + 12))) 15 7 ((lf_cp s.1 23 21 x3 0 12) 23 ((x3 + 12) + 1))) 23 ((x3 + 12) + 2) ∧ (lf_up (lf_up (lf_cp s.1 23 21 x3 0 12) 15 6 ((lf_cp s.1 23 21 x3 0 12) 23 (x3 + 12))) 15 7 ((lf_cp s.1 23 21 x3 0 12) 23 ((x3 + 12) + 1))) 23 ((x3 + 12) + 2) ≤ 2147483647 from iv_full hI13)
    have b16 : (lf_cp s.1 23 21 x3 0 12) 23 ((x3 + 12) + 2) = s.1 23 ((x3 + 12) + 2) := lf_cp_c (by omega)
    have hI17 : iv_A (lf_up (lf_up (lf_up (lf_cp s.1 23 21 x3 0 12) 15 6 ((lf_cp s.1 23 21 x3 0 12) 23 (x3 + 12))) 15 7 ((lf_cp s.1 23 21 x3 0 12) 23 ((x3 + 12) + 1))) 15 8 ((lf_cp s.1 23 21 x3 0 12) 23 ((x3 + 12) + 2))) s.2.2 := iv_w15_8 hI13 (by omega)
    have fr18 : lf_fq [15, 16, 17, 18, 19, 20, 21] 1000000 true s.1 s.2.2 (lf_up (lf_up (lf_up (lf_cp s.1 23 21 x3 0 12) 15 6 ((lf_cp s.1 23 21 x3 0 12) 23 (x3 + 12))) 15 7 ((lf_cp s.1 23 21 x3 0 12) 23 ((x3 + 12) + 1))) 15 8 ((lf_cp s.1 23 21 x3 0 12) 23 ((x3 + 12) + 2))) s.2.2 := lf_fq_up fr14 rfl (fun h => absurd h (by decide))
    exact hQ (lf_up (lf_up (lf_up (lf_cp s.1 23 21 x3 0 12) 15 6 ((lf_cp s.1 23 21 x3 0 12) 23 (x3 + 12))) 15 7 ((lf_cp s.1 23 21 x3 0 12) 23 ((x3 + 12) + 1))) 15 8 ((lf_cp s.1 23 21 x3 0 12) 23 ((x3 + 12) + 2)), s.2.1, s.2.2) hI17 fr18
  · skip
    replace c4 : ¬ (6 ≤ x4) := c4
    refine ⟨(show (0 : Int) ≤ x3 ∧ x3 < (1170 : Int) from by omega), ?_⟩
    have b19 : (-2147483648) ≤ s.1 23 x3 ∧ s.1 23 x3 ≤ 2147483647 := iv_full hI
    refine ⟨(show (0 : Int) ≤ x4 ∧ x4 < (6 : Int) from by omega), ?_⟩
    have hI20 : iv_A (lf_up s.1 19 x4 (s.1 23 x3)) s.2.2 := iv_w19 hI (by omega)
    have fr21 : lf_fq [15, 16, 17, 18, 19, 20, 21] 1000000 true s.1 s.2.2 (lf_up s.1 19 x4 (s.1 23 x3)) s.2.2 := lf_fq_up (lf_fq_rf) rfl (fun h => absurd h (by decide))
    refine ⟨(show (0 : Int) ≤ x3 + 1 ∧ x3 + 1 < (1170 : Int) from by omega), ?_⟩
    have b22 : (-2147483648) ≤ s.1 23 (x3 + 1) ∧ s.1 23 (x3 + 1) ≤ 2147483647 := (show (-2147483648) ≤ (lf_up s.1 19 x4 (s.1 23 x3)) 23 (x3 + 1) ∧ (lf_up s.1 19 x4 (s.1 23 x3)) 23 (x3 + 1) ≤ 2147483647 from iv_full hI20)
    have hI23 : iv_A (lf_up (lf_up s.1 19 x4 (s.1 23 x3)) 20 x4 (s.1 23 (x3 + 1))) s.2.2 := iv_w20 hI20 (by omega)
    have fr24 : lf_fq [15, 16, 17, 18, 19, 20, 21] 1000000 true s.1 s.2.2 (lf_up (lf_up s.1 19 x4 (s.1 23 x3)) 20 x4 (s.1 23 (x3 + 1))) s.2.2 := lf_fq_up fr21 rfl (fun h => absurd h (by decide))
    have b25 : 0 ≤ s.1 22 2 ∧ s.1 22 2 ≤ 29 := (show 0 ≤ (lf_up (lf_up s.1 19 x4 (s.1 23 x3)) 20 x4 (s.1 23 (x3 + 1))) 22 2 ∧ (lf_up (lf_up s.1 19 x4 (s.1 23 x3)) 20 x4 (s.1 23 (x3 + 1))) 22 2 ≤ 29 from iv_r22_2 hI23)
    exact hX42 (x3 + 2) (x4 + 1) (lf_up (lf_up s.1 19 x4 (s.1 23 x3)) 20 x4 (s.1 23 (x3 + 1)), s.2.1, s.2.2) hI23 fr24 (show (12 : Int) ≤ x3 + 2 ∧ x3 + 2 ≤ (1155 : Int) from by omega) (show (0 : Int) ≤ x4 + 1 ∧ x4 + 1 ≤ (6 : Int) from by omega) (show (x3 + 2) = 39 * (s.1 22 2) + 12 + 2 * (x4 + 1) from by omega) (show (6 - (x4 + 1)).toNat < M42 from by omega)
theorem sm_109_p42L {Q : lf_Z → Prop} {x3 : Int} {x4 : Int} {s : lf_Z} (hQ : ∀  (s' : lf_Z), iv_A s'.1 s'.2.2 → lf_fq [15, 16, 17, 18, 19, 20, 21] 1000000 true s.1 s.2.2 s'.1 s'.2.2 → Q  s') (hI : iv_A s.1 s.2.2) (bx3 : 12 ≤ x3 ∧ x3 ≤ 1155) (bx4 : 0 ≤ x4 ∧ x4 ≤ 6) (kv0 : x3 = 39 * s.1 22 2 + 12 + 2 * x4) : fm_109_p42L Q x3 x4 s := by
  intro X42 hX
  have key : ∀ (m9 : Nat) (x3 : Int) (x4 : Int) (s' : lf_Z), iv_A s'.1 s'.2.2 → lf_fq [15, 16, 17, 18, 19, 20, 21] 1000000 true s.1 s.2.2 s'.1 s'.2.2 → 12 ≤ x3 ∧ x3 ≤ 1155 → 0 ≤ x4 ∧ x4 ≤ 6 → (x3 = 39 * s'.1 22 2 + 12 + 2 * x4) → (6 - x4).toNat < m9 → X42 x3 x4 s' := by
    intro m9
    induction m9 with
    | zero => intro x3 x4 s' _ _ bx3 bx4 kv0 h9; exact absurd h9 (Nat.not_lt_zero _)
    | succ m9 ih => intro x3 x4 s' i7 f7 bx3 bx4 kv0 h9; exact hX _ _ _ (sm_109_p42 (fun t9 i9 f9 => hQ t9 i9 (lf_fq_tr f7 f9))   (fun x3' x4' t8 i8 f8 bx3' bx4' kv0' h8 => ih x3' x4' t8 i8 (lf_fq_tr f7 f8) bx3' bx4' kv0' (by omega)) (Nat.le_refl _)  i7  bx3 bx4  kv0)
  exact key _ _ _ s hI lf_fq_rf bx3 bx4 kv0 (Nat.lt_succ_self _)
theorem sm_109_p5 {X5 : Int → Int → lf_Z → Prop} {Q : lf_Z → Prop} {x3 : Int} {x4 : Int} {s : lf_Z} (hQ : ∀  (s' : lf_Z), iv_A s'.1 s'.2.2 → lf_fq [15, 16, 17, 18, 19, 20, 21] 1000000 true s.1 s.2.2 s'.1 s'.2.2 → Q  s') {M5 : Nat} (hX5 : ∀ (x3 : Int) (x4 : Int) (s' : lf_Z), iv_A s'.1 s'.2.2 → lf_fq [15, 16, 17, 18, 19, 20, 21] 1000000 true s.1 s.2.2 s'.1 s'.2.2 → 0 ≤ x3 ∧ x3 ≤ 1143 → 0 ≤ x4 ∧ x4 ≤ 4 → (x3 = 39 * s'.1 22 2 + 3 * x4) → (4 - x4).toNat < M5 → X5 x3 x4 s') (hM5 : (4 - x4).toNat ≤ M5) (hI : iv_A s.1 s.2.2) (bx3 : 0 ≤ x3 ∧ x3 ≤ 1143) (bx4 : 0 ≤ x4 ∧ x4 ≤ 4) (kv0 : x3 = 39 * s.1 22 2 + 3 * x4) : fm_109_p5 Q X5 x3 x4 s := by
  unfold fm_109_p5
  refine ⟨(show lf_R x4 from lf_Rof (by omega)), ?_⟩
  refine ⟨fun c2 => ?_, fun c2 => ?_⟩
  · skip
    replace c2 : 4 ≤ x4 := c2
    have b3 : 0 ≤ s.1 22 2 ∧ s.1 22 2 ≤ 29 := iv_r22_2 hI
    exact sm_109_p42L hQ hI (show (12 : Int) ≤ x3 ∧ x3 ≤ (1155 : Int) from by omega) (show (0 : Int) ≤ 0 ∧ 0 ≤ (6 : Int) from by omega) (show x3 = 39 * (s.1 22 2) + 12 + 2 * 0 from by omega)
  · skip
    replace c2 : ¬ (4 ≤ x4) := c2
    refine ⟨(show (0 : Int) ≤ x3 ∧ x3 < (1170 : Int) from by omega), ?_⟩
    have b26 : (-2147483648) ≤ s.1 23 x3 ∧ s.1 23 x3 ≤ 2147483647 := iv_full hI
    have b27 : s.1 23 x3 ≤ 0 ∨ 0 ≤ s.1 23 (x3 + 1) := iv_sr23 hI (r := (s.1 22 2)) (j := x4) (by omega) (by omega) (by omega)
    refine ⟨(show (0 : Int) ≤ x3 + 1 ∧ x3 + 1 < (1170 : Int) from by omega), ?_⟩
    have b28 : (-1) ≤ s.1 23 (x3 + 1) ∧ s.1 23 (x3 + 1) ≤ 11 := iv_rd23 hI (iv_fbb991f4f (s.1 22 2) (x4) (by omega) (by omega) (by omega))
    refine ⟨(show (0 : Int) ≤ x3 + 2 ∧ x3 + 2 < (1170 : Int) from by omega), ?_⟩
    have b29 : (-1) ≤ s.1 23 (x3 + 2) ∧ s.1 23 (x3 + 2) ≤ 11 := iv_rd23 hI (iv_f79b6dad1 (s.1 22 2) (x4) (by omega) (by omega) (by omega))
    refine sm_69 hI (show (0 : Int) ≤ x4 ∧ x4 ≤ (3 : Int) from by omega) (show (-2147483648 : Int) ≤ s.1 23 x3 ∧ s.1 23 x3 ≤ (2147483647 : Int) from by omega) (show (-1 : Int) ≤ s.1 23 (x3 + 1) ∧ s.1 23 (x3 + 1) ≤ (11 : Int) from by omega) (show (-1 : Int) ≤ s.1 23 (x3 + 2) ∧ s.1 23 (x3 + 2) ≤ (11 : Int) from by omega) (show (s.1 23 x3) ≤ 0 ∨ 0 ≤ (s.1 23 (x3 + 1)) from by omega) (fun s33 hI31 fr30 => ?_)
    have fr33 : lf_fq [15, 16, 17, 18, 19, 20, 21] 1000000 true s.1 s.2.2 s33.1 s33.2.2 := lf_fq_tr (lf_fq_rf) (lf_fq_wk fr30 rfl (by decide) (by decide))
    have b34 : 0 ≤ s33.1 22 2 ∧ s33.1 22 2 ≤ 29 := iv_r22_2 hI31
    have b35 : s33.1 22 2 = s.1 22 2 := congrFun (fr30.1 22 rfl) _
    exact hX5 (x3 + 3) (x4 + 1) s33 hI31 fr33 (show (0 : Int) ≤ x3 + 3 ∧ x3 + 3 ≤ (1143 : Int) from by omega) (show (0 : Int) ≤ x4 + 1 ∧ x4 + 1 ≤ (4 : Int) from by omega) (show (x3 + 3) = 39 * (s33.1 22 2) + 3 * (x4 + 1) from by omega) (show (4 - (x4 + 1)).toNat < M5 from by omega)
theorem sm_109_p5L {Q : lf_Z → Prop} {x3 : Int} {x4 : Int} {s : lf_Z} (hQ : ∀  (s' : lf_Z), iv_A s'.1 s'.2.2 → lf_fq [15, 16, 17, 18, 19, 20, 21] 1000000 true s.1 s.2.2 s'.1 s'.2.2 → Q  s') (hI : iv_A s.1 s.2.2) (bx3 : 0 ≤ x3 ∧ x3 ≤ 1143) (bx4 : 0 ≤ x4 ∧ x4 ≤ 4) (kv0 : x3 = 39 * s.1 22 2 + 3 * x4) : fm_109_p5L Q x3 x4 s := by
  intro X5 hX
  have key : ∀ (m9 : Nat) (x3 : Int) (x4 : Int) (s' : lf_Z), iv_A s'.1 s'.2.2 → lf_fq [15, 16, 17, 18, 19, 20, 21] 1000000 true s.1 s.2.2 s'.1 s'.2.2 → 0 ≤ x3 ∧ x3 ≤ 1143 → 0 ≤ x4 ∧ x4 ≤ 4 → (x3 = 39 * s'.1 22 2 + 3 * x4) → (4 - x4).toNat < m9 → X5 x3 x4 s' := by
    intro m9
    induction m9 with
    | zero => intro x3 x4 s' _ _ bx3 bx4 kv0 h9; exact absurd h9 (Nat.not_lt_zero _)
    | succ m9 ih => intro x3 x4 s' i7 f7 bx3 bx4 kv0 h9; exact hX _ _ _ (sm_109_p5 (fun t9 i9 f9 => hQ t9 i9 (lf_fq_tr f7 f9))   (fun x3' x4' t8 i8 f8 bx3' bx4' kv0' h8 => ih x3' x4' t8 i8 (lf_fq_tr f7 f8) bx3' bx4' kv0' (by omega)) (Nat.le_refl _)  i7  bx3 bx4  kv0)
  exact key _ _ _ s hI lf_fq_rf bx3 bx4 kv0 (Nat.lt_succ_self _)
theorem sm_109 {a2 : Int} {Q : lf_Z → Prop} {s : lf_Z} (hI : iv_A s.1 s.2.2) (ba2 : 0 ≤ a2 ∧ a2 ≤ 1131) (kp0 : a2 = 39 * s.1 22 2) (hQ : ∀  (s' : lf_Z), iv_A s'.1 s'.2.2 → lf_fq [15, 16, 17, 18, 19, 20, 21] 1000000 true s.1 s.2.2 s'.1 s'.2.2 → Q  s') : fm_109 a2 Q s := by
  unfold fm_109
  have b1 : 0 ≤ s.1 22 2 ∧ s.1 22 2 ≤ 29 := iv_r22_2 hI
  exact sm_109_p5L hQ hI (show (0 : Int) ≤ a2 ∧ a2 ≤ (1143 : Int) from by omega) (show (0 : Int) ≤ 0 ∧ 0 ≤ (4 : Int) from by omega) (show a2 = 39 * (s.1 22 2) + 3 * 0 from by omega)
-- fm_108 Steps.takeBack 22 15 1
theorem sm_108_p34 {X34 : Int → lf_Z → Prop} {Q : Bool → lf_Z → Prop} {x3 : Int} {s : lf_Z} (hQ : ∀ (z : Bool) (s' : lf_Z), iv_A s'.1 s'.2.2 → lf_fq [15, 16, 17, 18, 19, 20, 21, 22] 1000000 true s.1 s.2.2 s'.1 s'.2.2 → Q z s') {M34 : Nat} (hX34 : ∀ (x3 : Int) (s' : lf_Z), iv_A s'.1 s'.2.2 → lf_fq [15, 16, 17, 18, 19, 20, 21, 22] 1000000 true s.1 s.2.2 s'.1 s'.2.2 → 0 ≤ x3 ∧ x3 ≤ 6 → (0 < s'.1 22 3) → (6 - x3).toNat < M34 → X34 x3 s') (hM34 : (6 - x3).toNat ≤ M34) (hI : iv_A s.1 s.2.2) (bx3 : 0 ≤ x3 ∧ x3 ≤ 6) (kv0 : 0 < s.1 22 3) : fm_108_p34 Q X34 x3 s := by
  unfold fm_108_p34
  have b14 : 0 ≤ s.1 1 2 ∧ s.1 1 2 ≤ 6 := iv_r1_2 hI
  refine ⟨(show lf_R x3 from lf_Rof (by omega)), ?_⟩
  refine ⟨(show lf_R (s.1 1 2) from lf_Rof (by omega)), ?_⟩
  refine ⟨fun c15 => ?_, fun c15 => ?_⟩
  · skip
    replace c15 : s.1 1 2 ≤ x3 := c15
    have b16 : 0 ≤ s.1 22 2 ∧ s.1 22 2 ≤ 29 := iv_r22_2 hI
    refine ⟨(show lf_R (((s.1 22 2) + 30) - 1) from lf_Rof (by omega)), ?_⟩
    have b17 : 0 ≤ (((s.1 22 2) + 30) - 1).tmod 30 ∧ (((s.1 22 2) + 30) - 1).tmod 30 ≤ 29 := lf_tmodP (by omega) (by omega) (by omega)
    have hI18 : iv_A (lf_up s.1 22 2 ((((s.1 22 2) + 30) - 1).tmod 30)) s.2.2 := iv_w22_2 hI (by omega)
    have fr19 : lf_fq [15, 16, 17, 18, 19, 20, 21, 22] 1000000 true s.1 s.2.2 (lf_up s.1 22 2 ((((s.1 22 2) + 30) - 1).tmod 30)) s.2.2 := lf_fq_up (lf_fq_rf) rfl (fun h => absurd h (by decide))
    have b20 : 0 ≤ s.1 22 3 ∧ s.1 22 3 ≤ 30 := (show 0 ≤ (lf_up s.1 22 2 ((((s.1 22 2) + 30) - 1).tmod 30)) 22 3 ∧ (lf_up s.1 22 2 ((((s.1 22 2) + 30) - 1).tmod 30)) 22 3 ≤ 30 from iv_r22_3 hI18)
    have b21 : (lf_up s.1 22 2 ((((s.1 22 2) + 30) - 1).tmod 30)) 22 3 = s.1 22 3 := lf_up_i (by omega)
    have hI22 : iv_A (lf_up (lf_up s.1 22 2 ((((s.1 22 2) + 30) - 1).tmod 30)) 22 3 ((s.1 22 3) - 1)) s.2.2 := iv_w22_3 hI18 (by omega)
    have fr23 : lf_fq [15, 16, 17, 18, 19, 20, 21, 22] 1000000 true s.1 s.2.2 (lf_up (lf_up s.1 22 2 ((((s.1 22 2) + 30) - 1).tmod 30)) 22 3 ((s.1 22 3) - 1)) s.2.2 := lf_fq_up fr19 rfl (fun h => absurd h (by decide))
    exact hQ true (lf_up (lf_up s.1 22 2 ((((s.1 22 2) + 30) - 1).tmod 30)) 22 3 ((s.1 22 3) - 1), s.2.1, s.2.2) hI22 fr23
  · skip
    replace c15 : ¬ (s.1 1 2 ≤ x3) := c15
    refine ⟨(show (0 : Int) ≤ x3 ∧ x3 < (6 : Int) from by omega), ?_⟩
    have b24 : 0 ≤ s.1 10 x3 ∧ s.1 10 x3 ≤ 11 := iv_r10 hI _
    have hI25 : iv_A (lf_up s.1 19 x3 (s.1 10 x3)) s.2.2 := iv_w19 hI (by omega)
    have fr26 : lf_fq [15, 16, 17, 18, 19, 20, 21, 22] 1000000 true s.1 s.2.2 (lf_up s.1 19 x3 (s.1 10 x3)) s.2.2 := lf_fq_up (lf_fq_rf) rfl (fun h => absurd h (by decide))
    have hI27 : iv_A (lf_up (lf_up s.1 19 x3 (s.1 10 x3)) 20 x3 (-1)) s.2.2 := iv_w20 hI25 (by omega)
    have fr28 : lf_fq [15, 16, 17, 18, 19, 20, 21, 22] 1000000 true s.1 s.2.2 (lf_up (lf_up s.1 19 x3 (s.1 10 x3)) 20 x3 (-1)) s.2.2 := lf_fq_up fr26 rfl (fun h => absurd h (by decide))
    have b29 : 0 ≤ s.1 22 3 ∧ s.1 22 3 ≤ 30 := (show 0 ≤ (lf_up (lf_up s.1 19 x3 (s.1 10 x3)) 20 x3 (-1)) 22 3 ∧ (lf_up (lf_up s.1 19 x3 (s.1 10 x3)) 20 x3 (-1)) 22 3 ≤ 30 from iv_r22_3 hI27)
    exact hX34 (x3 + 1) (lf_up (lf_up s.1 19 x3 (s.1 10 x3)) 20 x3 (-1), s.2.1, s.2.2) hI27 fr28 (show (0 : Int) ≤ x3 + 1 ∧ x3 + 1 ≤ (6 : Int) from by omega) (show 0 < (s.1 22 3) from by omega) (show (6 - (x3 + 1)).toNat < M34 from by omega)
theorem sm_108_p34L {Q : Bool → lf_Z → Prop} {x3 : Int} {s : lf_Z} (hQ : ∀ (z : Bool) (s' : lf_Z), iv_A s'.1 s'.2.2 → lf_fq [15, 16, 17, 18, 19, 20, 21, 22] 1000000 true s.1 s.2.2 s'.1 s'.2.2 → Q z s') (hI : iv_A s.1 s.2.2) (bx3 : 0 ≤ x3 ∧ x3 ≤ 6) (kv0 : 0 < s.1 22 3) : fm_108_p34L Q x3 s := by
  intro X34 hX
  have key : ∀ (m9 : Nat) (x3 : Int) (s' : lf_Z), iv_A s'.1 s'.2.2 → lf_fq [15, 16, 17, 18, 19, 20, 21, 22] 1000000 true s.1 s.2.2 s'.1 s'.2.2 → 0 ≤ x3 ∧ x3 ≤ 6 → (0 < s'.1 22 3) → (6 - x3).toNat < m9 → X34 x3 s' := by
    intro m9
    induction m9 with
    | zero => intro x3 s' _ _ bx3 kv0 h9; exact absurd h9 (Nat.not_lt_zero _)
    | succ m9 ih => intro x3 s' i7 f7 bx3 kv0 h9; exact hX _ _ (sm_108_p34 (fun r9 t9 i9 f9 => hQ r9 t9 i9 (lf_fq_tr f7 f9))   (fun x3' t8 i8 f8 bx3' kv0' h8 => ih x3' t8 i8 (lf_fq_tr f7 f8) bx3' kv0' (by omega)) (Nat.le_refl _)  i7  bx3  kv0)
  exact key _ _ s hI lf_fq_rf bx3 kv0 (Nat.lt_succ_self _)
theorem sm_108 {Q : Bool → lf_Z → Prop} {s : lf_Z} (hI : iv_A s.1 s.2.2) (hQ : ∀ (z : Bool) (s' : lf_Z), iv_A s'.1 s'.2.2 → lf_fq [15, 16, 17, 18, 19, 20, 21, 22] 1000000 true s.1 s.2.2 s'.1 s'.2.2 → Q z s') : fm_108 Q s := by
  unfold fm_108
  have b1 : 0 ≤ s.1 22 3 ∧ s.1 22 3 ≤ 30 := iv_r22_3 hI
  refine ⟨(show lf_R (s.1 22 3) from lf_Rof (by omega)), ?_⟩
  refine ⟨fun c2 => ?_, fun c2 => ?_⟩
  · skip
    replace c2 : s.1 22 3 ≠ 0 := c2
    have b3 : 0 ≤ s.1 22 2 ∧ s.1 22 2 ≤ 29 := iv_r22_2 hI
    refine sm_109 hI (show (0 : Int) ≤ (s.1 22 2) * 39 ∧ (s.1 22 2) * 39 ≤ (1131 : Int) from by omega) (show ((s.1 22 2) * 39) = 39 * (s.1 22 2) from by omega) (fun s22 hI5 fr4 => ?_)
    have fr7 : lf_fq [15, 16, 17, 18, 19, 20, 21, 22] 1000000 true s.1 s.2.2 s22.1 s22.2.2 := lf_fq_tr (lf_fq_rf) (lf_fq_wk fr4 rfl (by decide) (by decide))
    have b8 : 0 ≤ s22.1 22 2 ∧ s22.1 22 2 ≤ 29 := iv_r22_2 hI5
    have b9 : s22.1 22 2 = s.1 22 2 := congrFun (fr4.1 22 rfl) _
    refine ⟨(show (0 : Int) ≤ s22.1 22 2 ∧ s22.1 22 2 < (30 : Int) from by omega), ?_⟩
    have b10 : 0 ≤ s22.1 24 (s22.1 22 2) ∧ s22.1 24 (s22.1 22 2) ≤ 6 := iv_r24 hI5 _
    have b11 : s22.1 24 (s22.1 22 2) = s.1 24 (s22.1 22 2) := congrFun (fr4.1 24 rfl) _
    have b12 : 0 ≤ s22.1 22 3 ∧ s22.1 22 3 ≤ 30 := iv_r22_3 hI5
    have b13 : s22.1 22 3 = s.1 22 3 := congrFun (fr4.1 22 rfl) _
    exact sm_108_p34L (fun r9 t9 i9 f9 => hQ r9 t9 i9 (lf_fq_tr fr7 f9)) hI5 (show (0 : Int) ≤ s22.1 24 (s22.1 22 2) ∧ s22.1 24 (s22.1 22 2) ≤ (6 : Int) from by omega) (show 0 < (s22.1 22 3) from by omega)
  · skip
    replace c2 : ¬ (s.1 22 3 ≠ 0) := c2
    exact hQ false s hI (lf_fq_rf)
-- fm_107 ElevenBullocks.undo 0
theorem sm_107 {Q : Int → lf_Z → Prop} {s : lf_Z} (hI : iv_A s.1 s.2.2) (hQ : ∀ (r : Int) (s' : lf_Z), iv_A s'.1 s'.2.2 → lf_fq [15, 16, 17, 18, 19, 20, 21, 22] 1000000 true s.1 s.2.2 s'.1 s'.2.2 → ((-1) ≤ r ∧ r ≤ 30) → Q r s') : fm_107 Q s := by
  unfold fm_107
  refine sm_108 hI (fun z22 s21 hI2 fr1 => ?_)
  have fr4 : lf_fq [15, 16, 17, 18, 19, 20, 21, 22] 1000000 true s.1 s.2.2 s21.1 s21.2.2 := lf_fq_tr (lf_fq_rf) (lf_fq_wk fr1 rfl (by decide) (by decide))
  refine ⟨fun c5 => ?_, fun c5 => ?_⟩
  · skip
    have b6 : 0 ≤ s21.1 22 3 ∧ s21.1 22 3 ≤ 30 := iv_r22_3 hI2
    exact hQ (s21.1 22 3) s21 hI2 fr4 (show (-1 : Int) ≤ s21.1 22 3 ∧ s21.1 22 3 ≤ (30 : Int) from by omega)
  · skip
    exact hQ (-1) s21 hI2 fr4 (show (-1 : Int) ≤ (-1) ∧ (-1) ≤ (30 : Int) from by omega)
-- fm_239e Model.get 95 i 5
theorem sm_239e {a1 : Int} {Q : Int → lf_Z → Prop} {s : lf_Z} (hI : iv_A s.1 s.2.2) (ba1 : 0 ≤ a1 ∧ a1 ≤ 5) (hQ : ∀ (r : Int), ((0 ≤ r ∧ r ≤ 11) ∧ (r = s.1 96 (126 + 6 * a1 + 5))) → Q r s) : fm_239e a1 Q s := by
  unfold fm_239e
  refine ⟨(show (0 : Int) ≤ (126 + (6 * a1)) + 5 ∧ (126 + (6 * a1)) + 5 < (1538 : Int) from by omega), ?_⟩
  have b1 : 0 ≤ s.1 96 ((126 + (6 * a1)) + 5) ∧ s.1 96 ((126 + (6 * a1)) + 5) ≤ 11 := iv_rd96 hI (iv_f3ea210f9 (a1) (by omega) (by omega))
  exact hQ (s.1 96 ((126 + (6 * a1)) + 5)) ⟨(show (0 : Int) ≤ s.1 96 ((126 + (6 * a1)) + 5) ∧ s.1 96 ((126 + (6 * a1)) + 5) ≤ (11 : Int) from by omega), (show s.1 96 ((126 + (6 * a1)) + 5) = s.1 96 (126 + 6 * a1 + 5) from by omega)⟩
-- fm_238 Model.undo 95
theorem sm_238_p254 {X254 : Int → lf_Z → Prop} {Q : Int → lf_Z → Prop} {x1 : Int} {x2 : Int} {s : lf_Z} (hQ : ∀ (r : Int) (s' : lf_Z), iv_A s'.1 s'.2.2 → lf_fq [96, 1004, 1005, 1006] 3 true s.1 s.2.2 s'.1 s'.2.2 → ((-1) ≤ r ∧ r ≤ 29) → Q r s') {M254 : Nat} (hX254 : ∀ (x2 : Int) (s' : lf_Z), iv_A s'.1 s'.2.2 → lf_fq [96, 1004, 1005, 1006] 3 true s.1 s.2.2 s'.1 s'.2.2 → 0 ≤ x2 ∧ x2 ≤ 12 → (x1 = 278 + 42 * s'.1 96 9) → (s'.1 96 9 < 30) → (12 - x2).toNat < M254 → X254 x2 s') (hM254 : (12 - x2).toNat ≤ M254) (hI : iv_A s.1 s.2.2) (bx1 : 278 ≤ x1 ∧ x1 ≤ 1496) (bx2 : 0 ≤ x2 ∧ x2 ≤ 12) (kv0 : x1 = 278 + 42 * s.1 96 9) (kv1 : s.1 96 9 < 30) : fm_238_p254 Q x1 X254 x2 s := by
  unfold fm_238_p254
  have b26 : 0 ≤ s.1 96 0 ∧ s.1 96 0 ≤ 12 := iv_rd96 hI (iv_f3e1fa21c (by omega))
  refine ⟨(show lf_R x2 from lf_Rof (by omega)), ?_⟩
  refine ⟨(show lf_R (s.1 96 0) from lf_Rof (by omega)), ?_⟩
  refine ⟨fun c27 => ?_, fun c27 => ?_⟩
  · skip
    replace c27 : s.1 96 0 ≤ x2 := c27
    have b28 : 0 ≤ s.1 96 9 ∧ s.1 96 9 ≤ 30 := iv_rd96 hI (iv_fb9711825 (by omega))
    exact hQ (s.1 96 9) s hI (lf_fq_rf) (show (-1 : Int) ≤ s.1 96 9 ∧ s.1 96 9 ≤ (29 : Int) from by omega)
  · skip
    replace c27 : ¬ (s.1 96 0 ≤ x2) := c27
    refine ⟨(show (0 : Int) ≤ (x1 + 29) + x2 ∧ (x1 + 29) + x2 < (1538 : Int) from by omega), ?_⟩
    have b29 : (-2147483648) ≤ s.1 96 ((x1 + 29) + x2) ∧ s.1 96 ((x1 + 29) + x2) ≤ 2147483647 := iv_full hI
    refine ⟨(show (0 : Int) ≤ (14 + (3 * x2)) + 2 ∧ (14 + (3 * x2)) + 2 < (1538 : Int) from by omega), ?_⟩
    have hI30 : iv_A (lf_up s.1 96 ((14 + (3 * x2)) + 2) (s.1 96 ((x1 + 29) + x2))) s.2.2 := iv_wd96 hI (lf_le2 (iv_f06618364 (x2) (by omega) (by omega)) (by omega)) (fun h => absurd h (by omega))
    have fr31 : lf_fq [96, 1004, 1005, 1006] 3 true s.1 s.2.2 (lf_up s.1 96 ((14 + (3 * x2)) + 2) (s.1 96 ((x1 + 29) + x2))) s.2.2 := lf_fq_up (lf_fq_rf) rfl (fun _ => ⟨by omega, fr_o (Or.inr (fr_n0 (by omega))) (Or.inr (fr_n1 (by omega))) (Or.inr (fr_n2 (by omega))) (Or.inr (fr_n3 (by omega))) (Or.inl rfl) (Or.inl rfl) (Or.inl rfl)⟩)
    have b32 : 0 ≤ (lf_up s.1 96 ((14 + (3 * x2)) + 2) (s.1 96 ((x1 + 29) + x2))) 96 9 ∧ (lf_up s.1 96 ((14 + (3 * x2)) + 2) (s.1 96 ((x1 + 29) + x2))) 96 9 ≤ 30 := iv_rd96 hI30 (iv_fb9711825 (by omega))
    have b33 : (lf_up s.1 96 ((14 + (3 * x2)) + 2) (s.1 96 ((x1 + 29) + x2))) 96 9 = s.1 96 9 := lf_up_i (by omega)
    exact hX254 (x2 + 1) (lf_up s.1 96 ((14 + (3 * x2)) + 2) (s.1 96 ((x1 + 29) + x2)), s.2.1, s.2.2) hI30 fr31 (show (0 : Int) ≤ x2 + 1 ∧ x2 + 1 ≤ (12 : Int) from by omega) (show x1 = 278 + 42 * ((lf_up s.1 96 ((14 + (3 * x2)) + 2) (s.1 96 ((x1 + 29) + x2))) 96 9) from by omega) (show ((lf_up s.1 96 ((14 + (3 * x2)) + 2) (s.1 96 ((x1 + 29) + x2))) 96 9) < 30 from by omega) (show (12 - (x2 + 1)).toNat < M254 from by omega)
theorem sm_238_p254L {Q : Int → lf_Z → Prop} {x1 : Int} {x2 : Int} {s : lf_Z} (hQ : ∀ (r : Int) (s' : lf_Z), iv_A s'.1 s'.2.2 → lf_fq [96, 1004, 1005, 1006] 3 true s.1 s.2.2 s'.1 s'.2.2 → ((-1) ≤ r ∧ r ≤ 29) → Q r s') (hI : iv_A s.1 s.2.2) (bx1 : 278 ≤ x1 ∧ x1 ≤ 1496) (bx2 : 0 ≤ x2 ∧ x2 ≤ 12) (kv0 : x1 = 278 + 42 * s.1 96 9) (kv1 : s.1 96 9 < 30) : fm_238_p254L Q x1 x2 s := by
  intro X254 hX
  have key : ∀ (m9 : Nat) (x2 : Int) (s' : lf_Z), iv_A s'.1 s'.2.2 → lf_fq [96, 1004, 1005, 1006] 3 true s.1 s.2.2 s'.1 s'.2.2 → 0 ≤ x2 ∧ x2 ≤ 12 → (x1 = 278 + 42 * s'.1 96 9) → (s'.1 96 9 < 30) → (12 - x2).toNat < m9 → X254 x2 s' := by
    intro m9
    induction m9 with
    | zero => intro x2 s' _ _ bx2 kv0 kv1 h9; exact absurd h9 (Nat.not_lt_zero _)
    | succ m9 ih => intro x2 s' i7 f7 bx2 kv0 kv1 h9; exact hX _ _ (sm_238_p254 (fun r9 t9 i9 f9 => hQ r9 t9 i9 (lf_fq_tr f7 f9))   (fun x2' t8 i8 f8 bx2' kv0' kv1' h8 => ih x2' t8 i8 (lf_fq_tr f7 f8) bx2' kv0' kv1' (by omega)) (Nat.le_refl _)  i7  bx1 bx2  kv0 kv1)
  exact key _ _ s hI lf_fq_rf bx2 kv0 kv1 (Nat.lt_succ_self _)
theorem sm_238_p243 {X165 : Int → lf_Z → Prop} {Q : Int → lf_Z → Prop} {x1 : Int} {x2 : Int} {y1 : Int} {y3 : Int} {s : lf_Z} (hQ : ∀ (r : Int) (s' : lf_Z), iv_A s'.1 s'.2.2 → lf_fq [96, 1004, 1005, 1006] 3 true s.1 s.2.2 s'.1 s'.2.2 → ((-1) ≤ r ∧ r ≤ 29) → Q r s') {M165 : Nat} (hX165 : ∀ (x2 : Int) (s' : lf_Z), iv_A s'.1 s'.2.2 → lf_fq [96, 1004, 1005, 1006] 3 true s.1 s.2.2 s'.1 s'.2.2 → 0 ≤ x2 ∧ x2 ≤ 6 → (x1 = 278 + 42 * s'.1 96 9) → (s'.1 96 9 < 30) → (6 - x2).toNat < M165 → X165 x2 s') (hM165 : (6 - x2).toNat ≤ M165) (hI : iv_A s.1 s.2.2) (bx1 : 278 ≤ x1 ∧ x1 ≤ 1496) (bx2 : 0 ≤ x2 ∧ x2 ≤ 5) (by1 : 0 ≤ y1 ∧ y1 ≤ 5) (by3 : (-1) ≤ y3 ∧ y3 ≤ 11) (kv0 : x1 = 278 + 42 * s.1 96 9) (kv1 : s.1 96 9 < 30) : fm_238_p243 X165 Q x1 x2 y1 y3 s := by
  unfold fm_238_p243
  refine sm_191e hI (show (0 : Int) ≤ y1 ∧ y1 ≤ (5 : Int) from by omega) (show (-1 : Int) ≤ y3 ∧ y3 ≤ (11 : Int) from by omega) (fun s41 hI48 fr47 ps50 => ?_)
  replace ps50 : ∀ i, i ≠ 126 + 6 * y1 + 4 → s41.1 96 i = (s.1 96) i := ps50
  have fr51 : lf_fq [96, 1004, 1005, 1006] 3 true s.1 s.2.2 s41.1 s41.2.2 := lf_fq_tr (lf_fq_rf) (lf_fq_wk fr47 rfl (by decide) (by decide))
  have b52 : 0 ≤ s41.1 96 9 ∧ s41.1 96 9 ≤ 30 := iv_rd96 hI48 (iv_fb9711825 (by omega))
  have b53 : s41.1 96 9 = s.1 96 9 := fr47.2.1 9 (by decide)
  exact hX165 (x2 + 1) s41 hI48 fr51 (show (0 : Int) ≤ x2 + 1 ∧ x2 + 1 ≤ (6 : Int) from by omega) (show x1 = 278 + 42 * (s41.1 96 9) from by omega) (show (s41.1 96 9) < 30 from by omega) (show (6 - (x2 + 1)).toNat < M165 from by omega)
theorem sm_238_p210 {X165 : Int → lf_Z → Prop} {Q : Int → lf_Z → Prop} {x1 : Int} {x2 : Int} {y1 : Int} {y3 : Int} {s : lf_Z} (hQ : ∀ (r : Int) (s' : lf_Z), iv_A s'.1 s'.2.2 → lf_fq [96, 1004, 1005, 1006] 3 true s.1 s.2.2 s'.1 s'.2.2 → ((-1) ≤ r ∧ r ≤ 29) → Q r s') {M165 : Nat} (hX165 : ∀ (x2 : Int) (s' : lf_Z), iv_A s'.1 s'.2.2 → lf_fq [96, 1004, 1005, 1006] 3 true s.1 s.2.2 s'.1 s'.2.2 → 0 ≤ x2 ∧ x2 ≤ 6 → (x1 = 278 + 42 * s'.1 96 9) → (s'.1 96 9 < 30) → (6 - x2).toNat < M165 → X165 x2 s') (hM165 : (6 - x2).toNat ≤ M165) (hI : iv_A s.1 s.2.2) (bx1 : 278 ≤ x1 ∧ x1 ≤ 1496) (bx2 : 0 ≤ x2 ∧ x2 ≤ 5) (by1 : 0 ≤ y1 ∧ y1 ≤ 5) (by3 : 0 ≤ y3 ∧ y3 ≤ 11) (kv0 : x1 = 278 + 42 * s.1 96 9) (kv1 : s.1 96 9 < 30) : fm_238_p210 X165 Q x1 x2 y1 y3 s := by
  unfold fm_238_p210
  refine sm_191d hI (show (0 : Int) ≤ y1 ∧ y1 ≤ (5 : Int) from by omega) (show (0 : Int) ≤ y3 ∧ y3 ≤ (11 : Int) from by omega) (fun s37 hI39 fr38 ps41 => ?_)
  replace ps41 : ∀ i, i ≠ 126 + 6 * y1 + 3 → s37.1 96 i = (s.1 96) i := ps41
  have fr42 : lf_fq [96, 1004, 1005, 1006] 3 true s.1 s.2.2 s37.1 s37.2.2 := lf_fq_tr (lf_fq_rf) (lf_fq_wk fr38 rfl (by decide) (by decide))
  refine ⟨(show (0 : Int) ≤ x1 ∧ x1 < (1538 : Int) from by omega), ?_⟩
  have b43 : (-2147483648) ≤ s37.1 96 x1 ∧ s37.1 96 x1 ≤ 2147483647 := iv_full hI39
  refine ⟨(show lf_R x2 from lf_Rof (by omega)), ?_⟩
  refine ⟨(show lf_R (s37.1 96 x1) from lf_Rof (by omega)), ?_⟩
  refine ⟨fun c44 => ?_, fun c44 => ?_⟩
  · skip
    replace c44 : s37.1 96 x1 ≤ x2 := c44
    have b45 : 0 ≤ s37.1 96 9 ∧ s37.1 96 9 ≤ 30 := iv_rd96 hI39 (iv_fb9711825 (by omega))
    have b46 : s37.1 96 9 = s.1 96 9 := fr38.2.1 9 (by decide)
    exact sm_238_p243 (fun r9 t9 i9 f9 => hQ r9 t9 i9 (lf_fq_tr fr42 f9)) (fun p0 t9 i9 f9 => hX165 p0 t9 i9 (lf_fq_tr fr42 f9)) (show (6 - x2).toNat ≤ M165 from by omega) hI39 (show (278 : Int) ≤ x1 ∧ x1 ≤ (1496 : Int) from by omega) (show (0 : Int) ≤ x2 ∧ x2 ≤ (5 : Int) from by omega) (show (0 : Int) ≤ x2 ∧ x2 ≤ (5 : Int) from by omega) (show (-1 : Int) ≤ (-1) ∧ (-1) ≤ (11 : Int) from by omega) (show x1 = 278 + 42 * (s37.1 96 9) from by omega) (show (s37.1 96 9) < 30 from by omega)
  · skip
    replace c44 : ¬ (s37.1 96 x1 ≤ x2) := c44
    refine ⟨(show (0 : Int) ≤ (x1 + 18) + (2 * x2) ∧ (x1 + 18) + (2 * x2) < (1538 : Int) from by omega), ?_⟩
    have b54 : (-1) ≤ s37.1 96 ((x1 + 18) + (2 * x2)) ∧ s37.1 96 ((x1 + 18) + (2 * x2)) ≤ 11 := iv_rd96 hI39 (iv_f7285c76e (s.1 96 9) (x2) (by omega) (by omega) (by omega))
    have b55 : 0 ≤ s37.1 96 9 ∧ s37.1 96 9 ≤ 30 := iv_rd96 hI39 (iv_fb9711825 (by omega))
    have b56 : s37.1 96 9 = s.1 96 9 := fr38.2.1 9 (by decide)
    exact sm_238_p243 (fun r9 t9 i9 f9 => hQ r9 t9 i9 (lf_fq_tr fr42 f9)) (fun p0 t9 i9 f9 => hX165 p0 t9 i9 (lf_fq_tr fr42 f9)) (show (6 - x2).toNat ≤ M165 from by omega) hI39 (show (278 : Int) ≤ x1 ∧ x1 ≤ (1496 : Int) from by omega) (show (0 : Int) ≤ x2 ∧ x2 ≤ (5 : Int) from by omega) (show (0 : Int) ≤ x2 ∧ x2 ≤ (5 : Int) from by omega) (show (-1 : Int) ≤ s37.1 96 ((x1 + 18) + (2 * x2)) ∧ s37.1 96 ((x1 + 18) + (2 * x2)) ≤ (11 : Int) from by omega) (show x1 = 278 + 42 * (s37.1 96 9) from by omega) (show (s37.1 96 9) < 30 from by omega)
theorem sm_238_p165 {X165 : Int → lf_Z → Prop} {Q : Int → lf_Z → Prop} {x1 : Int} {x2 : Int} {s : lf_Z} (hQ : ∀ (r : Int) (s' : lf_Z), iv_A s'.1 s'.2.2 → lf_fq [96, 1004, 1005, 1006] 3 true s.1 s.2.2 s'.1 s'.2.2 → ((-1) ≤ r ∧ r ≤ 29) → Q r s') {M165 : Nat} (hX165 : ∀ (x2 : Int) (s' : lf_Z), iv_A s'.1 s'.2.2 → lf_fq [96, 1004, 1005, 1006] 3 true s.1 s.2.2 s'.1 s'.2.2 → 0 ≤ x2 ∧ x2 ≤ 6 → (x1 = 278 + 42 * s'.1 96 9) → (s'.1 96 9 < 30) → (6 - x2).toNat < M165 → X165 x2 s') (hM165 : (6 - x2).toNat ≤ M165) (hI : iv_A s.1 s.2.2) (bx1 : 278 ≤ x1 ∧ x1 ≤ 1496) (bx2 : 0 ≤ x2 ∧ x2 ≤ 6) (kv0 : x1 = 278 + 42 * s.1 96 9) (kv1 : s.1 96 9 < 30) : fm_238_p165 Q x1 X165 x2 s := by
  unfold fm_238_p165
  have b22 : 0 ≤ s.1 96 2 ∧ s.1 96 2 ≤ 6 := iv_rd96 hI (iv_f2103129b (by omega))
  have b23 : s.1 96 2 ≤ 0 ∨ 0 < s.1 96 0 := (show s.1 96 2 ≤ 0 ∨ 0 < s.1 96 0 from iv_l96_2 hI)
  refine ⟨(show lf_R x2 from lf_Rof (by omega)), ?_⟩
  refine ⟨(show lf_R (s.1 96 2) from lf_Rof (by omega)), ?_⟩
  refine ⟨fun c24 => ?_, fun c24 => ?_⟩
  · skip
    replace c24 : s.1 96 2 ≤ x2 := c24
    have b25 : 0 ≤ s.1 96 9 ∧ s.1 96 9 ≤ 30 := iv_rd96 hI (iv_fb9711825 (by omega))
    exact sm_238_p254L hQ hI (show (278 : Int) ≤ x1 ∧ x1 ≤ (1496 : Int) from by omega) (show (0 : Int) ≤ 0 ∧ 0 ≤ (12 : Int) from by omega) (show x1 = 278 + 42 * (s.1 96 9) from by omega) (show (s.1 96 9) < 30 from by omega)
  · skip
    replace c24 : ¬ (s.1 96 2 ≤ x2) := c24
    refine ⟨(show (0 : Int) ≤ x1 ∧ x1 < (1538 : Int) from by omega), ?_⟩
    have b34 : (-2147483648) ≤ s.1 96 x1 ∧ s.1 96 x1 ≤ 2147483647 := iv_full hI
    refine ⟨(show lf_R (s.1 96 x1) from lf_Rof (by omega)), ?_⟩
    refine ⟨fun c35 => ?_, fun c35 => ?_⟩
    · skip
      replace c35 : s.1 96 x1 ≤ x2 := c35
      refine sm_239e hI (show (0 : Int) ≤ x2 ∧ x2 ≤ (5 : Int) from by omega) (fun r36 q36 => ?_)
      obtain ⟨q36, q36x⟩ := q36
      replace q36x : r36 = s.1 96 (126 + 6 * x2 + 5) := q36x
      have b37 : 0 ≤ s.1 96 9 ∧ s.1 96 9 ≤ 30 := iv_rd96 hI (iv_fb9711825 (by omega))
      exact sm_238_p210 hQ hX165 (show (6 - x2).toNat ≤ M165 from by omega) hI (show (278 : Int) ≤ x1 ∧ x1 ≤ (1496 : Int) from by omega) (show (0 : Int) ≤ x2 ∧ x2 ≤ (5 : Int) from by omega) (show (0 : Int) ≤ x2 ∧ x2 ≤ (5 : Int) from by omega) (show (0 : Int) ≤ r36 ∧ r36 ≤ (11 : Int) from by omega) (show x1 = 278 + 42 * (s.1 96 9) from by omega) (show (s.1 96 9) < 30 from by omega)
    · skip
      replace c35 : ¬ (s.1 96 x1 ≤ x2) := c35
      refine ⟨(show (0 : Int) ≤ (x1 + 17) + (2 * x2) ∧ (x1 + 17) + (2 * x2) < (1538 : Int) from by omega), ?_⟩
      have b57 : 0 ≤ s.1 96 ((x1 + 17) + (2 * x2)) ∧ s.1 96 ((x1 + 17) + (2 * x2)) ≤ 11 := iv_rd96 hI (iv_f1b3b3272 (s.1 96 9) (x2) (by omega) (by omega) (by omega))
      have b58 : 0 ≤ s.1 96 9 ∧ s.1 96 9 ≤ 30 := iv_rd96 hI (iv_fb9711825 (by omega))
      exact sm_238_p210 hQ hX165 (show (6 - x2).toNat ≤ M165 from by omega) hI (show (278 : Int) ≤ x1 ∧ x1 ≤ (1496 : Int) from by omega) (show (0 : Int) ≤ x2 ∧ x2 ≤ (5 : Int) from by omega) (show (0 : Int) ≤ x2 ∧ x2 ≤ (5 : Int) from by omega) (show (0 : Int) ≤ s.1 96 ((x1 + 17) + (2 * x2)) ∧ s.1 96 ((x1 + 17) + (2 * x2)) ≤ (11 : Int) from by omega) (show x1 = 278 + 42 * (s.1 96 9) from by omega) (show (s.1 96 9) < 30 from by omega)
theorem sm_238_p165L {Q : Int → lf_Z → Prop} {x1 : Int} {x2 : Int} {s : lf_Z} (hQ : ∀ (r : Int) (s' : lf_Z), iv_A s'.1 s'.2.2 → lf_fq [96, 1004, 1005, 1006] 3 true s.1 s.2.2 s'.1 s'.2.2 → ((-1) ≤ r ∧ r ≤ 29) → Q r s') (hI : iv_A s.1 s.2.2) (bx1 : 278 ≤ x1 ∧ x1 ≤ 1496) (bx2 : 0 ≤ x2 ∧ x2 ≤ 6) (kv0 : x1 = 278 + 42 * s.1 96 9) (kv1 : s.1 96 9 < 30) : fm_238_p165L Q x1 x2 s := by
  intro X165 hX
  have key : ∀ (m9 : Nat) (x2 : Int) (s' : lf_Z), iv_A s'.1 s'.2.2 → lf_fq [96, 1004, 1005, 1006] 3 true s.1 s.2.2 s'.1 s'.2.2 → 0 ≤ x2 ∧ x2 ≤ 6 → (x1 = 278 + 42 * s'.1 96 9) → (s'.1 96 9 < 30) → (6 - x2).toNat < m9 → X165 x2 s' := by
    intro m9
    induction m9 with
    | zero => intro x2 s' _ _ bx2 kv0 kv1 h9; exact absurd h9 (Nat.not_lt_zero _)
    | succ m9 ih => intro x2 s' i7 f7 bx2 kv0 kv1 h9; exact hX _ _ (sm_238_p165 (fun r9 t9 i9 f9 => hQ r9 t9 i9 (lf_fq_tr f7 f9))   (fun x2' t8 i8 f8 bx2' kv0' kv1' h8 => ih x2' t8 i8 (lf_fq_tr f7 f8) bx2' kv0' kv1' (by omega)) (Nat.le_refl _)  i7  bx1 bx2  kv0 kv1)
  exact key _ _ s hI lf_fq_rf bx2 kv0 kv1 (Nat.lt_succ_self _)
theorem sm_238_p132L {Q : Int → lf_Z → Prop} {x1 : Int} {x2 : Int} {s : lf_Z} (hQ : ∀ (r : Int) (s' : lf_Z), iv_A s'.1 s'.2.2 → lf_fq [96, 1004, 1005, 1006] 3 true s.1 s.2.2 s'.1 s'.2.2 → ((-1) ≤ r ∧ r ≤ 29) → Q r s') (hI : iv_A s.1 s.2.2) (bx1 : 278 ≤ x1 ∧ x1 ≤ 1496) (bx2 : 0 ≤ x2 ∧ x2 ≤ 12) (kv0 : x1 = 278 + 42 * s.1 96 9) (kv1 : s.1 96 9 < 30) (kv2 : iv_s4 (s.1 96) (x1 + 5)) (kv3 : x2 = 0) : fm_238_p132L Q x1 x2 s := by
  intro X132 hX
  have key : ∀ (m : Nat) (k : Int) (s' : lf_Z), 0 ≤ k → k ≤ 12 → (12 - k).toNat < m → s'.2 = s.2 → (∀ a, a ≠ 96 → s'.1 a = s.1 a) → (∀ j : Int, 114 ≤ j → j < 114 + k → s'.1 96 j = s.1 96 (x1 + 5 + (j - 114))) → (∀ j : Int, ¬ (114 ≤ j ∧ j < 114 + k) → s'.1 96 j = s.1 96 j) → X132 k s' := by
    intro m
    induction m with
    | zero => intros; omega
    | succ m ih =>
      intro k s' h0 h1 hm hs hr hd ho
      refine hX _ _ ?_
      unfold fm_238_p132
      refine ⟨lf_Rof (by omega), fun c => ?_, fun c => ⟨by omega, by omega, ?_⟩⟩
      · have e : k = 12 := by omega
        subst e
        have b9 := (hI.1 96 9).1
        have b9 : 0 ≤ s.1 96 9 := b9
        have hA : iv_A s'.1 s'.2.2 := by
          rw [show s'.2.2 = s.2.2 from by rw [hs]]
          exact iv_und hI kv0 ⟨b9, kv1⟩ kv2 hr (fun j a b => hd j a (by omega)) (fun j hj => ho j (by omega))
        have fr : lf_fq [96, 1004, 1005, 1006] 3 true s.1 s.2.2 s'.1 s'.2.2 := ⟨fun a ha => hr a (fun e => by subst e; cases ha), fun i hi => ho i (by omega), fun _ => by rw [hs], fun r hr9 i hi => ho i (fun hj => fr_x6 rfl hr9 hi (by omega))⟩
        refine sm_238_p165L (fun r9 t9 i9 f9 => hQ r9 t9 i9 (lf_fq_tr fr f9)) hA bx1 (by omega) ?_ ?_
        · rw [ho 9 (by omega)]; exact kv0
        · rw [ho 9 (by omega)]; exact kv1
      · refine ih (k + 1) _ (by omega) (by omega) (by omega) hs ?_ ?_ ?_
        · intro a ha
          show lf_up s'.1 96 (114 + k) (s'.1 96 ((x1 + 5) + k)) a = _
          rw [lf_up_row ha]
          exact hr a ha
        · intro j j0 j1
          show lf_up s'.1 96 (114 + k) (s'.1 96 ((x1 + 5) + k)) 96 j = _
          by_cases hj : j = 114 + k
          · subst hj
            rw [lf_up_s, ho _ (by omega), show x1 + 5 + k = x1 + 5 + (114 + k - 114) by omega]
          · rw [lf_up_i hj]
            exact hd j j0 (by omega)
        · intro j hj
          show lf_up s'.1 96 (114 + k) (s'.1 96 ((x1 + 5) + k)) 96 j = _
          rw [lf_up_i (by omega)]
          exact ho j (by omega)
  have e0 : x2 = 0 := kv3
  subst e0
  exact key _ 0 s (by omega) (by omega) (Nat.lt_succ_self _) rfl (fun _ _ => rfl) (fun j a b => by omega) (fun _ _ => rfl)
theorem sm_238_p94 {X40 : Int → lf_Z → Prop} {Q : Int → lf_Z → Prop} {x1 : Int} {x2 : Int} {y1 : Int} {y2 : Int} {s : lf_Z} (hQ : ∀ (r : Int) (s' : lf_Z), iv_A s'.1 s'.2.2 → lf_fq [96, 1004, 1005, 1006] 3 true s.1 s.2.2 s'.1 s'.2.2 → ((-1) ≤ r ∧ r ≤ 29) → Q r s') {M40 : Nat} (hX40 : ∀ (x2 : Int) (s' : lf_Z), iv_A s'.1 s'.2.2 → lf_fq [96, 1004, 1005, 1006] 3 true s.1 s.2.2 s'.1 s'.2.2 → 0 ≤ x2 ∧ x2 ≤ 16 → (x1 = 278 + 42 * s'.1 96 9) → (s'.1 96 9 < 30) → (iv_s4 (s'.1 96) (x1 + 5)) → (16 - x2).toNat < M40 → X40 x2 s') (hM40 : (16 - x2).toNat ≤ M40) (hI : iv_A s.1 s.2.2) (bx1 : 278 ≤ x1 ∧ x1 ≤ 1496) (bx2 : 0 ≤ x2 ∧ x2 ≤ 15) (by1 : 53 ≤ y1 ∧ y1 ≤ 113) (by2 : 0 ≤ y2 ∧ y2 ≤ 1) (kv0 : x1 = 278 + 42 * s.1 96 9) (kv1 : s.1 96 9 < 30) (kv2 : iv_s4 (s.1 96) (x1 + 5)) (kv3 : y1 = 50 + 4 * x2 + 3) : fm_238_p94 X40 Q x1 x2 y1 y2 s := by
  unfold fm_238_p94
  refine ⟨(show (0 : Int) ≤ y1 ∧ y1 < (1538 : Int) from by omega), ?_⟩
  have hI69 : iv_A (lf_up s.1 96 y1 y2) s.2.2 := iv_wd96 hI (lf_le2 (iv_f2c6f65e5 (y1) (by omega) (by omega)) (by omega)) (fun h => absurd h (by omega))
  have fr70 : lf_fq [96, 1004, 1005, 1006] 3 true s.1 s.2.2 (lf_up s.1 96 y1 y2) s.2.2 := lf_fq_up (lf_fq_rf) rfl (fun _ => ⟨by omega, fr_o (Or.inr (fr_n0 (by omega))) (Or.inr (fr_n1 (by omega))) (Or.inr (fr_n2 (by omega))) (Or.inr (fr_n3 (by omega))) (Or.inl rfl) (Or.inl rfl) (Or.inl rfl)⟩)
  have b71 : 0 ≤ (lf_up s.1 96 y1 y2) 96 9 ∧ (lf_up s.1 96 y1 y2) 96 9 ≤ 30 := iv_rd96 hI69 (iv_fb9711825 (by omega))
  have b72 : (lf_up s.1 96 y1 y2) 96 9 = s.1 96 9 := lf_up_i (by omega)
  have b73 : iv_s4 (((lf_up s.1 96 y1 y2) 96)) (x1 + 5) := by first | with_reducible assumption | exact iv_s4u (iv_s4e (iv_szR hI (r := s.1 96 9 - 1) (by omega) (by omega)) (by omega)) (fun j hj => lf_up_i hj) (by omega) | (repeat first | with_reducible assumption | refine iv_s4u ?_ (fun j hj => lf_up_i hj) (by omega))
  exact hX40 (x2 + 1) (lf_up s.1 96 y1 y2, s.2.1, s.2.2) hI69 fr70 (show (0 : Int) ≤ x2 + 1 ∧ x2 + 1 ≤ (16 : Int) from by omega) (show x1 = 278 + 42 * ((lf_up s.1 96 y1 y2) 96 9) from by omega) (show ((lf_up s.1 96 y1 y2) 96 9) < 30 from by omega) (show iv_s4 (((lf_up s.1 96 y1 y2) 96)) (x1 + 5) from by first | with_reducible assumption | assumption) (show (16 - (x2 + 1)).toNat < M40 from by omega)
theorem sm_238_p89 {X40 : Int → lf_Z → Prop} {Q : Int → lf_Z → Prop} {x1 : Int} {x2 : Int} {y1 : Int} {s : lf_Z} (hQ : ∀ (r : Int) (s' : lf_Z), iv_A s'.1 s'.2.2 → lf_fq [96, 1004, 1005, 1006] 3 true s.1 s.2.2 s'.1 s'.2.2 → ((-1) ≤ r ∧ r ≤ 29) → Q r s') {M40 : Nat} (hX40 : ∀ (x2 : Int) (s' : lf_Z), iv_A s'.1 s'.2.2 → lf_fq [96, 1004, 1005, 1006] 3 true s.1 s.2.2 s'.1 s'.2.2 → 0 ≤ x2 ∧ x2 ≤ 16 → (x1 = 278 + 42 * s'.1 96 9) → (s'.1 96 9 < 30) → (iv_s4 (s'.1 96) (x1 + 5)) → (16 - x2).toNat < M40 → X40 x2 s') (hM40 : (16 - x2).toNat ≤ M40) (hI : iv_A s.1 s.2.2) (bx1 : 278 ≤ x1 ∧ x1 ≤ 1496) (bx2 : 0 ≤ x2 ∧ x2 ≤ 15) (by1 : 53 ≤ y1 ∧ y1 ≤ 113) (kv0 : x1 = 278 + 42 * s.1 96 9) (kv1 : s.1 96 9 < 30) (kv2 : iv_s4 (s.1 96) (x1 + 5)) (kv3 : y1 = 50 + 4 * x2 + 3) : fm_238_p89 X40 Q x1 x2 y1 s := by
  unfold fm_238_p89
  have b68 : 0 ≤ s.1 96 9 ∧ s.1 96 9 ≤ 30 := iv_rd96 hI (iv_fb9711825 (by omega))
  exact sm_238_p94 hQ hX40 (show (16 - x2).toNat ≤ M40 from by omega) hI (show (278 : Int) ≤ x1 ∧ x1 ≤ (1496 : Int) from by omega) (show (0 : Int) ≤ x2 ∧ x2 ≤ (15 : Int) from by omega) (show (53 : Int) ≤ y1 ∧ y1 ≤ (113 : Int) from by omega) (show (0 : Int) ≤ 1 ∧ 1 ≤ (1 : Int) from by omega) (show x1 = 278 + 42 * (s.1 96 9) from by omega) (show (s.1 96 9) < 30 from by omega) (show iv_s4 ((s.1 96)) (x1 + 5) from by first | with_reducible assumption | assumption) (show y1 = 50 + 4 * x2 + 3 from by omega)
theorem sm_238_p40 {X40 : Int → lf_Z → Prop} {Q : Int → lf_Z → Prop} {x1 : Int} {x2 : Int} {s : lf_Z} (hQ : ∀ (r : Int) (s' : lf_Z), iv_A s'.1 s'.2.2 → lf_fq [96, 1004, 1005, 1006] 3 true s.1 s.2.2 s'.1 s'.2.2 → ((-1) ≤ r ∧ r ≤ 29) → Q r s') {M40 : Nat} (hX40 : ∀ (x2 : Int) (s' : lf_Z), iv_A s'.1 s'.2.2 → lf_fq [96, 1004, 1005, 1006] 3 true s.1 s.2.2 s'.1 s'.2.2 → 0 ≤ x2 ∧ x2 ≤ 16 → (x1 = 278 + 42 * s'.1 96 9) → (s'.1 96 9 < 30) → (iv_s4 (s'.1 96) (x1 + 5)) → (16 - x2).toNat < M40 → X40 x2 s') (hM40 : (16 - x2).toNat ≤ M40) (hI : iv_A s.1 s.2.2) (bx1 : 278 ≤ x1 ∧ x1 ≤ 1496) (bx2 : 0 ≤ x2 ∧ x2 ≤ 16) (kv0 : x1 = 278 + 42 * s.1 96 9) (kv1 : s.1 96 9 < 30) (kv2 : iv_s4 (s.1 96) (x1 + 5)) : fm_238_p40 Q x1 X40 x2 s := by
  unfold fm_238_p40
  have b6 : 0 ≤ s.1 96 1 ∧ s.1 96 1 ≤ 16 := iv_rd96 hI (iv_fd6ad3e54 (by omega))
  have b7 : s.1 96 1 ≤ 0 ∨ 0 < s.1 96 0 := (show s.1 96 1 ≤ 0 ∨ 0 < s.1 96 0 from iv_l96_1 hI)
  refine ⟨(show lf_R x2 from lf_Rof (by omega)), ?_⟩
  refine ⟨(show lf_R (s.1 96 1) from lf_Rof (by omega)), ?_⟩
  refine ⟨fun c8 => ?_, fun c8 => ?_⟩
  · skip
    replace c8 : s.1 96 1 ≤ x2 := c8
    refine ⟨(show (0 : Int) ≤ x1 + 3 ∧ x1 + 3 < (1538 : Int) from by omega), ?_⟩
    have b9 : (-2147483648) ≤ s.1 96 (x1 + 3) ∧ s.1 96 (x1 + 3) ≤ 2147483647 := iv_full hI
    have hI10 : iv_A (lf_up s.1 96 3 (s.1 96 (x1 + 3))) s.2.2 := iv_wd96 hI (lf_le2 (iv_f0d376a7e (by omega)) (by omega)) (fun h => absurd h (by omega))
    have fr11 : lf_fq [96, 1004, 1005, 1006] 3 true s.1 s.2.2 (lf_up s.1 96 3 (s.1 96 (x1 + 3))) s.2.2 := lf_fq_up (lf_fq_rf) rfl (fun _ => ⟨by omega, fr_o (Or.inr (fr_n0 (by omega))) (Or.inr (fr_n1 (by omega))) (Or.inr (fr_n2 (by omega))) (Or.inr (fr_n3 (by omega))) (Or.inl rfl) (Or.inl rfl) (Or.inl rfl)⟩)
    refine ⟨(show (0 : Int) ≤ x1 + 4 ∧ x1 + 4 < (1538 : Int) from by omega), ?_⟩
    have b12 : 0 ≤ (lf_up s.1 96 3 (s.1 96 (x1 + 3))) 96 (x1 + 4) ∧ (lf_up s.1 96 3 (s.1 96 (x1 + 3))) 96 (x1 + 4) ≤ 30202 := iv_rd96 hI10 (iv_f9b216bdd (s.1 96 9) (by omega) (by omega))
    have b13 : (lf_up s.1 96 3 (s.1 96 (x1 + 3))) 96 (x1 + 4) = s.1 96 (x1 + 4) := lf_up_i (by omega)
    have hI14 : iv_A (lf_up (lf_up s.1 96 3 (s.1 96 (x1 + 3))) 96 6 ((lf_up s.1 96 3 (s.1 96 (x1 + 3))) 96 (x1 + 4))) s.2.2 := iv_wd96 hI10 (lf_le2 (iv_fee3e924e (by omega)) (by omega)) (fun h => absurd h (by omega))
    have fr15 : lf_fq [96, 1004, 1005, 1006] 3 true s.1 s.2.2 (lf_up (lf_up s.1 96 3 (s.1 96 (x1 + 3))) 96 6 ((lf_up s.1 96 3 (s.1 96 (x1 + 3))) 96 (x1 + 4))) s.2.2 := lf_fq_up fr11 rfl (fun _ => ⟨by omega, fr_o (Or.inr (fr_n0 (by omega))) (Or.inr (fr_n1 (by omega))) (Or.inr (fr_n2 (by omega))) (Or.inr (fr_n3 (by omega))) (Or.inl rfl) (Or.inl rfl) (Or.inl rfl)⟩)
    have b16 : 0 ≤ s.1 96 9 ∧ s.1 96 9 ≤ 30 := (show 0 ≤ (lf_up (lf_up s.1 96 3 (s.1 96 (x1 + 3))) 96 6 ((lf_up s.1 96 3 (s.1 96 (x1 + 3))) 96 (x1 + 4))) 96 9 ∧ (lf_up (lf_up s.1 96 3 (s.1 96 (x1 + 3))) 96 6 ((lf_up s.1 96 3 (s.1 96 (x1 + 3))) 96 (x1 + 4))) 96 9 ≤ 30 from iv_rd96 hI14 (iv_fb9711825 (by omega)))
    have b17 : (lf_up (lf_up s.1 96 3 (s.1 96 (x1 + 3))) 96 6 ((lf_up s.1 96 3 (s.1 96 (x1 + 3))) 96 (x1 + 4))) 96 9 = (lf_up s.1 96 3 (s.1 96 (x1 + 3))) 96 9 := lf_up_i (by omega)
    have b18 : (lf_up s.1 96 3 (s.1 96 (x1 + 3))) 96 9 = s.1 96 9 := lf_up_i (by omega)
    have b19 : iv_s4 (((lf_up (lf_up s.1 96 3 (s.1 96 (x1 + 3))) 96 6 ((lf_up s.1 96 3 (s.1 96 (x1 + 3))) 96 (x1 + 4))) 96)) (x1 + 5) := by first | with_reducible assumption | (repeat first | with_reducible assumption | refine iv_s4u ?_ (fun j hj => lf_up_i hj) (by omega))
    exact sm_238_p132L (fun r9 t9 i9 f9 => hQ r9 t9 i9 (lf_fq_tr fr15 f9)) hI14 (show (278 : Int) ≤ x1 ∧ x1 ≤ (1496 : Int) from by omega) (show (0 : Int) ≤ 0 ∧ 0 ≤ (12 : Int) from by omega) (show x1 = 278 + 42 * (s.1 96 9) from by omega) (show (s.1 96 9) < 30 from by omega) (show iv_s4 (((lf_up (lf_up s.1 96 3 (s.1 96 (x1 + 3))) 96 6 ((lf_up s.1 96 3 (s.1 96 (x1 + 3))) 96 (x1 + 4))) 96)) (x1 + 5) from by first | with_reducible assumption | assumption) (show 0 = 0 from by omega)
  · skip
    replace c8 : ¬ (s.1 96 1 ≤ x2) := c8
    refine ⟨(show (0 : Int) ≤ x1 + 1 ∧ x1 + 1 < (1538 : Int) from by omega), ?_⟩
    have b65 : (-2147483648) ≤ s.1 96 (x1 + 1) ∧ s.1 96 (x1 + 1) ≤ 2147483647 := iv_full hI
    refine ⟨(show lf_R (s.1 96 (x1 + 1)) from lf_Rof (by omega)), ?_⟩
    refine ⟨fun c66 => ?_, fun c66 => ?_⟩
    · skip
      replace c66 : s.1 96 (x1 + 1) ≤ x2 := c66
      have b67 : 0 ≤ s.1 96 9 ∧ s.1 96 9 ≤ 30 := iv_rd96 hI (iv_fb9711825 (by omega))
      exact sm_238_p89 hQ hX40 (show (16 - x2).toNat ≤ M40 from by omega) hI (show (278 : Int) ≤ x1 ∧ x1 ≤ (1496 : Int) from by omega) (show (0 : Int) ≤ x2 ∧ x2 ≤ (15 : Int) from by omega) (show (53 : Int) ≤ (50 + (4 * x2)) + 3 ∧ (50 + (4 * x2)) + 3 ≤ (113 : Int) from by omega) (show x1 = 278 + 42 * (s.1 96 9) from by omega) (show (s.1 96 9) < 30 from by omega) (show iv_s4 ((s.1 96)) (x1 + 5) from by first | with_reducible assumption | assumption) (show ((50 + (4 * x2)) + 3) = 50 + 4 * x2 + 3 from by omega)
    · skip
      replace c66 : ¬ (s.1 96 (x1 + 1) ≤ x2) := c66
      refine ⟨(show (0 : Int) ≤ x1 + 2 ∧ x1 + 2 < (1538 : Int) from by omega), ?_⟩
      have b74 : (-2147483648) ≤ s.1 96 (x1 + 2) ∧ s.1 96 (x1 + 2) ≤ 2147483647 := iv_full hI
      refine sm_210 hI (show (-2147483648 : Int) ≤ s.1 96 (x1 + 2) ∧ s.1 96 (x1 + 2) ≤ (2147483647 : Int) from by omega) (show (-1 : Int) ≤ x2 ∧ x2 ≤ (15 : Int) from by omega) (fun z51 q75 => ?_)
      refine ⟨fun c76 => ?_, fun c76 => ?_⟩
      · skip
        have dc76 := q75.2 c76
        have b77 : 0 ≤ s.1 96 9 ∧ s.1 96 9 ≤ 30 := iv_rd96 hI (iv_fb9711825 (by omega))
        exact sm_238_p94 hQ hX40 (show (16 - x2).toNat ≤ M40 from by omega) hI (show (278 : Int) ≤ x1 ∧ x1 ≤ (1496 : Int) from by omega) (show (0 : Int) ≤ x2 ∧ x2 ≤ (15 : Int) from by omega) (show (53 : Int) ≤ (50 + (4 * x2)) + 3 ∧ (50 + (4 * x2)) + 3 ≤ (113 : Int) from by omega) (show (0 : Int) ≤ 0 ∧ 0 ≤ (1 : Int) from by omega) (show x1 = 278 + 42 * (s.1 96 9) from by omega) (show (s.1 96 9) < 30 from by omega) (show iv_s4 ((s.1 96)) (x1 + 5) from by first | with_reducible assumption | assumption) (show ((50 + (4 * x2)) + 3) = 50 + 4 * x2 + 3 from by omega)
      · skip
        have dc76 := q75.1 c76
        have b78 : 0 ≤ s.1 96 9 ∧ s.1 96 9 ≤ 30 := iv_rd96 hI (iv_fb9711825 (by omega))
        exact sm_238_p89 hQ hX40 (show (16 - x2).toNat ≤ M40 from by omega) hI (show (278 : Int) ≤ x1 ∧ x1 ≤ (1496 : Int) from by omega) (show (0 : Int) ≤ x2 ∧ x2 ≤ (15 : Int) from by omega) (show (53 : Int) ≤ (50 + (4 * x2)) + 3 ∧ (50 + (4 * x2)) + 3 ≤ (113 : Int) from by omega) (show x1 = 278 + 42 * (s.1 96 9) from by omega) (show (s.1 96 9) < 30 from by omega) (show iv_s4 ((s.1 96)) (x1 + 5) from by first | with_reducible assumption | assumption) (show ((50 + (4 * x2)) + 3) = 50 + 4 * x2 + 3 from by omega)
theorem sm_238_p40L {Q : Int → lf_Z → Prop} {x1 : Int} {x2 : Int} {s : lf_Z} (hQ : ∀ (r : Int) (s' : lf_Z), iv_A s'.1 s'.2.2 → lf_fq [96, 1004, 1005, 1006] 3 true s.1 s.2.2 s'.1 s'.2.2 → ((-1) ≤ r ∧ r ≤ 29) → Q r s') (hI : iv_A s.1 s.2.2) (bx1 : 278 ≤ x1 ∧ x1 ≤ 1496) (bx2 : 0 ≤ x2 ∧ x2 ≤ 16) (kv0 : x1 = 278 + 42 * s.1 96 9) (kv1 : s.1 96 9 < 30) (kv2 : iv_s4 (s.1 96) (x1 + 5)) : fm_238_p40L Q x1 x2 s := by
  intro X40 hX
  have key : ∀ (m9 : Nat) (x2 : Int) (s' : lf_Z), iv_A s'.1 s'.2.2 → lf_fq [96, 1004, 1005, 1006] 3 true s.1 s.2.2 s'.1 s'.2.2 → 0 ≤ x2 ∧ x2 ≤ 16 → (x1 = 278 + 42 * s'.1 96 9) → (s'.1 96 9 < 30) → (iv_s4 (s'.1 96) (x1 + 5)) → (16 - x2).toNat < m9 → X40 x2 s' := by
    intro m9
    induction m9 with
    | zero => intro x2 s' _ _ bx2 kv0 kv1 kv2 h9; exact absurd h9 (Nat.not_lt_zero _)
    | succ m9 ih => intro x2 s' i7 f7 bx2 kv0 kv1 kv2 h9; exact hX _ _ (sm_238_p40 (fun r9 t9 i9 f9 => hQ r9 t9 i9 (lf_fq_tr f7 f9))   (fun x2' t8 i8 f8 bx2' kv0' kv1' kv2' h8 => ih x2' t8 i8 (lf_fq_tr f7 f8) bx2' kv0' kv1' kv2' (by omega)) (Nat.le_refl _)  i7  bx1 bx2  kv0 kv1 kv2)
  exact key _ _ s hI lf_fq_rf bx2 kv0 kv1 kv2 (Nat.lt_succ_self _)
theorem sm_238 {Q : Int → lf_Z → Prop} {s : lf_Z} (hI : iv_A s.1 s.2.2) (hQ : ∀ (r : Int) (s' : lf_Z), iv_A s'.1 s'.2.2 → lf_fq [96, 1004, 1005, 1006] 3 true s.1 s.2.2 s'.1 s'.2.2 → ((-1) ≤ r ∧ r ≤ 29) → Q r s') : fm_238 Q s := by
  unfold fm_238
  have b1 : 0 ≤ s.1 96 9 ∧ s.1 96 9 ≤ 30 := iv_rd96 hI (iv_fb9711825 (by omega))
  refine ⟨(show lf_R (s.1 96 9) from lf_Rof (by omega)), ?_⟩
  refine ⟨fun c2 => ?_, fun c2 => ?_⟩
  · skip
    replace c2 : s.1 96 9 ≠ 0 := c2
    have hI3 : iv_A (lf_up s.1 96 9 ((s.1 96 9) - 1)) s.2.2 := iv_wd96 hI (lf_le2 (iv_f894cccb4 (by omega)) (by omega)) (fun _ => by first | exact iv_rel9 hI (by omega) | exact iv_rel9u hI (by omega) (by assumption))
    have fr4 : lf_fq [96, 1004, 1005, 1006] 3 true s.1 s.2.2 (lf_up s.1 96 9 ((s.1 96 9) - 1)) s.2.2 := lf_fq_up (lf_fq_rf) rfl (fun _ => ⟨by omega, fr_o (Or.inr (fr_n0 (by omega))) (Or.inr (fr_n1 (by omega))) (Or.inr (fr_n2 (by omega))) (Or.inr (fr_n3 (by omega))) (Or.inl rfl) (Or.inl rfl) (Or.inl rfl)⟩)
    have b5 : iv_s4 (((lf_up s.1 96 9 ((s.1 96 9) - 1)) 96)) ((278 + (42 * ((s.1 96 9) - 1))) + 5) := by first | with_reducible assumption | exact iv_s4u (iv_s4e (iv_szR hI (r := s.1 96 9 - 1) (by omega) (by omega)) (by omega)) (fun j hj => lf_up_i hj) (by omega) | (repeat first | with_reducible assumption | refine iv_s4u ?_ (fun j hj => lf_up_i hj) (by omega))
    exact sm_238_p40L (fun r9 t9 i9 f9 => hQ r9 t9 i9 (lf_fq_tr fr4 f9)) hI3 (show (278 : Int) ≤ 278 + (42 * ((s.1 96 9) - 1)) ∧ 278 + (42 * ((s.1 96 9) - 1)) ≤ (1496 : Int) from by omega) (show (0 : Int) ≤ 0 ∧ 0 ≤ (16 : Int) from by omega) (show (278 + (42 * ((s.1 96 9) - 1))) = 278 + 42 * ((s.1 96 9) - 1) from by omega) (show ((s.1 96 9) - 1) < 30 from by omega) (show iv_s4 (((lf_up s.1 96 9 ((s.1 96 9) - 1)) 96)) ((278 + (42 * ((s.1 96 9) - 1))) + 5) from by first | with_reducible assumption | assumption)
  · skip
    replace c2 : ¬ (s.1 96 9 ≠ 0) := c2
    exact hQ (-1) s hI (lf_fq_rf) (show (-1 : Int) ≤ (-1) ∧ (-1) ≤ (29 : Int) from by omega)
