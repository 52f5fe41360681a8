-- fm_280 Model.played 95 i
theorem sm_280_p22 {X22 : Int → lf_Z → Prop} {Q : Int → lf_Z → Prop} {x1 : Int} {x2 : Int} {s : lf_Z} (hQ : ∀ (r : Int) (s' : lf_Z), iv_A s'.1 s'.2.2 → lf_fq [96, 104, 107, 108, 1002, 1004, 1005, 1006] 0 true s.1 s.2.2 s'.1 s'.2.2 → ((-2) ≤ r ∧ r ≤ 23) → Q r s') {M22 : Nat} (hX22 : ∀ (x2 : Int) (s' : lf_Z), iv_A s'.1 s'.2.2 → lf_fq [96, 104, 107, 108, 1002, 1004, 1005, 1006] 0 true s.1 s.2.2 s'.1 s'.2.2 → 0 ≤ x2 ∧ x2 ≤ 24 → (24 - x2).toNat < M22 → X22 x2 s') (hM22 : (24 - x2).toNat ≤ M22) (hI : iv_A s.1 s.2.2) (bx1 : 0 ≤ x1 ∧ x1 ≤ 3) (bx2 : 0 ≤ x2 ∧ x2 ≤ 24) : fm_280_p22 Q x1 X22 x2 s := by
  unfold fm_280_p22
  refine ⟨(show (0 : Int) ≤ 705 * x1 ∧ 705 * x1 < (2820 : Int) from by omega), ?_⟩
  have b4 : 0 ≤ s.1 98 (705 * x1) ∧ s.1 98 (705 * x1) ≤ 24 := iv_rd98 hI (iv_f876c6d9a (x1) (by omega) (by omega))
  refine ⟨(show lf_R x2 from lf_Rof (by omega)), ?_⟩
  refine ⟨(show lf_R (s.1 98 (705 * x1)) from lf_Rof (by omega)), ?_⟩
  refine ⟨fun c5 => ?_, fun c5 => ?_⟩
  · skip
    replace c5 : s.1 98 (705 * x1) ≤ x2 := c5
    exact hQ (-1) s hI (lf_fq_rf) (show (-2 : Int) ≤ (-1) ∧ (-1) ≤ (23 : Int) from by omega)
  · skip
    replace c5 : ¬ (s.1 98 (705 * x1) ≤ x2) := c5
    refine sm_281 hI (show (1 : Int) ≤ ((705 * x1) + 1) + (4 * x2) ∧ ((705 * x1) + 1) + (4 * x2) ≤ (2208 : Int) from by omega) (fun z27 s26 hI7 fr6 => ?_)
    have fr9 : lf_fq [96, 104, 107, 108, 1002, 1004, 1005, 1006] 0 true s.1 s.2.2 s26.1 s26.2.2 := lf_fq_tr (lf_fq_rf) (lf_fq_wk fr6 rfl (by decide) (by decide))
    refine ⟨fun c10 => ?_, fun c10 => ?_⟩
    · skip
      exact hX22 (x2 + 1) s26 hI7 fr9 (show (0 : Int) ≤ x2 + 1 ∧ x2 + 1 ≤ (24 : Int) from by omega) (show (24 - (x2 + 1)).toNat < M22 from by omega)
    · skip
      exact hQ x2 s26 hI7 fr9 (show (-2 : Int) ≤ x2 ∧ x2 ≤ (23 : Int) from by omega)
theorem sm_280_p22L {Q : Int → lf_Z → Prop} {x1 : Int} {x2 : Int} {s : lf_Z} (hQ : ∀ (r : Int) (s' : lf_Z), iv_A s'.1 s'.2.2 → lf_fq [96, 104, 107, 108, 1002, 1004, 1005, 1006] 0 true s.1 s.2.2 s'.1 s'.2.2 → ((-2) ≤ r ∧ r ≤ 23) → Q r s') (hI : iv_A s.1 s.2.2) (bx1 : 0 ≤ x1 ∧ x1 ≤ 3) (bx2 : 0 ≤ x2 ∧ x2 ≤ 24) : fm_280_p22L Q x1 x2 s := by
  intro X22 hX
  have key : ∀ (m9 : Nat) (x2 : Int) (s' : lf_Z), iv_A s'.1 s'.2.2 → lf_fq [96, 104, 107, 108, 1002, 1004, 1005, 1006] 0 true s.1 s.2.2 s'.1 s'.2.2 → 0 ≤ x2 ∧ x2 ≤ 24 → (24 - x2).toNat < m9 → X22 x2 s' := by
    intro m9
    induction m9 with
    | zero => intro x2 s' _ _ bx2 h9; exact absurd h9 (Nat.not_lt_zero _)
    | succ m9 ih => intro x2 s' i7 f7 bx2 h9; exact hX _ _ (sm_280_p22 (fun r9 t9 i9 f9 => hQ r9 t9 i9 (lf_fq_tr f7 f9))   (fun x2' t8 i8 f8 bx2' h8 => ih x2' t8 i8 (lf_fq_tr f7 f8) bx2' (by omega)) (Nat.le_refl _)  i7  bx1 bx2  )
  exact key _ _ s hI lf_fq_rf bx2 (Nat.lt_succ_self _)
theorem sm_280 {a1 : Int} {Q : Int → lf_Z → Prop} {s : lf_Z} (hI : iv_A s.1 s.2.2) (ba1 : (-2147483648) ≤ a1 ∧ a1 ≤ 2147483647) (hQ : ∀ (r : Int) (s' : lf_Z), iv_A s'.1 s'.2.2 → lf_fq [96, 104, 107, 108, 1002, 1004, 1005, 1006] 0 true s.1 s.2.2 s'.1 s'.2.2 → ((-2) ≤ r ∧ r ≤ 23) → Q r s') : fm_280 a1 Q s := by
  unfold fm_280
  have b1 : 0 ≤ s.1 96 7 ∧ s.1 96 7 ≤ 4 := iv_rd96 hI (iv_ffb272d5f (by omega))
  refine sm_183 hI (show (-2147483648 : Int) ≤ a1 ∧ a1 ≤ (2147483647 : Int) from by omega) (show (-1 : Int) ≤ 0 ∧ 0 ≤ (97 : Int) from by omega) (show (-1 : Int) ≤ (s.1 96 7) - 1 ∧ (s.1 96 7) - 1 ≤ (9999 : Int) from by omega) (fun z22 q2 => ?_)
  refine ⟨fun c3 => ?_, fun c3 => ?_⟩
  · skip
    have dc3 := q2.1 c3
    exact sm_280_p22L hQ hI (show (0 : Int) ≤ a1 ∧ a1 ≤ (3 : Int) from by omega) (show (0 : Int) ≤ 0 ∧ 0 ≤ (24 : Int) from by omega)
  · skip
    have dc3 := q2.2 c3
    exact hQ (-2) s hI (lf_fq_rf) (show (-2 : Int) ≤ (-2) ∧ (-2) ≤ (23 : Int) from by omega)
-- fm_106 ElevenBullocks.happen 0
theorem sm_106_p100 {Q : lf_Z → Prop} {y0 : Int} {s : lf_Z} (hQ : ∀  (s' : lf_Z), iv_A s'.1 s'.2.2 → lf_fq [15, 16, 17, 18, 19, 20, 21, 63, 64, 65, 66] 1000000 true s.1 s.2.2 s'.1 s'.2.2 → Q  s') (hI : iv_A s.1 s.2.2) (by0 : (-5) ≤ y0 ∧ y0 ≤ 5) : fm_106_p100 Q y0 s := by
  unfold fm_106_p100
  refine sm_99 hI (show (-2147483648 : Int) ≤ y0 ∧ y0 ≤ (2147483647 : Int) from by omega) (fun z28 q15 => ?_)
  have b16 : 0 ≤ s.1 1 2 ∧ s.1 1 2 ≤ 6 := iv_r1_2 hI
  refine ⟨fun c17 => ?_, fun c17 => ?_⟩
  · skip
    have dc17 := q15.2 c17
    exact hQ s hI (lf_fq_rf)
  · skip
    have dc17 := q15.1 c17
    have b18 : 0 ≤ s.1 1 0 ∧ s.1 1 0 ≤ 12 := iv_r1_0 hI
    refine ⟨(show lf_R (s.1 1 0) from lf_Rof (by omega)), ?_⟩
    refine ⟨fun c19 => ?_, fun c19 => ?_⟩
    · skip
      replace c19 : s.1 1 0 = 0 := c19
      exact hQ s hI (lf_fq_rf)
    · skip
      replace c19 : ¬ (s.1 1 0 = 0) := c19
      have b20 : (-2147483648) ≤ s.1 15 8 ∧ s.1 15 8 ≤ 2147483647 := iv_full hI
      refine ⟨(show lf_R (s.1 15 8) from lf_Rof (by omega)), ?_⟩
      refine ⟨(show (s.1 1 0) ≠ 0 from by omega), ?_⟩
      have b21 : (-11) ≤ (s.1 15 8).tmod (s.1 1 0) ∧ (s.1 15 8).tmod (s.1 1 0) ≤ 11 := lf_tmodM (by omega) (by omega)
      refine ⟨(show (0 : Int) ≤ y0 ∧ y0 < (6 : Int) from by omega), ?_⟩
      have hI22 : iv_A (lf_up s.1 20 y0 ((s.1 15 8).tmod (s.1 1 0))) s.2.2 := iv_w20 hI (by omega)
      have fr23 : lf_fq [15, 16, 17, 18, 19, 20, 21, 63, 64, 65, 66] 1000000 true s.1 s.2.2 (lf_up s.1 20 y0 ((s.1 15 8).tmod (s.1 1 0))) s.2.2 := lf_fq_up (lf_fq_rf) rfl (fun h => absurd h (by decide))
      exact hQ (lf_up s.1 20 y0 ((s.1 15 8).tmod (s.1 1 0)), s.2.1, s.2.2) hI22 fr23
theorem sm_106_p43 {Q : lf_Z → Prop} {y0 : Int} {s : lf_Z} (hQ : ∀  (s' : lf_Z), iv_A s'.1 s'.2.2 → lf_fq [15, 16, 17, 18, 19, 20, 21, 63, 64, 65, 66] 1000000 true s.1 s.2.2 s'.1 s'.2.2 → Q  s') (hI : iv_A s.1 s.2.2) (by0 : (-15) ≤ y0 ∧ y0 ≤ 15) : fm_106_p43 Q y0 s := by
  unfold fm_106_p43
  refine sm_89 hI (show (-2147483648 : Int) ≤ y0 ∧ y0 ≤ (2147483647 : Int) from by omega) (fun z36 q27 => ?_)
  have b28 : 0 ≤ s.1 1 1 ∧ s.1 1 1 ≤ 16 := iv_r1_1 hI
  have b29 : 0 ≤ s.1 6 y0 ∧ s.1 6 y0 ≤ 1 := iv_r6 hI _
  refine ⟨fun c30 => ?_, fun c30 => ?_⟩
  · skip
    have dc30 := q27.2 c30
    exact hQ s hI (lf_fq_rf)
  · skip
    have dc30 := q27.1 c30
    refine sm_101 hI (show (0 : Int) ≤ y0 ∧ y0 ≤ (15 : Int) from by omega) (fun s37 hI32 fr31 => ?_)
    have fr34 : lf_fq [15, 16, 17, 18, 19, 20, 21, 63, 64, 65, 66] 1000000 true s.1 s.2.2 s37.1 s37.2.2 := lf_fq_tr (lf_fq_rf) (lf_fq_wk fr31 rfl (by decide) (by decide))
    exact hQ s37 hI32 fr34
theorem sm_106 {Q : lf_Z → Prop} {s : lf_Z} (hI : iv_A s.1 s.2.2) (hQ : ∀  (s' : lf_Z), iv_A s'.1 s'.2.2 → lf_fq [15, 16, 17, 18, 19, 20, 21, 63, 64, 65, 66] 1000000 true s.1 s.2.2 s'.1 s'.2.2 → Q  s') : fm_106 Q s := by
  unfold fm_106
  have b1 : (-2147483648) ≤ s.1 15 8 ∧ s.1 15 8 ≤ 2147483647 := iv_full hI
  refine ⟨(show lf_R (s.1 15 8) from lf_Rof (by omega)), ?_⟩
  have b2 : (-4) ≤ (s.1 15 8).tmod 5 ∧ (s.1 15 8).tmod 5 ≤ 4 := lf_tmodM (by omega) (by omega)
  have b3 : (s.1 15 8).tdiv 5 ≤ 0 ∨ 0 ≤ (s.1 15 8).tmod 5 := lf_tmS (by decide)
  refine ⟨(show lf_R ((s.1 15 8).tmod 5) from lf_Rof (by omega)), ?_⟩
  refine ⟨fun c4 => ?_, fun c4 => ?_⟩
  · skip
    replace c4 : (s.1 15 8).tmod 5 ≠ 0 := c4
    refine ⟨fun c5 => ?_, fun c5 => ?_⟩
    · skip
      replace c5 : (s.1 15 8).tmod 5 ≠ 1 := c5
      have b6 : (-2147483648) ≤ s.1 15 7 ∧ s.1 15 7 ≤ 2147483647 := iv_full hI
      refine ⟨(show lf_R (s.1 15 7) from lf_Rof (by omega)), ?_⟩
      refine ⟨fun c7 => ?_, fun c7 => ?_⟩
      · skip
        replace c7 : 999 ≤ s.1 15 7 := c7
        exact hQ s hI (lf_fq_rf)
      · skip
        replace c7 : ¬ (999 ≤ s.1 15 7) := c7
        refine sm_72 hI (fun s24 hI9 fr8 => ?_)
        have fr11 : lf_fq [15, 16, 17, 18, 19, 20, 21, 63, 64, 65, 66] 1000000 true s.1 s.2.2 s24.1 s24.2.2 := lf_fq_tr (lf_fq_rf) (lf_fq_wk fr8 rfl (by decide) (by decide))
        exact hQ s24 hI9 fr11
    · skip
      replace c5 : ¬ ((s.1 15 8).tmod 5 ≠ 1) := c5
      have b12 : 0 ≤ s.1 1 2 ∧ s.1 1 2 ≤ 6 := iv_r1_2 hI
      refine ⟨(show lf_R (s.1 1 2) from lf_Rof (by omega)), ?_⟩
      refine ⟨fun c13 => ?_, fun c13 => ?_⟩
      · skip
        replace c13 : s.1 1 2 ≠ 0 := c13
        refine ⟨(show (s.1 1 2) ≠ 0 from by omega), ?_⟩
        have b14 : (-5) ≤ (s.1 15 8).tmod (s.1 1 2) ∧ (s.1 15 8).tmod (s.1 1 2) ≤ 5 := lf_tmodM (by omega) (by omega)
        exact sm_106_p100 hQ hI (show (-5 : Int) ≤ (s.1 15 8).tmod (s.1 1 2) ∧ (s.1 15 8).tmod (s.1 1 2) ≤ (5 : Int) from by omega)
      · skip
        replace c13 : ¬ (s.1 1 2 ≠ 0) := c13
        exact sm_106_p100 hQ hI (show (-5 : Int) ≤ (-1) ∧ (-1) ≤ (5 : Int) from by omega)
  · skip
    replace c4 : ¬ ((s.1 15 8).tmod 5 ≠ 0) := c4
    have b24 : 0 ≤ s.1 1 1 ∧ s.1 1 1 ≤ 16 := iv_r1_1 hI
    refine ⟨(show lf_R (s.1 1 1) from lf_Rof (by omega)), ?_⟩
    refine ⟨fun c25 => ?_, fun c25 => ?_⟩
    · skip
      replace c25 : s.1 1 1 ≠ 0 := c25
      refine ⟨(show (s.1 1 1) ≠ 0 from by omega), ?_⟩
      have b26 : (-15) ≤ (s.1 15 8).tmod (s.1 1 1) ∧ (s.1 15 8).tmod (s.1 1 1) ≤ 15 := lf_tmodM (by omega) (by omega)
      exact sm_106_p43 hQ hI (show (-15 : Int) ≤ (s.1 15 8).tmod (s.1 1 1) ∧ (s.1 15 8).tmod (s.1 1 1) ≤ (15 : Int) from by omega)
    · skip
      replace c25 : ¬ (s.1 1 1 ≠ 0) := c25
      exact sm_106_p43 hQ hI (show (-15 : Int) ≤ (-1) ∧ (-1) ≤ (15 : Int) from by omega)
-- fm_105 ElevenBullocks.day 0 i i
theorem sm_105_p66 {X66 : Int → lf_Z → Prop} {Q : Int → lf_Z → Prop} {x2 : Int} {x3 : Int} {s : lf_Z} (hQ : ∀ (r : Int) (s' : lf_Z), iv_A s'.1 s'.2.2 → lf_fq [15, 16, 17, 18, 19, 20, 21, 22, 23, 24, 63, 64, 65, 66] 1000000 true s.1 s.2.2 s'.1 s'.2.2 → ((-2147483648) ≤ r ∧ r ≤ 2147483647) → Q r s') {M66 : Nat} (hX66 : ∀ (x3 : Int) (s' : lf_Z), iv_A s'.1 s'.2.2 → lf_fq [15, 16, 17, 18, 19, 20, 21, 22, 23, 24, 63, 64, 65, 66] 1000000 true s.1 s.2.2 s'.1 s'.2.2 → 0 ≤ x3 ∧ x3 ≤ 30 → (30 - x3).toNat < M66 → X66 x3 s') (hM66 : (30 - x3).toNat ≤ M66) (hI : iv_A s.1 s.2.2) (bx2 : 1 ≤ x2 ∧ x2 ≤ 30) (bx3 : 0 ≤ x3 ∧ x3 ≤ 30) : fm_105_p66 Q x2 X66 x3 s := by
  unfold fm_105_p66
  refine ⟨(show lf_R x3 from lf_Rof (by omega)), ?_⟩
  refine ⟨(show lf_R x2 from lf_Rof (by omega)), ?_⟩
  refine ⟨fun c14 => ?_, fun c14 => ?_⟩
  · skip
    replace c14 : x2 ≤ x3 := c14
    refine sm_97 hI (fun r30 q15 => ?_)
    exact hQ r30 s hI (lf_fq_rf) (show (-2147483648 : Int) ≤ r30 ∧ r30 ≤ (2147483647 : Int) from by omega)
  · skip
    replace c14 : ¬ (x2 ≤ x3) := c14
    refine sm_106 hI (fun s31 hI17 fr16 => ?_)
    have fr19 : lf_fq [15, 16, 17, 18, 19, 20, 21, 22, 23, 24, 63, 64, 65, 66] 1000000 true s.1 s.2.2 s31.1 s31.2.2 := lf_fq_tr (lf_fq_rf) (lf_fq_wk fr16 rfl (by decide) (by decide))
    refine sm_94 hI17 (fun s32 hI21 fr20 => ?_)
    have fr23 : lf_fq [15, 16, 17, 18, 19, 20, 21, 22, 23, 24, 63, 64, 65, 66] 1000000 true s.1 s.2.2 s32.1 s32.2.2 := lf_fq_tr fr19 (lf_fq_wk fr20 rfl (by decide) (by decide))
    exact hX66 (x3 + 1) s32 hI21 fr23 (show (0 : Int) ≤ x3 + 1 ∧ x3 + 1 ≤ (30 : Int) from by omega) (show (30 - (x3 + 1)).toNat < M66 from by omega)
theorem sm_105_p66L {Q : Int → lf_Z → Prop} {x2 : Int} {x3 : Int} {s : lf_Z} (hQ : ∀ (r : Int) (s' : lf_Z), iv_A s'.1 s'.2.2 → lf_fq [15, 16, 17, 18, 19, 20, 21, 22, 23, 24, 63, 64, 65, 66] 1000000 true s.1 s.2.2 s'.1 s'.2.2 → ((-2147483648) ≤ r ∧ r ≤ 2147483647) → Q r s') (hI : iv_A s.1 s.2.2) (bx2 : 1 ≤ x2 ∧ x2 ≤ 30) (bx3 : 0 ≤ x3 ∧ x3 ≤ 30) : fm_105_p66L Q x2 x3 s := by
  intro X66 hX
  have key : ∀ (m9 : Nat) (x3 : Int) (s' : lf_Z), iv_A s'.1 s'.2.2 → lf_fq [15, 16, 17, 18, 19, 20, 21, 22, 23, 24, 63, 64, 65, 66] 1000000 true s.1 s.2.2 s'.1 s'.2.2 → 0 ≤ x3 ∧ x3 ≤ 30 → (30 - x3).toNat < m9 → X66 x3 s' := by
    intro m9
    induction m9 with
    | zero => intro x3 s' _ _ bx3 h9; exact absurd h9 (Nat.not_lt_zero _)
    | succ m9 ih => intro x3 s' i7 f7 bx3 h9; exact hX _ _ (sm_105_p66 (fun r9 t9 i9 f9 => hQ r9 t9 i9 (lf_fq_tr f7 f9))   (fun x3' t8 i8 f8 bx3' h8 => ih x3' t8 i8 (lf_fq_tr f7 f8) bx3' (by omega)) (Nat.le_refl _)  i7  bx2 bx3  )
  exact key _ _ s hI lf_fq_rf bx3 (Nat.lt_succ_self _)
theorem sm_105 {a1 : Int} {a2 : Int} {Q : Int → lf_Z → Prop} {s : lf_Z} (hI : iv_A s.1 s.2.2) (ba1 : (-2147483648) ≤ a1 ∧ a1 ≤ 2147483647) (ba2 : (-2147483648) ≤ a2 ∧ a2 ≤ 2147483647) (hQ : ∀ (r : Int) (s' : lf_Z), iv_A s'.1 s'.2.2 → lf_fq [15, 16, 17, 18, 19, 20, 21, 22, 23, 24, 63, 64, 65, 66] 1000000 true s.1 s.2.2 s'.1 s'.2.2 → ((-2147483648) ≤ r ∧ r ≤ 2147483647) → Q r s') : fm_105 a1 a2 Q s := by
  unfold fm_105
  refine sm_15 hI (show (-2147483648 : Int) ≤ a1 ∧ a1 ≤ (2147483647 : Int) from by omega) (show (-1 : Int) ≤ 0 ∧ 0 ≤ (99 : Int) from by omega) (show (-2147483648 : Int) ≤ 9999 ∧ 9999 ≤ (2147483647 : Int) from by omega) (fun z22 q1 => ?_)
  refine ⟨fun c2 => ?_, fun c2 => ?_⟩
  · skip
    have dc2 := q1.2 c2
    exact hQ (-1) s hI (lf_fq_rf) (show (-2147483648 : Int) ≤ (-1) ∧ (-1) ≤ (2147483647 : Int) from by omega)
  · skip
    have dc2 := q1.1 c2
    refine sm_15 hI (show (-2147483648 : Int) ≤ a2 ∧ a2 ≤ (2147483647 : Int) from by omega) (show (-1 : Int) ≤ 1 ∧ 1 ≤ (99 : Int) from by omega) (show (-2147483648 : Int) ≤ 30 ∧ 30 ≤ (2147483647 : Int) from by omega) (fun z24 q3 => ?_)
    refine ⟨fun c4 => ?_, fun c4 => ?_⟩
    · skip
      have dc4 := q3.2 c4
      exact hQ (-1) s hI (lf_fq_rf) (show (-2147483648 : Int) ≤ (-1) ∧ (-1) ≤ (2147483647 : Int) from by omega)
    · skip
      have dc4 := q3.1 c4
      have b5 : 0 ≤ s.1 1 1 ∧ s.1 1 1 ≤ 16 := iv_r1_1 hI
      refine ⟨(show lf_R (s.1 1 1) from lf_Rof (by omega)), ?_⟩
      refine ⟨fun c6 => ?_, fun c6 => ?_⟩
      · skip
        replace c6 : s.1 1 1 ≠ 0 := c6
        have b7 : 0 ≤ s.1 1 2 ∧ s.1 1 2 ≤ 6 := iv_r1_2 hI
        refine sm_67 hI (show (0 : Int) ≤ s.1 1 2 ∧ s.1 1 2 ≤ (6 : Int) from by omega) (fun s26 hI9 fr8 => ?_)
        have fr11 : lf_fq [15, 16, 17, 18, 19, 20, 21, 22, 23, 24, 63, 64, 65, 66] 1000000 true s.1 s.2.2 s26.1 s26.2.2 := lf_fq_tr (lf_fq_rf) (lf_fq_wk fr8 rfl (by decide) (by decide))
        have hI12 : iv_A (lf_up s26.1 15 8 ((a1 * 3) + 41)) s26.2.2 := iv_w15_8 hI9 (by omega)
        have fr13 : lf_fq [15, 16, 17, 18, 19, 20, 21, 22, 23, 24, 63, 64, 65, 66] 1000000 true s.1 s.2.2 (lf_up s26.1 15 8 ((a1 * 3) + 41)) s26.2.2 := lf_fq_up fr11 rfl (fun h => absurd h (by decide))
        exact sm_105_p66L (fun r9 t9 i9 f9 => hQ r9 t9 i9 (lf_fq_tr fr13 f9)) hI12 (show (1 : Int) ≤ a2 ∧ a2 ≤ (30 : Int) from by omega) (show (0 : Int) ≤ 0 ∧ 0 ≤ (30 : Int) from by omega)
      · skip
        replace c6 : ¬ (s.1 1 1 ≠ 0) := c6
        exact hQ (-1) s hI (lf_fq_rf) (show (-2147483648 : Int) ≤ (-1) ∧ (-1) ≤ (2147483647 : Int) from by omega)
-- fm_283 Model.happens 95
theorem sm_283 {Q : lf_Z → Prop} {s : lf_Z} (hI : iv_A s.1 s.2.2) (kp0 : 0 < s.1 96 1) (kp1 : 0 < s.1 96 0) (hQ : ∀  (s' : lf_Z), iv_A s'.1 s'.2.2 → lf_fq [96, 104, 107, 108, 1006] 3 true s.1 s.2.2 s'.1 s'.2.2 → Q  s') : fm_283 Q s := by
  unfold fm_283
  have b1 : 0 ≤ s.1 96 6 ∧ s.1 96 6 ≤ 30202 := iv_rd96 hI (iv_f060f4a97 (by omega))
  have b2 : 0 ≤ s.1 96 1 ∧ s.1 96 1 ≤ 16 := iv_rd96 hI (iv_fd6ad3e54 (by omega))
  have b3 : s.1 96 1 ≤ 0 ∨ 0 < s.1 96 0 := (show s.1 96 1 ≤ 0 ∨ 0 < s.1 96 0 from iv_l96_1 hI)
  refine ⟨(show lf_R (s.1 96 6) from lf_Rof (by omega)), ?_⟩
  refine ⟨(show lf_R (s.1 96 1) from lf_Rof (by omega)), ?_⟩
  refine ⟨(show (s.1 96 1) ≠ 0 from by omega), ?_⟩
  have b4 : 0 ≤ (s.1 96 6).tmod (s.1 96 1) ∧ (s.1 96 6).tmod (s.1 96 1) ≤ 15 := lf_tmodP (by omega) (by omega) (by omega)
  have b5 : 0 ≤ (s.1 96 6).tmod 5 ∧ (s.1 96 6).tmod 5 ≤ 4 := lf_tmodP (by omega) (by omega) (by omega)
  refine ⟨(show lf_R ((s.1 96 6).tmod 5) from lf_Rof (by omega)), ?_⟩
  refine ⟨fun c6 => ?_, fun c6 => ?_, fun c6 => ?_⟩
  · replace c6 : (s.1 96 6).tmod 5 ≠ 0 ∧ (s.1 96 6).tmod 5 ≠ 1 := c6
    have b7 : (-2147483648) ≤ s.1 96 3 ∧ s.1 96 3 ≤ 2147483647 := iv_full hI
    refine ⟨(show lf_R (s.1 96 3) from lf_Rof (by omega)), ?_⟩
    refine ⟨fun c8 => ?_, fun c8 => ?_⟩
    · skip
      replace c8 : 999 ≤ s.1 96 3 := c8
      exact hQ s hI (lf_fq_rf)
    · skip
      replace c8 : ¬ (999 ≤ s.1 96 3) := c8
      refine sm_260 hI (fun s26 hI10 fr9 => ?_)
      have fr12 : lf_fq [96, 104, 107, 108, 1006] 3 true s.1 s.2.2 s26.1 s26.2.2 := lf_fq_tr (lf_fq_rf) (lf_fq_wk fr9 rfl (by decide) (by decide))
      exact hQ s26 hI10 fr12
  · replace c6 : (s.1 96 6).tmod 5 = 0 := c6
    refine sm_252 hI (show (0 : Int) ≤ (s.1 96 6).tmod (s.1 96 1) ∧ (s.1 96 6).tmod (s.1 96 1) ≤ (15 : Int) from by omega) (fun z28 => ?_)
    refine ⟨fun c14 => ?_, fun c14 => ?_⟩
    · skip
      exact hQ s hI (lf_fq_rf)
    · skip
      refine ⟨(show (0 : Int) ≤ (50 + (4 * ((s.1 96 6).tmod (s.1 96 1)))) + 3 ∧ (50 + (4 * ((s.1 96 6).tmod (s.1 96 1)))) + 3 < (1538 : Int) from by omega), ?_⟩
      have b15 : (-2147483648) ≤ s.1 96 ((50 + (4 * ((s.1 96 6).tmod (s.1 96 1)))) + 3) ∧ s.1 96 ((50 + (4 * ((s.1 96 6).tmod (s.1 96 1)))) + 3) ≤ 2147483647 := iv_full hI
      have b16 : (-2147483648) ≤ lf_w (1 - (s.1 96 ((50 + (4 * ((s.1 96 6).tmod (s.1 96 1)))) + 3))) ∧ lf_w (1 - (s.1 96 ((50 + (4 * ((s.1 96 6).tmod (s.1 96 1)))) + 3))) ≤ 2147483647 := lf_wB
      have hI17 : iv_A (lf_up s.1 96 ((50 + (4 * ((s.1 96 6).tmod (s.1 96 1)))) + 3) (lf_w (1 - (s.1 96 ((50 + (4 * ((s.1 96 6).tmod (s.1 96 1)))) + 3))))) s.2.2 := iv_wd96 hI (lf_le2 (iv_f17fb70ea ((s.1 96 6).tmod (s.1 96 1)) (by omega) (by omega)) (by omega)) (fun h => absurd h (by omega))
      have fr18 : lf_fq [96, 104, 107, 108, 1006] 3 true s.1 s.2.2 (lf_up s.1 96 ((50 + (4 * ((s.1 96 6).tmod (s.1 96 1)))) + 3) (lf_w (1 - (s.1 96 ((50 + (4 * ((s.1 96 6).tmod (s.1 96 1)))) + 3))))) s.2.2 := lf_fq_up (lf_fq_rf) rfl (fun _ => ⟨by omega, fr_o (Or.inr (fr_n0 (by omega))) (Or.inr (fr_n1 (by omega))) (Or.inr (fr_n2 (by omega))) (Or.inr (fr_n3 (by omega))) (Or.inr (fr_n4 (by omega))) (Or.inr (fr_n5 (by omega))) (Or.inl rfl)⟩)
      exact hQ (lf_up s.1 96 ((50 + (4 * ((s.1 96 6).tmod (s.1 96 1)))) + 3) (lf_w (1 - (s.1 96 ((50 + (4 * ((s.1 96 6).tmod (s.1 96 1)))) + 3)))), s.2.1, s.2.2) hI17 fr18
  · replace c6 : (s.1 96 6).tmod 5 = 1 := c6
    have b19 : 0 ≤ s.1 96 2 ∧ s.1 96 2 ≤ 6 := iv_rd96 hI (iv_f2103129b (by omega))
    have b20 : s.1 96 2 ≤ 0 ∨ 0 < s.1 96 0 := (show s.1 96 2 ≤ 0 ∨ 0 < s.1 96 0 from iv_l96_2 hI)
    refine ⟨(show lf_R (s.1 96 2) from lf_Rof (by omega)), ?_⟩
    refine ⟨fun c21 => ?_, fun c21 => ?_⟩
    · skip
      replace c21 : s.1 96 2 ≤ 0 := c21
      exact hQ s hI (lf_fq_rf)
    · skip
      replace c21 : ¬ (s.1 96 2 ≤ 0) := c21
      refine ⟨(show (s.1 96 2) ≠ 0 from by omega), ?_⟩
      have b22 : 0 ≤ (s.1 96 6).tmod (s.1 96 2) ∧ (s.1 96 6).tmod (s.1 96 2) ≤ 5 := lf_tmodP (by omega) (by omega) (by omega)
      have b23 : 0 ≤ s.1 96 0 ∧ s.1 96 0 ≤ 12 := iv_rd96 hI (iv_f3e1fa21c (by omega))
      refine ⟨(show lf_R (s.1 96 0) from lf_Rof (by omega)), ?_⟩
      refine ⟨(show (s.1 96 0) ≠ 0 from by omega), ?_⟩
      have b24 : 0 ≤ (s.1 96 6).tmod (s.1 96 0) ∧ (s.1 96 6).tmod (s.1 96 0) ≤ 11 := lf_tmodP (by omega) (by omega) (by omega)
      refine sm_191e hI (show (0 : Int) ≤ (s.1 96 6).tmod (s.1 96 2) ∧ (s.1 96 6).tmod (s.1 96 2) ≤ (5 : Int) from by omega) (show (-1 : Int) ≤ (s.1 96 6).tmod (s.1 96 0) ∧ (s.1 96 6).tmod (s.1 96 0) ≤ (11 : Int) from by omega) (fun s34 hI26 fr25 ps28 => ?_)
      replace ps28 : ∀ i, i ≠ 126 + 6 * ((s.1 96 6).tmod (s.1 96 2)) + 4 → s34.1 96 i = (s.1 96) i := ps28
      have fr29 : lf_fq [96, 104, 107, 108, 1006] 3 true s.1 s.2.2 s34.1 s34.2.2 := lf_fq_tr (lf_fq_rf) (lf_fq_wk fr25 rfl (by decide) (by decide))
      exact hQ s34 hI26 fr29
-- fm_282 Model.day 95 i i
theorem sm_282_p51 {X51 : Int → lf_Z → Prop} {Q : Int → lf_Z → Prop} {x2 : Int} {x3 : Int} {s : lf_Z} (hQ : ∀ (r : Int) (s' : lf_Z), iv_A s'.1 s'.2.2 → lf_fq [96, 104, 107, 108, 1005, 1006] 3 true s.1 s.2.2 s'.1 s'.2.2 → ((-2147483648) ≤ r ∧ r ≤ 2147483647) → Q r s') {M51 : Nat} (hX51 : ∀ (x3 : Int) (s' : lf_Z), iv_A s'.1 s'.2.2 → lf_fq [96, 104, 107, 108, 1005, 1006] 3 true s.1 s.2.2 s'.1 s'.2.2 → 0 ≤ x3 ∧ x3 ≤ 30 → (0 < s'.1 96 1) → (0 < s'.1 96 0) → (30 - x3).toNat < M51 → X51 x3 s') (hM51 : (30 - x3).toNat ≤ M51) (hI : iv_A s.1 s.2.2) (bx2 : 1 ≤ x2 ∧ x2 ≤ 30) (bx3 : 0 ≤ x3 ∧ x3 ≤ 30) (kv0 : 0 < s.1 96 1) (kv1 : 0 < s.1 96 0) : fm_282_p51 Q x2 X51 x3 s := by
  unfold fm_282_p51
  refine ⟨(show lf_R x3 from lf_Rof (by omega)), ?_⟩
  refine ⟨(show lf_R x2 from lf_Rof (by omega)), ?_⟩
  refine ⟨fun c22 => ?_, fun c22 => ?_⟩
  · skip
    replace c22 : x2 ≤ x3 := c22
    refine sm_279 hI (fun r30 q23 => ?_)
    exact hQ r30 s hI (lf_fq_rf) (show (-2147483648 : Int) ≤ r30 ∧ r30 ≤ (2147483647 : Int) from by omega)
  · skip
    replace c22 : ¬ (x2 ≤ x3) := c22
    have b26 : 0 ≤ s.1 96 1 ∧ s.1 96 1 ≤ 16 := iv_rd96 hI (iv_fd6ad3e54 (by omega))
    have b27 : s.1 96 1 ≤ 0 ∨ 0 < s.1 96 0 := (show s.1 96 1 ≤ 0 ∨ 0 < s.1 96 0 from iv_l96_1 hI)
    have b28 : 0 ≤ s.1 96 0 ∧ s.1 96 0 ≤ 12 := iv_rd96 hI (iv_f3e1fa21c (by omega))
    refine sm_283 hI (show 0 < (s.1 96 1) from by omega) (show 0 < (s.1 96 0) from by omega) (fun s31 hI25 fr24 => ?_)
    have fr30 : lf_fq [96, 104, 107, 108, 1005, 1006] 3 true s.1 s.2.2 s31.1 s31.2.2 := lf_fq_tr (lf_fq_rf) (lf_fq_wk fr24 rfl (by decide) (by decide))
    refine sm_276 hI25 (fun s32 hI32 fr31 ps34 => ?_)
    replace ps34 : ∀ i, i ≠ 6 → s32.1 96 i = (s31.1 96) i := ps34
    have fr35 : lf_fq [96, 104, 107, 108, 1005, 1006] 3 true s.1 s.2.2 s32.1 s32.2.2 := lf_fq_tr fr30 (lf_fq_wk fr31 rfl (by decide) (by decide))
    have b36 : 0 ≤ s32.1 96 1 ∧ s32.1 96 1 ≤ 16 := iv_rd96 hI32 (iv_fd6ad3e54 (by omega))
    have b37 : s32.1 96 1 = s31.1 96 1 := fr31.2.1 1 (by decide)
    have b38 : s31.1 96 1 = s.1 96 1 := fr24.2.1 1 (by decide)
    have b39 : s32.1 96 1 ≤ 0 ∨ 0 < s32.1 96 0 := (show s32.1 96 1 ≤ 0 ∨ 0 < s32.1 96 0 from iv_l96_1 hI32)
    have b40 : 0 ≤ s32.1 96 0 ∧ s32.1 96 0 ≤ 12 := iv_rd96 hI32 (iv_f3e1fa21c (by omega))
    have b41 : s32.1 96 0 = s31.1 96 0 := fr31.2.1 0 (by decide)
    have b42 : s31.1 96 0 = s.1 96 0 := fr24.2.1 0 (by decide)
    exact hX51 (x3 + 1) s32 hI32 fr35 (show (0 : Int) ≤ x3 + 1 ∧ x3 + 1 ≤ (30 : Int) from by omega) (show 0 < (s32.1 96 1) from by omega) (show 0 < (s32.1 96 0) from by omega) (show (30 - (x3 + 1)).toNat < M51 from by omega)
theorem sm_282_p51L {Q : Int → lf_Z → Prop} {x2 : Int} {x3 : Int} {s : lf_Z} (hQ : ∀ (r : Int) (s' : lf_Z), iv_A s'.1 s'.2.2 → lf_fq [96, 104, 107, 108, 1005, 1006] 3 true s.1 s.2.2 s'.1 s'.2.2 → ((-2147483648) ≤ r ∧ r ≤ 2147483647) → Q r s') (hI : iv_A s.1 s.2.2) (bx2 : 1 ≤ x2 ∧ x2 ≤ 30) (bx3 : 0 ≤ x3 ∧ x3 ≤ 30) (kv0 : 0 < s.1 96 1) (kv1 : 0 < s.1 96 0) : fm_282_p51L Q x2 x3 s := by
  intro X51 hX
  have key : ∀ (m9 : Nat) (x3 : Int) (s' : lf_Z), iv_A s'.1 s'.2.2 → lf_fq [96, 104, 107, 108, 1005, 1006] 3 true s.1 s.2.2 s'.1 s'.2.2 → 0 ≤ x3 ∧ x3 ≤ 30 → (0 < s'.1 96 1) → (0 < s'.1 96 0) → (30 - x3).toNat < m9 → X51 x3 s' := by
    intro m9
    induction m9 with
    | zero => intro x3 s' _ _ bx3 kv0 kv1 h9; exact absurd h9 (Nat.not_lt_zero _)
    | succ m9 ih => intro x3 s' i7 f7 bx3 kv0 kv1 h9; exact hX _ _ (sm_282_p51 (fun r9 t9 i9 f9 => hQ r9 t9 i9 (lf_fq_tr f7 f9))   (fun x3' t8 i8 f8 bx3' kv0' kv1' h8 => ih x3' t8 i8 (lf_fq_tr f7 f8) bx3' kv0' kv1' (by omega)) (Nat.le_refl _)  i7  bx2 bx3  kv0 kv1)
  exact key _ _ s hI lf_fq_rf bx3 kv0 kv1 (Nat.lt_succ_self _)
theorem sm_282 {a1 : Int} {a2 : Int} {Q : Int → lf_Z → Prop} {s : lf_Z} (hI : iv_A s.1 s.2.2) (ba1 : (-2147483648) ≤ a1 ∧ a1 ≤ 2147483647) (ba2 : (-2147483648) ≤ a2 ∧ a2 ≤ 2147483647) (hQ : ∀ (r : Int) (s' : lf_Z), iv_A s'.1 s'.2.2 → lf_fq [96, 104, 107, 108, 1005, 1006] 3 true s.1 s.2.2 s'.1 s'.2.2 → ((-2147483648) ≤ r ∧ r ≤ 2147483647) → Q r s') : fm_282 a1 a2 Q s := by
  unfold fm_282
  refine sm_183 hI (show (-2147483648 : Int) ≤ a1 ∧ a1 ≤ (2147483647 : Int) from by omega) (show (-1 : Int) ≤ 0 ∧ 0 ≤ (97 : Int) from by omega) (show (-1 : Int) ≤ 9999 ∧ 9999 ≤ (9999 : Int) from by omega) (fun z22 q1 => ?_)
  refine ⟨fun c2 => ?_, fun c2 => ?_⟩
  · skip
    have dc2 := q1.2 c2
    exact hQ (-1) s hI (lf_fq_rf) (show (-2147483648 : Int) ≤ (-1) ∧ (-1) ≤ (2147483647 : Int) from by omega)
  · skip
    have dc2 := q1.1 c2
    refine sm_183 hI (show (-2147483648 : Int) ≤ a2 ∧ a2 ≤ (2147483647 : Int) from by omega) (show (-1 : Int) ≤ 1 ∧ 1 ≤ (97 : Int) from by omega) (show (-1 : Int) ≤ 30 ∧ 30 ≤ (9999 : Int) from by omega) (fun z24 q3 => ?_)
    refine ⟨fun c4 => ?_, fun c4 => ?_⟩
    · skip
      have dc4 := q3.2 c4
      exact hQ (-1) s hI (lf_fq_rf) (show (-2147483648 : Int) ≤ (-1) ∧ (-1) ≤ (2147483647 : Int) from by omega)
    · skip
      have dc4 := q3.1 c4
      have b5 : 0 ≤ s.1 96 1 ∧ s.1 96 1 ≤ 16 := iv_rd96 hI (iv_fd6ad3e54 (by omega))
      have b6 : s.1 96 1 ≤ 0 ∨ 0 < s.1 96 0 := (show s.1 96 1 ≤ 0 ∨ 0 < s.1 96 0 from iv_l96_1 hI)
      refine ⟨(show lf_R (s.1 96 1) from lf_Rof (by omega)), ?_⟩
      refine ⟨fun c7 => ?_, fun c7 => ?_⟩
      · skip
        replace c7 : s.1 96 1 ≠ 0 := c7
        refine sm_244 hI (fun s26 hI9 fr8 ps11 => ?_)
        replace ps11 : kp_F ((s.1 96)) (s26.1 96) := ps11
        have fr12 : lf_fq [96, 104, 107, 108, 1005, 1006] 3 true s.1 s.2.2 s26.1 s26.2.2 := lf_fq_tr (lf_fq_rf) (lf_fq_wk fr8 rfl (by decide) (by decide))
        have hI13 : iv_A (lf_up s26.1 96 6 ((a1 * 3) + 41)) s26.2.2 := iv_wd96 hI9 (lf_le2 (iv_fee3e924e (by omega)) (by omega)) (fun h => absurd h (by omega))
        have fr14 : lf_fq [96, 104, 107, 108, 1005, 1006] 3 true s.1 s.2.2 (lf_up s26.1 96 6 ((a1 * 3) + 41)) s26.2.2 := lf_fq_up fr12 rfl (fun _ => ⟨by omega, fr_o (Or.inr (fr_n0 (by omega))) (Or.inr (fr_n1 (by omega))) (Or.inr (fr_n2 (by omega))) (Or.inr (fr_n3 (by omega))) (Or.inr (fr_n4 (by omega))) (Or.inl rfl) (Or.inl rfl)⟩)
        have b15 : 0 ≤ s26.1 96 1 ∧ s26.1 96 1 ≤ 16 := (show 0 ≤ (lf_up s26.1 96 6 ((a1 * 3) + 41)) 96 1 ∧ (lf_up s26.1 96 6 ((a1 * 3) + 41)) 96 1 ≤ 16 from iv_rd96 hI13 (iv_fd6ad3e54 (by omega)))
        have b16 : (lf_up s26.1 96 6 ((a1 * 3) + 41)) 96 1 = s26.1 96 1 := lf_up_i (by omega)
        have b17 : s26.1 96 1 = s.1 96 1 := fr8.2.1 1 (by decide)
        have b18 : s26.1 96 1 ≤ 0 ∨ 0 < s26.1 96 0 := (show (lf_up s26.1 96 6 ((a1 * 3) + 41)) 96 1 ≤ 0 ∨ 0 < (lf_up s26.1 96 6 ((a1 * 3) + 41)) 96 0 from iv_l96_1 hI13)
        have b19 : 0 ≤ s26.1 96 0 ∧ s26.1 96 0 ≤ 12 := (show 0 ≤ (lf_up s26.1 96 6 ((a1 * 3) + 41)) 96 0 ∧ (lf_up s26.1 96 6 ((a1 * 3) + 41)) 96 0 ≤ 12 from iv_rd96 hI13 (iv_f3e1fa21c (by omega)))
        have b20 : (lf_up s26.1 96 6 ((a1 * 3) + 41)) 96 0 = s26.1 96 0 := lf_up_i (by omega)
        have b21 : s26.1 96 0 = s.1 96 0 := fr8.2.1 0 (by decide)
        exact sm_282_p51L (fun r9 t9 i9 f9 => hQ r9 t9 i9 (lf_fq_tr fr14 f9)) hI13 (show (1 : Int) ≤ a2 ∧ a2 ≤ (30 : Int) from by omega) (show (0 : Int) ≤ 0 ∧ 0 ≤ (30 : Int) from by omega) (show 0 < (s26.1 96 1) from by omega) (show 0 < (s26.1 96 0) from by omega)
      · skip
        replace c7 : ¬ (s.1 96 1 ≠ 0) := c7
        exact hQ (-1) s hI (lf_fq_rf) (show (-2147483648 : Int) ≤ (-1) ∧ (-1) ≤ (2147483647 : Int) from by omega)
-- fm_109 Stand.readFrom 15 23 i
theorem sm_109_p42 {X42 : Int → Int → lf_Z → Prop} {Q : lf_Z → Prop} {x3 : Int} {x4 : Int} {s : lf_Z} (hQ : ∀  (s' : lf_Z), iv_A s'.1 s'.2.2 → lf_fq [15, 16, 17, 18, 19, 20, 21] 1000000 true s.1 s.2.2 s'.1 s'.2.2 → Q  s') {M42 : Nat} (hX42 : ∀ (x3 : Int) (x4 : Int) (s' : lf_Z), iv_A s'.1 s'.2.2 → lf_fq [15, 16, 17, 18, 19, 20, 21] 1000000 true s.1 s.2.2 s'.1 s'.2.2 → 12 ≤ x3 ∧ x3 ≤ 1155 → 0 ≤ x4 ∧ x4 ≤ 6 → (x3 = 39 * s'.1 22 2 + 12 + 2 * x4) → (6 - x4).toNat < M42 → X42 x3 x4 s') (hM42 : (6 - x4).toNat ≤ M42) (hI : iv_A s.1 s.2.2) (bx3 : 12 ≤ x3 ∧ x3 ≤ 1155) (bx4 : 0 ≤ x4 ∧ x4 ≤ 6) (kv0 : x3 = 39 * s.1 22 2 + 12 + 2 * x4) : fm_109_p42 Q X42 x3 x4 s := by
  unfold fm_109_p42
  refine ⟨(show lf_R x4 from lf_Rof (by omega)), ?_⟩
  refine ⟨fun c4 => ?_, fun c4 => ?_⟩
  · skip
    replace c4 : 6 ≤ x4 := c4
    refine ⟨(show (0 : Int) ≤ x3 ∧ (0 : Int) ≤ 0 ∧ (0 : Int) ≤ 12 ∧ (x3 : Int) + 12 ≤ 1170 ∧ (0 : Int) + 12 ≤ 12 from by omega), ?_⟩
    have hI5 : iv_A (lf_cp s.1 23 21 x3 0 12) s.2.2 := iv_cp23_21 hI
    have fr6 : lf_fq [15, 16, 17, 18, 19, 20, 21] 1000000 true s.1 s.2.2 (lf_cp s.1 23 21 x3 0 12) s.2.2 := lf_fq_cp (lf_fq_rf) rfl (by decide)
    refine ⟨(show (0 : Int) ≤ x3 + 12 ∧ x3 + 12 < (1170 : Int) from by omega), ?_⟩
    have b7 : (-2147483648) ≤ (lf_cp s.1 23 21 x3 0 12) 23 (x3 + 12) ∧ (lf_cp s.1 23 21 x3 0 12) 23 (x3 + 12) ≤ 2147483647 := iv_full hI5
    have b8 : (lf_cp s.1 23 21 x3 0 12) 23 (x3 + 12) = s.1 23 (x3 + 12) := lf_cp_c (by omega)
    have hI9 : iv_A (lf_up (lf_cp s.1 23 21 x3 0 12) 15 6 ((lf_cp s.1 23 21 x3 0 12) 23 (x3 + 12))) s.2.2 := iv_w15_6 hI5 (by omega)
    have fr10 : lf_fq [15, 16, 17, 18, 19, 20, 21] 1000000 true s.1 s.2.2 (lf_up (lf_cp s.1 23 21 x3 0 12) 15 6 ((lf_cp s.1 23 21 x3 0 12) 23 (x3 + 12))) s.2.2 := lf_fq_up fr6 rfl (fun h => absurd h (by decide))
    refine ⟨(show (0 : Int) ≤ (x3 + 12) + 1 ∧ (x3 + 12) + 1 < (1170 : Int) from by omega), ?_⟩
    have b11 : (-2147483648) ≤ (lf_cp s.1 23 21 x3 0 12) 23 ((x3 + 12) + 1) ∧ (lf_cp s.1 23 21 x3 0 12) 23 ((x3 + 12) + 1) ≤ 2147483647 := (show (-2147483648) ≤ (lf_up (lf_cp s.1 23 21 x3 0 12) 15 6 ((lf_cp s.1 23 21 x3 0 12) 23 (x3 + 12))) 23 ((x3 + 12) + 1) ∧ (lf_up (lf_cp s.1 23 21 x3 0 12) 15 6 ((lf_cp s.1 23 21 x3 0 12) 23 (x3 + 12))) 23 ((x3 + 12) + 1) ≤ 2147483647 from iv_full hI9)
    have b12 : (lf_cp s.1 23 21 x3 0 12) 23 ((x3 + 12) + 1) = s.1 23 ((x3 + 12) + 1) := lf_cp_c (by omega)
    have hI13 : iv_A (lf_up (lf_up (lf_cp s.1 23 21 x3 0 12) 15 6 ((lf_cp s.1 23 21 x3 0 12) 23 (x3 + 12))) 15 7 ((lf_cp s.1 23 21 x3 0 12) 23 ((x3 + 12) + 1))) s.2.2 := iv_w15_7 hI9 (by omega)
    have fr14 : lf_fq [15, 16, 17, 18, 19, 20, 21] 1000000 true s.1 s.2.2 (lf_up (lf_up (lf_cp s.1 23 21 x3 0 12) 15 6 ((lf_cp s.1 23 21 x3 0 12) 23 (x3 + 12))) 15 7 ((lf_cp s.1 23 21 x3 0 12) 23 ((x3 + 12) + 1))) s.2.2 := lf_fq_up fr10 rfl (fun h => absurd h (by decide))
    refine ⟨(show (0 : Int) ≤ (x3 + 12) + 2 ∧ (x3 + 12) + 2 < (1170 : Int) from by omega), ?_⟩
    have b15 : (-2147483648) ≤ (lf_cp s.1 23 21 x3 0 12) 23 ((x3 + 12) + 2) ∧ (lf_cp s.1 23 21 x3 0 12) 23 ((x3 + 12) + 2) ≤ 2147483647 := (show (-2147483648) ≤ (lf_up (lf_up (lf_cp s.1 23 21 x3 0 12) 15 6 ((lf_cp s.1 23 21 x3 0 12) 23 (x3 + 12))) 15 7 ((lf_cp s.1 23 21 x3 0 12) 23 ((x3 + 12) + 1))) 23 ((x3 + 12) + 2) ∧ (lf_up (lf_up (lf_cp s.1 23 21 x3 0 12) 15 6 ((lf_cp s.1 23 21 x3 0 12) 23 (x3 + 12))) 15 7 ((lf_cp s.1 23 21 x3 0 12) 23 ((x3 + 12) + 1))) 23 ((x3 + 12) + 2) ≤ 2147483647 from iv_full hI13)
    have b16 : (lf_cp s.1 23 21 x3 0 12) 23 ((x3 + 12) + 2) = s.1 23 ((x3 + 12) + 2) := lf_cp_c (by omega)
    have hI17 : iv_A (lf_up (lf_up (lf_up (lf_cp s.1 23 21 x3 0 12) 15 6 ((lf_cp s.1 23 21 x3 0 12) 23 (x3 + 12))) 15 7 ((lf_cp s.1 23 21 x3 0 12) 23 ((x3 + 12) + 1))) 15 8 ((lf_cp s.1 23 21 x3 0 12) 23 ((x3 + 12) + 2))) s.2.2 := iv_w15_8 hI13 (by omega)
    have fr18 : lf_fq [15, 16, 17, 18, 19, 20, 21] 1000000 true s.1 s.2.2 (lf_up (lf_up (lf_up (lf_cp s.1 23 21 x3 0 12) 15 6 ((lf_cp s.1 23 21 x3 0 12) 23 (x3 + 12))) 15 7 ((lf_cp s.1 23 21 x3 0 12) 23 ((x3 + 12) + 1))) 15 8 ((lf_cp s.1 23 21 x3 0 12) 23 ((x3 + 12) + 2))) s.2.2 := lf_fq_up fr14 rfl (fun h => absurd h (by decide))
    exact hQ (lf_up (lf_up (lf_up (lf_cp s.1 23 21 x3 0 12) 15 6 ((lf_cp s.1 23 21 x3 0 12) 23 (x3 + 12))) 15 7 ((lf_cp s.1 23 21 x3 0 12) 23 ((x3 + 12) + 1))) 15 8 ((lf_cp s.1 23 21 x3 0 12) 23 ((x3 + 12) + 2)), s.2.1, s.2.2) hI17 fr18
  · skip
    replace c4 : ¬ (6 ≤ x4) := c4
    refine ⟨(show (0 : Int) ≤ x3 ∧ x3 < (1170 : Int) from by omega), ?_⟩
    have b19 : (-2147483648) ≤ s.1 23 x3 ∧ s.1 23 x3 ≤ 2147483647 := iv_full hI
    refine ⟨(show (0 : Int) ≤ x4 ∧ x4 < (6 : Int) from by omega), ?_⟩
    have hI20 : iv_A (lf_up s.1 19 x4 (s.1 23 x3)) s.2.2 := iv_w19 hI (by omega)
    have fr21 : lf_fq [15, 16, 17, 18, 19, 20, 21] 1000000 true s.1 s.2.2 (lf_up s.1 19 x4 (s.1 23 x3)) s.2.2 := lf_fq_up (lf_fq_rf) rfl (fun h => absurd h (by decide))
    refine ⟨(show (0 : Int) ≤ x3 + 1 ∧ x3 + 1 < (1170 : Int) from by omega), ?_⟩
    have b22 : (-2147483648) ≤ s.1 23 (x3 + 1) ∧ s.1 23 (x3 + 1) ≤ 2147483647 := (show (-2147483648) ≤ (lf_up s.1 19 x4 (s.1 23 x3)) 23 (x3 + 1) ∧ (lf_up s.1 19 x4 (s.1 23 x3)) 23 (x3 + 1) ≤ 2147483647 from iv_full hI20)
    have hI23 : iv_A (lf_up (lf_up s.1 19 x4 (s.1 23 x3)) 20 x4 (s.1 23 (x3 + 1))) s.2.2 := iv_w20 hI20 (by omega)
    have fr24 : lf_fq [15, 16, 17, 18, 19, 20, 21] 1000000 true s.1 s.2.2 (lf_up (lf_up s.1 19 x4 (s.1 23 x3)) 20 x4 (s.1 23 (x3 + 1))) s.2.2 := lf_fq_up fr21 rfl (fun h => absurd h (by decide))
    have b25 : 0 ≤ s.1 22 2 ∧ s.1 22 2 ≤ 29 := (show 0 ≤ (lf_up (lf_up s.1 19 x4 (s.1 23 x3)) 20 x4 (s.1 23 (x3 + 1))) 22 2 ∧ (lf_up (lf_up s.1 19 x4 (s.1 23 x3)) 20 x4 (s.1 23 (x3 + 1))) 22 2 ≤ 29 from iv_r22_2 hI23)
    exact hX42 (x3 + 2) (x4 + 1) (lf_up (lf_up s.1 19 x4 (s.1 23 x3)) 20 x4 (s.1 23 (x3 + 1)), s.2.1, s.2.2) hI23 fr24 (show (12 : Int) ≤ x3 + 2 ∧ x3 + 2 ≤ (1155 : Int) from by omega) (show (0 : Int) ≤ x4 + 1 ∧ x4 + 1 ≤ (6 : Int) from by omega) (show (x3 + 2) = 39 * (s.1 22 2) + 12 + 2 * (x4 + 1) from by omega) (show (6 - (x4 + 1)).toNat < M42 from by omega)
theorem sm_109_p42L {Q : lf_Z → Prop} {x3 : Int} {x4 : Int} {s : lf_Z} (hQ : ∀  (s' : lf_Z), iv_A s'.1 s'.2.2 → lf_fq [15, 16, 17, 18, 19, 20, 21] 1000000 true s.1 s.2.2 s'.1 s'.2.2 → Q  s') (hI : iv_A s.1 s.2.2) (bx3 : 12 ≤ x3 ∧ x3 ≤ 1155) (bx4 : 0 ≤ x4 ∧ x4 ≤ 6) (kv0 : x3 = 39 * s.1 22 2 + 12 + 2 * x4) : fm_109_p42L Q x3 x4 s := by
  intro X42 hX
  have key : ∀ (m9 : Nat) (x3 : Int) (x4 : Int) (s' : lf_Z), iv_A s'.1 s'.2.2 → lf_fq [15, 16, 17, 18, 19, 20, 21] 1000000 true s.1 s.2.2 s'.1 s'.2.2 → 12 ≤ x3 ∧ x3 ≤ 1155 → 0 ≤ x4 ∧ x4 ≤ 6 → (x3 = 39 * s'.1 22 2 + 12 + 2 * x4) → (6 - x4).toNat < m9 → X42 x3 x4 s' := by
    intro m9
    induction m9 with
    | zero => intro x3 x4 s' _ _ bx3 bx4 kv0 h9; exact absurd h9 (Nat.not_lt_zero _)
    | succ m9 ih => intro x3 x4 s' i7 f7 bx3 bx4 kv0 h9; exact hX _ _ _ (sm_109_p42 (fun t9 i9 f9 => hQ t9 i9 (lf_fq_tr f7 f9))   (fun x3' x4' t8 i8 f8 bx3' bx4' kv0' h8 => ih x3' x4' t8 i8 (lf_fq_tr f7 f8) bx3' bx4' kv0' (by omega)) (Nat.le_refl _)  i7  bx3 bx4  kv0)
  exact key _ _ _ s hI lf_fq_rf bx3 bx4 kv0 (Nat.lt_succ_self _)
theorem sm_109_p5 {X5 : Int → Int → lf_Z → Prop} {Q : lf_Z → Prop} {x3 : Int} {x4 : Int} {s : lf_Z} (hQ : ∀  (s' : lf_Z), iv_A s'.1 s'.2.2 → lf_fq [15, 16, 17, 18, 19, 20, 21] 1000000 true s.1 s.2.2 s'.1 s'.2.2 → Q  s') {M5 : Nat} (hX5 : ∀ (x3 : Int) (x4 : Int) (s' : lf_Z), iv_A s'.1 s'.2.2 → lf_fq [15, 16, 17, 18, 19, 20, 21] 1000000 true s.1 s.2.2 s'.1 s'.2.2 → 0 ≤ x3 ∧ x3 ≤ 1143 → 0 ≤ x4 ∧ x4 ≤ 4 → (x3 = 39 * s'.1 22 2 + 3 * x4) → (4 - x4).toNat < M5 → X5 x3 x4 s') (hM5 : (4 - x4).toNat ≤ M5) (hI : iv_A s.1 s.2.2) (bx3 : 0 ≤ x3 ∧ x3 ≤ 1143) (bx4 : 0 ≤ x4 ∧ x4 ≤ 4) (kv0 : x3 = 39 * s.1 22 2 + 3 * x4) : fm_109_p5 Q X5 x3 x4 s := by
  unfold fm_109_p5
  refine ⟨(show lf_R x4 from lf_Rof (by omega)), ?_⟩
  refine ⟨fun c2 => ?_, fun c2 => ?_⟩
  · skip
    replace c2 : 4 ≤ x4 := c2
    have b3 : 0 ≤ s.1 22 2 ∧ s.1 22 2 ≤ 29 := iv_r22_2 hI
    exact sm_109_p42L hQ hI (show (12 : Int) ≤ x3 ∧ x3 ≤ (1155 : Int) from by omega) (show (0 : Int) ≤ 0 ∧ 0 ≤ (6 : Int) from by omega) (show x3 = 39 * (s.1 22 2) + 12 + 2 * 0 from by omega)
  · skip
    replace c2 : ¬ (4 ≤ x4) := c2
    refine ⟨(show (0 : Int) ≤ x3 ∧ x3 < (1170 : Int) from by omega), ?_⟩
    have b26 : (-2147483648) ≤ s.1 23 x3 ∧ s.1 23 x3 ≤ 2147483647 := iv_full hI
    have b27 : s.1 23 x3 ≤ 0 ∨ 0 ≤ s.1 23 (x3 + 1) := iv_sr23 hI (r := (s.1 22 2)) (j := x4) (by omega) (by omega) (by omega)
    refine ⟨(show (0 : Int) ≤ x3 + 1 ∧ x3 + 1 < (1170 : Int) from by omega), ?_⟩
    have b28 : (-1) ≤ s.1 23 (x3 + 1) ∧ s.1 23 (x3 + 1) ≤ 11 := iv_rd23 hI (iv_fbb991f4f (s.1 22 2) (x4) (by omega) (by omega) (by omega))
    refine ⟨(show (0 : Int) ≤ x3 + 2 ∧ x3 + 2 < (1170 : Int) from by omega), ?_⟩
    have b29 : (-1) ≤ s.1 23 (x3 + 2) ∧ s.1 23 (x3 + 2) ≤ 11 := iv_rd23 hI (iv_f79b6dad1 (s.1 22 2) (x4) (by omega) (by omega) (by omega))
    refine sm_69 hI (show (0 : Int) ≤ x4 ∧ x4 ≤ (3 : Int) from by omega) (show (-2147483648 : Int) ≤ s.1 23 x3 ∧ s.1 23 x3 ≤ (2147483647 : Int) from by omega) (show (-1 : Int) ≤ s.1 23 (x3 + 1) ∧ s.1 23 (x3 + 1) ≤ (11 : Int) from by omega) (show (-1 : Int) ≤ s.1 23 (x3 + 2) ∧ s.1 23 (x3 + 2) ≤ (11 : Int) from by omega) (show (s.1 23 x3) ≤ 0 ∨ 0 ≤ (s.1 23 (x3 + 1)) from by omega) (fun s33 hI31 fr30 => ?_)
    have fr33 : lf_fq [15, 16, 17, 18, 19, 20, 21] 1000000 true s.1 s.2.2 s33.1 s33.2.2 := lf_fq_tr (lf_fq_rf) (lf_fq_wk fr30 rfl (by decide) (by decide))
    have b34 : 0 ≤ s33.1 22 2 ∧ s33.1 22 2 ≤ 29 := iv_r22_2 hI31
    have b35 : s33.1 22 2 = s.1 22 2 := congrFun (fr30.1 22 rfl) _
    exact hX5 (x3 + 3) (x4 + 1) s33 hI31 fr33 (show (0 : Int) ≤ x3 + 3 ∧ x3 + 3 ≤ (1143 : Int) from by omega) (show (0 : Int) ≤ x4 + 1 ∧ x4 + 1 ≤ (4 : Int) from by omega) (show (x3 + 3) = 39 * (s33.1 22 2) + 3 * (x4 + 1) from by omega) (show (4 - (x4 + 1)).toNat < M5 from by omega)
theorem sm_109_p5L {Q : lf_Z → Prop} {x3 : Int} {x4 : Int} {s : lf_Z} (hQ : ∀  (s' : lf_Z), iv_A s'.1 s'.2.2 → lf_fq [15, 16, 17, 18, 19, 20, 21] 1000000 true s.1 s.2.2 s'.1 s'.2.2 → Q  s') (hI : iv_A s.1 s.2.2) (bx3 : 0 ≤ x3 ∧ x3 ≤ 1143) (bx4 : 0 ≤ x4 ∧ x4 ≤ 4) (kv0 : x3 = 39 * s.1 22 2 + 3 * x4) : fm_109_p5L Q x3 x4 s := by
  intro X5 hX
  have key : ∀ (m9 : Nat) (x3 : Int) (x4 : Int) (s' : lf_Z), iv_A s'.1 s'.2.2 → lf_fq [15, 16, 17, 18, 19, 20, 21] 1000000 true s.1 s.2.2 s'.1 s'.2.2 → 0 ≤ x3 ∧ x3 ≤ 1143 → 0 ≤ x4 ∧ x4 ≤ 4 → (x3 = 39 * s'.1 22 2 + 3 * x4) → (4 - x4).toNat < m9 → X5 x3 x4 s' := by
    intro m9
    induction m9 with
    | zero => intro x3 x4 s' _ _ bx3 bx4 kv0 h9; exact absurd h9 (Nat.not_lt_zero _)
    | succ m9 ih => intro x3 x4 s' i7 f7 bx3 bx4 kv0 h9; exact hX _ _ _ (sm_109_p5 (fun t9 i9 f9 => hQ t9 i9 (lf_fq_tr f7 f9))   (fun x3' x4' t8 i8 f8 bx3' bx4' kv0' h8 => ih x3' x4' t8 i8 (lf_fq_tr f7 f8) bx3' bx4' kv0' (by omega)) (Nat.le_refl _)  i7  bx3 bx4  kv0)
  exact key _ _ _ s hI lf_fq_rf bx3 bx4 kv0 (Nat.lt_succ_self _)
theorem sm_109 {a2 : Int} {Q : lf_Z → Prop} {s : lf_Z} (hI : iv_A s.1 s.2.2) (ba2 : 0 ≤ a2 ∧ a2 ≤ 1131) (kp0 : a2 = 39 * s.1 22 2) (hQ : ∀  (s' : lf_Z), iv_A s'.1 s'.2.2 → lf_fq [15, 16, 17, 18, 19, 20, 21] 1000000 true s.1 s.2.2 s'.1 s'.2.2 → Q  s') : fm_109 a2 Q s := by
  unfold fm_109
  have b1 : 0 ≤ s.1 22 2 ∧ s.1 22 2 ≤ 29 := iv_r22_2 hI
  exact sm_109_p5L hQ hI (show (0 : Int) ≤ a2 ∧ a2 ≤ (1143 : Int) from by omega) (show (0 : Int) ≤ 0 ∧ 0 ≤ (4 : Int) from by omega) (show a2 = 39 * (s.1 22 2) + 3 * 0 from by omega)
-- fm_108 Steps.takeBack 22 15 1
theorem sm_108_p34 {X34 : Int → lf_Z → Prop} {Q : Bool → lf_Z → Prop} {x3 : Int} {s : lf_Z} (hQ : ∀ (z : Bool) (s' : lf_Z), iv_A s'.1 s'.2.2 → lf_fq [15, 16, 17, 18, 19, 20, 21, 22] 1000000 true s.1 s.2.2 s'.1 s'.2.2 → Q z s') {M34 : Nat} (hX34 : ∀ (x3 : Int) (s' : lf_Z), iv_A s'.1 s'.2.2 → lf_fq [15, 16, 17, 18, 19, 20, 21, 22] 1000000 true s.1 s.2.2 s'.1 s'.2.2 → 0 ≤ x3 ∧ x3 ≤ 6 → (0 < s'.1 22 3) → (6 - x3).toNat < M34 → X34 x3 s') (hM34 : (6 - x3).toNat ≤ M34) (hI : iv_A s.1 s.2.2) (bx3 : 0 ≤ x3 ∧ x3 ≤ 6) (kv0 : 0 < s.1 22 3) : fm_108_p34 Q X34 x3 s := by
  unfold fm_108_p34
  have b14 : 0 ≤ s.1 1 2 ∧ s.1 1 2 ≤ 6 := iv_r1_2 hI
  refine ⟨(show lf_R x3 from lf_Rof (by omega)), ?_⟩
  refine ⟨(show lf_R (s.1 1 2) from lf_Rof (by omega)), ?_⟩
  refine ⟨fun c15 => ?_, fun c15 => ?_⟩
  · skip
    replace c15 : s.1 1 2 ≤ x3 := c15
    have b16 : 0 ≤ s.1 22 2 ∧ s.1 22 2 ≤ 29 := iv_r22_2 hI
    refine ⟨(show lf_R (((s.1 22 2) + 30) - 1) from lf_Rof (by omega)), ?_⟩
    have b17 : 0 ≤ (((s.1 22 2) + 30) - 1).tmod 30 ∧ (((s.1 22 2) + 30) - 1).tmod 30 ≤ 29 := lf_tmodP (by omega) (by omega) (by omega)
    have hI18 : iv_A (lf_up s.1 22 2 ((((s.1 22 2) + 30) - 1).tmod 30)) s.2.2 := iv_w22_2 hI (by omega)
    have fr19 : lf_fq [15, 16, 17, 18, 19, 20, 21, 22] 1000000 true s.1 s.2.2 (lf_up s.1 22 2 ((((s.1 22 2) + 30) - 1).tmod 30)) s.2.2 := lf_fq_up (lf_fq_rf) rfl (fun h => absurd h (by decide))
    have b20 : 0 ≤ s.1 22 3 ∧ s.1 22 3 ≤ 30 := (show 0 ≤ (lf_up s.1 22 2 ((((s.1 22 2) + 30) - 1).tmod 30)) 22 3 ∧ (lf_up s.1 22 2 ((((s.1 22 2) + 30) - 1).tmod 30)) 22 3 ≤ 30 from iv_r22_3 hI18)
    have b21 : (lf_up s.1 22 2 ((((s.1 22 2) + 30) - 1).tmod 30)) 22 3 = s.1 22 3 := lf_up_i (by omega)
    have hI22 : iv_A (lf_up (lf_up s.1 22 2 ((((s.1 22 2) + 30) - 1).tmod 30)) 22 3 ((s.1 22 3) - 1)) s.2.2 := iv_w22_3 hI18 (by omega)
    have fr23 : lf_fq [15, 16, 17, 18, 19, 20, 21, 22] 1000000 true s.1 s.2.2 (lf_up (lf_up s.1 22 2 ((((s.1 22 2) + 30) - 1).tmod 30)) 22 3 ((s.1 22 3) - 1)) s.2.2 := lf_fq_up fr19 rfl (fun h => absurd h (by decide))
    exact hQ true (lf_up (lf_up s.1 22 2 ((((s.1 22 2) + 30) - 1).tmod 30)) 22 3 ((s.1 22 3) - 1), s.2.1, s.2.2) hI22 fr23
  · skip
    replace c15 : ¬ (s.1 1 2 ≤ x3) := c15
    refine ⟨(show (0 : Int) ≤ x3 ∧ x3 < (6 : Int) from by omega), ?_⟩
    have b24 : 0 ≤ s.1 10 x3 ∧ s.1 10 x3 ≤ 11 := iv_r10 hI _
    have hI25 : iv_A (lf_up s.1 19 x3 (s.1 10 x3)) s.2.2 := iv_w19 hI (by omega)
    have fr26 : lf_fq [15, 16, 17, 18, 19, 20, 21, 22] 1000000 true s.1 s.2.2 (lf_up s.1 19 x3 (s.1 10 x3)) s.2.2 := lf_fq_up (lf_fq_rf) rfl (fun h => absurd h (by decide))
    have hI27 : iv_A (lf_up (lf_up s.1 19 x3 (s.1 10 x3)) 20 x3 (-1)) s.2.2 := iv_w20 hI25 (by omega)
    have fr28 : lf_fq [15, 16, 17, 18, 19, 20, 21, 22] 1000000 true s.1 s.2.2 (lf_up (lf_up s.1 19 x3 (s.1 10 x3)) 20 x3 (-1)) s.2.2 := lf_fq_up fr26 rfl (fun h => absurd h (by decide))
    have b29 : 0 ≤ s.1 22 3 ∧ s.1 22 3 ≤ 30 := (show 0 ≤ (lf_up (lf_up s.1 19 x3 (s.1 10 x3)) 20 x3 (-1)) 22 3 ∧ (lf_up (lf_up s.1 19 x3 (s.1 10 x3)) 20 x3 (-1)) 22 3 ≤ 30 from iv_r22_3 hI27)
    exact hX34 (x3 + 1) (lf_up (lf_up s.1 19 x3 (s.1 10 x3)) 20 x3 (-1), s.2.1, s.2.2) hI27 fr28 (show (0 : Int) ≤ x3 + 1 ∧ x3 + 1 ≤ (6 : Int) from by omega) (show 0 < (s.1 22 3) from by omega) (show (6 - (x3 + 1)).toNat < M34 from by omega)
theorem sm_108_p34L {Q : Bool → lf_Z → Prop} {x3 : Int} {s : lf_Z} (hQ : ∀ (z : Bool) (s' : lf_Z), iv_A s'.1 s'.2.2 → lf_fq [15, 16, 17, 18, 19, 20, 21, 22] 1000000 true s.1 s.2.2 s'.1 s'.2.2 → Q z s') (hI : iv_A s.1 s.2.2) (bx3 : 0 ≤ x3 ∧ x3 ≤ 6) (kv0 : 0 < s.1 22 3) : fm_108_p34L Q x3 s := by
  intro X34 hX
  have key : ∀ (m9 : Nat) (x3 : Int) (s' : lf_Z), iv_A s'.1 s'.2.2 → lf_fq [15, 16, 17, 18, 19, 20, 21, 22] 1000000 true s.1 s.2.2 s'.1 s'.2.2 → 0 ≤ x3 ∧ x3 ≤ 6 → (0 < s'.1 22 3) → (6 - x3).toNat < m9 → X34 x3 s' := by
    intro m9
    induction m9 with
    | zero => intro x3 s' _ _ bx3 kv0 h9; exact absurd h9 (Nat.not_lt_zero _)
    | succ m9 ih => intro x3 s' i7 f7 bx3 kv0 h9; exact hX _ _ (sm_108_p34 (fun r9 t9 i9 f9 => hQ r9 t9 i9 (lf_fq_tr f7 f9))   (fun x3' t8 i8 f8 bx3' kv0' h8 => ih x3' t8 i8 (lf_fq_tr f7 f8) bx3' kv0' (by omega)) (Nat.le_refl _)  i7  bx3  kv0)
  exact key _ _ s hI lf_fq_rf bx3 kv0 (Nat.lt_succ_self _)
theorem sm_108 {Q : Bool → lf_Z → Prop} {s : lf_Z} (hI : iv_A s.1 s.2.2) (hQ : ∀ (z : Bool) (s' : lf_Z), iv_A s'.1 s'.2.2 → lf_fq [15, 16, 17, 18, 19, 20, 21, 22] 1000000 true s.1 s.2.2 s'.1 s'.2.2 → Q z s') : fm_108 Q s := by
  unfold fm_108
  have b1 : 0 ≤ s.1 22 3 ∧ s.1 22 3 ≤ 30 := iv_r22_3 hI
  refine ⟨(show lf_R (s.1 22 3) from lf_Rof (by omega)), ?_⟩
  refine ⟨fun c2 => ?_, fun c2 => ?_⟩
  · skip
    replace c2 : s.1 22 3 ≠ 0 := c2
    have b3 : 0 ≤ s.1 22 2 ∧ s.1 22 2 ≤ 29 := iv_r22_2 hI
    refine sm_109 hI (show (0 : Int) ≤ (s.1 22 2) * 39 ∧ (s.1 22 2) * 39 ≤ (1131 : Int) from by omega) (show ((s.1 22 2) * 39) = 39 * (s.1 22 2) from by omega) (fun s22 hI5 fr4 => ?_)
    have fr7 : lf_fq [15, 16, 17, 18, 19, 20, 21, 22] 1000000 true s.1 s.2.2 s22.1 s22.2.2 := lf_fq_tr (lf_fq_rf) (lf_fq_wk fr4 rfl (by decide) (by decide))
    have b8 : 0 ≤ s22.1 22 2 ∧ s22.1 22 2 ≤ 29 := iv_r22_2 hI5
    have b9 : s22.1 22 2 = s.1 22 2 := congrFun (fr4.1 22 rfl) _
    refine ⟨(show (0 : Int) ≤ s22.1 22 2 ∧ s22.1 22 2 < (30 : Int) from by omega), ?_⟩
    have b10 : 0 ≤ s22.1 24 (s22.1 22 2) ∧ s22.1 24 (s22.1 22 2) ≤ 6 := iv_r24 hI5 _
    have b11 : s22.1 24 (s22.1 22 2) = s.1 24 (s22.1 22 2) := congrFun (fr4.1 24 rfl) _
    have b12 : 0 ≤ s22.1 22 3 ∧ s22.1 22 3 ≤ 30 := iv_r22_3 hI5
    have b13 : s22.1 22 3 = s.1 22 3 := congrFun (fr4.1 22 rfl) _
    exact sm_108_p34L (fun r9 t9 i9 f9 => hQ r9 t9 i9 (lf_fq_tr fr7 f9)) hI5 (show (0 : Int) ≤ s22.1 24 (s22.1 22 2) ∧ s22.1 24 (s22.1 22 2) ≤ (6 : Int) from by omega) (show 0 < (s22.1 22 3) from by omega)
  · skip
    replace c2 : ¬ (s.1 22 3 ≠ 0) := c2
    exact hQ false s hI (lf_fq_rf)
-- fm_107 ElevenBullocks.undo 0
theorem sm_107 {Q : Int → lf_Z → Prop} {s : lf_Z} (hI : iv_A s.1 s.2.2) (hQ : ∀ (r : Int) (s' : lf_Z), iv_A s'.1 s'.2.2 → lf_fq [15, 16, 17, 18, 19, 20, 21, 22] 1000000 true s.1 s.2.2 s'.1 s'.2.2 → ((-1) ≤ r ∧ r ≤ 30) → Q r s') : fm_107 Q s := by
  unfold fm_107
  refine sm_108 hI (fun z22 s21 hI2 fr1 => ?_)
  have fr4 : lf_fq [15, 16, 17, 18, 19, 20, 21, 22] 1000000 true s.1 s.2.2 s21.1 s21.2.2 := lf_fq_tr (lf_fq_rf) (lf_fq_wk fr1 rfl (by decide) (by decide))
  refine ⟨fun c5 => ?_, fun c5 => ?_⟩
  · skip
    have b6 : 0 ≤ s21.1 22 3 ∧ s21.1 22 3 ≤ 30 := iv_r22_3 hI2
    exact hQ (s21.1 22 3) s21 hI2 fr4 (show (-1 : Int) ≤ s21.1 22 3 ∧ s21.1 22 3 ≤ (30 : Int) from by omega)
  · skip
    exact hQ (-1) s21 hI2 fr4 (show (-1 : Int) ≤ (-1) ∧ (-1) ≤ (30 : Int) from by omega)
-- fm_239e Model.get 95 i 5
theorem sm_239e {a1 : Int} {Q : Int → lf_Z → Prop} {s : lf_Z} (hI : iv_A s.1 s.2.2) (ba1 : 0 ≤ a1 ∧ a1 ≤ 5) (hQ : ∀ (r : Int), ((0 ≤ r ∧ r ≤ 11) ∧ (r = s.1 96 (126 + 6 * a1 + 5))) → Q r s) : fm_239e a1 Q s := by
  unfold fm_239e
  refine ⟨(show (0 : Int) ≤ (126 + (6 * a1)) + 5 ∧ (126 + (6 * a1)) + 5 < (1538 : Int) from by omega), ?_⟩
  have b1 : 0 ≤ s.1 96 ((126 + (6 * a1)) + 5) ∧ s.1 96 ((126 + (6 * a1)) + 5) ≤ 11 := iv_rd96 hI (iv_f3ea210f9 (a1) (by omega) (by omega))
  exact hQ (s.1 96 ((126 + (6 * a1)) + 5)) ⟨(show (0 : Int) ≤ s.1 96 ((126 + (6 * a1)) + 5) ∧ s.1 96 ((126 + (6 * a1)) + 5) ≤ (11 : Int) from by omega), (show s.1 96 ((126 + (6 * a1)) + 5) = s.1 96 (126 + 6 * a1 + 5) from by omega)⟩
-- fm_238 Model.undo 95
theorem sm_238_p254 {X254 : Int → lf_Z → Prop} {Q : Int → lf_Z → Prop} {x1 : Int} {x2 : Int} {s : lf_Z} (hQ : ∀ (r : Int) (s' : lf_Z), iv_A s'.1 s'.2.2 → lf_fq [96, 1004, 1005, 1006] 3 true s.1 s.2.2 s'.1 s'.2.2 → ((-1) ≤ r ∧ r ≤ 29) → Q r s') {M254 : Nat} (hX254 : ∀ (x2 : Int) (s' : lf_Z), iv_A s'.1 s'.2.2 → lf_fq [96, 1004, 1005, 1006] 3 true s.1 s.2.2 s'.1 s'.2.2 → 0 ≤ x2 ∧ x2 ≤ 12 → (x1 = 278 + 42 * s'.1 96 9) → (s'.1 96 9 < 30) → (12 - x2).toNat < M254 → X254 x2 s') (hM254 : (12 - x2).toNat ≤ M254) (hI : iv_A s.1 s.2.2) (bx1 : 278 ≤ x1 ∧ x1 ≤ 1496) (bx2 : 0 ≤ x2 ∧ x2 ≤ 12) (kv0 : x1 = 278 + 42 * s.1 96 9) (kv1 : s.1 96 9 < 30) : fm_238_p254 Q x1 X254 x2 s := by
  unfold fm_238_p254
  have b26 : 0 ≤ s.1 96 0 ∧ s.1 96 0 ≤ 12 := iv_rd96 hI (iv_f3e1fa21c (by omega))
  refine ⟨(show lf_R x2 from lf_Rof (by omega)), ?_⟩
  refine ⟨(show lf_R (s.1 96 0) from lf_Rof (by omega)), ?_⟩
  refine ⟨fun c27 => ?_, fun c27 => ?_⟩
  · skip
    replace c27 : s.1 96 0 ≤ x2 := c27
    have b28 : 0 ≤ s.1 96 9 ∧ s.1 96 9 ≤ 30 := iv_rd96 hI (iv_fb9711825 (by omega))
    exact hQ (s.1 96 9) s hI (lf_fq_rf) (show (-1 : Int) ≤ s.1 96 9 ∧ s.1 96 9 ≤ (29 : Int) from by omega)
  · skip
    replace c27 : ¬ (s.1 96 0 ≤ x2) := c27
    refine ⟨(show (0 : Int) ≤ (x1 + 29) + x2 ∧ (x1 + 29) + x2 < (1538 : Int) from by omega), ?_⟩
    have b29 : (-2147483648) ≤ s.1 96 ((x1 + 29) + x2) ∧ s.1 96 ((x1 + 29) + x2) ≤ 2147483647 := iv_full hI
    refine ⟨(show (0 : Int) ≤ (14 + (3 * x2)) + 2 ∧ (14 + (3 * x2)) + 2 < (1538 : Int) from by omega), ?_⟩
    have hI30 : iv_A (lf_up s.1 96 ((14 + (3 * x2)) + 2) (s.1 96 ((x1 + 29) + x2))) s.2.2 := iv_wd96 hI (lf_le2 (iv_f06618364 (x2) (by omega) (by omega)) (by omega)) (fun h => absurd h (by omega))
    have fr31 : lf_fq [96, 1004, 1005, 1006] 3 true s.1 s.2.2 (lf_up s.1 96 ((14 + (3 * x2)) + 2) (s.1 96 ((x1 + 29) + x2))) s.2.2 := lf_fq_up (lf_fq_rf) rfl (fun _ => ⟨by omega, fr_o (Or.inr (fr_n0 (by omega))) (Or.inr (fr_n1 (by omega))) (Or.inr (fr_n2 (by omega))) (Or.inr (fr_n3 (by omega))) (Or.inl rfl) (Or.inl rfl) (Or.inl rfl)⟩)
    have b32 : 0 ≤ (lf_up s.1 96 ((14 + (3 * x2)) + 2) (s.1 96 ((x1 + 29) + x2))) 96 9 ∧ (lf_up s.1 96 ((14 + (3 * x2)) + 2) (s.1 96 ((x1 + 29) + x2))) 96 9 ≤ 30 := iv_rd96 hI30 (iv_fb9711825 (by omega))
    have b33 : (lf_up s.1 96 ((14 + (3 * x2)) + 2) (s.1 96 ((x1 + 29) + x2))) 96 9 = s.1 96 9 := lf_up_i (by omega)
    exact hX254 (x2 + 1) (lf_up s.1 96 ((14 + (3 * x2)) + 2) (s.1 96 ((x1 + 29) + x2)), s.2.1, s.2.2) hI30 fr31 (show (0 : Int) ≤ x2 + 1 ∧ x2 + 1 ≤ (12 : Int) from by omega) (show x1 = 278 + 42 * ((lf_up s.1 96 ((14 + (3 * x2)) + 2) (s.1 96 ((x1 + 29) + x2))) 96 9) from by omega) (show ((lf_up s.1 96 ((14 + (3 * x2)) + 2) (s.1 96 ((x1 + 29) + x2))) 96 9) < 30 from by omega) (show (12 - (x2 + 1)).toNat < M254 from by omega)
theorem sm_238_p254L {Q : Int → lf_Z → Prop} {x1 : Int} {x2 : Int} {s : lf_Z} (hQ : ∀ (r : Int) (s' : lf_Z), iv_A s'.1 s'.2.2 → lf_fq [96, 1004, 1005, 1006] 3 true s.1 s.2.2 s'.1 s'.2.2 → ((-1) ≤ r ∧ r ≤ 29) → Q r s') (hI : iv_A s.1 s.2.2) (bx1 : 278 ≤ x1 ∧ x1 ≤ 1496) (bx2 : 0 ≤ x2 ∧ x2 ≤ 12) (kv0 : x1 = 278 + 42 * s.1 96 9) (kv1 : s.1 96 9 < 30) : fm_238_p254L Q x1 x2 s := by
  intro X254 hX
  have key : ∀ (m9 : Nat) (x2 : Int) (s' : lf_Z), iv_A s'.1 s'.2.2 → lf_fq [96, 1004, 1005, 1006] 3 true s.1 s.2.2 s'.1 s'.2.2 → 0 ≤ x2 ∧ x2 ≤ 12 → (x1 = 278 + 42 * s'.1 96 9) → (s'.1 96 9 < 30) → (12 - x2).toNat < m9 → X254 x2 s' := by
    intro m9
    induction m9 with
    | zero => intro x2 s' _ _ bx2 kv0 kv1 h9; exact absurd h9 (Nat.not_lt_zero _)
    | succ m9 ih => intro x2 s' i7 f7 bx2 kv0 kv1 h9; exact hX _ _ (sm_238_p254 (fun r9 t9 i9 f9 => hQ r9 t9 i9 (lf_fq_tr f7 f9))   (fun x2' t8 i8 f8 bx2' kv0' kv1' h8 => ih x2' t8 i8 (lf_fq_tr f7 f8) bx2' kv0' kv1' (by omega)) (Nat.le_refl _)  i7  bx1 bx2  kv0 kv1)
  exact key _ _ s hI lf_fq_rf bx2 kv0 kv1 (Nat.lt_succ_self _)
theorem sm_238_p243 {X165 : Int → lf_Z → Prop} {Q : Int → lf_Z → Prop} {x1 : Int} {x2 : Int} {y1 : Int} {y3 : Int} {s : lf_Z} (hQ : ∀ (r : Int) (s' : lf_Z), iv_A s'.1 s'.2.2 → lf_fq [96, 1004, 1005, 1006] 3 true s.1 s.2.2 s'.1 s'.2.2 → ((-1) ≤ r ∧ r ≤ 29) → Q r s') {M165 : Nat} (hX165 : ∀ (x2 : Int) (s' : lf_Z), iv_A s'.1 s'.2.2 → lf_fq [96, 1004, 1005, 1006] 3 true s.1 s.2.2 s'.1 s'.2.2 → 0 ≤ x2 ∧ x2 ≤ 6 → (x1 = 278 + 42 * s'.1 96 9) → (s'.1 96 9 < 30) → (6 - x2).toNat < M165 → X165 x2 s') (hM165 : (6 - x2).toNat ≤ M165) (hI : iv_A s.1 s.2.2) (bx1 : 278 ≤ x1 ∧ x1 ≤ 1496) (bx2 : 0 ≤ x2 ∧ x2 ≤ 5) (by1 : 0 ≤ y1 ∧ y1 ≤ 5) (by3 : (-1) ≤ y3 ∧ y3 ≤ 11) (kv0 : x1 = 278 + 42 * s.1 96 9) (kv1 : s.1 96 9 < 30) : fm_238_p243 X165 Q x1 x2 y1 y3 s := by
  unfold fm_238_p243
  refine sm_191e hI (show (0 : Int) ≤ y1 ∧ y1 ≤ (5 : Int) from by omega) (show (-1 : Int) ≤ y3 ∧ y3 ≤ (11 : Int) from by omega) (fun s41 hI48 fr47 ps50 => ?_)
  replace ps50 : ∀ i, i ≠ 126 + 6 * y1 + 4 → s41.1 96 i = (s.1 96) i := ps50
  have fr51 : lf_fq [96, 1004, 1005, 1006] 3 true s.1 s.2.2 s41.1 s41.2.2 := lf_fq_tr (lf_fq_rf) (lf_fq_wk fr47 rfl (by decide) (by decide))
  have b52 : 0 ≤ s41.1 96 9 ∧ s41.1 96 9 ≤ 30 := iv_rd96 hI48 (iv_fb9711825 (by omega))
  have b53 : s41.1 96 9 = s.1 96 9 := fr47.2.1 9 (by decide)
  exact hX165 (x2 + 1) s41 hI48 fr51 (show (0 : Int) ≤ x2 + 1 ∧ x2 + 1 ≤ (6 : Int) from by omega) (show x1 = 278 + 42 * (s41.1 96 9) from by omega) (show (s41.1 96 9) < 30 from by omega) (show (6 - (x2 + 1)).toNat < M165 from by omega)
theorem sm_238_p210 {X165 : Int → lf_Z → Prop} {Q : Int → lf_Z → Prop} {x1 : Int} {x2 : Int} {y1 : Int} {y3 : Int} {s : lf_Z} (hQ : ∀ (r : Int) (s' : lf_Z), iv_A s'.1 s'.2.2 → lf_fq [96, 1004, 1005, 1006] 3 true s.1 s.2.2 s'.1 s'.2.2 → ((-1) ≤ r ∧ r ≤ 29) → Q r s') {M165 : Nat} (hX165 : ∀ (x2 : Int) (s' : lf_Z), iv_A s'.1 s'.2.2 → lf_fq [96, 1004, 1005, 1006] 3 true s.1 s.2.2 s'.1 s'.2.2 → 0 ≤ x2 ∧ x2 ≤ 6 → (x1 = 278 + 42 * s'.1 96 9) → (s'.1 96 9 < 30) → (6 - x2).toNat < M165 → X165 x2 s') (hM165 : (6 - x2).toNat ≤ M165) (hI : iv_A s.1 s.2.2) (bx1 : 278 ≤ x1 ∧ x1 ≤ 1496) (bx2 : 0 ≤ x2 ∧ x2 ≤ 5) (by1 : 0 ≤ y1 ∧ y1 ≤ 5) (by3 : 0 ≤ y3 ∧ y3 ≤ 11) (kv0 : x1 = 278 + 42 * s.1 96 9) (kv1 : s.1 96 9 < 30) : fm_238_p210 X165 Q x1 x2 y1 y3 s := by
  unfold fm_238_p210
  refine sm_191d hI (show (0 : Int) ≤ y1 ∧ y1 ≤ (5 : Int) from by omega) (show (0 : Int) ≤ y3 ∧ y3 ≤ (11 : Int) from by omega) (fun s37 hI39 fr38 ps41 => ?_)
  replace ps41 : ∀ i, i ≠ 126 + 6 * y1 + 3 → s37.1 96 i = (s.1 96) i := ps41
  have fr42 : lf_fq [96, 1004, 1005, 1006] 3 true s.1 s.2.2 s37.1 s37.2.2 := lf_fq_tr (lf_fq_rf) (lf_fq_wk fr38 rfl (by decide) (by decide))
  refine ⟨(show (0 : Int) ≤ x1 ∧ x1 < (1538 : Int) from by omega), ?_⟩
  have b43 : (-2147483648) ≤ s37.1 96 x1 ∧ s37.1 96 x1 ≤ 2147483647 := iv_full hI39
  refine ⟨(show lf_R x2 from lf_Rof (by omega)), ?_⟩
  refine ⟨(show lf_R (s37.1 96 x1) from lf_Rof (by omega)), ?_⟩
  refine ⟨fun c44 => ?_, fun c44 => ?_⟩
  · skip
    replace c44 : s37.1 96 x1 ≤ x2 := c44
    have b45 : 0 ≤ s37.1 96 9 ∧ s37.1 96 9 ≤ 30 := iv_rd96 hI39 (iv_fb9711825 (by omega))
    have b46 : s37.1 96 9 = s.1 96 9 := fr38.2.1 9 (by decide)
    exact sm_238_p243 (fun r9 t9 i9 f9 => hQ r9 t9 i9 (lf_fq_tr fr42 f9)) (fun p0 t9 i9 f9 => hX165 p0 t9 i9 (lf_fq_tr fr42 f9)) (show (6 - x2).toNat ≤ M165 from by omega) hI39 (show (278 : Int) ≤ x1 ∧ x1 ≤ (1496 : Int) from by omega) (show (0 : Int) ≤ x2 ∧ x2 ≤ (5 : Int) from by omega) (show (0 : Int) ≤ x2 ∧ x2 ≤ (5 : Int) from by omega) (show (-1 : Int) ≤ (-1) ∧ (-1) ≤ (11 : Int) from by omega) (show x1 = 278 + 42 * (s37.1 96 9) from by omega) (show (s37.1 96 9) < 30 from by omega)
  · skip
    replace c44 : ¬ (s37.1 96 x1 ≤ x2) := c44
    refine ⟨(show (0 : Int) ≤ (x1 + 18) + (2 * x2) ∧ (x1 + 18) + (2 * x2) < (1538 : Int) from by omega), ?_⟩
    have b54 : (-1) ≤ s37.1 96 ((x1 + 18) + (2 * x2)) ∧ s37.1 96 ((x1 + 18) + (2 * x2)) ≤ 11 := iv_rd96 hI39 (iv_f7285c76e (s.1 96 9) (x2) (by omega) (by omega) (by omega))
    have b55 : 0 ≤ s37.1 96 9 ∧ s37.1 96 9 ≤ 30 := iv_rd96 hI39 (iv_fb9711825 (by omega))
    have b56 : s37.1 96 9 = s.1 96 9 := fr38.2.1 9 (by decide)
    exact sm_238_p243 (fun r9 t9 i9 f9 => hQ r9 t9 i9 (lf_fq_tr fr42 f9)) (fun p0 t9 i9 f9 => hX165 p0 t9 i9 (lf_fq_tr fr42 f9)) (show (6 - x2).toNat ≤ M165 from by omega) hI39 (show (278 : Int) ≤ x1 ∧ x1 ≤ (1496 : Int) from by omega) (show (0 : Int) ≤ x2 ∧ x2 ≤ (5 : Int) from by omega) (show (0 : Int) ≤ x2 ∧ x2 ≤ (5 : Int) from by omega) (show (-1 : Int) ≤ s37.1 96 ((x1 + 18) + (2 * x2)) ∧ s37.1 96 ((x1 + 18) + (2 * x2)) ≤ (11 : Int) from by omega) (show x1 = 278 + 42 * (s37.1 96 9) from by omega) (show (s37.1 96 9) < 30 from by omega)
theorem sm_238_p165 {X165 : Int → lf_Z → Prop} {Q : Int → lf_Z → Prop} {x1 : Int} {x2 : Int} {s : lf_Z} (hQ : ∀ (r : Int) (s' : lf_Z), iv_A s'.1 s'.2.2 → lf_fq [96, 1004, 1005, 1006] 3 true s.1 s.2.2 s'.1 s'.2.2 → ((-1) ≤ r ∧ r ≤ 29) → Q r s') {M165 : Nat} (hX165 : ∀ (x2 : Int) (s' : lf_Z), iv_A s'.1 s'.2.2 → lf_fq [96, 1004, 1005, 1006] 3 true s.1 s.2.2 s'.1 s'.2.2 → 0 ≤ x2 ∧ x2 ≤ 6 → (x1 = 278 + 42 * s'.1 96 9) → (s'.1 96 9 < 30) → (6 - x2).toNat < M165 → X165 x2 s') (hM165 : (6 - x2).toNat ≤ M165) (hI : iv_A s.1 s.2.2) (bx1 : 278 ≤ x1 ∧ x1 ≤ 1496) (bx2 : 0 ≤ x2 ∧ x2 ≤ 6) (kv0 : x1 = 278 + 42 * s.1 96 9) (kv1 : s.1 96 9 < 30) : fm_238_p165 Q x1 X165 x2 s := by
  unfold fm_238_p165
  have b22 : 0 ≤ s.1 96 2 ∧ s.1 96 2 ≤ 6 := iv_rd96 hI (iv_f2103129b (by omega))
  have b23 : s.1 96 2 ≤ 0 ∨ 0 < s.1 96 0 := (show s.1 96 2 ≤ 0 ∨ 0 < s.1 96 0 from iv_l96_2 hI)
  refine ⟨(show lf_R x2 from lf_Rof (by omega)), ?_⟩
  refine ⟨(show lf_R (s.1 96 2) from lf_Rof (by omega)), ?_⟩
  refine ⟨fun c24 => ?_, fun c24 => ?_⟩
  · skip
    replace c24 : s.1 96 2 ≤ x2 := c24
    have b25 : 0 ≤ s.1 96 9 ∧ s.1 96 9 ≤ 30 := iv_rd96 hI (iv_fb9711825 (by omega))
    exact sm_238_p254L hQ hI (show (278 : Int) ≤ x1 ∧ x1 ≤ (1496 : Int) from by omega) (show (0 : Int) ≤ 0 ∧ 0 ≤ (12 : Int) from by omega) (show x1 = 278 + 42 * (s.1 96 9) from by omega) (show (s.1 96 9) < 30 from by omega)
  · skip
    replace c24 : ¬ (s.1 96 2 ≤ x2) := c24
    refine ⟨(show (0 : Int) ≤ x1 ∧ x1 < (1538 : Int) from by omega), ?_⟩
    have b34 : (-2147483648) ≤ s.1 96 x1 ∧ s.1 96 x1 ≤ 2147483647 := iv_full hI
    refine ⟨(show lf_R (s.1 96 x1) from lf_Rof (by omega)), ?_⟩
    refine ⟨fun c35 => ?_, fun c35 => ?_⟩
    · skip
      replace c35 : s.1 96 x1 ≤ x2 := c35
      refine sm_239e hI (show (0 : Int) ≤ x2 ∧ x2 ≤ (5 : Int) from by omega) (fun r36 q36 => ?_)
      obtain ⟨q36, q36x⟩ := q36
      replace q36x : r36 = s.1 96 (126 + 6 * x2 + 5) := q36x
      have b37 : 0 ≤ s.1 96 9 ∧ s.1 96 9 ≤ 30 := iv_rd96 hI (iv_fb9711825 (by omega))
      exact sm_238_p210 hQ hX165 (show (6 - x2).toNat ≤ M165 from by omega) hI (show (278 : Int) ≤ x1 ∧ x1 ≤ (1496 : Int) from by omega) (show (0 : Int) ≤ x2 ∧ x2 ≤ (5 : Int) from by omega) (show (0 : Int) ≤ x2 ∧ x2 ≤ (5 : Int) from by omega) (show (0 : Int) ≤ r36 ∧ r36 ≤ (11 : Int) from by omega) (show x1 = 278 + 42 * (s.1 96 9) from by omega) (show (s.1 96 9) < 30 from by omega)
    · skip
      replace c35 : ¬ (s.1 96 x1 ≤ x2) := c35
      refine ⟨(show (0 : Int) ≤ (x1 + 17) + (2 * x2) ∧ (x1 + 17) + (2 * x2) < (1538 : Int) from by omega), ?_⟩
      have b57 : 0 ≤ s.1 96 ((x1 + 17) + (2 * x2)) ∧ s.1 96 ((x1 + 17) + (2 * x2)) ≤ 11 := iv_rd96 hI (iv_f1b3b3272 (s.1 96 9) (x2) (by omega) (by omega) (by omega))
      have b58 : 0 ≤ s.1 96 9 ∧ s.1 96 9 ≤ 30 := iv_rd96 hI (iv_fb9711825 (by omega))
      exact sm_238_p210 hQ hX165 (show (6 - x2).toNat ≤ M165 from by omega) hI (show (278 : Int) ≤ x1 ∧ x1 ≤ (1496 : Int) from by omega) (show (0 : Int) ≤ x2 ∧ x2 ≤ (5 : Int) from by omega) (show (0 : Int) ≤ x2 ∧ x2 ≤ (5 : Int) from by omega) (show (0 : Int) ≤ s.1 96 ((x1 + 17) + (2 * x2)) ∧ s.1 96 ((x1 + 17) + (2 * x2)) ≤ (11 : Int) from by omega) (show x1 = 278 + 42 * (s.1 96 9) from by omega) (show (s.1 96 9) < 30 from by omega)
theorem sm_238_p165L {Q : Int → lf_Z → Prop} {x1 : Int} {x2 : Int} {s : lf_Z} (hQ : ∀ (r : Int) (s' : lf_Z), iv_A s'.1 s'.2.2 → lf_fq [96, 1004, 1005, 1006] 3 true s.1 s.2.2 s'.1 s'.2.2 → ((-1) ≤ r ∧ r ≤ 29) → Q r s') (hI : iv_A s.1 s.2.2) (bx1 : 278 ≤ x1 ∧ x1 ≤ 1496) (bx2 : 0 ≤ x2 ∧ x2 ≤ 6) (kv0 : x1 = 278 + 42 * s.1 96 9) (kv1 : s.1 96 9 < 30) : fm_238_p165L Q x1 x2 s := by
  intro X165 hX
  have key : ∀ (m9 : Nat) (x2 : Int) (s' : lf_Z), iv_A s'.1 s'.2.2 → lf_fq [96, 1004, 1005, 1006] 3 true s.1 s.2.2 s'.1 s'.2.2 → 0 ≤ x2 ∧ x2 ≤ 6 → (x1 = 278 + 42 * s'.1 96 9) → (s'.1 96 9 < 30) → (6 - x2).toNat < m9 → X165 x2 s' := by
    intro m9
    induction m9 with
    | zero => intro x2 s' _ _ bx2 kv0 kv1 h9; exact absurd h9 (Nat.not_lt_zero _)
    | succ m9 ih => intro x2 s' i7 f7 bx2 kv0 kv1 h9; exact hX _ _ (sm_238_p165 (fun r9 t9 i9 f9 => hQ r9 t9 i9 (lf_fq_tr f7 f9))   (fun x2' t8 i8 f8 bx2' kv0' kv1' h8 => ih x2' t8 i8 (lf_fq_tr f7 f8) bx2' kv0' kv1' (by omega)) (Nat.le_refl _)  i7  bx1 bx2  kv0 kv1)
  exact key _ _ s hI lf_fq_rf bx2 kv0 kv1 (Nat.lt_succ_self _)
theorem sm_238_p132L {Q : Int → lf_Z → Prop} {x1 : Int} {x2 : Int} {s : lf_Z} (hQ : ∀ (r : Int) (s' : lf_Z), iv_A s'.1 s'.2.2 → lf_fq [96, 1004, 1005, 1006] 3 true s.1 s.2.2 s'.1 s'.2.2 → ((-1) ≤ r ∧ r ≤ 29) → Q r s') (hI : iv_A s.1 s.2.2) (bx1 : 278 ≤ x1 ∧ x1 ≤ 1496) (bx2 : 0 ≤ x2 ∧ x2 ≤ 12) (kv0 : x1 = 278 + 42 * s.1 96 9) (kv1 : s.1 96 9 < 30) (kv2 : iv_s4 (s.1 96) (x1 + 5)) (kv3 : x2 = 0) : fm_238_p132L Q x1 x2 s := by
  intro X132 hX
  have key : ∀ (m : Nat) (k : Int) (s' : lf_Z), 0 ≤ k → k ≤ 12 → (12 - k).toNat < m → s'.2 = s.2 → (∀ a, a ≠ 96 → s'.1 a = s.1 a) → (∀ j : Int, 114 ≤ j → j < 114 + k → s'.1 96 j = s.1 96 (x1 + 5 + (j - 114))) → (∀ j : Int, ¬ (114 ≤ j ∧ j < 114 + k) → s'.1 96 j = s.1 96 j) → X132 k s' := by
    intro m
    induction m with
    | zero => intros; omega
    | succ m ih =>
      intro k s' h0 h1 hm hs hr hd ho
      refine hX _ _ ?_
      unfold fm_238_p132
      refine ⟨lf_Rof (by omega), fun c => ?_, fun c => ⟨by omega, by omega, ?_⟩⟩
      · have e : k = 12 := by omega
        subst e
        have b9 := (hI.1 96 9).1
        have b9 : 0 ≤ s.1 96 9 := b9
        have hA : iv_A s'.1 s'.2.2 := by
          rw [show s'.2.2 = s.2.2 from by rw [hs]]
          exact iv_und hI kv0 ⟨b9, kv1⟩ kv2 hr (fun j a b => hd j a (by omega)) (fun j hj => ho j (by omega))
        have fr : lf_fq [96, 1004, 1005, 1006] 3 true s.1 s.2.2 s'.1 s'.2.2 := ⟨fun a ha => hr a (fun e => by subst e; cases ha), fun i hi => ho i (by omega), fun _ => by rw [hs], fun r hr9 i hi => ho i (fun hj => fr_x6 rfl hr9 hi (by omega))⟩
        refine sm_238_p165L (fun r9 t9 i9 f9 => hQ r9 t9 i9 (lf_fq_tr fr f9)) hA bx1 (by omega) ?_ ?_
        · rw [ho 9 (by omega)]; exact kv0
        · rw [ho 9 (by omega)]; exact kv1
      · refine ih (k + 1) _ (by omega) (by omega) (by omega) hs ?_ ?_ ?_
        · intro a ha
          show lf_up s'.1 96 (114 + k) (s'.1 96 ((x1 + 5) + k)) a = _
          rw [lf_up_row ha]
          exact hr a ha
        · intro j j0 j1
          show lf_up s'.1 96 (114 + k) (s'.1 96 ((x1 + 5) + k)) 96 j = _
          by_cases hj : j = 114 + k
          · subst hj
            rw [lf_up_s, ho _ (by omega), show x1 + 5 + k = x1 + 5 + (114 + k - 114) by omega]
          · rw [lf_up_i hj]
            exact hd j j0 (by omega)
        · intro j hj
          show lf_up s'.1 96 (114 + k) (s'.1 96 ((x1 + 5) + k)) 96 j = _
          rw [lf_up_i (by omega)]
          exact ho j (by omega)
  have e0 : x2 = 0 := kv3
  subst e0
  exact key _ 0 s (by omega) (by omega) (Nat.lt_succ_self _) rfl (fun _ _ => rfl) (fun j a b => by omega) (fun _ _ => rfl)
theorem sm_238_p94 {X40 : Int → lf_Z → Prop} {Q : Int → lf_Z → Prop} {x1 : Int} {x2 : Int} {y1 : Int} {y2 : Int} {s : lf_Z} (hQ : ∀ (r : Int) (s' : lf_Z), iv_A s'.1 s'.2.2 → lf_fq [96, 1004, 1005, 1006] 3 true s.1 s.2.2 s'.1 s'.2.2 → ((-1) ≤ r ∧ r ≤ 29) → Q r s') {M40 : Nat} (hX40 : ∀ (x2 : Int) (s' : lf_Z), iv_A s'.1 s'.2.2 → lf_fq [96, 1004, 1005, 1006] 3 true s.1 s.2.2 s'.1 s'.2.2 → 0 ≤ x2 ∧ x2 ≤ 16 → (x1 = 278 + 42 * s'.1 96 9) → (s'.1 96 9 < 30) → (iv_s4 (s'.1 96) (x1 + 5)) → (16 - x2).toNat < M40 → X40 x2 s') (hM40 : (16 - x2).toNat ≤ M40) (hI : iv_A s.1 s.2.2) (bx1 : 278 ≤ x1 ∧ x1 ≤ 1496) (bx2 : 0 ≤ x2 ∧ x2 ≤ 15) (by1 : 53 ≤ y1 ∧ y1 ≤ 113) (by2 : 0 ≤ y2 ∧ y2 ≤ 1) (kv0 : x1 = 278 + 42 * s.1 96 9) (kv1 : s.1 96 9 < 30) (kv2 : iv_s4 (s.1 96) (x1 + 5)) (kv3 : y1 = 50 + 4 * x2 + 3) : fm_238_p94 X40 Q x1 x2 y1 y2 s := by
  unfold fm_238_p94
  refine ⟨(show (0 : Int) ≤ y1 ∧ y1 < (1538 : Int) from by omega), ?_⟩
  have hI69 : iv_A (lf_up s.1 96 y1 y2) s.2.2 := iv_wd96 hI (lf_le2 (iv_f2c6f65e5 (y1) (by omega) (by omega)) (by omega)) (fun h => absurd h (by omega))
  have fr70 : lf_fq [96, 1004, 1005, 1006] 3 true s.1 s.2.2 (lf_up s.1 96 y1 y2) s.2.2 := lf_fq_up (lf_fq_rf) rfl (fun _ => ⟨by omega, fr_o (Or.inr (fr_n0 (by omega))) (Or.inr (fr_n1 (by omega))) (Or.inr (fr_n2 (by omega))) (Or.inr (fr_n3 (by omega))) (Or.inl rfl) (Or.inl rfl) (Or.inl rfl)⟩)
  have b71 : 0 ≤ (lf_up s.1 96 y1 y2) 96 9 ∧ (lf_up s.1 96 y1 y2) 96 9 ≤ 30 := iv_rd96 hI69 (iv_fb9711825 (by omega))
  have b72 : (lf_up s.1 96 y1 y2) 96 9 = s.1 96 9 := lf_up_i (by omega)
  have b73 : iv_s4 (((lf_up s.1 96 y1 y2) 96)) (x1 + 5) := by first | with_reducible assumption | exact iv_s4u (iv_s4e (iv_szR hI (r := s.1 96 9 - 1) (by omega) (by omega)) (by omega)) (fun j hj => lf_up_i hj) (by omega) | (repeat first | with_reducible assumption | refine iv_s4u ?_ (fun j hj => lf_up_i hj) (by omega))
  exact hX40 (x2 + 1) (lf_up s.1 96 y1 y2, s.2.1, s.2.2) hI69 fr70 (show (0 : Int) ≤ x2 + 1 ∧ x2 + 1 ≤ (16 : Int) from by omega) (show x1 = 278 + 42 * ((lf_up s.1 96 y1 y2) 96 9) from by omega) (show ((lf_up s.1 96 y1 y2) 96 9) < 30 from by omega) (show iv_s4 (((lf_up s.1 96 y1 y2) 96)) (x1 + 5) from by first | with_reducible assumption | assumption) (show (16 - (x2 + 1)).toNat < M40 from by omega)
theorem sm_238_p89 {X40 : Int → lf_Z → Prop} {Q : Int → lf_Z → Prop} {x1 : Int} {x2 : Int} {y1 : Int} {s : lf_Z} (hQ : ∀ (r : Int) (s' : lf_Z), iv_A s'.1 s'.2.2 → lf_fq [96, 1004, 1005, 1006] 3 true s.1 s.2.2 s'.1 s'.2.2 → ((-1) ≤ r ∧ r ≤ 29) → Q r s') {M40 : Nat} (hX40 : ∀ (x2 : Int) (s' : lf_Z), iv_A s'.1 s'.2.2 → lf_fq [96, 1004, 1005, 1006] 3 true s.1 s.2.2 s'.1 s'.2.2 → 0 ≤ x2 ∧ x2 ≤ 16 → (x1 = 278 + 42 * s'.1 96 9) → (s'.1 96 9 < 30) → (iv_s4 (s'.1 96) (x1 + 5)) → (16 - x2).toNat < M40 → X40 x2 s') (hM40 : (16 - x2).toNat ≤ M40) (hI : iv_A s.1 s.2.2) (bx1 : 278 ≤ x1 ∧ x1 ≤ 1496) (bx2 : 0 ≤ x2 ∧ x2 ≤ 15) (by1 : 53 ≤ y1 ∧ y1 ≤ 113) (kv0 : x1 = 278 + 42 * s.1 96 9) (kv1 : s.1 96 9 < 30) (kv2 : iv_s4 (s.1 96) (x1 + 5)) (kv3 : y1 = 50 + 4 * x2 + 3) : fm_238_p89 X40 Q x1 x2 y1 s := by
  unfold fm_238_p89
  have b68 : 0 ≤ s.1 96 9 ∧ s.1 96 9 ≤ 30 := iv_rd96 hI (iv_fb9711825 (by omega))
  exact sm_238_p94 hQ hX40 (show (16 - x2).toNat ≤ M40 from by omega) hI (show (278 : Int) ≤ x1 ∧ x1 ≤ (1496 : Int) from by omega) (show (0 : Int) ≤ x2 ∧ x2 ≤ (15 : Int) from by omega) (show (53 : Int) ≤ y1 ∧ y1 ≤ (113 : Int) from by omega) (show (0 : Int) ≤ 1 ∧ 1 ≤ (1 : Int) from by omega) (show x1 = 278 + 42 * (s.1 96 9) from by omega) (show (s.1 96 9) < 30 from by omega) (show iv_s4 ((s.1 96)) (x1 + 5) from by first | with_reducible assumption | assumption) (show y1 = 50 + 4 * x2 + 3 from by omega)
theorem sm_238_p40 {X40 : Int → lf_Z → Prop} {Q : Int → lf_Z → Prop} {x1 : Int} {x2 : Int} {s : lf_Z} (hQ : ∀ (r : Int) (s' : lf_Z), iv_A s'.1 s'.2.2 → lf_fq [96, 1004, 1005, 1006] 3 true s.1 s.2.2 s'.1 s'.2.2 → ((-1) ≤ r ∧ r ≤ 29) → Q r s') {M40 : Nat} (hX40 : ∀ (x2 : Int) (s' : lf_Z), iv_A s'.1 s'.2.2 → lf_fq [96, 1004, 1005, 1006] 3 true s.1 s.2.2 s'.1 s'.2.2 → 0 ≤ x2 ∧ x2 ≤ 16 → (x1 = 278 + 42 * s'.1 96 9) → (s'.1 96 9 < 30) → (iv_s4 (s'.1 96) (x1 + 5)) → (16 - x2).toNat < M40 → X40 x2 s') (hM40 : (16 - x2).toNat ≤ M40) (hI : iv_A s.1 s.2.2) (bx1 : 278 ≤ x1 ∧ x1 ≤ 1496) (bx2 : 0 ≤ x2 ∧ x2 ≤ 16) (kv0 : x1 = 278 + 42 * s.1 96 9) (kv1 : s.1 96 9 < 30) (kv2 : iv_s4 (s.1 96) (x1 + 5)) : fm_238_p40 Q x1 X40 x2 s := by
  unfold fm_238_p40
  have b6 : 0 ≤ s.1 96 1 ∧ s.1 96 1 ≤ 16 := iv_rd96 hI (iv_fd6ad3e54 (by omega))
  have b7 : s.1 96 1 ≤ 0 ∨ 0 < s.1 96 0 := (show s.1 96 1 ≤ 0 ∨ 0 < s.1 96 0 from iv_l96_1 hI)
  refine ⟨(show lf_R x2 from lf_Rof (by omega)), ?_⟩
  refine ⟨(show lf_R (s.1 96 1) from lf_Rof (by omega)), ?_⟩
  refine ⟨fun c8 => ?_, fun c8 => ?_⟩
  · skip
    replace c8 : s.1 96 1 ≤ x2 := c8
    refine ⟨(show (0 : Int) ≤ x1 + 3 ∧ x1 + 3 < (1538 : Int) from by omega), ?_⟩
    have b9 : (-2147483648) ≤ s.1 96 (x1 + 3) ∧ s.1 96 (x1 + 3) ≤ 2147483647 := iv_full hI
    have hI10 : iv_A (lf_up s.1 96 3 (s.1 96 (x1 + 3))) s.2.2 := iv_wd96 hI (lf_le2 (iv_f0d376a7e (by omega)) (by omega)) (fun h => absurd h (by omega))
    have fr11 : lf_fq [96, 1004, 1005, 1006] 3 true s.1 s.2.2 (lf_up s.1 96 3 (s.1 96 (x1 + 3))) s.2.2 := lf_fq_up (lf_fq_rf) rfl (fun _ => ⟨by omega, fr_o (Or.inr (fr_n0 (by omega))) (Or.inr (fr_n1 (by omega))) (Or.inr (fr_n2 (by omega))) (Or.inr (fr_n3 (by omega))) (Or.inl rfl) (Or.inl rfl) (Or.inl rfl)⟩)
    refine ⟨(show (0 : Int) ≤ x1 + 4 ∧ x1 + 4 < (1538 : Int) from by omega), ?_⟩
    have b12 : 0 ≤ (lf_up s.1 96 3 (s.1 96 (x1 + 3))) 96 (x1 + 4) ∧ (lf_up s.1 96 3 (s.1 96 (x1 + 3))) 96 (x1 + 4) ≤ 30202 := iv_rd96 hI10 (iv_f9b216bdd (s.1 96 9) (by omega) (by omega))
    have b13 : (lf_up s.1 96 3 (s.1 96 (x1 + 3))) 96 (x1 + 4) = s.1 96 (x1 + 4) := lf_up_i (by omega)
    have hI14 : iv_A (lf_up (lf_up s.1 96 3 (s.1 96 (x1 + 3))) 96 6 ((lf_up s.1 96 3 (s.1 96 (x1 + 3))) 96 (x1 + 4))) s.2.2 := iv_wd96 hI10 (lf_le2 (iv_fee3e924e (by omega)) (by omega)) (fun h => absurd h (by omega))
    have fr15 : lf_fq [96, 1004, 1005, 1006] 3 true s.1 s.2.2 (lf_up (lf_up s.1 96 3 (s.1 96 (x1 + 3))) 96 6 ((lf_up s.1 96 3 (s.1 96 (x1 + 3))) 96 (x1 + 4))) s.2.2 := lf_fq_up fr11 rfl (fun _ => ⟨by omega, fr_o (Or.inr (fr_n0 (by omega))) (Or.inr (fr_n1 (by omega))) (Or.inr (fr_n2 (by omega))) (Or.inr (fr_n3 (by omega))) (Or.inl rfl) (Or.inl rfl) (Or.inl rfl)⟩)
    have b16 : 0 ≤ s.1 96 9 ∧ s.1 96 9 ≤ 30 := (show 0 ≤ (lf_up (lf_up s.1 96 3 (s.1 96 (x1 + 3))) 96 6 ((lf_up s.1 96 3 (s.1 96 (x1 + 3))) 96 (x1 + 4))) 96 9 ∧ (lf_up (lf_up s.1 96 3 (s.1 96 (x1 + 3))) 96 6 ((lf_up s.1 96 3 (s.1 96 (x1 + 3))) 96 (x1 + 4))) 96 9 ≤ 30 from iv_rd96 hI14 (iv_fb9711825 (by omega)))
    have b17 : (lf_up (lf_up s.1 96 3 (s.1 96 (x1 + 3))) 96 6 ((lf_up s.1 96 3 (s.1 96 (x1 + 3))) 96 (x1 + 4))) 96 9 = (lf_up s.1 96 3 (s.1 96 (x1 + 3))) 96 9 := lf_up_i (by omega)
    have b18 : (lf_up s.1 96 3 (s.1 96 (x1 + 3))) 96 9 = s.1 96 9 := lf_up_i (by omega)
    have b19 : iv_s4 (((lf_up (lf_up s.1 96 3 (s.1 96 (x1 + 3))) 96 6 ((lf_up s.1 96 3 (s.1 96 (x1 + 3))) 96 (x1 + 4))) 96)) (x1 + 5) := by first | with_reducible assumption | (repeat first | with_reducible assumption | refine iv_s4u ?_ (fun j hj => lf_up_i hj) (by omega))
    exact sm_238_p132L (fun r9 t9 i9 f9 => hQ r9 t9 i9 (lf_fq_tr fr15 f9)) hI14 (show (278 : Int) ≤ x1 ∧ x1 ≤ (1496 : Int) from by omega) (show (0 : Int) ≤ 0 ∧ 0 ≤ (12 : Int) from by omega) (show x1 = 278 + 42 * (s.1 96 9) from by omega) (show (s.1 96 9) < 30 from by omega) (show iv_s4 (((lf_up (lf_up s.1 96 3 (s.1 96 (x1 + 3))) 96 6 ((lf_up s.1 96 3 (s.1 96 (x1 + 3))) 96 (x1 + 4))) 96)) (x1 + 5) from by first | with_reducible assumption | assumption) (show 0 = 0 from by omega)
  · skip
    replace c8 : ¬ (s.1 96 1 ≤ x2) := c8
    refine ⟨(show (0 : Int) ≤ x1 + 1 ∧ x1 + 1 < (1538 : Int) from by omega), ?_⟩
    have b65 : (-2147483648) ≤ s.1 96 (x1 + 1) ∧ s.1 96 (x1 + 1) ≤ 2147483647 := iv_full hI
    refine ⟨(show lf_R (s.1 96 (x1 + 1)) from lf_Rof (by omega)), ?_⟩
    refine ⟨fun c66 => ?_, fun c66 => ?_⟩
    · skip
      replace c66 : s.1 96 (x1 + 1) ≤ x2 := c66
      have b67 : 0 ≤ s.1 96 9 ∧ s.1 96 9 ≤ 30 := iv_rd96 hI (iv_fb9711825 (by omega))
      exact sm_238_p89 hQ hX40 (show (16 - x2).toNat ≤ M40 from by omega) hI (show (278 : Int) ≤ x1 ∧ x1 ≤ (1496 : Int) from by omega) (show (0 : Int) ≤ x2 ∧ x2 ≤ (15 : Int) from by omega) (show (53 : Int) ≤ (50 + (4 * x2)) + 3 ∧ (50 + (4 * x2)) + 3 ≤ (113 : Int) from by omega) (show x1 = 278 + 42 * (s.1 96 9) from by omega) (show (s.1 96 9) < 30 from by omega) (show iv_s4 ((s.1 96)) (x1 + 5) from by first | with_reducible assumption | assumption) (show ((50 + (4 * x2)) + 3) = 50 + 4 * x2 + 3 from by omega)
    · skip
      replace c66 : ¬ (s.1 96 (x1 + 1) ≤ x2) := c66
      refine ⟨(show (0 : Int) ≤ x1 + 2 ∧ x1 + 2 < (1538 : Int) from by omega), ?_⟩
      have b74 : (-2147483648) ≤ s.1 96 (x1 + 2) ∧ s.1 96 (x1 + 2) ≤ 2147483647 := iv_full hI
      refine sm_210 hI (show (-2147483648 : Int) ≤ s.1 96 (x1 + 2) ∧ s.1 96 (x1 + 2) ≤ (2147483647 : Int) from by omega) (show (-1 : Int) ≤ x2 ∧ x2 ≤ (15 : Int) from by omega) (fun z51 q75 => ?_)
      refine ⟨fun c76 => ?_, fun c76 => ?_⟩
      · skip
        have dc76 := q75.2 c76
        have b77 : 0 ≤ s.1 96 9 ∧ s.1 96 9 ≤ 30 := iv_rd96 hI (iv_fb9711825 (by omega))
        exact sm_238_p94 hQ hX40 (show (16 - x2).toNat ≤ M40 from by omega) hI (show (278 : Int) ≤ x1 ∧ x1 ≤ (1496 : Int) from by omega) (show (0 : Int) ≤ x2 ∧ x2 ≤ (15 : Int) from by omega) (show (53 : Int) ≤ (50 + (4 * x2)) + 3 ∧ (50 + (4 * x2)) + 3 ≤ (113 : Int) from by omega) (show (0 : Int) ≤ 0 ∧ 0 ≤ (1 : Int) from by omega) (show x1 = 278 + 42 * (s.1 96 9) from by omega) (show (s.1 96 9) < 30 from by omega) (show iv_s4 ((s.1 96)) (x1 + 5) from by first | with_reducible assumption | assumption) (show ((50 + (4 * x2)) + 3) = 50 + 4 * x2 + 3 from by omega)
      · skip
        have dc76 := q75.1 c76
        have b78 : 0 ≤ s.1 96 9 ∧ s.1 96 9 ≤ 30 := iv_rd96 hI (iv_fb9711825 (by omega))
        exact sm_238_p89 hQ hX40 (show (16 - x2).toNat ≤ M40 from by omega) hI (show (278 : Int) ≤ x1 ∧ x1 ≤ (1496 : Int) from by omega) (show (0 : Int) ≤ x2 ∧ x2 ≤ (15 : Int) from by omega) (show (53 : Int) ≤ (50 + (4 * x2)) + 3 ∧ (50 + (4 * x2)) + 3 ≤ (113 : Int) from by omega) (show x1 = 278 + 42 * (s.1 96 9) from by omega) (show (s.1 96 9) < 30 from by omega) (show iv_s4 ((s.1 96)) (x1 + 5) from by first | with_reducible assumption | assumption) (show ((50 + (4 * x2)) + 3) = 50 + 4 * x2 + 3 from by omega)
theorem sm_238_p40L {Q : Int → lf_Z → Prop} {x1 : Int} {x2 : Int} {s : lf_Z} (hQ : ∀ (r : Int) (s' : lf_Z), iv_A s'.1 s'.2.2 → lf_fq [96, 1004, 1005, 1006] 3 true s.1 s.2.2 s'.1 s'.2.2 → ((-1) ≤ r ∧ r ≤ 29) → Q r s') (hI : iv_A s.1 s.2.2) (bx1 : 278 ≤ x1 ∧ x1 ≤ 1496) (bx2 : 0 ≤ x2 ∧ x2 ≤ 16) (kv0 : x1 = 278 + 42 * s.1 96 9) (kv1 : s.1 96 9 < 30) (kv2 : iv_s4 (s.1 96) (x1 + 5)) : fm_238_p40L Q x1 x2 s := by
  intro X40 hX
  have key : ∀ (m9 : Nat) (x2 : Int) (s' : lf_Z), iv_A s'.1 s'.2.2 → lf_fq [96, 1004, 1005, 1006] 3 true s.1 s.2.2 s'.1 s'.2.2 → 0 ≤ x2 ∧ x2 ≤ 16 → (x1 = 278 + 42 * s'.1 96 9) → (s'.1 96 9 < 30) → (iv_s4 (s'.1 96) (x1 + 5)) → (16 - x2).toNat < m9 → X40 x2 s' := by
    intro m9
    induction m9 with
    | zero => intro x2 s' _ _ bx2 kv0 kv1 kv2 h9; exact absurd h9 (Nat.not_lt_zero _)
    | succ m9 ih => intro x2 s' i7 f7 bx2 kv0 kv1 kv2 h9; exact hX _ _ (sm_238_p40 (fun r9 t9 i9 f9 => hQ r9 t9 i9 (lf_fq_tr f7 f9))   (fun x2' t8 i8 f8 bx2' kv0' kv1' kv2' h8 => ih x2' t8 i8 (lf_fq_tr f7 f8) bx2' kv0' kv1' kv2' (by omega)) (Nat.le_refl _)  i7  bx1 bx2  kv0 kv1 kv2)
  exact key _ _ s hI lf_fq_rf bx2 kv0 kv1 kv2 (Nat.lt_succ_self _)
theorem sm_238 {Q : Int → lf_Z → Prop} {s : lf_Z} (hI : iv_A s.1 s.2.2) (hQ : ∀ (r : Int) (s' : lf_Z), iv_A s'.1 s'.2.2 → lf_fq [96, 1004, 1005, 1006] 3 true s.1 s.2.2 s'.1 s'.2.2 → ((-1) ≤ r ∧ r ≤ 29) → Q r s') : fm_238 Q s := by
  unfold fm_238
  have b1 : 0 ≤ s.1 96 9 ∧ s.1 96 9 ≤ 30 := iv_rd96 hI (iv_fb9711825 (by omega))
  refine ⟨(show lf_R (s.1 96 9) from lf_Rof (by omega)), ?_⟩
  refine ⟨fun c2 => ?_, fun c2 => ?_⟩
  · skip
    replace c2 : s.1 96 9 ≠ 0 := c2
    have hI3 : iv_A (lf_up s.1 96 9 ((s.1 96 9) - 1)) s.2.2 := iv_wd96 hI (lf_le2 (iv_f894cccb4 (by omega)) (by omega)) (fun _ => by first | exact iv_rel9 hI (by omega) | exact iv_rel9u hI (by omega) (by assumption))
    have fr4 : lf_fq [96, 1004, 1005, 1006] 3 true s.1 s.2.2 (lf_up s.1 96 9 ((s.1 96 9) - 1)) s.2.2 := lf_fq_up (lf_fq_rf) rfl (fun _ => ⟨by omega, fr_o (Or.inr (fr_n0 (by omega))) (Or.inr (fr_n1 (by omega))) (Or.inr (fr_n2 (by omega))) (Or.inr (fr_n3 (by omega))) (Or.inl rfl) (Or.inl rfl) (Or.inl rfl)⟩)
    have b5 : iv_s4 (((lf_up s.1 96 9 ((s.1 96 9) - 1)) 96)) ((278 + (42 * ((s.1 96 9) - 1))) + 5) := by first | with_reducible assumption | exact iv_s4u (iv_s4e (iv_szR hI (r := s.1 96 9 - 1) (by omega) (by omega)) (by omega)) (fun j hj => lf_up_i hj) (by omega) | (repeat first | with_reducible assumption | refine iv_s4u ?_ (fun j hj => lf_up_i hj) (by omega))
    exact sm_238_p40L (fun r9 t9 i9 f9 => hQ r9 t9 i9 (lf_fq_tr fr4 f9)) hI3 (show (278 : Int) ≤ 278 + (42 * ((s.1 96 9) - 1)) ∧ 278 + (42 * ((s.1 96 9) - 1)) ≤ (1496 : Int) from by omega) (show (0 : Int) ≤ 0 ∧ 0 ≤ (16 : Int) from by omega) (show (278 + (42 * ((s.1 96 9) - 1))) = 278 + 42 * ((s.1 96 9) - 1) from by omega) (show ((s.1 96 9) - 1) < 30 from by omega) (show iv_s4 (((lf_up s.1 96 9 ((s.1 96 9) - 1)) 96)) ((278 + (42 * ((s.1 96 9) - 1))) + 5) from by first | with_reducible assumption | assumption)
  · skip
    replace c2 : ¬ (s.1 96 9 ≠ 0) := c2
    exact hQ (-1) s hI (lf_fq_rf) (show (-1 : Int) ≤ (-1) ∧ (-1) ≤ (29 : Int) from by omega)
-- fm_110 ElevenBullocks.bunch 0 i i
theorem sm_110 {a1 : Int} {a2 : Int} {Q : Int → lf_Z → Prop} {s : lf_Z} (hI : iv_A s.1 s.2.2) (ba1 : (-2147483648) ≤ a1 ∧ a1 ≤ 2147483647) (ba2 : (-2147483648) ≤ a2 ∧ a2 ≤ 2147483647) (hQ : ∀ (r : Int) (s' : lf_Z), iv_A s'.1 s'.2.2 → lf_fq [63, 64, 65, 66] 1000000 true s.1 s.2.2 s'.1 s'.2.2 → ((-2147483648) ≤ r ∧ r ≤ 2147483647) → Q r s') : fm_110 a1 a2 Q s := by
  unfold fm_110
  refine sm_15 hI (show (-2147483648 : Int) ≤ a1 ∧ a1 ≤ (2147483647 : Int) from by omega) (show (-1 : Int) ≤ 0 ∧ 0 ≤ (99 : Int) from by omega) (show (-2147483648 : Int) ≤ 3 ∧ 3 ≤ (2147483647 : Int) from by omega) (fun z22 q1 => ?_)
  refine ⟨fun c2 => ?_, fun c2 => ?_⟩
  · skip
    have dc2 := q1.2 c2
    exact hQ (-2) s hI (lf_fq_rf) (show (-2147483648 : Int) ≤ (-2) ∧ (-2) ≤ (2147483647 : Int) from by omega)
  · skip
    have dc2 := q1.1 c2
    refine sm_15 hI (show (-2147483648 : Int) ≤ a2 ∧ a2 ≤ (2147483647 : Int) from by omega) (show (-1 : Int) ≤ 0 ∧ 0 ≤ (99 : Int) from by omega) (show (-2147483648 : Int) ≤ 3 ∧ 3 ≤ (2147483647 : Int) from by omega) (fun z24 q3 => ?_)
    refine ⟨fun c4 => ?_, fun c4 => ?_⟩
    · skip
      have dc4 := q3.1 c4
      refine ⟨(show lf_R a2 from lf_Rof (by omega)), ?_⟩
      refine ⟨fun c5 => ?_, fun c5 => ?_⟩
      · skip
        replace c5 : a2 ≠ 0 := c5
        refine ⟨(show (0 : Int) ≤ a1 ∧ a1 < (4 : Int) from by omega), ?_⟩
        have b6 : (-2147483648) ≤ s.1 16 a1 ∧ s.1 16 a1 ≤ 2147483647 := iv_full hI
        refine ⟨(show lf_R (s.1 16 a1) from lf_Rof (by omega)), ?_⟩
        refine ⟨fun c7 => ?_, fun c7 => ?_⟩
        · skip
          replace c7 : s.1 16 a1 ≠ 0 := c7
          refine ⟨fun c8 => ?_, fun c8 => ?_⟩
          · skip
            replace c8 : a2 ≠ 3 := c8
            refine ⟨fun c9 => ?_, fun c9 => ?_⟩
            · skip
              replace c9 : a2 ≠ 1 := c9
              have b10 : (-1) ≤ s.1 18 a1 ∧ s.1 18 a1 ≤ 11 := iv_r18 hI _
              exact hQ (s.1 18 a1) s hI (lf_fq_rf) (show (-2147483648 : Int) ≤ s.1 18 a1 ∧ s.1 18 a1 ≤ (2147483647 : Int) from by omega)
            · skip
              replace c9 : ¬ (a2 ≠ 1) := c9
              have b11 : (-1) ≤ s.1 17 a1 ∧ s.1 17 a1 ≤ 11 := iv_r17 hI _
              have b12 : s.1 16 a1 ≤ 0 ∨ 0 ≤ s.1 17 a1 := (by first | exact (show s.1 16 a1 ≤ 0 ∨ 0 ≤ s.1 17 a1 from iv_sp hI (by omega) (by omega)) | exact iv_sp hI (by omega) (by omega))
              exact hQ (s.1 17 a1) s hI (lf_fq_rf) (show (-2147483648 : Int) ≤ s.1 17 a1 ∧ s.1 17 a1 ≤ (2147483647 : Int) from by omega)
          · skip
            replace c8 : ¬ (a2 ≠ 3) := c8
            refine sm_81 hI (show (0 : Int) ≤ a1 ∧ a1 ≤ (3 : Int) from by omega) (fun r29 s28 hI14 fr13 q15 => ?_)
            have fr16 : lf_fq [63, 64, 65, 66] 1000000 true s.1 s.2.2 s28.1 s28.2.2 := lf_fq_tr (lf_fq_rf) (lf_fq_wk fr13 rfl (by decide) (by decide))
            exact hQ r29 s28 hI14 fr16 (show (-2147483648 : Int) ≤ r29 ∧ r29 ≤ (2147483647 : Int) from by omega)
        · skip
          replace c7 : ¬ (s.1 16 a1 ≠ 0) := c7
          exact hQ (-1) s hI (lf_fq_rf) (show (-2147483648 : Int) ≤ (-1) ∧ (-1) ≤ (2147483647 : Int) from by omega)
      · skip
        replace c5 : ¬ (a2 ≠ 0) := c5
        refine ⟨(show (0 : Int) ≤ a1 ∧ a1 < (4 : Int) from by omega), ?_⟩
        have b17 : (-2147483648) ≤ s.1 16 a1 ∧ s.1 16 a1 ≤ 2147483647 := iv_full hI
        exact hQ (s.1 16 a1) s hI (lf_fq_rf) (show (-2147483648 : Int) ≤ s.1 16 a1 ∧ s.1 16 a1 ≤ (2147483647 : Int) from by omega)
    · skip
      have dc4 := q3.2 c4
      exact hQ (-2) s hI (lf_fq_rf) (show (-2147483648 : Int) ≤ (-2) ∧ (-2) ≤ (2147483647 : Int) from by omega)
-- fm_284 Model.bunch 95 i i
theorem sm_284 {a1 : Int} {a2 : Int} {Q : Int → lf_Z → Prop} {s : lf_Z} (hI : iv_A s.1 s.2.2) (ba1 : (-2147483648) ≤ a1 ∧ a1 ≤ 2147483647) (ba2 : (-2147483648) ≤ a2 ∧ a2 ≤ 2147483647) (hQ : ∀ (r : Int) (s' : lf_Z), iv_A s'.1 s'.2.2 → lf_fq [104, 107] 1000000 true s.1 s.2.2 s'.1 s'.2.2 → ((-2) ≤ r ∧ r ≤ 100) → Q r s') : fm_284 a1 a2 Q s := by
  unfold fm_284
  refine sm_183 hI (show (-2147483648 : Int) ≤ a1 ∧ a1 ≤ (2147483647 : Int) from by omega) (show (-1 : Int) ≤ 0 ∧ 0 ≤ (97 : Int) from by omega) (show (-1 : Int) ≤ 3 ∧ 3 ≤ (9999 : Int) from by omega) (fun z22 q1 => ?_)
  refine ⟨fun c2 => ?_, fun c2 => ?_⟩
  · skip
    have dc2 := q1.2 c2
    exact hQ (-2) s hI (lf_fq_rf) (show (-2 : Int) ≤ (-2) ∧ (-2) ≤ (100 : Int) from by omega)
  · skip
    have dc2 := q1.1 c2
    refine sm_183 hI (show (-2147483648 : Int) ≤ a2 ∧ a2 ≤ (2147483647 : Int) from by omega) (show (-1 : Int) ≤ 0 ∧ 0 ≤ (97 : Int) from by omega) (show (-1 : Int) ≤ 3 ∧ 3 ≤ (9999 : Int) from by omega) (fun z24 q3 => ?_)
    refine ⟨fun c4 => ?_, fun c4 => ?_⟩
    · skip
      have dc4 := q3.1 c4
      refine ⟨(show lf_R a2 from lf_Rof (by omega)), ?_⟩
      refine ⟨fun c5 => ?_, fun c5 => ?_⟩
      · skip
        replace c5 : a2 ≠ 0 := c5
        refine sm_242 hI (show (0 : Int) ≤ a1 ∧ a1 ≤ (3 : Int) from by omega) (fun r27 q6 => ?_)
        obtain ⟨q6, q6x⟩ := q6
        replace q6x : r27 = s.1 96 (114 + 3 * a1) := q6x
        refine ⟨(show lf_R r27 from lf_Rof (by omega)), ?_⟩
        refine ⟨fun c7 => ?_, fun c7 => ?_⟩
        · skip
          replace c7 : r27 ≠ 0 := c7
          refine ⟨fun c8 => ?_, fun c8 => ?_⟩
          · skip
            replace c8 : a2 ≠ 1 := c8
            refine ⟨fun c9 => ?_, fun c9 => ?_⟩
            · skip
              replace c9 : a2 ≠ 2 := c9
              refine sm_263 hI (show (0 : Int) ≤ a1 ∧ a1 ≤ (3 : Int) from by omega) (fun r30 s29 hI11 fr10 q12 => ?_)
              have fr13 : lf_fq [104, 107] 1000000 true s.1 s.2.2 s29.1 s29.2.2 := lf_fq_tr (lf_fq_rf) (lf_fq_wk fr10 rfl (by decide) (by decide))
              exact hQ r30 s29 hI11 fr13 (show (-2 : Int) ≤ r30 ∧ r30 ≤ (100 : Int) from by omega)
            · skip
              replace c9 : ¬ (a2 ≠ 2) := c9
              refine sm_256 hI (show (0 : Int) ≤ a1 ∧ a1 ≤ (3 : Int) from by omega) (fun r32 q14 => ?_)
              exact hQ r32 s hI (lf_fq_rf) (show (-2 : Int) ≤ r32 ∧ r32 ≤ (100 : Int) from by omega)
          · skip
            replace c8 : ¬ (a2 ≠ 1) := c8
            refine sm_255 hI (show (0 : Int) ≤ a1 ∧ a1 ≤ (3 : Int) from by omega) (fun r34 q15 => ?_)
            exact hQ r34 s hI (lf_fq_rf) (show (-2 : Int) ≤ r34 ∧ r34 ≤ (100 : Int) from by omega)
        · skip
          replace c7 : ¬ (r27 ≠ 0) := c7
          exact hQ (-1) s hI (lf_fq_rf) (show (-2 : Int) ≤ (-1) ∧ (-1) ≤ (100 : Int) from by omega)
      · skip
        replace c5 : ¬ (a2 ≠ 0) := c5
        refine sm_242 hI (show (0 : Int) ≤ a1 ∧ a1 ≤ (3 : Int) from by omega) (fun r36 q16 => ?_)
        obtain ⟨q16, q16x⟩ := q16
        replace q16x : r36 = s.1 96 (114 + 3 * a1) := q16x
        exact hQ r36 s hI (lf_fq_rf) (show (-2 : Int) ≤ r36 ∧ r36 ≤ (100 : Int) from by omega)
    · skip
      have dc4 := q3.2 c4
      exact hQ (-2) s hI (lf_fq_rf) (show (-2 : Int) ≤ (-2) ∧ (-2) ≤ (100 : Int) from by omega)
-- fm_111 ElevenBullocks.ofPerson 0 i i
theorem sm_111 {a1 : Int} {a2 : Int} {Q : Int → lf_Z → Prop} {s : lf_Z} (hI : iv_A s.1 s.2.2) (ba1 : (-2147483648) ≤ a1 ∧ a1 ≤ 2147483647) (ba2 : (-2147483648) ≤ a2 ∧ a2 ≤ 2147483647) (hQ : ∀ (r : Int), ((-2147483648) ≤ r ∧ r ≤ 2147483647) → Q r s) : fm_111 a1 a2 Q s := by
  unfold fm_111
  refine sm_99 hI (show (-2147483648 : Int) ≤ a1 ∧ a1 ≤ (2147483647 : Int) from by omega) (fun z22 q1 => ?_)
  have b2 : 0 ≤ s.1 1 2 ∧ s.1 1 2 ≤ 6 := iv_r1_2 hI
  refine ⟨fun c3 => ?_, fun c3 => ?_⟩
  · skip
    have dc3 := q1.1 c3
    refine ⟨(show lf_R a2 from lf_Rof (by omega)), ?_⟩
    refine ⟨fun c4 => ?_, fun c4 => ?_, fun c4 => ?_, fun c4 => ?_, fun c4 => ?_, fun c4 => ?_⟩
    · replace c4 : a2 < 0 ∨ 4 < a2 := c4
      exact hQ (-2) (show (-2147483648 : Int) ≤ (-2) ∧ (-2) ≤ (2147483647 : Int) from by omega)
    · replace c4 : a2 = 0 := c4
      refine ⟨(show (0 : Int) ≤ a1 ∧ a1 < (6 : Int) from by omega), ?_⟩
      have b5 : 0 ≤ s.1 7 a1 ∧ s.1 7 a1 ≤ 9 := iv_r7 hI _
      exact hQ (s.1 7 a1) (show (-2147483648 : Int) ≤ s.1 7 a1 ∧ s.1 7 a1 ≤ (2147483647 : Int) from by omega)
    · replace c4 : a2 = 1 := c4
      refine ⟨(show (0 : Int) ≤ a1 ∧ a1 < (6 : Int) from by omega), ?_⟩
      have b6 : 0 ≤ s.1 8 a1 ∧ s.1 8 a1 ≤ 1 := iv_r8 hI _
      refine ⟨(show lf_R (s.1 8 a1) from lf_Rof (by omega)), ?_⟩
      refine ⟨fun c7 => ?_, fun c7 => ?_⟩
      · skip
        replace c7 : s.1 8 a1 = 0 := c7
        exact hQ 0 (show (-2147483648 : Int) ≤ 0 ∧ 0 ≤ (2147483647 : Int) from by omega)
      · skip
        replace c7 : ¬ (s.1 8 a1 = 0) := c7
        exact hQ 1 (show (-2147483648 : Int) ≤ 1 ∧ 1 ≤ (2147483647 : Int) from by omega)
    · replace c4 : a2 = 2 := c4
      refine ⟨(show (0 : Int) ≤ a1 ∧ a1 < (6 : Int) from by omega), ?_⟩
      have b8 : 0 ≤ s.1 9 a1 ∧ s.1 9 a1 ≤ 1 := iv_r9 hI _
      refine ⟨(show lf_R (s.1 9 a1) from lf_Rof (by omega)), ?_⟩
      refine ⟨fun c9 => ?_, fun c9 => ?_⟩
      · skip
        replace c9 : s.1 9 a1 = 0 := c9
        exact hQ 0 (show (-2147483648 : Int) ≤ 0 ∧ 0 ≤ (2147483647 : Int) from by omega)
      · skip
        replace c9 : ¬ (s.1 9 a1 = 0) := c9
        exact hQ 1 (show (-2147483648 : Int) ≤ 1 ∧ 1 ≤ (2147483647 : Int) from by omega)
    · replace c4 : a2 = 3 := c4
      refine ⟨(show (0 : Int) ≤ a1 ∧ a1 < (6 : Int) from by omega), ?_⟩
      have b10 : (-2147483648) ≤ s.1 19 a1 ∧ s.1 19 a1 ≤ 2147483647 := iv_full hI
      exact hQ (s.1 19 a1) (show (-2147483648 : Int) ≤ s.1 19 a1 ∧ s.1 19 a1 ≤ (2147483647 : Int) from by omega)
    · replace c4 : a2 = 4 := c4
      refine ⟨(show (0 : Int) ≤ a1 ∧ a1 < (6 : Int) from by omega), ?_⟩
      have b11 : (-2147483648) ≤ s.1 20 a1 ∧ s.1 20 a1 ≤ 2147483647 := iv_full hI
      exact hQ (s.1 20 a1) (show (-2147483648 : Int) ≤ s.1 20 a1 ∧ s.1 20 a1 ≤ (2147483647 : Int) from by omega)
  · skip
    have dc3 := q1.2 c3
    exact hQ (-2) (show (-2147483648 : Int) ≤ (-2) ∧ (-2) ≤ (2147483647 : Int) from by omega)
-- fm_285 Model.ofPerson 95 i i
theorem sm_285 {a1 : Int} {a2 : Int} {Q : Int → lf_Z → Prop} {s : lf_Z} (hI : iv_A s.1 s.2.2) (ba1 : (-2147483648) ≤ a1 ∧ a1 ≤ 2147483647) (ba2 : (-2147483648) ≤ a2 ∧ a2 ≤ 2147483647) (hQ : ∀ (r : Int), ((-2147483648) ≤ r ∧ r ≤ 2147483647) → Q r s) : fm_285 a1 a2 Q s := by
  unfold fm_285
  refine sm_249 hI (show (-2147483648 : Int) ≤ a1 ∧ a1 ≤ (2147483647 : Int) from by omega) (fun z22 q1 => ?_)
  have b2 : 0 ≤ s.1 96 2 ∧ s.1 96 2 ≤ 6 := iv_rd96 hI (iv_f2103129b (by omega))
  have b3 : s.1 96 2 ≤ 0 ∨ 0 < s.1 96 0 := (show s.1 96 2 ≤ 0 ∨ 0 < s.1 96 0 from iv_l96_2 hI)
  refine ⟨fun c4 => ?_, fun c4 => ?_⟩
  · skip
    have dc4 := q1.2 c4
    exact hQ (-2) (show (-2147483648 : Int) ≤ (-2) ∧ (-2) ≤ (2147483647 : Int) from by omega)
  · skip
    have dc4 := q1.1 c4
    refine sm_183 hI (show (-2147483648 : Int) ≤ a2 ∧ a2 ≤ (2147483647 : Int) from by omega) (show (-1 : Int) ≤ 0 ∧ 0 ≤ (97 : Int) from by omega) (show (-1 : Int) ≤ 4 ∧ 4 ≤ (9999 : Int) from by omega) (fun z24 q5 => ?_)
    refine ⟨fun c6 => ?_, fun c6 => ?_⟩
    · skip
      have dc6 := q5.2 c6
      exact hQ (-2) (show (-2147483648 : Int) ≤ (-2) ∧ (-2) ≤ (2147483647 : Int) from by omega)
    · skip
      have dc6 := q5.1 c6
      refine sm_239c hI (show (0 : Int) ≤ a1 ∧ a1 ≤ (5 : Int) from by omega) (show (0 : Int) ≤ a2 ∧ a2 ≤ (4 : Int) from by omega) (fun r26 q7 => ?_)
      obtain ⟨q7, q7x⟩ := q7
      replace q7x : r26 = s.1 96 (126 + 6 * a1 + a2) := q7x
      exact hQ r26 (show (-2147483648 : Int) ≤ r26 ∧ r26 ≤ (2147483647 : Int) from by omega)
-- fm_113 Land.bitsOfWaysAt 1 i
theorem sm_113_p4 {X4 : Int → Int → lf_Z → Prop} {Q : Int → lf_Z → Prop} {x1 : Int} {x2 : Int} {x3 : Int} {s : lf_Z} (hQ : ∀ (r : Int), ((-2147483648) ≤ r ∧ r ≤ 2147483647) → Q r s) {M4 : Nat} (hX4 : ∀ (x2 : Int) (x3 : Int), (-2147483648) ≤ x2 ∧ x2 ≤ 2147483647 → 0 ≤ x3 ∧ x3 ≤ 4 → (4 - x3).toNat < M4 → X4 x2 x3 s) (hM4 : (4 - x3).toNat ≤ M4) (hI : iv_A s.1 s.2.2) (bx1 : 0 ≤ x1 ∧ x1 ≤ 11) (bx2 : (-2147483648) ≤ x2 ∧ x2 ≤ 2147483647) (bx3 : 0 ≤ x3 ∧ x3 ≤ 4) : fm_113_p4 Q x1 X4 x2 x3 s := by
  unfold fm_113_p4
  refine sm_76 hI (show (-2147483648 : Int) ≤ x1 ∧ x1 ≤ (2147483647 : Int) from by omega) (fun r22 q1 => ?_)
  refine ⟨(show lf_R x3 from lf_Rof (by omega)), ?_⟩
  refine ⟨(show lf_R r22 from lf_Rof (by omega)), ?_⟩
  refine ⟨fun c2 => ?_, fun c2 => ?_⟩
  · skip
    replace c2 : r22 ≤ x3 := c2
    exact hQ x2 (show (-2147483648 : Int) ≤ x2 ∧ x2 ≤ (2147483647 : Int) from by omega)
  · skip
    replace c2 : ¬ (r22 ≤ x3) := c2
    refine sm_77 hI (show (-2147483648 : Int) ≤ x1 ∧ x1 ≤ (2147483647 : Int) from by omega) (show (0 : Int) ≤ x3 ∧ x3 ≤ (3 : Int) from by omega) (fun r26 q3 => ?_)
    have b4 : (-2147483648) ≤ lf_shl 1 r26 ∧ lf_shl 1 r26 ≤ 2147483647 := lf_shlB
    have b5 : (-2147483648) ≤ lf_or x2 (lf_shl 1 r26) ∧ lf_or x2 (lf_shl 1 r26) ≤ 2147483647 := lf_orB
    exact hX4 (lf_or x2 (lf_shl 1 r26)) (x3 + 1) (show (-2147483648 : Int) ≤ lf_or x2 (lf_shl 1 r26) ∧ lf_or x2 (lf_shl 1 r26) ≤ (2147483647 : Int) from by omega) (show (0 : Int) ≤ x3 + 1 ∧ x3 + 1 ≤ (4 : Int) from by omega) (show (4 - (x3 + 1)).toNat < M4 from by omega)
theorem sm_113_p4L {Q : Int → lf_Z → Prop} {x1 : Int} {x2 : Int} {x3 : Int} {s : lf_Z} (hQ : ∀ (r : Int), ((-2147483648) ≤ r ∧ r ≤ 2147483647) → Q r s) (hI : iv_A s.1 s.2.2) (bx1 : 0 ≤ x1 ∧ x1 ≤ 11) (bx2 : (-2147483648) ≤ x2 ∧ x2 ≤ 2147483647) (bx3 : 0 ≤ x3 ∧ x3 ≤ 4) : fm_113_p4L Q x1 x2 x3 s := by
  intro X4 hX
  have key : ∀ (m9 : Nat) (x2 : Int) (x3 : Int), (-2147483648) ≤ x2 ∧ x2 ≤ 2147483647 → 0 ≤ x3 ∧ x3 ≤ 4 → (4 - x3).toNat < m9 → X4 x2 x3 s := by
    intro m9
    induction m9 with
    | zero => intro x2 x3 bx2 bx3 h9; exact absurd h9 (Nat.not_lt_zero _)
    | succ m9 ih => intro x2 x3 bx2 bx3 h9; exact hX _ _ _ (sm_113_p4 hQ   (fun x2' x3' bx2' bx3' h8 => ih x2' x3' bx2' bx3' (by omega)) (Nat.le_refl _)  hI  bx1 bx2 bx3  )
  exact key _ _ _ bx2 bx3   (Nat.lt_succ_self _)
theorem sm_113 {a1 : Int} {Q : Int → lf_Z → Prop} {s : lf_Z} (hI : iv_A s.1 s.2.2) (ba1 : 0 ≤ a1 ∧ a1 ≤ 11) (hQ : ∀ (r : Int), ((-2147483648) ≤ r ∧ r ≤ 2147483647) → Q r s) : fm_113 a1 Q s := by
  unfold fm_113
  exact sm_113_p4L hQ hI (show (0 : Int) ≤ a1 ∧ a1 ≤ (11 : Int) from by omega) (show (-2147483648 : Int) ≤ 0 ∧ 0 ≤ (2147483647 : Int) from by omega) (show (0 : Int) ≤ 0 ∧ 0 ≤ (4 : Int) from by omega)
-- fm_112 ElevenBullocks.ofStretch 0 i i
theorem sm_112 {a1 : Int} {a2 : Int} {Q : Int → lf_Z → Prop} {s : lf_Z} (hI : iv_A s.1 s.2.2) (ba1 : (-2147483648) ≤ a1 ∧ a1 ≤ 2147483647) (ba2 : (-2147483648) ≤ a2 ∧ a2 ≤ 2147483647) (hQ : ∀ (r : Int), ((-2147483648) ≤ r ∧ r ≤ 2147483647) → Q r s) : fm_112 a1 a2 Q s := by
  unfold fm_112
  refine sm_18 hI (show (-2147483648 : Int) ≤ a1 ∧ a1 ≤ (2147483647 : Int) from by omega) (fun z22 q1 => ?_)
  have b2 : 0 ≤ s.1 1 0 ∧ s.1 1 0 ≤ 12 := iv_r1_0 hI
  refine ⟨fun c3 => ?_, fun c3 => ?_⟩
  · skip
    have dc3 := q1.1 c3
    refine ⟨(show lf_R a2 from lf_Rof (by omega)), ?_⟩
    refine ⟨fun c4 => ?_, fun c4 => ?_, fun c4 => ?_, fun c4 => ?_, fun c4 => ?_⟩
    · replace c4 : a2 < 0 ∨ 3 < a2 := c4
      exact hQ (-1) (show (-2147483648 : Int) ≤ (-1) ∧ (-1) ≤ (2147483647 : Int) from by omega)
    · replace c4 : a2 = 0 := c4
      refine ⟨(show (0 : Int) ≤ a1 ∧ a1 < (12 : Int) from by omega), ?_⟩
      have b5 : 0 ≤ s.1 2 a1 ∧ s.1 2 a1 ≤ 3 := iv_r2 hI _
      exact hQ (s.1 2 a1) (show (-2147483648 : Int) ≤ s.1 2 a1 ∧ s.1 2 a1 ≤ (2147483647 : Int) from by omega)
    · replace c4 : a2 = 1 := c4
      refine ⟨(show (0 : Int) ≤ a1 ∧ a1 < (12 : Int) from by omega), ?_⟩
      have b6 : 0 ≤ s.1 3 a1 ∧ s.1 3 a1 ≤ 99 := iv_r3 hI _
      exact hQ (s.1 3 a1) (show (-2147483648 : Int) ≤ s.1 3 a1 ∧ s.1 3 a1 ≤ (2147483647 : Int) from by omega)
    · replace c4 : a2 = 2 := c4
      refine ⟨(show (0 : Int) ≤ a1 ∧ a1 < (12 : Int) from by omega), ?_⟩
      have b7 : (-2147483648) ≤ s.1 21 a1 ∧ s.1 21 a1 ≤ 2147483647 := iv_full hI
      exact hQ (s.1 21 a1) (show (-2147483648 : Int) ≤ s.1 21 a1 ∧ s.1 21 a1 ≤ (2147483647 : Int) from by omega)
    · replace c4 : a2 = 3 := c4
      refine sm_113 hI (show (0 : Int) ≤ a1 ∧ a1 ≤ (11 : Int) from by omega) (fun r28 q8 => ?_)
      exact hQ r28 (show (-2147483648 : Int) ≤ r28 ∧ r28 ≤ (2147483647 : Int) from by omega)
  · skip
    have dc3 := q1.2 c3
    exact hQ (-1) (show (-2147483648 : Int) ≤ (-1) ∧ (-1) ≤ (2147483647 : Int) from by omega)
-- fm_286 Model.ofStretch 95 i i
theorem sm_286 {a1 : Int} {a2 : Int} {Q : Int → lf_Z → Prop} {s : lf_Z} (hI : iv_A s.1 s.2.2) (ba1 : (-2147483648) ≤ a1 ∧ a1 ≤ 2147483647) (ba2 : (-2147483648) ≤ a2 ∧ a2 ≤ 2147483647) (hQ : ∀ (r : Int), ((-2147483648) ≤ r ∧ r ≤ 2147483647) → Q r s) : fm_286 a1 a2 Q s := by
  unfold fm_286
  refine sm_185 hI (show (-2147483648 : Int) ≤ a1 ∧ a1 ≤ (2147483647 : Int) from by omega) (fun z22 q1 => ?_)
  have b2 : 0 ≤ s.1 96 0 ∧ s.1 96 0 ≤ 12 := iv_rd96 hI (iv_f3e1fa21c (by omega))
  refine ⟨fun c3 => ?_, fun c3 => ?_⟩
  · skip
    have dc3 := q1.2 c3
    exact hQ (-1) (show (-2147483648 : Int) ≤ (-1) ∧ (-1) ≤ (2147483647 : Int) from by omega)
  · skip
    have dc3 := q1.1 c3
    refine sm_183 hI (show (-2147483648 : Int) ≤ a2 ∧ a2 ≤ (2147483647 : Int) from by omega) (show (-1 : Int) ≤ 0 ∧ 0 ≤ (97 : Int) from by omega) (show (-1 : Int) ≤ 3 ∧ 3 ≤ (9999 : Int) from by omega) (fun z24 q4 => ?_)
    refine ⟨fun c5 => ?_, fun c5 => ?_⟩
    · skip
      have dc5 := q4.1 c5
      refine ⟨(show lf_R a2 from lf_Rof (by omega)), ?_⟩
      refine ⟨fun c6 => ?_, fun c6 => ?_⟩
      · skip
        replace c6 : a2 ≠ 3 := c6
        refine ⟨(show (0 : Int) ≤ (14 + (3 * a1)) + a2 ∧ (14 + (3 * a1)) + a2 < (1538 : Int) from by omega), ?_⟩
        have b7 : (-2147483648) ≤ s.1 96 ((14 + (3 * a1)) + a2) ∧ s.1 96 ((14 + (3 * a1)) + a2) ≤ 2147483647 := iv_full hI
        exact hQ (s.1 96 ((14 + (3 * a1)) + a2)) (show (-2147483648 : Int) ≤ s.1 96 ((14 + (3 * a1)) + a2) ∧ s.1 96 ((14 + (3 * a1)) + a2) ≤ (2147483647 : Int) from by omega)
      · skip
        replace c6 : ¬ (a2 ≠ 3) := c6
        refine sm_186 hI (show (0 : Int) ≤ a1 ∧ a1 ≤ (11 : Int) from by omega) (fun r28 q8 => ?_)
        exact hQ r28 (show (-2147483648 : Int) ≤ r28 ∧ r28 ≤ (2147483647 : Int) from by omega)
    · skip
      have dc5 := q4.2 c5
      exact hQ (-1) (show (-2147483648 : Int) ≤ (-1) ∧ (-1) ≤ (2147483647 : Int) from by omega)
-- fm_114 ElevenBullocks.ofWay 0 i i
theorem sm_114 {a1 : Int} {a2 : Int} {Q : Int → lf_Z → Prop} {s : lf_Z} (hI : iv_A s.1 s.2.2) (ba1 : (-2147483648) ≤ a1 ∧ a1 ≤ 2147483647) (ba2 : (-2147483648) ≤ a2 ∧ a2 ≤ 2147483647) (hQ : ∀ (r : Int), ((-1) ≤ r ∧ r ≤ 11) → Q r s) : fm_114 a1 a2 Q s := by
  unfold fm_114
  refine sm_79 hI (show (-2147483648 : Int) ≤ a1 ∧ a1 ≤ (2147483647 : Int) from by omega) (fun z22 q1 => ?_)
  have b2 : 0 ≤ s.1 1 1 ∧ s.1 1 1 ≤ 16 := iv_r1_1 hI
  refine ⟨fun c3 => ?_, fun c3 => ?_⟩
  · skip
    have dc3 := q1.1 c3
    refine ⟨(show lf_R a2 from lf_Rof (by omega)), ?_⟩
    refine ⟨fun c4 => ?_, fun c4 => ?_, fun c4 => ?_, fun c4 => ?_, fun c4 => ?_⟩
    · replace c4 : a2 < 0 ∨ 3 < a2 := c4
      exact hQ (-1) (show (-1 : Int) ≤ (-1) ∧ (-1) ≤ (11 : Int) from by omega)
    · replace c4 : a2 = 0 := c4
      refine ⟨(show (0 : Int) ≤ a1 ∧ a1 < (16 : Int) from by omega), ?_⟩
      have b5 : 0 ≤ s.1 4 a1 ∧ s.1 4 a1 ≤ 11 := iv_r4 hI _
      exact hQ (s.1 4 a1) (show (-1 : Int) ≤ s.1 4 a1 ∧ s.1 4 a1 ≤ (11 : Int) from by omega)
    · replace c4 : a2 = 1 := c4
      refine ⟨(show (0 : Int) ≤ a1 ∧ a1 < (16 : Int) from by omega), ?_⟩
      have b6 : 0 ≤ s.1 5 a1 ∧ s.1 5 a1 ≤ 11 := iv_r5 hI _
      exact hQ (s.1 5 a1) (show (-1 : Int) ≤ s.1 5 a1 ∧ s.1 5 a1 ≤ (11 : Int) from by omega)
    · replace c4 : a2 = 2 := c4
      refine ⟨(show (0 : Int) ≤ a1 ∧ a1 < (16 : Int) from by omega), ?_⟩
      have b7 : 0 ≤ s.1 6 a1 ∧ s.1 6 a1 ≤ 1 := iv_r6 hI _
      refine ⟨(show lf_R (s.1 6 a1) from lf_Rof (by omega)), ?_⟩
      refine ⟨fun c8 => ?_, fun c8 => ?_⟩
      · skip
        replace c8 : s.1 6 a1 = 0 := c8
        exact hQ 0 (show (-1 : Int) ≤ 0 ∧ 0 ≤ (11 : Int) from by omega)
      · skip
        replace c8 : ¬ (s.1 6 a1 = 0) := c8
        exact hQ 1 (show (-1 : Int) ≤ 1 ∧ 1 ≤ (11 : Int) from by omega)
    · replace c4 : a2 = 3 := c4
      refine sm_90 hI (show (0 : Int) ≤ a1 ∧ a1 ≤ (15 : Int) from by omega) (fun z29 => ?_)
      refine ⟨fun c10 => ?_, fun c10 => ?_⟩
      · skip
        exact hQ 0 (show (-1 : Int) ≤ 0 ∧ 0 ≤ (11 : Int) from by omega)
      · skip
        exact hQ 1 (show (-1 : Int) ≤ 1 ∧ 1 ≤ (11 : Int) from by omega)
  · skip
    have dc3 := q1.2 c3
    exact hQ (-1) (show (-1 : Int) ≤ (-1) ∧ (-1) ≤ (11 : Int) from by omega)
-- fm_287 Model.ofWay 95 i i
theorem sm_287 {a1 : Int} {a2 : Int} {Q : Int → lf_Z → Prop} {s : lf_Z} (hI : iv_A s.1 s.2.2) (ba1 : (-2147483648) ≤ a1 ∧ a1 ≤ 2147483647) (ba2 : (-2147483648) ≤ a2 ∧ a2 ≤ 2147483647) (hQ : ∀ (r : Int), ((-2147483648) ≤ r ∧ r ≤ 2147483647) → Q r s) : fm_287 a1 a2 Q s := by
  unfold fm_287
  refine sm_251 hI (show (-2147483648 : Int) ≤ a1 ∧ a1 ≤ (2147483647 : Int) from by omega) (fun z22 q1 => ?_)
  have b2 : 0 ≤ s.1 96 1 ∧ s.1 96 1 ≤ 16 := iv_rd96 hI (iv_fd6ad3e54 (by omega))
  have b3 : s.1 96 1 ≤ 0 ∨ 0 < s.1 96 0 := (show s.1 96 1 ≤ 0 ∨ 0 < s.1 96 0 from iv_l96_1 hI)
  refine ⟨fun c4 => ?_, fun c4 => ?_⟩
  · skip
    have dc4 := q1.2 c4
    exact hQ (-1) (show (-2147483648 : Int) ≤ (-1) ∧ (-1) ≤ (2147483647 : Int) from by omega)
  · skip
    have dc4 := q1.1 c4
    refine sm_183 hI (show (-2147483648 : Int) ≤ a2 ∧ a2 ≤ (2147483647 : Int) from by omega) (show (-1 : Int) ≤ 0 ∧ 0 ≤ (97 : Int) from by omega) (show (-1 : Int) ≤ 3 ∧ 3 ≤ (9999 : Int) from by omega) (fun z24 q5 => ?_)
    refine ⟨fun c6 => ?_, fun c6 => ?_⟩
    · skip
      have dc6 := q5.2 c6
      exact hQ (-1) (show (-2147483648 : Int) ≤ (-1) ∧ (-1) ≤ (2147483647 : Int) from by omega)
    · skip
      have dc6 := q5.1 c6
      refine ⟨(show (0 : Int) ≤ (50 + (4 * a1)) + a2 ∧ (50 + (4 * a1)) + a2 < (1538 : Int) from by omega), ?_⟩
      have b7 : (-2147483648) ≤ s.1 96 ((50 + (4 * a1)) + a2) ∧ s.1 96 ((50 + (4 * a1)) + a2) ≤ 2147483647 := iv_full hI
      exact hQ (s.1 96 ((50 + (4 * a1)) + a2)) (show (-2147483648 : Int) ≤ s.1 96 ((50 + (4 * a1)) + a2) ∧ s.1 96 ((50 + (4 * a1)) + a2) ≤ (2147483647 : Int) from by omega)
-- fm_115 ElevenBullocks.takes 0 i i
theorem sm_115_p80 {Q : Int → lf_Z → Prop} {x1 : Int} {x2 : Int} {y0 : Int} {s : lf_Z} (hQ : ∀ (r : Int) (s' : lf_Z), iv_A s'.1 s'.2.2 → lf_fq [63, 64, 65, 66] 1000000 true s.1 s.2.2 s'.1 s'.2.2 → ((-1) ≤ r ∧ r ≤ 1000000) → Q r s') (hI : iv_A s.1 s.2.2) (bx1 : 0 ≤ x1 ∧ x1 ≤ 3) (bx2 : 0 ≤ x2 ∧ x2 ≤ 15) (by0 : 0 ≤ y0 ∧ y0 ≤ 1) : fm_115_p80 Q x1 x2 y0 s := by
  unfold fm_115_p80
  refine ⟨(show (0 : Int) ≤ x1 ∧ x1 < (4 : Int) from by omega), ?_⟩
  have b16 : (-2147483648) ≤ s.1 16 x1 ∧ s.1 16 x1 ≤ 2147483647 := iv_full hI
  have b17 : (-1) ≤ s.1 17 x1 ∧ s.1 17 x1 ≤ 11 := iv_r17 hI _
  have b18 : s.1 16 x1 ≤ 0 ∨ 0 ≤ s.1 17 x1 := (by first | exact (show s.1 16 x1 ≤ 0 ∨ 0 ≤ s.1 17 x1 from iv_sp hI (by omega) (by omega)) | exact iv_sp hI (by omega) (by omega))
  refine sm_91 hI (show (-2147483648 : Int) ≤ s.1 16 x1 ∧ s.1 16 x1 ≤ (2147483647 : Int) from by omega) (show (-1 : Int) ≤ s.1 17 x1 ∧ s.1 17 x1 ≤ (11 : Int) from by omega) (show (0 : Int) ≤ x2 ∧ x2 ≤ (15 : Int) from by omega) (show (0 : Int) ≤ y0 ∧ y0 ≤ (1 : Int) from by omega) (show (0 : Int) ≤ 0 ∧ 0 ≤ (1 : Int) from by omega) (show (-2147483648 : Int) ≤ 0 ∧ 0 ≤ (2147483647 : Int) from by omega) (fun r34 s33 hI20 fr19 q21 => ?_)
  have fr22 : lf_fq [63, 64, 65, 66] 1000000 true s.1 s.2.2 s33.1 s33.2.2 := lf_fq_tr (lf_fq_rf) (lf_fq_wk fr19 rfl (by decide) (by decide))
  exact hQ r34 s33 hI20 fr22 (show (-1 : Int) ≤ r34 ∧ r34 ≤ (1000000 : Int) from by omega)
theorem sm_115 {a1 : Int} {a2 : Int} {Q : Int → lf_Z → Prop} {s : lf_Z} (hI : iv_A s.1 s.2.2) (ba1 : (-2147483648) ≤ a1 ∧ a1 ≤ 2147483647) (ba2 : (-2147483648) ≤ a2 ∧ a2 ≤ 2147483647) (hQ : ∀ (r : Int) (s' : lf_Z), iv_A s'.1 s'.2.2 → lf_fq [63, 64, 65, 66] 1000000 true s.1 s.2.2 s'.1 s'.2.2 → ((-1) ≤ r ∧ r ≤ 1000000) → Q r s') : fm_115 a1 a2 Q s := by
  unfold fm_115
  refine sm_80 hI (show (-2147483648 : Int) ≤ a1 ∧ a1 ≤ (2147483647 : Int) from by omega) (fun z22 q1 => ?_)
  have b2 : (-2147483648) ≤ s.1 16 a1 ∧ s.1 16 a1 ≤ 2147483647 := iv_full hI
  refine ⟨fun c3 => ?_, fun c3 => ?_⟩
  · skip
    have dc3 := q1.2 c3
    exact hQ (-1) s hI (lf_fq_rf) (show (-1 : Int) ≤ (-1) ∧ (-1) ≤ (1000000 : Int) from by omega)
  · skip
    have dc3 := q1.1 c3
    refine sm_89 hI (show (-2147483648 : Int) ≤ a2 ∧ a2 ≤ (2147483647 : Int) from by omega) (fun z24 q4 => ?_)
    have b5 : 0 ≤ s.1 1 1 ∧ s.1 1 1 ≤ 16 := iv_r1_1 hI
    have b6 : 0 ≤ s.1 6 a2 ∧ s.1 6 a2 ≤ 1 := iv_r6 hI _
    refine ⟨fun c7 => ?_, fun c7 => ?_⟩
    · skip
      have dc7 := q4.1 c7
      refine ⟨(show (0 : Int) ≤ a1 ∧ a1 < (4 : Int) from by omega), ?_⟩
      have b8 : (-1) ≤ s.1 17 a1 ∧ s.1 17 a1 ≤ 11 := iv_r17 hI _
      have b9 : s.1 16 a1 ≤ 0 ∨ 0 ≤ s.1 17 a1 := (by first | exact (show s.1 16 a1 ≤ 0 ∨ 0 ≤ s.1 17 a1 from iv_sp hI (by omega) (by omega)) | exact iv_sp hI (by omega) (by omega))
      refine sm_78 hI (show (-1 : Int) ≤ a2 ∧ a2 ≤ (15 : Int) from by omega) (show (-2147483648 : Int) ≤ s.1 17 a1 ∧ s.1 17 a1 ≤ (2147483647 : Int) from by omega) (fun r27 q10 => ?_)
      obtain ⟨q10, q10x⟩ := q10
      replace q10x : r27 = iv_od (s.1 1 1) (s.1 4) (s.1 5) a2 (s.1 17 a1) := q10x
      refine ⟨(show lf_R r27 from lf_Rof (by omega)), ?_⟩
      refine ⟨fun c11 => ?_, fun c11 => ?_⟩
      · skip
        replace c11 : r27 ≠ (-1) := c11
        refine sm_90 hI (show (0 : Int) ≤ a2 ∧ a2 ≤ (15 : Int) from by omega) (fun z30 => ?_)
        refine ⟨fun c13 => ?_, fun c13 => ?_⟩
        · skip
          have b14 : (-1) ≤ s.1 18 a1 ∧ s.1 18 a1 ≤ 11 := iv_r18 hI _
          refine ⟨(show lf_R (s.1 18 a1) from lf_Rof (by omega)), ?_⟩
          refine ⟨fun c15 => ?_, fun c15 => ?_⟩
          · skip
            replace c15 : s.1 18 a1 ≠ r27 := c15
            exact sm_115_p80 hQ hI (show (0 : Int) ≤ a1 ∧ a1 ≤ (3 : Int) from by omega) (show (0 : Int) ≤ a2 ∧ a2 ≤ (15 : Int) from by omega) (show (0 : Int) ≤ 0 ∧ 0 ≤ (1 : Int) from by omega)
          · skip
            replace c15 : ¬ (s.1 18 a1 ≠ r27) := c15
            exact sm_115_p80 hQ hI (show (0 : Int) ≤ a1 ∧ a1 ≤ (3 : Int) from by omega) (show (0 : Int) ≤ a2 ∧ a2 ≤ (15 : Int) from by omega) (show (0 : Int) ≤ 1 ∧ 1 ≤ (1 : Int) from by omega)
        · skip
          exact hQ 0 s hI (lf_fq_rf) (show (-1 : Int) ≤ 0 ∧ 0 ≤ (1000000 : Int) from by omega)
      · skip
        replace c11 : ¬ (r27 ≠ (-1)) := c11
        exact hQ (-1) s hI (lf_fq_rf) (show (-1 : Int) ≤ (-1) ∧ (-1) ≤ (1000000 : Int) from by omega)
    · skip
      have dc7 := q4.2 c7
      exact hQ (-1) s hI (lf_fq_rf) (show (-1 : Int) ≤ (-1) ∧ (-1) ≤ (1000000 : Int) from by omega)
-- fm_288 Model.takes 95 i i
theorem sm_288 {a1 : Int} {a2 : Int} {Q : Int → lf_Z → Prop} {s : lf_Z} (hI : iv_A s.1 s.2.2) (ba1 : (-2147483648) ≤ a1 ∧ a1 ≤ 2147483647) (ba2 : (-2147483648) ≤ a2 ∧ a2 ≤ 2147483647) (hQ : ∀ (r : Int) (s' : lf_Z), iv_A s'.1 s'.2.2 → lf_fq [104, 107] 1000000 true s.1 s.2.2 s'.1 s'.2.2 → ((-1) ≤ r ∧ r ≤ 100) → Q r s') : fm_288 a1 a2 Q s := by
  unfold fm_288
  refine sm_254 hI (show (-2147483648 : Int) ≤ a1 ∧ a1 ≤ (2147483647 : Int) from by omega) (fun z22 q1 => ?_)
  refine ⟨fun c2 => ?_, fun c2 => ?_⟩
  · skip
    have dc2 := q1.2 c2
    exact hQ (-1) s hI (lf_fq_rf) (show (-1 : Int) ≤ (-1) ∧ (-1) ≤ (100 : Int) from by omega)
  · skip
    have dc2 := q1.1 c2
    refine sm_251 hI (show (-2147483648 : Int) ≤ a2 ∧ a2 ≤ (2147483647 : Int) from by omega) (fun z24 q3 => ?_)
    have b4 : 0 ≤ s.1 96 1 ∧ s.1 96 1 ≤ 16 := iv_rd96 hI (iv_fd6ad3e54 (by omega))
    have b5 : s.1 96 1 ≤ 0 ∨ 0 < s.1 96 0 := (show s.1 96 1 ≤ 0 ∨ 0 < s.1 96 0 from iv_l96_1 hI)
    refine ⟨fun c6 => ?_, fun c6 => ?_⟩
    · skip
      have dc6 := q3.2 c6
      exact hQ (-1) s hI (lf_fq_rf) (show (-1 : Int) ≤ (-1) ∧ (-1) ≤ (100 : Int) from by omega)
    · skip
      have dc6 := q3.1 c6
      refine sm_252 hI (show (0 : Int) ≤ a2 ∧ a2 ≤ (15 : Int) from by omega) (fun z26 => ?_)
      refine ⟨fun c8 => ?_, fun c8 => ?_⟩
      · skip
        exact hQ (-1) s hI (lf_fq_rf) (show (-1 : Int) ≤ (-1) ∧ (-1) ≤ (100 : Int) from by omega)
      · skip
        refine sm_255 hI (show (0 : Int) ≤ a1 ∧ a1 ≤ (3 : Int) from by omega) (fun r28 q9 => ?_)
        refine sm_187 hI (show (0 : Int) ≤ a2 ∧ a2 ≤ (15 : Int) from by omega) (show (0 : Int) ≤ r28 ∧ r28 ≤ (11 : Int) from by omega) (fun r30 q10 => ?_)
        obtain ⟨q10, q10x⟩ := q10
        replace q10x : r30 = iv_os (s.1 96) a2 r28 := q10x
        refine ⟨(show lf_R r30 from lf_Rof (by omega)), ?_⟩
        refine ⟨fun c11 => ?_, fun c11 => ?_⟩
        · skip
          replace c11 : 0 ≤ r30 := c11
          refine sm_242 hI (show (0 : Int) ≤ a1 ∧ a1 ≤ (3 : Int) from by omega) (fun r33 q12 => ?_)
          obtain ⟨q12, q12x⟩ := q12
          replace q12x : r33 = s.1 96 (114 + 3 * a1) := q12x
          refine sm_255 hI (show (0 : Int) ≤ a1 ∧ a1 ≤ (3 : Int) from by omega) (fun r35 q13 => ?_)
          refine sm_256 hI (show (0 : Int) ≤ a1 ∧ a1 ≤ (3 : Int) from by omega) (fun r37 q14 => ?_)
          refine sm_273 hI (show (0 : Int) ≤ r33 ∧ r33 ≤ (24 : Int) from by omega) (show (0 : Int) ≤ r35 ∧ r35 ≤ (11 : Int) from by omega) (show (-1 : Int) ≤ r37 ∧ r37 ≤ (11 : Int) from by omega) (show (0 : Int) ≤ a2 ∧ a2 ≤ (15 : Int) from by omega) (fun r39 s38 hI16 fr15 q17 => ?_)
          obtain ⟨q17, q17x⟩ := q17
          replace q17x : r39 ≤ 0 ∨ 0 ≤ iv_os (s.1 96) a2 r35 := q17x
          have fr18 : lf_fq [104, 107] 1000000 true s.1 s.2.2 s38.1 s38.2.2 := lf_fq_tr (lf_fq_rf) (lf_fq_wk fr15 rfl (by decide) (by decide))
          exact hQ r39 s38 hI16 fr18 (show (-1 : Int) ≤ r39 ∧ r39 ≤ (100 : Int) from by omega)
        · skip
          replace c11 : ¬ (0 ≤ r30) := c11
          exact hQ (-1) s hI (lf_fq_rf) (show (-1 : Int) ≤ (-1) ∧ (-1) ≤ (100 : Int) from by omega)
-- fm_118 Walk.begin 68 i i
theorem sm_118 {a1 : Int} {a2 : Int} {Q : lf_Z → Prop} {s : lf_Z} (hI : iv_A s.1 s.2.2) (ba1 : 0 ≤ a1 ∧ a1 ≤ 3) (ba2 : 0 ≤ a2 ∧ a2 ≤ 9) (hQ : ∀  (s' : lf_Z), iv_A s'.1 s'.2.2 → lf_fq [68, 69] 1000000 true s.1 s.2.2 s'.1 s'.2.2 → Q  s') : fm_118 a1 a2 Q s := by
  unfold fm_118
  have hI1 : iv_A (lf_fl s.1 69 256 (-1)) s.2.2 := iv_fl69 hI (by omega)
  have fr2 : lf_fq [68, 69] 1000000 true s.1 s.2.2 (lf_fl s.1 69 256 (-1)) s.2.2 := lf_fq_fl (lf_fq_rf) rfl (by decide)
  refine ⟨(show (0 : Int) ≤ a1 ∧ a1 < (4 : Int) from by omega), ?_⟩
  have b3 : (-2147483648) ≤ (lf_fl s.1 69 256 (-1)) 16 a1 ∧ (lf_fl s.1 69 256 (-1)) 16 a1 ≤ 2147483647 := iv_full hI1
  have b4 : (lf_fl s.1 69 256 (-1)) 16 a1 = s.1 16 a1 := lf_fl_c (by omega)
  have hI5 : iv_A (lf_up (lf_fl s.1 69 256 (-1)) 68 8 ((lf_fl s.1 69 256 (-1)) 16 a1)) s.2.2 := iv_w68_8 hI1 (by omega)
  have fr6 : lf_fq [68, 69] 1000000 true s.1 s.2.2 (lf_up (lf_fl s.1 69 256 (-1)) 68 8 ((lf_fl s.1 69 256 (-1)) 16 a1)) s.2.2 := lf_fq_up fr2 rfl (fun h => absurd h (by decide))
  have hI7 : iv_A (lf_up (lf_up (lf_fl s.1 69 256 (-1)) 68 8 ((lf_fl s.1 69 256 (-1)) 16 a1)) 68 11 a2) s.2.2 := iv_w68_11 hI5 (by omega)
  have fr8 : lf_fq [68, 69] 1000000 true s.1 s.2.2 (lf_up (lf_up (lf_fl s.1 69 256 (-1)) 68 8 ((lf_fl s.1 69 256 (-1)) 16 a1)) 68 11 a2) s.2.2 := lf_fq_up fr6 rfl (fun h => absurd h (by decide))
  have hI9 : iv_A (lf_up (lf_up (lf_up (lf_fl s.1 69 256 (-1)) 68 8 ((lf_fl s.1 69 256 (-1)) 16 a1)) 68 11 a2) 68 9 0) s.2.2 := iv_w68_9 hI7 (by omega)
  have fr10 : lf_fq [68, 69] 1000000 true s.1 s.2.2 (lf_up (lf_up (lf_up (lf_fl s.1 69 256 (-1)) 68 8 ((lf_fl s.1 69 256 (-1)) 16 a1)) 68 11 a2) 68 9 0) s.2.2 := lf_fq_up fr8 rfl (fun h => absurd h (by decide))
  have hI11 : iv_A (lf_up (lf_up (lf_up (lf_up (lf_fl s.1 69 256 (-1)) 68 8 ((lf_fl s.1 69 256 (-1)) 16 a1)) 68 11 a2) 68 9 0) 68 10 0) s.2.2 := iv_w68_10 hI9 (by omega)
  have fr12 : lf_fq [68, 69] 1000000 true s.1 s.2.2 (lf_up (lf_up (lf_up (lf_up (lf_fl s.1 69 256 (-1)) 68 8 ((lf_fl s.1 69 256 (-1)) 16 a1)) 68 11 a2) 68 9 0) 68 10 0) s.2.2 := lf_fq_up fr10 rfl (fun h => absurd h (by decide))
  exact hQ (lf_up (lf_up (lf_up (lf_up (lf_fl s.1 69 256 (-1)) 68 8 ((lf_fl s.1 69 256 (-1)) 16 a1)) 68 11 a2) 68 9 0) 68 10 0, s.2.1, s.2.2) hI11 fr12
-- fm_119 java/util/Arrays.fill w l
theorem sm_119_p6 {X6 : Int → lf_Z → Prop} {Q : lf_Z → Prop} {v0 : Nat} {x1 : Int} {x3 : Int} {x4 : Int} {s : lf_Z} (hQ : ∀  (s' : lf_Z), iv_A s'.1 s'.2.2 → lf_fq [] 1000000 true s.1 s.2.2 s'.1 s'.2.2 → Q  s') {M6 : Nat} (hX6 : ∀ (x3 : Int) (s' : lf_Z), iv_A s'.1 s'.2.2 → lf_fq [] 1000000 true s.1 s.2.2 s'.1 s'.2.2 → 0 ≤ x3 ∧ x3 ≤ 2147483646 → (2147483646 - x3).toNat < M6 → X6 x3 s') (hM6 : (2147483646 - x3).toNat ≤ M6) (hI : iv_A s.1 s.2.2) (bx3 : 0 ≤ x3 ∧ x3 ≤ 2147483646) (bx4 : 156 ≤ x4 ∧ x4 ≤ 156) (hwv0 : v0 = 72 ∨ v0 = 73) : fm_119_p6 Q v0 x1 x4 X6 x3 s := by
  unfold fm_119_p6
  refine ⟨(show lf_R x3 from lf_Rof (by omega)), ?_⟩
  refine ⟨(show lf_R x4 from lf_Rof (by omega)), ?_⟩
  refine ⟨fun c1 => ?_, fun c1 => ?_⟩
  · skip
    replace c1 : x4 ≤ x3 := c1
    exact hQ s hI (lf_fq_rf)
  · skip
    replace c1 : ¬ (x4 ≤ x3) := c1
    refine ⟨(show (0 : Int) ≤ x3 ∧ x3 < (156 : Int) from by omega), ?_⟩
    exact hX6 (x3 + 1) (s.1, lf_up s.2.1 v0 x3 (lf_wl x1), s.2.2) hI (lf_fq_rf) (show (0 : Int) ≤ x3 + 1 ∧ x3 + 1 ≤ (2147483646 : Int) from by omega) (show (2147483646 - (x3 + 1)).toNat < M6 from by omega)
theorem sm_119_p6L {Q : lf_Z → Prop} {v0 : Nat} {x1 : Int} {x3 : Int} {x4 : Int} {s : lf_Z} (hQ : ∀  (s' : lf_Z), iv_A s'.1 s'.2.2 → lf_fq [] 1000000 true s.1 s.2.2 s'.1 s'.2.2 → Q  s') (hI : iv_A s.1 s.2.2) (bx3 : 0 ≤ x3 ∧ x3 ≤ 2147483646) (bx4 : 156 ≤ x4 ∧ x4 ≤ 156) (hwv0 : v0 = 72 ∨ v0 = 73) : fm_119_p6L Q v0 x1 x3 x4 s := by
  intro X6 hX
  have key : ∀ (m9 : Nat) (x3 : Int) (s' : lf_Z), iv_A s'.1 s'.2.2 → lf_fq [] 1000000 true s.1 s.2.2 s'.1 s'.2.2 → 0 ≤ x3 ∧ x3 ≤ 2147483646 → (2147483646 - x3).toNat < m9 → X6 x3 s' := by
    intro m9
    induction m9 with
    | zero => intro x3 s' _ _ bx3 h9; exact absurd h9 (Nat.not_lt_zero _)
    | succ m9 ih => intro x3 s' i7 f7 bx3 h9; exact hX _ _ (sm_119_p6 (fun t9 i9 f9 => hQ t9 i9 (lf_fq_tr f7 f9))   (fun x3' t8 i8 f8 bx3' h8 => ih x3' t8 i8 (lf_fq_tr f7 f8) bx3' (by omega)) (Nat.le_refl _)  i7  bx3 bx4 hwv0 )
  exact key _ _ s hI lf_fq_rf bx3 (Nat.lt_succ_self _)
theorem sm_119 {w0 : Nat} {a1 : Int} {Q : lf_Z → Prop} {s : lf_Z} (hww0 : w0 = 72 ∨ w0 = 73) (hI : iv_A s.1 s.2.2) (hQ : ∀  (s' : lf_Z), iv_A s'.1 s'.2.2 → lf_fq [] 1000000 true s.1 s.2.2 s'.1 s'.2.2 → Q  s') : fm_119 w0 a1 Q s := by
  unfold fm_119
  exact sm_119_p6L hQ hI (show (0 : Int) ≤ 0 ∧ 0 ≤ (2147483646 : Int) from by omega) (show (156 : Int) ≤ 156 ∧ 156 ≤ (156 : Int) from by omega) hww0
-- fm_120 Walk.standOf 68 i
theorem sm_120 {a1 : Int} {Q : Int → lf_Z → Prop} {s : lf_Z} (hI : iv_A s.1 s.2.2) (ba1 : 0 ≤ a1 ∧ a1 ≤ 3) (kp0 : 0 < s.1 16 a1) (hQ : ∀ (r : Int), (0 ≤ r ∧ r ≤ 155) → Q r s) : fm_120 a1 Q s := by
  unfold fm_120
  refine ⟨(show (0 : Int) ≤ a1 ∧ a1 < (4 : Int) from by omega), ?_⟩
  have b1 : (-1) ≤ s.1 17 a1 ∧ s.1 17 a1 ≤ 11 := iv_r17 hI _
  have b2 : s.1 16 a1 ≤ 0 ∨ 0 ≤ s.1 17 a1 := (by first | exact (show s.1 16 a1 ≤ 0 ∨ 0 ≤ s.1 17 a1 from iv_sp hI (by omega) (by omega)) | exact iv_sp hI (by omega) (by omega))
  have b3 : (-1) ≤ s.1 18 a1 ∧ s.1 18 a1 ≤ 11 := iv_r18 hI _
  exact hQ ((((s.1 17 a1) * 13) + (s.1 18 a1)) + 1) (show (0 : Int) ≤ (((s.1 17 a1) * 13) + (s.1 18 a1)) + 1 ∧ (((s.1 17 a1) * 13) + (s.1 18 a1)) + 1 ≤ (155 : Int) from by omega)
-- fm_123 Walk.chanceOf 68 i i i
theorem sm_123_p174 {Q : Int → lf_Z → Prop} {x9 : Int} {s : lf_Z} (hQ : ∀ (r : Int) (s' : lf_Z), iv_A s'.1 s'.2.2 → lf_fq [63, 64, 65, 66, 69] 1000000 true s.1 s.2.2 s'.1 s'.2.2 → ((-2147483648) ≤ r ∧ r ≤ 2147483647) → Q r s') (hI : iv_A s.1 s.2.2) (bx9 : 0 ≤ x9 ∧ x9 ≤ 255) : fm_123_p174 Q x9 s := by
  unfold fm_123_p174
  refine ⟨(show (0 : Int) ≤ x9 ∧ x9 < (256 : Int) from by omega), ?_⟩
  have b24 : (-2147483648) ≤ s.1 69 x9 ∧ s.1 69 x9 ≤ 2147483647 := iv_full hI
  exact hQ (s.1 69 x9) s hI (lf_fq_rf) (show (-2147483648 : Int) ≤ s.1 69 x9 ∧ s.1 69 x9 ≤ (2147483647 : Int) from by omega)
theorem sm_123_p105 {Q : Int → lf_Z → Prop} {x1 : Int} {x2 : Int} {x5 : Int} {x6 : Int} {x7 : Int} {y0 : Int} {s : lf_Z} (hQ : ∀ (r : Int) (s' : lf_Z), iv_A s'.1 s'.2.2 → lf_fq [63, 64, 65, 66, 69] 1000000 true s.1 s.2.2 s'.1 s'.2.2 → ((-2147483648) ≤ r ∧ r ≤ 2147483647) → Q r s') (hI : iv_A s.1 s.2.2) (bx1 : 0 ≤ x1 ∧ x1 ≤ 15) (bx2 : 0 ≤ x2 ∧ x2 ≤ 11) (bx5 : 0 ≤ x5 ∧ x5 ≤ 1) (bx6 : 0 ≤ x6 ∧ x6 ≤ 1) (bx7 : 0 ≤ x7 ∧ x7 ≤ 1) (by0 : 0 ≤ y0 ∧ y0 ≤ 1) : fm_123_p105 Q x1 x2 x5 x6 x7 y0 s := by
  unfold fm_123_p105
  refine ⟨(show (0 : Int) ≤ ((((x1 * 16) + (y0 * 8)) + (x5 * 4)) + (x6 * 2)) + x7 ∧ ((((x1 * 16) + (y0 * 8)) + (x5 * 4)) + (x6 * 2)) + x7 < (256 : Int) from by omega), ?_⟩
  have b22 : (-2147483648) ≤ s.1 69 (((((x1 * 16) + (y0 * 8)) + (x5 * 4)) + (x6 * 2)) + x7) ∧ s.1 69 (((((x1 * 16) + (y0 * 8)) + (x5 * 4)) + (x6 * 2)) + x7) ≤ 2147483647 := iv_full hI
  refine ⟨(show lf_R (s.1 69 (((((x1 * 16) + (y0 * 8)) + (x5 * 4)) + (x6 * 2)) + x7)) from lf_Rof (by omega)), ?_⟩
  refine ⟨fun c23 => ?_, fun c23 => ?_⟩
  · skip
    replace c23 : s.1 69 (((((x1 * 16) + (y0 * 8)) + (x5 * 4)) + (x6 * 2)) + x7) ≠ (-1) := c23
    exact sm_123_p174 hQ hI (show (0 : Int) ≤ ((((x1 * 16) + (y0 * 8)) + (x5 * 4)) + (x6 * 2)) + x7 ∧ ((((x1 * 16) + (y0 * 8)) + (x5 * 4)) + (x6 * 2)) + x7 ≤ (255 : Int) from by omega)
  · skip
    replace c23 : ¬ (s.1 69 (((((x1 * 16) + (y0 * 8)) + (x5 * 4)) + (x6 * 2)) + x7) ≠ (-1)) := c23
    have b25 : (-2147483648) ≤ s.1 68 8 ∧ s.1 68 8 ≤ 2147483647 := iv_full hI
    have b26 : (-2147483648) ≤ s.1 68 11 ∧ s.1 68 11 ≤ 2147483647 := iv_full hI
    have b27 : (-2147483648) ≤ x7 * (s.1 68 11) ∧ x7 * (s.1 68 11) ≤ 2147483647 := lf_mulB (a := x7) (b := (s.1 68 11)) (p := 0) (q := 1) (r := (-2147483648)) (u := 2147483647) (by omega) (by omega) (by decide) (by decide) (by decide) (by decide) (by decide) (by decide) (by decide) (by decide)
    refine sm_91 hI (show (-2147483648 : Int) ≤ s.1 68 8 ∧ s.1 68 8 ≤ (2147483647 : Int) from by omega) (show (-1 : Int) ≤ x2 ∧ x2 ≤ (11 : Int) from by omega) (show (0 : Int) ≤ x1 ∧ x1 ≤ (15 : Int) from by omega) (show (0 : Int) ≤ x5 ∧ x5 ≤ (1 : Int) from by omega) (show (0 : Int) ≤ x6 ∧ x6 ≤ (1 : Int) from by omega) (show (-2147483648 : Int) ≤ x7 * (s.1 68 11) ∧ x7 * (s.1 68 11) ≤ (2147483647 : Int) from by omega) (fun r36 s35 hI29 fr28 q30 => ?_)
    have fr31 : lf_fq [63, 64, 65, 66, 69] 1000000 true s.1 s.2.2 s35.1 s35.2.2 := lf_fq_tr (lf_fq_rf) (lf_fq_wk fr28 rfl (by decide) (by decide))
    have hI32 : iv_A (lf_up s35.1 69 (((((x1 * 16) + (y0 * 8)) + (x5 * 4)) + (x6 * 2)) + x7) r36) s35.2.2 := iv_w69 hI29 (by omega)
    have fr33 : lf_fq [63, 64, 65, 66, 69] 1000000 true s.1 s.2.2 (lf_up s35.1 69 (((((x1 * 16) + (y0 * 8)) + (x5 * 4)) + (x6 * 2)) + x7) r36) s35.2.2 := lf_fq_up fr31 rfl (fun h => absurd h (by decide))
    exact sm_123_p174 (fun r9 t9 i9 f9 => hQ r9 t9 i9 (lf_fq_tr fr33 f9)) hI32 (show (0 : Int) ≤ ((((x1 * 16) + (y0 * 8)) + (x5 * 4)) + (x6 * 2)) + x7 ∧ ((((x1 * 16) + (y0 * 8)) + (x5 * 4)) + (x6 * 2)) + x7 ≤ (255 : Int) from by omega)
theorem sm_123_p64 {Q : Int → lf_Z → Prop} {x1 : Int} {x2 : Int} {x4 : Int} {y0 : Int} {s : lf_Z} (hQ : ∀ (r : Int) (s' : lf_Z), iv_A s'.1 s'.2.2 → lf_fq [63, 64, 65, 66, 69] 1000000 true s.1 s.2.2 s'.1 s'.2.2 → ((-2147483648) ≤ r ∧ r ≤ 2147483647) → Q r s') (hI : iv_A s.1 s.2.2) (bx1 : 0 ≤ x1 ∧ x1 ≤ 15) (bx2 : 0 ≤ x2 ∧ x2 ≤ 11) (bx4 : 0 ≤ x4 ∧ x4 ≤ 11) (by0 : 0 ≤ y0 ∧ y0 ≤ 1) : fm_123_p64 Q x1 x2 x4 y0 s := by
  unfold fm_123_p64
  have b15 : (-2147483648) ≤ s.1 68 10 ∧ s.1 68 10 ≤ 2147483647 := iv_full hI
  have b16 : (-2147483648) ≤ lf_shr (s.1 68 10) x2 ∧ lf_shr (s.1 68 10) x2 ≤ 2147483647 := lf_shrB
  have b17 : 0 ≤ lf_and (lf_shr (s.1 68 10) x2) 1 ∧ lf_and (lf_shr (s.1 68 10) x2) 1 ≤ 1 := lf_andB (by omega) (by omega)
  have b18 : (-2147483648) ≤ lf_shr (s.1 68 10) x4 ∧ lf_shr (s.1 68 10) x4 ≤ 2147483647 := lf_shrB
  have b19 : 0 ≤ lf_and (lf_shr (s.1 68 10) x4) 1 ∧ lf_and (lf_shr (s.1 68 10) x4) 1 ≤ 1 := lf_andB (by omega) (by omega)
  refine ⟨(show (0 : Int) ≤ x1 ∧ x1 < (16 : Int) from by omega), ?_⟩
  have b20 : 0 ≤ s.1 4 x1 ∧ s.1 4 x1 ≤ 11 := iv_r4 hI _
  refine ⟨(show lf_R (s.1 4 x1) from lf_Rof (by omega)), ?_⟩
  refine ⟨(show lf_R x2 from lf_Rof (by omega)), ?_⟩
  refine ⟨fun c21 => ?_, fun c21 => ?_⟩
  · skip
    replace c21 : s.1 4 x1 ≠ x2 := c21
    exact sm_123_p105 hQ hI (show (0 : Int) ≤ x1 ∧ x1 ≤ (15 : Int) from by omega) (show (0 : Int) ≤ x2 ∧ x2 ≤ (11 : Int) from by omega) (show (0 : Int) ≤ y0 ∧ y0 ≤ (1 : Int) from by omega) (show (0 : Int) ≤ lf_and (lf_shr (s.1 68 10) x2) 1 ∧ lf_and (lf_shr (s.1 68 10) x2) 1 ≤ (1 : Int) from by omega) (show (0 : Int) ≤ lf_and (lf_shr (s.1 68 10) x4) 1 ∧ lf_and (lf_shr (s.1 68 10) x4) 1 ≤ (1 : Int) from by omega) (show (0 : Int) ≤ 1 ∧ 1 ≤ (1 : Int) from by omega)
  · skip
    replace c21 : ¬ (s.1 4 x1 ≠ x2) := c21
    exact sm_123_p105 hQ hI (show (0 : Int) ≤ x1 ∧ x1 ≤ (15 : Int) from by omega) (show (0 : Int) ≤ x2 ∧ x2 ≤ (11 : Int) from by omega) (show (0 : Int) ≤ y0 ∧ y0 ≤ (1 : Int) from by omega) (show (0 : Int) ≤ lf_and (lf_shr (s.1 68 10) x2) 1 ∧ lf_and (lf_shr (s.1 68 10) x2) 1 ≤ (1 : Int) from by omega) (show (0 : Int) ≤ lf_and (lf_shr (s.1 68 10) x4) 1 ∧ lf_and (lf_shr (s.1 68 10) x4) 1 ≤ (1 : Int) from by omega) (show (0 : Int) ≤ 0 ∧ 0 ≤ (1 : Int) from by omega)
theorem sm_123 {a1 : Int} {a2 : Int} {a3 : Int} {Q : Int → lf_Z → Prop} {s : lf_Z} (hI : iv_A s.1 s.2.2) (ba1 : (-1) ≤ a1 ∧ a1 ≤ 15) (ba2 : 0 ≤ a2 ∧ a2 ≤ 11) (ba3 : (-1) ≤ a3 ∧ a3 ≤ 11) (hQ : ∀ (r : Int) (s' : lf_Z), iv_A s'.1 s'.2.2 → lf_fq [63, 64, 65, 66, 69] 1000000 true s.1 s.2.2 s'.1 s'.2.2 → (((-2147483648) ≤ r ∧ r ≤ 2147483647) ∧ (r ≤ 0 ∨ 0 ≤ iv_od (s.1 1 1) (s.1 4) (s.1 5) a1 a2)) → Q r s') : fm_123 a1 a2 a3 Q s := by
  unfold fm_123
  refine sm_78 hI (show (-1 : Int) ≤ a1 ∧ a1 ≤ (15 : Int) from by omega) (show (-2147483648 : Int) ≤ a2 ∧ a2 ≤ (2147483647 : Int) from by omega) (fun r22 q1 => ?_)
  obtain ⟨q1, q1x⟩ := q1
  have b2 : 0 ≤ s.1 1 1 ∧ s.1 1 1 ≤ 16 := iv_r1_1 hI
  replace q1x : r22 = iv_od (s.1 1 1) (s.1 4) (s.1 5) a1 a2 := q1x
  refine ⟨(show lf_R r22 from lf_Rof (by omega)), ?_⟩
  refine ⟨fun c3 => ?_, fun c3 => ?_⟩
  · skip
    replace c3 : r22 = (-1) := c3
    exact hQ 0 s hI (lf_fq_rf) ⟨(show (-2147483648 : Int) ≤ 0 ∧ 0 ≤ (2147483647 : Int) from by omega), (show 0 ≤ 0 ∨ 0 ≤ iv_od (s.1 1 1) (s.1 4) (s.1 5) a1 a2 from by omega)⟩
  · skip
    replace c3 : ¬ (r22 = (-1)) := c3
    refine sm_89 hI (show (-2147483648 : Int) ≤ a1 ∧ a1 ≤ (2147483647 : Int) from by omega) (fun z25 q4 => ?_)
    have b5 : 0 ≤ s.1 1 1 ∧ s.1 1 1 ≤ 16 := iv_r1_1 hI
    have b6 : 0 ≤ s.1 6 a1 ∧ s.1 6 a1 ≤ 1 := iv_r6 hI _
    refine ⟨fun c7 => ?_, fun c7 => ?_⟩
    · skip
      have dc7 := q4.2 c7
      exact hQ 0 s hI (lf_fq_rf) ⟨(show (-2147483648 : Int) ≤ 0 ∧ 0 ≤ (2147483647 : Int) from by omega), (show 0 ≤ 0 ∨ 0 ≤ iv_od (s.1 1 1) (s.1 4) (s.1 5) a1 a2 from by omega)⟩
    · skip
      have dc7 := q4.1 c7
      refine sm_90 hI (show (0 : Int) ≤ a1 ∧ a1 ≤ (15 : Int) from by omega) (fun z27 => ?_)
      refine ⟨fun c9 => ?_, fun c9 => ?_⟩
      · skip
        exact hQ 0 s hI (lf_fq_rf) ⟨(show (-2147483648 : Int) ≤ 0 ∧ 0 ≤ (2147483647 : Int) from by omega), (show 0 ≤ 0 ∨ 0 ≤ iv_od (s.1 1 1) (s.1 4) (s.1 5) a1 a2 from by omega)⟩
      · skip
        have b10 : (-2147483648) ≤ s.1 68 9 ∧ s.1 68 9 ≤ 2147483647 := iv_full hI
        have b11 : (-2147483648) ≤ lf_shr (s.1 68 9) a1 ∧ lf_shr (s.1 68 9) a1 ≤ 2147483647 := lf_shrB
        have b12 : 0 ≤ lf_and (lf_shr (s.1 68 9) a1) 1 ∧ lf_and (lf_shr (s.1 68 9) a1) 1 ≤ 1 := lf_andB (by omega) (by omega)
        refine ⟨fun c13 => ?_, fun c13 => ?_⟩
        · skip
          replace c13 : lf_and (lf_shr (s.1 68 9) a1) 1 ≠ 1 := c13
          refine ⟨(show lf_R a3 from lf_Rof (by omega)), ?_⟩
          refine ⟨fun c14 => ?_, fun c14 => ?_⟩
          · skip
            replace c14 : a3 ≠ r22 := c14
            exact sm_123_p64 (fun r9 t9 i9 f9 b9 => hQ r9 t9 i9 (lf_fq_tr (lf_fq_rf) f9) ⟨b9, (show r9 ≤ 0 ∨ 0 ≤ iv_od (s.1 1 1) (s.1 4) (s.1 5) a1 a2 from by omega)⟩) hI (show (0 : Int) ≤ a1 ∧ a1 ≤ (15 : Int) from by omega) (show (0 : Int) ≤ a2 ∧ a2 ≤ (11 : Int) from by omega) (show (0 : Int) ≤ r22 ∧ r22 ≤ (11 : Int) from by omega) (show (0 : Int) ≤ 0 ∧ 0 ≤ (1 : Int) from by omega)
          · skip
            replace c14 : ¬ (a3 ≠ r22) := c14
            exact sm_123_p64 (fun r9 t9 i9 f9 b9 => hQ r9 t9 i9 (lf_fq_tr (lf_fq_rf) f9) ⟨b9, (show r9 ≤ 0 ∨ 0 ≤ iv_od (s.1 1 1) (s.1 4) (s.1 5) a1 a2 from by omega)⟩) hI (show (0 : Int) ≤ a1 ∧ a1 ≤ (15 : Int) from by omega) (show (0 : Int) ≤ a2 ∧ a2 ≤ (11 : Int) from by omega) (show (0 : Int) ≤ r22 ∧ r22 ≤ (11 : Int) from by omega) (show (0 : Int) ≤ 1 ∧ 1 ≤ (1 : Int) from by omega)
        · skip
          replace c13 : ¬ (lf_and (lf_shr (s.1 68 9) a1) 1 ≠ 1) := c13
          exact hQ 0 s hI (lf_fq_rf) ⟨(show (-2147483648 : Int) ≤ 0 ∧ 0 ≤ (2147483647 : Int) from by omega), (show 0 ≤ 0 ∨ 0 ≤ iv_od (s.1 1 1) (s.1 4) (s.1 5) a1 a2 from by omega)⟩
-- fm_122 Walk.moveOddsFrom 68 i
theorem sm_122_p107 {X19 : Int → Int → lf_Z → Prop} {Q : lf_Z → Prop} {x1 : Int} {x2 : Int} {x3 : Int} {x5 : Int} {s : lf_Z} (hQ : ∀  (s' : lf_Z), iv_A s'.1 s'.2.2 → lf_fq [63, 64, 65, 66, 69] 1000000 true s.1 s.2.2 s'.1 s'.2.2 → Q  s') {M19 : Nat} (hX19 : ∀ (x3 : Int) (x5 : Int) (s' : lf_Z), iv_A s'.1 s'.2.2 → lf_fq [63, 64, 65, 66, 69] 1000000 true s.1 s.2.2 s'.1 s'.2.2 → 0 ≤ x5 ∧ x5 ≤ 4 → (4 - x5).toNat < M19 → X19 x3 x5 s') (hM19 : (4 - x5).toNat ≤ M19) (hI : iv_A s.1 s.2.2) (bx1 : 0 ≤ x1 ∧ x1 ≤ 155) (bx2 : 0 ≤ x2 ∧ x2 ≤ 11) (bx5 : 0 ≤ x5 ∧ x5 ≤ 3) : fm_122_p107 X19 Q x1 x2 x3 x5 s := by
  unfold fm_122_p107
  exact hX19 (x3) (x5 + 1) s hI (lf_fq_rf) (show (0 : Int) ≤ x5 + 1 ∧ x5 + 1 ≤ (4 : Int) from by omega) (show (4 - (x5 + 1)).toNat < M19 from by omega)
theorem sm_122_p19 {X19 : Int → Int → lf_Z → Prop} {Q : lf_Z → Prop} {x1 : Int} {x2 : Int} {x3 : Int} {x5 : Int} {s : lf_Z} (hQ : ∀  (s' : lf_Z), iv_A s'.1 s'.2.2 → lf_fq [63, 64, 65, 66, 69] 1000000 true s.1 s.2.2 s'.1 s'.2.2 → Q  s') {M19 : Nat} (hX19 : ∀ (x3 : Int) (x5 : Int) (s' : lf_Z), iv_A s'.1 s'.2.2 → lf_fq [63, 64, 65, 66, 69] 1000000 true s.1 s.2.2 s'.1 s'.2.2 → 0 ≤ x5 ∧ x5 ≤ 4 → (4 - x5).toNat < M19 → X19 x3 x5 s') (hM19 : (4 - x5).toNat ≤ M19) (hI : iv_A s.1 s.2.2) (bx1 : 0 ≤ x1 ∧ x1 ≤ 155) (bx2 : 0 ≤ x2 ∧ x2 ≤ 11) (bx5 : 0 ≤ x5 ∧ x5 ≤ 4) : fm_122_p19 Q x1 x2 X19 x3 x5 s := by
  unfold fm_122_p19
  refine sm_76 hI (show (-2147483648 : Int) ≤ x2 ∧ x2 ≤ (2147483647 : Int) from by omega) (fun r25 q2 => ?_)
  refine ⟨(show lf_R x5 from lf_Rof (by omega)), ?_⟩
  refine ⟨(show lf_R r25 from lf_Rof (by omega)), ?_⟩
  refine ⟨fun c3 => ?_, fun c3 => ?_⟩
  · skip
    replace c3 : r25 ≤ x5 := c3
    obtain ⟨w28, ew28, hww28⟩ := iv_ref1 hI
    refine ⟨w28, ew28, hww28, ?_⟩
    refine ⟨(show (0 : Int) ≤ x1 ∧ x1 < (156 : Int) from by omega), ?_⟩
    exact hQ (s.1, lf_up s.2.1 w28 x1 (lf_wl ((lf_wl (s.2.1 w28 x1)) + (lf_wl x3))), s.2.2) hI (lf_fq_rf)
  · skip
    replace c3 : ¬ (r25 ≤ x5) := c3
    refine sm_77 hI (show (-2147483648 : Int) ≤ x2 ∧ x2 ≤ (2147483647 : Int) from by omega) (show (0 : Int) ≤ x5 ∧ x5 ≤ (3 : Int) from by omega) (fun r31 q4 => ?_)
    refine ⟨(show lf_R x1 from lf_Rof (by omega)), ?_⟩
    have b5 : 0 ≤ x1.tmod 13 ∧ x1.tmod 13 ≤ 12 := lf_tmodP (by omega) (by omega) (by omega)
    refine sm_123 hI (show (-1 : Int) ≤ r31 ∧ r31 ≤ (15 : Int) from by omega) (show (0 : Int) ≤ x2 ∧ x2 ≤ (11 : Int) from by omega) (show (-1 : Int) ≤ (x1.tmod 13) - 1 ∧ (x1.tmod 13) - 1 ≤ (11 : Int) from by omega) (fun r34 s33 hI7 fr6 q8 => ?_)
    obtain ⟨q8, q8x⟩ := q8
    have b9 : 0 ≤ s.1 1 1 ∧ s.1 1 1 ≤ 16 := iv_r1_1 hI
    replace q8x : r34 ≤ 0 ∨ 0 ≤ iv_od (s.1 1 1) (s.1 4) (s.1 5) r31 x2 := q8x
    have fr10 : lf_fq [63, 64, 65, 66, 69] 1000000 true s.1 s.2.2 s33.1 s33.2.2 := lf_fq_tr (lf_fq_rf) (lf_fq_wk fr6 rfl (by decide) (by decide))
    refine ⟨(show lf_R r34 from lf_Rof (by omega)), ?_⟩
    refine ⟨fun c11 => ?_, fun c11 => ?_⟩
    · skip
      replace c11 : r34 ≤ 0 := c11
      exact sm_122_p107 (fun t9 i9 f9 => hQ t9 i9 (lf_fq_tr fr10 f9)) (fun p0 p1 t9 i9 f9 => hX19 p0 p1 t9 i9 (lf_fq_tr fr10 f9)) (show (4 - x5).toNat ≤ M19 from by omega) hI7 (show (0 : Int) ≤ x1 ∧ x1 ≤ (155 : Int) from by omega) (show (0 : Int) ≤ x2 ∧ x2 ≤ (11 : Int) from by omega) (show (0 : Int) ≤ x5 ∧ x5 ≤ (3 : Int) from by omega)
    · skip
      replace c11 : ¬ (r34 ≤ 0) := c11
      obtain ⟨w36, ew36, hww36⟩ := iv_ref1 hI7
      refine ⟨w36, ew36, hww36, ?_⟩
      refine sm_78 hI7 (show (-1 : Int) ≤ r31 ∧ r31 ≤ (15 : Int) from by omega) (show (-2147483648 : Int) ≤ x2 ∧ x2 ≤ (2147483647 : Int) from by omega) (fun r38 q12 => ?_)
      obtain ⟨q12, q12x⟩ := q12
      have b13 : 0 ≤ s33.1 1 1 ∧ s33.1 1 1 ≤ 16 := iv_r1_1 hI7
      have b14 : s33.1 1 1 = s.1 1 1 := congrFun (fr6.1 1 rfl) _
      replace q12x : r38 = iv_od (s33.1 1 1) (s33.1 4) (s33.1 5) r31 x2 := q12x
      have b15 : iv_od (s33.1 1 1) (s33.1 4) (s33.1 5) r31 x2 = iv_od (s.1 1 1) (s.1 4) (s.1 5) r31 x2 := by rw [fr6.1 1 rfl, fr6.1 4 rfl, fr6.1 5 rfl]
      refine ⟨(show (0 : Int) ≤ ((r38 * 13) + x2) + 1 ∧ ((r38 * 13) + x2) + 1 < (156 : Int) from by omega), ?_⟩
      exact sm_122_p107 (fun t9 i9 f9 => hQ t9 i9 (lf_fq_tr fr10 f9)) (fun p0 p1 t9 i9 f9 => hX19 p0 p1 t9 i9 (lf_fq_tr fr10 f9)) (show (4 - x5).toNat ≤ M19 from by omega) hI7 (show (0 : Int) ≤ x1 ∧ x1 ≤ (155 : Int) from by omega) (show (0 : Int) ≤ x2 ∧ x2 ≤ (11 : Int) from by omega) (show (0 : Int) ≤ x5 ∧ x5 ≤ (3 : Int) from by omega)
theorem sm_122_p19L {Q : lf_Z → Prop} {x1 : Int} {x2 : Int} {x3 : Int} {x5 : Int} {s : lf_Z} (hQ : ∀  (s' : lf_Z), iv_A s'.1 s'.2.2 → lf_fq [63, 64, 65, 66, 69] 1000000 true s.1 s.2.2 s'.1 s'.2.2 → Q  s') (hI : iv_A s.1 s.2.2) (bx1 : 0 ≤ x1 ∧ x1 ≤ 155) (bx2 : 0 ≤ x2 ∧ x2 ≤ 11) (bx5 : 0 ≤ x5 ∧ x5 ≤ 4) : fm_122_p19L Q x1 x2 x3 x5 s := by
  intro X19 hX
  have key : ∀ (m9 : Nat) (x3 : Int) (x5 : Int) (s' : lf_Z), iv_A s'.1 s'.2.2 → lf_fq [63, 64, 65, 66, 69] 1000000 true s.1 s.2.2 s'.1 s'.2.2 → 0 ≤ x5 ∧ x5 ≤ 4 → (4 - x5).toNat < m9 → X19 x3 x5 s' := by
    intro m9
    induction m9 with
    | zero => intro x3 x5 s' _ _ bx5 h9; exact absurd h9 (Nat.not_lt_zero _)
    | succ m9 ih => intro x3 x5 s' i7 f7 bx5 h9; exact hX _ _ _ (sm_122_p19 (fun t9 i9 f9 => hQ t9 i9 (lf_fq_tr f7 f9))   (fun x3' x5' t8 i8 f8 bx5' h8 => ih x3' x5' t8 i8 (lf_fq_tr f7 f8) bx5' (by omega)) (Nat.le_refl _)  i7  bx1 bx2 bx5  )
  exact key _ _ _ s hI lf_fq_rf bx5 (Nat.lt_succ_self _)
theorem sm_122 {a1 : Int} {Q : lf_Z → Prop} {s : lf_Z} (hI : iv_A s.1 s.2.2) (ba1 : 0 ≤ a1 ∧ a1 ≤ 155) (hQ : ∀  (s' : lf_Z), iv_A s'.1 s'.2.2 → lf_fq [63, 64, 65, 66, 69] 1000000 true s.1 s.2.2 s'.1 s'.2.2 → Q  s') : fm_122 a1 Q s := by
  unfold fm_122
  refine ⟨(show lf_R a1 from lf_Rof (by omega)), ?_⟩
  have b1 : 0 ≤ a1.tdiv 13 ∧ a1.tdiv 13 ≤ 11 := lf_tdivB (p := 0) (q := 155) (by omega) (by omega) (by decide) (by decide) (by decide)
  obtain ⟨w22, ew22, hww22⟩ := iv_ref0 hI
  refine ⟨w22, ew22, hww22, ?_⟩
  refine ⟨(show (0 : Int) ≤ a1 ∧ a1 < (156 : Int) from by omega), ?_⟩
  exact sm_122_p19L hQ hI (show (0 : Int) ≤ a1 ∧ a1 ≤ (155 : Int) from by omega) (show (0 : Int) ≤ a1.tdiv 13 ∧ a1.tdiv 13 ≤ (11 : Int) from by omega) (show (0 : Int) ≤ 0 ∧ 0 ≤ (4 : Int) from by omega)
-- fm_121 Walk.moveOdds 68
theorem sm_121_p33 {X10 : Int → lf_Z → Prop} {Q : lf_Z → Prop} {x1 : Int} {s : lf_Z} (hQ : ∀  (s' : lf_Z), iv_A s'.1 s'.2.2 → lf_fq [63, 64, 65, 66, 69] 1000000 false s.1 s.2.2 s'.1 s'.2.2 → Q  s') {M10 : Nat} (hX10 : ∀ (x1 : Int) (s' : lf_Z), iv_A s'.1 s'.2.2 → lf_fq [63, 64, 65, 66, 69] 1000000 false s.1 s.2.2 s'.1 s'.2.2 → 0 ≤ x1 ∧ x1 ≤ 156 → (156 - x1).toNat < M10 → X10 x1 s') (hM10 : (156 - x1).toNat ≤ M10) (hI : iv_A s.1 s.2.2) (bx1 : 0 ≤ x1 ∧ x1 ≤ 155) : fm_121_p33 X10 Q x1 s := by
  unfold fm_121_p33
  exact hX10 (x1 + 1) s hI (lf_fq_rf) (show (0 : Int) ≤ x1 + 1 ∧ x1 + 1 ≤ (156 : Int) from by omega) (show (156 - (x1 + 1)).toNat < M10 from by omega)
theorem sm_121_p10 {X10 : Int → lf_Z → Prop} {Q : lf_Z → Prop} {x1 : Int} {s : lf_Z} (hQ : ∀  (s' : lf_Z), iv_A s'.1 s'.2.2 → lf_fq [63, 64, 65, 66, 69] 1000000 false s.1 s.2.2 s'.1 s'.2.2 → Q  s') {M10 : Nat} (hX10 : ∀ (x1 : Int) (s' : lf_Z), iv_A s'.1 s'.2.2 → lf_fq [63, 64, 65, 66, 69] 1000000 false s.1 s.2.2 s'.1 s'.2.2 → 0 ≤ x1 ∧ x1 ≤ 156 → (156 - x1).toNat < M10 → X10 x1 s') (hM10 : (156 - x1).toNat ≤ M10) (hI : iv_A s.1 s.2.2) (bx1 : 0 ≤ x1 ∧ x1 ≤ 156) : fm_121_p10 Q X10 x1 s := by
  unfold fm_121_p10
  refine ⟨(show lf_R x1 from lf_Rof (by omega)), ?_⟩
  refine ⟨fun c5 => ?_, fun c5 => ?_⟩
  · skip
    replace c5 : 156 ≤ x1 := c5
    obtain ⟨w24, ew24, hww24⟩ := iv_ref0 hI
    refine ⟨w24, ew24, hww24, ?_⟩
    obtain ⟨w25, ew25, hww25⟩ := iv_ref1 hI
    refine ⟨w25, ew25, hww25, ?_⟩
    have hI6 : iv_A s.1 (lf_ur s.2.2 0 (some w25)) := iv_uw0 hI hww25
    have fr7 : lf_fq [63, 64, 65, 66, 69] 1000000 false s.1 s.2.2 s.1 (lf_ur s.2.2 0 (some w25)) := lf_fq_pp (lf_fq_rf)
    have hI8 : iv_A s.1 (lf_ur (lf_ur s.2.2 0 (some w25)) 1 (some w24)) := iv_uw1 hI6 hww24
    have fr9 : lf_fq [63, 64, 65, 66, 69] 1000000 false s.1 s.2.2 s.1 (lf_ur (lf_ur s.2.2 0 (some w25)) 1 (some w24)) := lf_fq_pp fr7
    exact hQ (s.1, s.2.1, lf_ur (lf_ur s.2.2 0 (some w25)) 1 (some w24)) hI8 fr9
  · skip
    replace c5 : ¬ (156 ≤ x1) := c5
    obtain ⟨w26, ew26, hww26⟩ := iv_ref0 hI
    refine ⟨w26, ew26, hww26, ?_⟩
    refine ⟨(show (0 : Int) ≤ x1 ∧ x1 < (156 : Int) from by omega), ?_⟩
    refine ⟨fun c10 => ?_, fun c10 => ?_⟩
    · replace c10 : lf_wl (s.2.1 w26 x1) ≤ 0 := c10
      exact sm_121_p33 hQ hX10 (show (156 - x1).toNat ≤ M10 from by omega) hI (show (0 : Int) ≤ x1 ∧ x1 ≤ (155 : Int) from by omega)
    · replace c10 : ¬ (lf_wl (s.2.1 w26 x1) ≤ 0) := c10
      refine sm_122 hI (show (0 : Int) ≤ x1 ∧ x1 ≤ (155 : Int) from by omega) (fun s28 hI12 fr11 => ?_)
      have fr14 : lf_fq [63, 64, 65, 66, 69] 1000000 false s.1 s.2.2 s28.1 s28.2.2 := lf_fq_tr (lf_fq_rf) (lf_fq_wk fr11 rfl (by decide) (by decide))
      exact sm_121_p33 (fun t9 i9 f9 => hQ t9 i9 (lf_fq_tr fr14 f9)) (fun p0 t9 i9 f9 => hX10 p0 t9 i9 (lf_fq_tr fr14 f9)) (show (156 - x1).toNat ≤ M10 from by omega) hI12 (show (0 : Int) ≤ x1 ∧ x1 ≤ (155 : Int) from by omega)
theorem sm_121_p10L {Q : lf_Z → Prop} {x1 : Int} {s : lf_Z} (hQ : ∀  (s' : lf_Z), iv_A s'.1 s'.2.2 → lf_fq [63, 64, 65, 66, 69] 1000000 false s.1 s.2.2 s'.1 s'.2.2 → Q  s') (hI : iv_A s.1 s.2.2) (bx1 : 0 ≤ x1 ∧ x1 ≤ 156) : fm_121_p10L Q x1 s := by
  intro X10 hX
  have key : ∀ (m9 : Nat) (x1 : Int) (s' : lf_Z), iv_A s'.1 s'.2.2 → lf_fq [63, 64, 65, 66, 69] 1000000 false s.1 s.2.2 s'.1 s'.2.2 → 0 ≤ x1 ∧ x1 ≤ 156 → (156 - x1).toNat < m9 → X10 x1 s' := by
    intro m9
    induction m9 with
    | zero => intro x1 s' _ _ bx1 h9; exact absurd h9 (Nat.not_lt_zero _)
    | succ m9 ih => intro x1 s' i7 f7 bx1 h9; exact hX _ _ (sm_121_p10 (fun t9 i9 f9 => hQ t9 i9 (lf_fq_tr f7 f9))   (fun x1' t8 i8 f8 bx1' h8 => ih x1' t8 i8 (lf_fq_tr f7 f8) bx1' (by omega)) (Nat.le_refl _)  i7  bx1  )
  exact key _ _ s hI lf_fq_rf bx1 (Nat.lt_succ_self _)
theorem sm_121 {Q : lf_Z → Prop} {s : lf_Z} (hI : iv_A s.1 s.2.2) (hQ : ∀  (s' : lf_Z), iv_A s'.1 s'.2.2 → lf_fq [63, 64, 65, 66, 69] 1000000 false s.1 s.2.2 s'.1 s'.2.2 → Q  s') : fm_121 Q s := by
  unfold fm_121
  obtain ⟨w21, ew21, hww21⟩ := iv_ref1 hI
  refine ⟨w21, ew21, hww21, ?_⟩
  refine sm_119 hww21 hI (fun s22 hI2 fr1 => ?_)
  have fr4 : lf_fq [63, 64, 65, 66, 69] 1000000 false s.1 s.2.2 s22.1 s22.2.2 := lf_fq_tr (lf_fq_rf) (lf_fq_wk fr1 rfl (by decide) (by decide))
  exact sm_121_p10L (fun t9 i9 f9 => hQ t9 i9 (lf_fq_tr fr4 f9)) hI2 (show (0 : Int) ≤ 0 ∧ 0 ≤ (156 : Int) from by omega)
-- fm_117 Walk.oddsOf 68 i i i
theorem sm_117_p50 {X50 : Int → Int → lf_Z → Prop} {Q : Int → lf_Z → Prop} {x3 : Int} {x4 : Int} {x6 : Int} {s : lf_Z} (hQ : ∀ (r : Int) (s' : lf_Z), iv_A s'.1 s'.2.2 → lf_fq [63, 64, 65, 66, 68, 69] 1000000 false s.1 s.2.2 s'.1 s'.2.2 → Q r s') {M50 : Nat} (hX50 : ∀ (x4 : Int) (x6 : Int) (s' : lf_Z), iv_A s'.1 s'.2.2 → lf_fq [63, 64, 65, 66, 68, 69] 1000000 false s.1 s.2.2 s'.1 s'.2.2 → 0 ≤ x6 ∧ x6 ≤ 13 → (13 - x6).toNat < M50 → X50 x4 x6 s') (hM50 : (13 - x6).toNat ≤ M50) (hI : iv_A s.1 s.2.2) (bx3 : 0 ≤ x3 ∧ x3 ≤ 11) (bx6 : 0 ≤ x6 ∧ x6 ≤ 13) : fm_117_p50 Q x3 X50 x4 x6 s := by
  unfold fm_117_p50
  refine ⟨(show lf_R x6 from lf_Rof (by omega)), ?_⟩
  refine ⟨fun c14 => ?_, fun c14 => ?_⟩
  · skip
    replace c14 : 13 ≤ x6 := c14
    exact hQ (lf_wl x4) s hI (lf_fq_rf)
  · skip
    replace c14 : ¬ (13 ≤ x6) := c14
    obtain ⟨w31, ew31, hww31⟩ := iv_ref0 hI
    refine ⟨w31, ew31, hww31, ?_⟩
    refine ⟨(show (0 : Int) ≤ (x3 * 13) + x6 ∧ (x3 * 13) + x6 < (156 : Int) from by omega), ?_⟩
    exact hX50 (lf_wl ((lf_wl x4) + (lf_wl (s.2.1 w31 ((x3 * 13) + x6))))) (x6 + 1) s hI (lf_fq_rf) (show (0 : Int) ≤ x6 + 1 ∧ x6 + 1 ≤ (13 : Int) from by omega) (show (13 - (x6 + 1)).toNat < M50 from by omega)
theorem sm_117_p50L {Q : Int → lf_Z → Prop} {x3 : Int} {x4 : Int} {x6 : Int} {s : lf_Z} (hQ : ∀ (r : Int) (s' : lf_Z), iv_A s'.1 s'.2.2 → lf_fq [63, 64, 65, 66, 68, 69] 1000000 false s.1 s.2.2 s'.1 s'.2.2 → Q r s') (hI : iv_A s.1 s.2.2) (bx3 : 0 ≤ x3 ∧ x3 ≤ 11) (bx6 : 0 ≤ x6 ∧ x6 ≤ 13) : fm_117_p50L Q x3 x4 x6 s := by
  intro X50 hX
  have key : ∀ (m9 : Nat) (x4 : Int) (x6 : Int) (s' : lf_Z), iv_A s'.1 s'.2.2 → lf_fq [63, 64, 65, 66, 68, 69] 1000000 false s.1 s.2.2 s'.1 s'.2.2 → 0 ≤ x6 ∧ x6 ≤ 13 → (13 - x6).toNat < m9 → X50 x4 x6 s' := by
    intro m9
    induction m9 with
    | zero => intro x4 x6 s' _ _ bx6 h9; exact absurd h9 (Nat.not_lt_zero _)
    | succ m9 ih => intro x4 x6 s' i7 f7 bx6 h9; exact hX _ _ _ (sm_117_p50 (fun r9 t9 i9 f9 => hQ r9 t9 i9 (lf_fq_tr f7 f9))   (fun x4' x6' t8 i8 f8 bx6' h8 => ih x4' x6' t8 i8 (lf_fq_tr f7 f8) bx6' (by omega)) (Nat.le_refl _)  i7  bx3 bx6  )
  exact key _ _ _ s hI lf_fq_rf bx6 (Nat.lt_succ_self _)
theorem sm_117_p28 {X28 : Int → lf_Z → Prop} {Q : Int → lf_Z → Prop} {x2 : Int} {x3 : Int} {x4 : Int} {s : lf_Z} (hQ : ∀ (r : Int) (s' : lf_Z), iv_A s'.1 s'.2.2 → lf_fq [63, 64, 65, 66, 68, 69] 1000000 false s.1 s.2.2 s'.1 s'.2.2 → Q r s') {M28 : Nat} (hX28 : ∀ (x4 : Int) (s' : lf_Z), iv_A s'.1 s'.2.2 → lf_fq [63, 64, 65, 66, 68, 69] 1000000 false s.1 s.2.2 s'.1 s'.2.2 → 0 ≤ x4 ∧ x4 ≤ 4 → (4 - x4).toNat < M28 → X28 x4 s') (hM28 : (4 - x4).toNat ≤ M28) (hI : iv_A s.1 s.2.2) (bx2 : 0 ≤ x2 ∧ x2 ≤ 4) (bx3 : 0 ≤ x3 ∧ x3 ≤ 11) (bx4 : 0 ≤ x4 ∧ x4 ≤ 4) : fm_117_p28 Q x2 x3 X28 x4 s := by
  unfold fm_117_p28
  refine ⟨(show lf_R x4 from lf_Rof (by omega)), ?_⟩
  refine ⟨(show lf_R x2 from lf_Rof (by omega)), ?_⟩
  refine ⟨fun c13 => ?_, fun c13 => ?_⟩
  · skip
    replace c13 : x2 ≤ x4 := c13
    exact sm_117_p50L hQ hI (show (0 : Int) ≤ x3 ∧ x3 ≤ (11 : Int) from by omega) (show (0 : Int) ≤ 0 ∧ 0 ≤ (13 : Int) from by omega)
  · skip
    replace c13 : ¬ (x2 ≤ x4) := c13
    refine sm_121 hI (fun s33 hI16 fr15 => ?_)
    have fr18 : lf_fq [63, 64, 65, 66, 68, 69] 1000000 false s.1 s.2.2 s33.1 s33.2.2 := lf_fq_tr (lf_fq_rf) (lf_fq_wk fr15 rfl (by decide) (by decide))
    exact hX28 (x4 + 1) s33 hI16 fr18 (show (0 : Int) ≤ x4 + 1 ∧ x4 + 1 ≤ (4 : Int) from by omega) (show (4 - (x4 + 1)).toNat < M28 from by omega)
theorem sm_117_p28L {Q : Int → lf_Z → Prop} {x2 : Int} {x3 : Int} {x4 : Int} {s : lf_Z} (hQ : ∀ (r : Int) (s' : lf_Z), iv_A s'.1 s'.2.2 → lf_fq [63, 64, 65, 66, 68, 69] 1000000 false s.1 s.2.2 s'.1 s'.2.2 → Q r s') (hI : iv_A s.1 s.2.2) (bx2 : 0 ≤ x2 ∧ x2 ≤ 4) (bx3 : 0 ≤ x3 ∧ x3 ≤ 11) (bx4 : 0 ≤ x4 ∧ x4 ≤ 4) : fm_117_p28L Q x2 x3 x4 s := by
  intro X28 hX
  have key : ∀ (m9 : Nat) (x4 : Int) (s' : lf_Z), iv_A s'.1 s'.2.2 → lf_fq [63, 64, 65, 66, 68, 69] 1000000 false s.1 s.2.2 s'.1 s'.2.2 → 0 ≤ x4 ∧ x4 ≤ 4 → (4 - x4).toNat < m9 → X28 x4 s' := by
    intro m9
    induction m9 with
    | zero => intro x4 s' _ _ bx4 h9; exact absurd h9 (Nat.not_lt_zero _)
    | succ m9 ih => intro x4 s' i7 f7 bx4 h9; exact hX _ _ (sm_117_p28 (fun r9 t9 i9 f9 => hQ r9 t9 i9 (lf_fq_tr f7 f9))   (fun x4' t8 i8 f8 bx4' h8 => ih x4' t8 i8 (lf_fq_tr f7 f8) bx4' (by omega)) (Nat.le_refl _)  i7  bx2 bx3 bx4  )
  exact key _ _ s hI lf_fq_rf bx4 (Nat.lt_succ_self _)
theorem sm_117 {a1 : Int} {a2 : Int} {a3 : Int} {Q : Int → lf_Z → Prop} {s : lf_Z} (hI : iv_A s.1 s.2.2) (ba1 : 0 ≤ a1 ∧ a1 ≤ 3) (ba2 : 0 ≤ a2 ∧ a2 ≤ 4) (ba3 : 0 ≤ a3 ∧ a3 ≤ 11) (kp0 : 0 < s.1 16 a1) (hQ : ∀ (r : Int) (s' : lf_Z), iv_A s'.1 s'.2.2 → lf_fq [63, 64, 65, 66, 68, 69] 1000000 false s.1 s.2.2 s'.1 s'.2.2 → Q r s') : fm_117 a1 a2 a3 Q s := by
  unfold fm_117
  refine sm_118 hI (show (0 : Int) ≤ a1 ∧ a1 ≤ (3 : Int) from by omega) (show (0 : Int) ≤ 0 ∧ 0 ≤ (9 : Int) from by omega) (fun s21 hI2 fr1 => ?_)
  have fr4 : lf_fq [63, 64, 65, 66, 68, 69] 1000000 false s.1 s.2.2 s21.1 s21.2.2 := lf_fq_tr (lf_fq_rf) (lf_fq_wk fr1 rfl (by decide) (by decide))
  obtain ⟨w22, ew22, hww22⟩ := iv_ref0 hI2
  refine ⟨w22, ew22, hww22, ?_⟩
  refine sm_119 hww22 hI2 (fun s23 hI6 fr5 => ?_)
  have fr8 : lf_fq [63, 64, 65, 66, 68, 69] 1000000 false s.1 s.2.2 s23.1 s23.2.2 := lf_fq_tr fr4 (lf_fq_wk fr5 rfl (by decide) (by decide))
  obtain ⟨w24, ew24, hww24⟩ := iv_ref0 hI6
  refine ⟨w24, ew24, hww24, ?_⟩
  have b9 : (-2147483648) ≤ s23.1 16 a1 ∧ s23.1 16 a1 ≤ 2147483647 := iv_full hI6
  have b10 : s23.1 16 a1 = s21.1 16 a1 := congrFun (fr5.1 16 rfl) _
  have b11 : s21.1 16 a1 = s.1 16 a1 := congrFun (fr1.1 16 rfl) _
  refine sm_120 hI6 (show (0 : Int) ≤ a1 ∧ a1 ≤ (3 : Int) from by omega) (show 0 < (s23.1 16 a1) from by omega) (fun r26 q12 => ?_)
  refine ⟨(show (0 : Int) ≤ r26 ∧ r26 < (156 : Int) from by omega), ?_⟩
  exact sm_117_p28L (fun r9 t9 i9 f9 => hQ r9 t9 i9 (lf_fq_tr fr8 f9)) hI6 (show (0 : Int) ≤ a2 ∧ a2 ≤ (4 : Int) from by omega) (show (0 : Int) ≤ a3 ∧ a3 ≤ (11 : Int) from by omega) (show (0 : Int) ≤ 0 ∧ 0 ≤ (4 : Int) from by omega)
-- fm_124 Walk.oddsOfAll 68 i
theorem sm_124_p5 {X5 : Int → Int → lf_Z → Prop} {Q : Int → lf_Z → Prop} {x1 : Int} {x2 : Int} {x4 : Int} {s : lf_Z} (hQ : ∀ (r : Int), Q r s) {M5 : Nat} (hX5 : ∀ (x2 : Int) (x4 : Int), 0 ≤ x4 ∧ x4 ≤ 4 → (4 - x4).toNat < M5 → X5 x2 x4 s) (hM5 : (4 - x4).toNat ≤ M5) (hI : iv_A s.1 s.2.2) (bx1 : 0 ≤ x1 ∧ x1 ≤ 4) (bx4 : 0 ≤ x4 ∧ x4 ≤ 4) : fm_124_p5 Q x1 X5 x2 x4 s := by
  unfold fm_124_p5
  refine ⟨(show lf_R x4 from lf_Rof (by omega)), ?_⟩
  refine ⟨(show lf_R x1 from lf_Rof (by omega)), ?_⟩
  refine ⟨fun c1 => ?_, fun c1 => ?_⟩
  · skip
    replace c1 : x1 ≤ x4 := c1
    exact hQ (lf_wl x2)
  · skip
    replace c1 : ¬ (x1 ≤ x4) := c1
    exact hX5 (lf_wl ((lf_wl x2) * 10000)) (x4 + 1) (show (0 : Int) ≤ x4 + 1 ∧ x4 + 1 ≤ (4 : Int) from by omega) (show (4 - (x4 + 1)).toNat < M5 from by omega)
theorem sm_124_p5L {Q : Int → lf_Z → Prop} {x1 : Int} {x2 : Int} {x4 : Int} {s : lf_Z} (hQ : ∀ (r : Int), Q r s) (hI : iv_A s.1 s.2.2) (bx1 : 0 ≤ x1 ∧ x1 ≤ 4) (bx4 : 0 ≤ x4 ∧ x4 ≤ 4) : fm_124_p5L Q x1 x2 x4 s := by
  intro X5 hX
  have key : ∀ (m9 : Nat) (x2 : Int) (x4 : Int), 0 ≤ x4 ∧ x4 ≤ 4 → (4 - x4).toNat < m9 → X5 x2 x4 s := by
    intro m9
    induction m9 with
    | zero => intro x2 x4 bx4 h9; exact absurd h9 (Nat.not_lt_zero _)
    | succ m9 ih => intro x2 x4 bx4 h9; exact hX _ _ _ (sm_124_p5 hQ   (fun x2' x4' bx4' h8 => ih x2' x4' bx4' (by omega)) (Nat.le_refl _)  hI  bx1 bx4  )
  exact key _ _ _ bx4   (Nat.lt_succ_self _)
theorem sm_124 {a1 : Int} {Q : Int → lf_Z → Prop} {s : lf_Z} (hI : iv_A s.1 s.2.2) (ba1 : 0 ≤ a1 ∧ a1 ≤ 4) (hQ : ∀ (r : Int), Q r s) : fm_124 a1 Q s := by
  unfold fm_124
  exact sm_124_p5L hQ hI (show (0 : Int) ≤ a1 ∧ a1 ≤ (4 : Int) from by omega) (show (0 : Int) ≤ 0 ∧ 0 ≤ (4 : Int) from by omega)
-- fm_125 ElevenBullocks.inLowestTerms l l i
theorem sm_125_p55 {Q : Int → lf_Z → Prop} {x5 : Int} {y0 : Int} {s : lf_Z} (hQ : ∀ (r : Int), Q r s) (hI : iv_A s.1 s.2.2) : fm_125_p55 Q x5 y0 s := by
  unfold fm_125_p55
  refine ⟨fun c3 => ?_, fun c3 => ?_⟩
  · replace c3 : lf_wl x5 ≠ 0 := c3
    refine ⟨(show (lf_wl x5) ≠ 0 from by omega), ?_⟩
    exact hQ (lf_wl ((lf_wl y0).tdiv (lf_wl x5)))
  · replace c3 : ¬ (lf_wl x5 ≠ 0) := c3
    exact hQ (lf_wl y0)
theorem sm_125_p45 {Q : Int → lf_Z → Prop} {x0 : Int} {x2 : Int} {x4 : Int} {x5 : Int} {s : lf_Z} (hQ : ∀ (r : Int), Q r s) (hI : iv_A s.1 s.2.2) (bx4 : 0 ≤ x4 ∧ x4 ≤ 1) : fm_125_p45 Q x0 x2 x4 x5 s := by
  unfold fm_125_p45
  refine ⟨(show lf_R x4 from lf_Rof (by omega)), ?_⟩
  refine ⟨fun c2 => ?_, fun c2 => ?_⟩
  · skip
    replace c2 : x4 = 0 := c2
    exact sm_125_p55 hQ hI
  · skip
    replace c2 : ¬ (x4 = 0) := c2
    exact sm_125_p55 hQ hI
theorem sm_125_p9 {X9 : Int → Int → Int → lf_Z → Prop} {Q : Int → lf_Z → Prop} {x0 : Int} {x2 : Int} {x4 : Int} {x5 : Int} {x7 : Int} {x9 : Int} {s : lf_Z} (hQ : ∀ (r : Int), Q r s) {M9 : Nat} (hX9 : ∀ (x5 : Int) (x7 : Int) (x9 : Int), 0 ≤ x9 ∧ x9 ≤ 1000 → (1000 - x9).toNat < M9 → X9 x5 x7 x9 s) (hM9 : (1000 - x9).toNat ≤ M9) (hI : iv_A s.1 s.2.2) (bx4 : 0 ≤ x4 ∧ x4 ≤ 1) (bx9 : 0 ≤ x9 ∧ x9 ≤ 1000) : fm_125_p9 Q x0 x2 x4 X9 x5 x7 x9 s := by
  unfold fm_125_p9
  refine ⟨(show lf_R x9 from lf_Rof (by omega)), ?_⟩
  refine ⟨fun c1 => ?_, fun c1 => ?_⟩
  · skip
    replace c1 : 1000 ≤ x9 := c1
    exact sm_125_p45 hQ hI (show (0 : Int) ≤ x4 ∧ x4 ≤ (1 : Int) from by omega)
  · skip
    replace c1 : ¬ (1000 ≤ x9) := c1
    refine ⟨fun c4 => ?_, fun c4 => ?_⟩
    · replace c4 : lf_wl x7 = 0 := c4
      exact sm_125_p45 hQ hI (show (0 : Int) ≤ x4 ∧ x4 ≤ (1 : Int) from by omega)
    · replace c4 : ¬ (lf_wl x7 = 0) := c4
      refine ⟨(show (lf_wl x7) ≠ 0 from by omega), ?_⟩
      exact hX9 (x7) (lf_wl ((lf_wl x5).tmod (lf_wl x7))) (x9 + 1) (show (0 : Int) ≤ x9 + 1 ∧ x9 + 1 ≤ (1000 : Int) from by omega) (show (1000 - (x9 + 1)).toNat < M9 from by omega)
theorem sm_125_p9L {Q : Int → lf_Z → Prop} {x0 : Int} {x2 : Int} {x4 : Int} {x5 : Int} {x7 : Int} {x9 : Int} {s : lf_Z} (hQ : ∀ (r : Int), Q r s) (hI : iv_A s.1 s.2.2) (bx4 : 0 ≤ x4 ∧ x4 ≤ 1) (bx9 : 0 ≤ x9 ∧ x9 ≤ 1000) : fm_125_p9L Q x0 x2 x4 x5 x7 x9 s := by
  intro X9 hX
  have key : ∀ (m9 : Nat) (x5 : Int) (x7 : Int) (x9 : Int), 0 ≤ x9 ∧ x9 ≤ 1000 → (1000 - x9).toNat < m9 → X9 x5 x7 x9 s := by
    intro m9
    induction m9 with
    | zero => intro x5 x7 x9 bx9 h9; exact absurd h9 (Nat.not_lt_zero _)
    | succ m9 ih => intro x5 x7 x9 bx9 h9; exact hX _ _ _ _ (sm_125_p9 hQ   (fun x5' x7' x9' bx9' h8 => ih x5' x7' x9' bx9' (by omega)) (Nat.le_refl _)  hI  bx4 bx9  )
  exact key _ _ _ _ bx9   (Nat.lt_succ_self _)
theorem sm_125 {a0 : Int} {a1 : Int} {a2 : Int} {Q : Int → lf_Z → Prop} {s : lf_Z} (hI : iv_A s.1 s.2.2) (ba2 : 0 ≤ a2 ∧ a2 ≤ 1) (hQ : ∀ (r : Int), Q r s) : fm_125 a0 a1 a2 Q s := by
  unfold fm_125
  exact sm_125_p9L hQ hI (show (0 : Int) ≤ a2 ∧ a2 ≤ (1 : Int) from by omega) (show (0 : Int) ≤ 0 ∧ 0 ≤ (1000 : Int) from by omega)
-- fm_116 ElevenBullocks.where 0 i i i i
theorem sm_116_p31 {Q : Int → lf_Z → Prop} {s : lf_Z} (hQ : ∀ (r : Int) (s' : lf_Z), iv_A s'.1 s'.2.2 → lf_fq [63, 64, 65, 66, 68, 69] 1000000 false s.1 s.2.2 s'.1 s'.2.2 → Q r s') (hI : iv_A s.1 s.2.2) : fm_116_p31 Q s := by
  unfold fm_116_p31
  exact hQ (-1) s hI (lf_fq_rf)
theorem sm_116 {a1 : Int} {a2 : Int} {a3 : Int} {a4 : Int} {Q : Int → lf_Z → Prop} {s : lf_Z} (hI : iv_A s.1 s.2.2) (ba1 : (-2147483648) ≤ a1 ∧ a1 ≤ 2147483647) (ba2 : (-2147483648) ≤ a2 ∧ a2 ≤ 2147483647) (ba3 : (-2147483648) ≤ a3 ∧ a3 ≤ 2147483647) (ba4 : 0 ≤ a4 ∧ a4 ≤ 1) (hQ : ∀ (r : Int) (s' : lf_Z), iv_A s'.1 s'.2.2 → lf_fq [63, 64, 65, 66, 68, 69] 1000000 false s.1 s.2.2 s'.1 s'.2.2 → Q r s') : fm_116 a1 a2 a3 a4 Q s := by
  unfold fm_116
  refine sm_80 hI (show (-2147483648 : Int) ≤ a1 ∧ a1 ≤ (2147483647 : Int) from by omega) (fun z22 q1 => ?_)
  have b2 : (-2147483648) ≤ s.1 16 a1 ∧ s.1 16 a1 ≤ 2147483647 := iv_full hI
  refine ⟨fun c3 => ?_, fun c3 => ?_⟩
  · skip
    have dc3 := q1.2 c3
    exact sm_116_p31 hQ hI
  · skip
    have dc3 := q1.1 c3
    refine sm_15 hI (show (-2147483648 : Int) ≤ a2 ∧ a2 ≤ (2147483647 : Int) from by omega) (show (-1 : Int) ≤ 0 ∧ 0 ≤ (99 : Int) from by omega) (show (-2147483648 : Int) ≤ 4 ∧ 4 ≤ (2147483647 : Int) from by omega) (fun z24 q4 => ?_)
    refine ⟨fun c5 => ?_, fun c5 => ?_⟩
    · skip
      have dc5 := q4.2 c5
      exact sm_116_p31 hQ hI
    · skip
      have dc5 := q4.1 c5
      refine sm_18 hI (show (-2147483648 : Int) ≤ a3 ∧ a3 ≤ (2147483647 : Int) from by omega) (fun z26 q6 => ?_)
      have b7 : 0 ≤ s.1 1 0 ∧ s.1 1 0 ≤ 12 := iv_r1_0 hI
      refine ⟨fun c8 => ?_, fun c8 => ?_⟩
      · skip
        have dc8 := q6.1 c8
        refine sm_117 hI (show (0 : Int) ≤ a1 ∧ a1 ≤ (3 : Int) from by omega) (show (0 : Int) ≤ a2 ∧ a2 ≤ (4 : Int) from by omega) (show (0 : Int) ≤ a3 ∧ a3 ≤ (11 : Int) from by omega) (show 0 < (s.1 16 a1) from by omega) (fun r28 s27 hI10 fr9 => ?_)
        have fr12 : lf_fq [63, 64, 65, 66, 68, 69] 1000000 false s.1 s.2.2 s27.1 s27.2.2 := lf_fq_tr (lf_fq_rf) (lf_fq_wk fr9 rfl (by decide) (by decide))
        refine sm_124 hI10 (show (0 : Int) ≤ a2 ∧ a2 ≤ (4 : Int) from by omega) (fun r30 => ?_)
        refine sm_125 hI10 (show (0 : Int) ≤ a4 ∧ a4 ≤ (1 : Int) from by omega) (fun r32 => ?_)
        exact hQ (lf_wl r32) s27 hI10 fr12
      · skip
        have dc8 := q6.2 c8
        exact sm_116_p31 hQ hI
-- fm_292 Model.common l l
theorem sm_292 {a0 : Int} {a1 : Int} {Q : Int → lf_Z → Prop} {s : lf_Z} (hI : iv_A s.1 s.2.2) (hQ : ∀ (r : Int), (lf_wl a1 = 0 ∨ lf_wl r ≠ 0) → Q r s) : fm_292 a0 a1 Q s := by
  unfold fm_292 fm_292_p6L
  intro X hX
  have key : ∀ (m : Nat) (p q : Int), (lf_wl q).natAbs < m → (lf_wl p ≠ 0 ∨ lf_wl q ≠ 0 ∨ lf_wl a1 = 0) → X p q s := by
    intro m
    induction m with
    | zero => intros; omega
    | succ m ih =>
      intro p q hm hz
      refine hX _ _ _ ?_
      unfold fm_292_p6
      refine ⟨fun c => ?_, fun c => ⟨c, ?_⟩⟩
      · refine hQ (lf_wl p) ?_
        have e : lf_wl (lf_wl p) = lf_wl p := lf_wlI
        omega
      · have hl := Int.natAbs_tmod (lf_wl p) (lf_wl q)
        have hlt : (lf_wl p).natAbs % (lf_wl q).natAbs < (lf_wl q).natAbs := Nat.mod_lt _ (by omega)
        have hr := lf_wlRL q
        have e : lf_wl ((lf_wl p).tmod (lf_wl q)) = (lf_wl p).tmod (lf_wl q) := lf_wlR (by omega)
        refine ih _ _ ?_ (Or.inl c)
        rw [e, e]
        omega
  refine key _ a0 a1 (Nat.lt_succ_self _) ?_
  omega
-- fm_291 Model.part l l i
theorem sm_291_p10 {Q : Int → lf_Z → Prop} {x0 : Int} {x2 : Int} {y0 : Int} {s : lf_Z} (hQ : ∀ (r : Int), Q r s) (hI : iv_A s.1 s.2.2) (kv0 : lf_wl x2 ≠ 0) : fm_291_p10 Q x0 x2 y0 s := by
  unfold fm_291_p10
  have b2 : lf_wl (lf_wl x0) = lf_wl x0 := lf_wlI
  have b3 : lf_wl (lf_wl x2) = lf_wl x2 := lf_wlI
  refine sm_292 hI (fun r23 q4 => ?_)
  have q4 : lf_wl (lf_wl x2) = 0 ∨ lf_wl r23 ≠ 0 := q4
  refine ⟨(show (lf_wl r23) ≠ 0 from by omega), ?_⟩
  exact hQ (lf_wl ((lf_wl y0).tdiv (lf_wl r23)))
theorem sm_291 {a0 : Int} {a1 : Int} {a2 : Int} {Q : Int → lf_Z → Prop} {s : lf_Z} (hI : iv_A s.1 s.2.2) (ba2 : 0 ≤ a2 ∧ a2 ≤ 1) (kp0 : lf_wl a1 ≠ 0) (hQ : ∀ (r : Int), Q r s) : fm_291 a0 a1 a2 Q s := by
  unfold fm_291
  refine ⟨(show lf_R a2 from lf_Rof (by omega)), ?_⟩
  refine ⟨fun c1 => ?_, fun c1 => ?_⟩
  · skip
    replace c1 : a2 = 0 := c1
    exact sm_291_p10 hQ hI (show lf_wl a1 ≠ 0 from by omega)
  · skip
    replace c1 : ¬ (a2 = 0) := c1
    exact sm_291_p10 hQ hI (show lf_wl a1 ≠ 0 from by omega)
-- fm_290 Model.spread 95 i i
theorem sm_290_p98 {X20 : Int → Int → lf_Z → Prop} {Q : lf_Z → Prop} {x1 : Int} {x2 : Int} {x3 : Int} {x4 : Int} {x6 : Int} {s : lf_Z} (hQ : ∀  (s' : lf_Z), iv_A s'.1 s'.2.2 → lf_fq [104, 107] 1000000 true s.1 s.2.2 s'.1 s'.2.2 → Q  s') {M20 : Nat} (hX20 : ∀ (x4 : Int) (x6 : Int) (s' : lf_Z), iv_A s'.1 s'.2.2 → lf_fq [104, 107] 1000000 true s.1 s.2.2 s'.1 s'.2.2 → 0 ≤ x6 ∧ x6 ≤ 16 → (16 - x6).toNat < M20 → X20 x4 x6 s') (hM20 : (16 - x6).toNat ≤ M20) (hI : iv_A s.1 s.2.2) (bx1 : 0 ≤ x1 ∧ x1 ≤ 24) (bx2 : 0 ≤ x2 ∧ x2 ≤ 155) (bx3 : 0 ≤ x3 ∧ x3 ≤ 11) (bx6 : 0 ≤ x6 ∧ x6 ≤ 15) : fm_290_p98 X20 Q x1 x2 x3 x4 x6 s := by
  unfold fm_290_p98
  exact hX20 (x4) (x6 + 1) s hI (lf_fq_rf) (show (0 : Int) ≤ x6 + 1 ∧ x6 + 1 ≤ (16 : Int) from by omega) (show (16 - (x6 + 1)).toNat < M20 from by omega)
theorem sm_290_p20 {X20 : Int → Int → lf_Z → Prop} {Q : lf_Z → Prop} {x1 : Int} {x2 : Int} {x3 : Int} {x4 : Int} {x6 : Int} {s : lf_Z} (hQ : ∀  (s' : lf_Z), iv_A s'.1 s'.2.2 → lf_fq [104, 107] 1000000 true s.1 s.2.2 s'.1 s'.2.2 → Q  s') {M20 : Nat} (hX20 : ∀ (x4 : Int) (x6 : Int) (s' : lf_Z), iv_A s'.1 s'.2.2 → lf_fq [104, 107] 1000000 true s.1 s.2.2 s'.1 s'.2.2 → 0 ≤ x6 ∧ x6 ≤ 16 → (16 - x6).toNat < M20 → X20 x4 x6 s') (hM20 : (16 - x6).toNat ≤ M20) (hI : iv_A s.1 s.2.2) (bx1 : 0 ≤ x1 ∧ x1 ≤ 24) (bx2 : 0 ≤ x2 ∧ x2 ≤ 155) (bx3 : 0 ≤ x3 ∧ x3 ≤ 11) (bx6 : 0 ≤ x6 ∧ x6 ≤ 16) : fm_290_p20 Q x1 x2 x3 X20 x4 x6 s := by
  unfold fm_290_p20
  have b2 : 0 ≤ s.1 96 1 ∧ s.1 96 1 ≤ 16 := iv_rd96 hI (iv_fd6ad3e54 (by omega))
  have b3 : s.1 96 1 ≤ 0 ∨ 0 < s.1 96 0 := (show s.1 96 1 ≤ 0 ∨ 0 < s.1 96 0 from iv_l96_1 hI)
  refine ⟨(show lf_R x6 from lf_Rof (by omega)), ?_⟩
  refine ⟨(show lf_R (s.1 96 1) from lf_Rof (by omega)), ?_⟩
  refine ⟨fun c4 => ?_, fun c4 => ?_⟩
  · skip
    replace c4 : s.1 96 1 ≤ x6 := c4
    refine ⟨(show (0 : Int) ≤ x2 ∧ x2 < (156 : Int) from by omega), ?_⟩
    exact hQ (s.1, lf_up s.2.1 110 x2 (lf_wl ((lf_wl (s.2.1 110 x2)) + (lf_wl x4))), s.2.2) hI (lf_fq_rf)
  · skip
    replace c4 : ¬ (s.1 96 1 ≤ x6) := c4
    refine ⟨(show lf_R x2 from lf_Rof (by omega)), ?_⟩
    have b5 : 0 ≤ x2.tmod 13 ∧ x2.tmod 13 ≤ 12 := lf_tmodP (by omega) (by omega) (by omega)
    refine sm_273 hI (show (0 : Int) ≤ x1 ∧ x1 ≤ (24 : Int) from by omega) (show (0 : Int) ≤ x3 ∧ x3 ≤ (11 : Int) from by omega) (show (-1 : Int) ≤ (x2.tmod 13) - 1 ∧ (x2.tmod 13) - 1 ≤ (11 : Int) from by omega) (show (0 : Int) ≤ x6 ∧ x6 ≤ (15 : Int) from by omega) (fun r28 s27 hI7 fr6 q8 => ?_)
    obtain ⟨q8, q8x⟩ := q8
    replace q8x : r28 ≤ 0 ∨ 0 ≤ iv_os (s.1 96) x6 x3 := q8x
    have fr9 : lf_fq [104, 107] 1000000 true s.1 s.2.2 s27.1 s27.2.2 := lf_fq_tr (lf_fq_rf) (lf_fq_wk fr6 rfl (by decide) (by decide))
    refine ⟨(show lf_R r28 from lf_Rof (by omega)), ?_⟩
    refine ⟨fun c10 => ?_, fun c10 => ?_⟩
    · skip
      replace c10 : r28 ≠ 0 := c10
      refine sm_187 hI7 (show (0 : Int) ≤ x6 ∧ x6 ≤ (15 : Int) from by omega) (show (0 : Int) ≤ x3 ∧ x3 ≤ (11 : Int) from by omega) (fun r31 q11 => ?_)
      obtain ⟨q11, q11x⟩ := q11
      replace q11x : r31 = iv_os (s27.1 96) x6 x3 := q11x
      have b12 : iv_os (s27.1 96) x6 x3 = iv_os (s.1 96) x6 x3 := by rw [fr6.1 96 rfl]
      refine ⟨(show (0 : Int) ≤ ((13 * r31) + x3) + 1 ∧ ((13 * r31) + x3) + 1 < (156 : Int) from by omega), ?_⟩
      exact sm_290_p98 (fun t9 i9 f9 => hQ t9 i9 (lf_fq_tr fr9 f9)) (fun p0 p1 t9 i9 f9 => hX20 p0 p1 t9 i9 (lf_fq_tr fr9 f9)) (show (16 - x6).toNat ≤ M20 from by omega) hI7 (show (0 : Int) ≤ x1 ∧ x1 ≤ (24 : Int) from by omega) (show (0 : Int) ≤ x2 ∧ x2 ≤ (155 : Int) from by omega) (show (0 : Int) ≤ x3 ∧ x3 ≤ (11 : Int) from by omega) (show (0 : Int) ≤ x6 ∧ x6 ≤ (15 : Int) from by omega)
    · skip
      replace c10 : ¬ (r28 ≠ 0) := c10
      exact sm_290_p98 (fun t9 i9 f9 => hQ t9 i9 (lf_fq_tr fr9 f9)) (fun p0 p1 t9 i9 f9 => hX20 p0 p1 t9 i9 (lf_fq_tr fr9 f9)) (show (16 - x6).toNat ≤ M20 from by omega) hI7 (show (0 : Int) ≤ x1 ∧ x1 ≤ (24 : Int) from by omega) (show (0 : Int) ≤ x2 ∧ x2 ≤ (155 : Int) from by omega) (show (0 : Int) ≤ x3 ∧ x3 ≤ (11 : Int) from by omega) (show (0 : Int) ≤ x6 ∧ x6 ≤ (15 : Int) from by omega)
theorem sm_290_p20L {Q : lf_Z → Prop} {x1 : Int} {x2 : Int} {x3 : Int} {x4 : Int} {x6 : Int} {s : lf_Z} (hQ : ∀  (s' : lf_Z), iv_A s'.1 s'.2.2 → lf_fq [104, 107] 1000000 true s.1 s.2.2 s'.1 s'.2.2 → Q  s') (hI : iv_A s.1 s.2.2) (bx1 : 0 ≤ x1 ∧ x1 ≤ 24) (bx2 : 0 ≤ x2 ∧ x2 ≤ 155) (bx3 : 0 ≤ x3 ∧ x3 ≤ 11) (bx6 : 0 ≤ x6 ∧ x6 ≤ 16) : fm_290_p20L Q x1 x2 x3 x4 x6 s := by
  intro X20 hX
  have key : ∀ (m9 : Nat) (x4 : Int) (x6 : Int) (s' : lf_Z), iv_A s'.1 s'.2.2 → lf_fq [104, 107] 1000000 true s.1 s.2.2 s'.1 s'.2.2 → 0 ≤ x6 ∧ x6 ≤ 16 → (16 - x6).toNat < m9 → X20 x4 x6 s' := by
    intro m9
    induction m9 with
    | zero => intro x4 x6 s' _ _ bx6 h9; exact absurd h9 (Nat.not_lt_zero _)
    | succ m9 ih => intro x4 x6 s' i7 f7 bx6 h9; exact hX _ _ _ (sm_290_p20 (fun t9 i9 f9 => hQ t9 i9 (lf_fq_tr f7 f9))   (fun x4' x6' t8 i8 f8 bx6' h8 => ih x4' x6' t8 i8 (lf_fq_tr f7 f8) bx6' (by omega)) (Nat.le_refl _)  i7  bx1 bx2 bx3 bx6  )
  exact key _ _ _ s hI lf_fq_rf bx6 (Nat.lt_succ_self _)
theorem sm_290 {a1 : Int} {a2 : Int} {Q : lf_Z → Prop} {s : lf_Z} (hI : iv_A s.1 s.2.2) (ba1 : 0 ≤ a1 ∧ a1 ≤ 24) (ba2 : 0 ≤ a2 ∧ a2 ≤ 155) (hQ : ∀  (s' : lf_Z), iv_A s'.1 s'.2.2 → lf_fq [104, 107] 1000000 true s.1 s.2.2 s'.1 s'.2.2 → Q  s') : fm_290 a1 a2 Q s := by
  unfold fm_290
  refine ⟨(show lf_R a2 from lf_Rof (by omega)), ?_⟩
  have b1 : 0 ≤ a2.tdiv 13 ∧ a2.tdiv 13 ≤ 11 := lf_tdivB (p := 0) (q := 155) (by omega) (by omega) (by decide) (by decide) (by decide)
  refine ⟨(show (0 : Int) ≤ a2 ∧ a2 < (156 : Int) from by omega), ?_⟩
  exact sm_290_p20L hQ hI (show (0 : Int) ≤ a1 ∧ a1 ≤ (24 : Int) from by omega) (show (0 : Int) ≤ a2 ∧ a2 ≤ (155 : Int) from by omega) (show (0 : Int) ≤ a2.tdiv 13 ∧ a2.tdiv 13 ≤ (11 : Int) from by omega) (show (0 : Int) ≤ 0 ∧ 0 ≤ (16 : Int) from by omega)
-- fm_289 Model.where 95 i i i i
theorem sm_289_p25 {Q : Int → lf_Z → Prop} {s : lf_Z} (hQ : ∀ (r : Int) (s' : lf_Z), iv_A s'.1 s'.2.2 → lf_fq [104, 107] 1000000 true s.1 s.2.2 s'.1 s'.2.2 → Q r s') (hI : iv_A s.1 s.2.2) : fm_289_p25 Q s := by
  unfold fm_289_p25
  exact hQ (-1) s hI (lf_fq_rf)
theorem sm_289_p204 {X204 : Int → Int → lf_Z → Prop} {Q : Int → lf_Z → Prop} {x3 : Int} {x4 : Int} {x5 : Int} {x7 : Int} {x9 : Int} {s : lf_Z} (hQ : ∀ (r : Int) (s' : lf_Z), iv_A s'.1 s'.2.2 → lf_fq [104, 107] 1000000 true s.1 s.2.2 s'.1 s'.2.2 → Q r s') {M204 : Nat} (hX204 : ∀ (x7 : Int) (x9 : Int) (s' : lf_Z), iv_A s'.1 s'.2.2 → lf_fq [104, 107] 1000000 true s.1 s.2.2 s'.1 s'.2.2 → 0 ≤ x9 ∧ x9 ≤ 13 → (lf_wl x5 ≠ 0) → (13 - x9).toNat < M204 → X204 x7 x9 s') (hM204 : (13 - x9).toNat ≤ M204) (hI : iv_A s.1 s.2.2) (bx3 : 0 ≤ x3 ∧ x3 ≤ 11) (bx4 : 0 ≤ x4 ∧ x4 ≤ 1) (bx9 : 0 ≤ x9 ∧ x9 ≤ 13) (kv0 : lf_wl x5 ≠ 0) : fm_289_p204 Q x3 x4 x5 X204 x7 x9 s := by
  unfold fm_289_p204
  refine ⟨(show lf_R x9 from lf_Rof (by omega)), ?_⟩
  refine ⟨fun c13 => ?_, fun c13 => ?_⟩
  · skip
    replace c13 : 13 ≤ x9 := c13
    have b14 : lf_wl (lf_wl x7) = lf_wl x7 := lf_wlI
    have b15 : lf_wl (lf_wl x5) = lf_wl x5 := lf_wlI
    refine sm_291 hI (show (0 : Int) ≤ x4 ∧ x4 ≤ (1 : Int) from by omega) (show lf_wl (lf_wl x5) ≠ 0 from by omega) (fun r37 => ?_)
    exact hQ (lf_wl r37) s hI (lf_fq_rf)
  · skip
    replace c13 : ¬ (13 ≤ x9) := c13
    refine ⟨(show (0 : Int) ≤ (13 * x3) + x9 ∧ (13 * x3) + x9 < (156 : Int) from by omega), ?_⟩
    exact hX204 (lf_wl ((lf_wl x7) + (lf_wl (s.2.1 109 ((13 * x3) + x9))))) (x9 + 1) s hI (lf_fq_rf) (show (0 : Int) ≤ x9 + 1 ∧ x9 + 1 ≤ (13 : Int) from by omega) (show lf_wl x5 ≠ 0 from by omega) (show (13 - (x9 + 1)).toNat < M204 from by omega)
theorem sm_289_p204L {Q : Int → lf_Z → Prop} {x3 : Int} {x4 : Int} {x5 : Int} {x7 : Int} {x9 : Int} {s : lf_Z} (hQ : ∀ (r : Int) (s' : lf_Z), iv_A s'.1 s'.2.2 → lf_fq [104, 107] 1000000 true s.1 s.2.2 s'.1 s'.2.2 → Q r s') (hI : iv_A s.1 s.2.2) (bx3 : 0 ≤ x3 ∧ x3 ≤ 11) (bx4 : 0 ≤ x4 ∧ x4 ≤ 1) (bx9 : 0 ≤ x9 ∧ x9 ≤ 13) (kv0 : lf_wl x5 ≠ 0) : fm_289_p204L Q x3 x4 x5 x7 x9 s := by
  intro X204 hX
  have key : ∀ (m9 : Nat) (x7 : Int) (x9 : Int) (s' : lf_Z), iv_A s'.1 s'.2.2 → lf_fq [104, 107] 1000000 true s.1 s.2.2 s'.1 s'.2.2 → 0 ≤ x9 ∧ x9 ≤ 13 → (lf_wl x5 ≠ 0) → (13 - x9).toNat < m9 → X204 x7 x9 s' := by
    intro m9
    induction m9 with
    | zero => intro x7 x9 s' _ _ bx9 kv0 h9; exact absurd h9 (Nat.not_lt_zero _)
    | succ m9 ih => intro x7 x9 s' i7 f7 bx9 kv0 h9; exact hX _ _ _ (sm_289_p204 (fun r9 t9 i9 f9 => hQ r9 t9 i9 (lf_fq_tr f7 f9))   (fun x7' x9' t8 i8 f8 bx9' kv0' h8 => ih x7' x9' t8 i8 (lf_fq_tr f7 f8) bx9' kv0' (by omega)) (Nat.le_refl _)  i7  bx3 bx4 bx9  kv0)
  exact key _ _ _ s hI lf_fq_rf bx9 kv0 (Nat.lt_succ_self _)
theorem sm_289_p156 {X82 : Int → Int → lf_Z → Prop} {X156 : Int → lf_Z → Prop} {Q : Int → lf_Z → Prop} {x1 : Int} {x2 : Int} {x3 : Int} {x4 : Int} {x5 : Int} {x7 : Int} {x8 : Int} {s : lf_Z} (hQ : ∀ (r : Int) (s' : lf_Z), iv_A s'.1 s'.2.2 → lf_fq [104, 107] 1000000 true s.1 s.2.2 s'.1 s'.2.2 → Q r s') {M82 : Nat} (hX82 : ∀ (x5 : Int) (x7 : Int) (s' : lf_Z), iv_A s'.1 s'.2.2 → lf_fq [104, 107] 1000000 true s.1 s.2.2 s'.1 s'.2.2 → 0 ≤ x7 ∧ x7 ≤ 4 → ((x7 = 0 ∧ lf_wl x5 = 1) ∨ (x7 = 1 ∧ lf_wl x5 = 10000) ∨ (x7 = 2 ∧ lf_wl x5 = 100000000) ∨ (x7 = 3 ∧ lf_wl x5 = 1000000000000) ∨ (x7 = 4 ∧ lf_wl x5 = 10000000000000000)) → (4 - x7).toNat < M82 → X82 x5 x7 s') (hM82 : (4 - x7).toNat ≤ M82) {M156 : Nat} (hX156 : ∀ (x8 : Int) (s' : lf_Z), iv_A s'.1 s'.2.2 → lf_fq [104, 107] 1000000 true s.1 s.2.2 s'.1 s'.2.2 → 0 ≤ x8 ∧ x8 ≤ 156 → ((x7 = 0 ∧ lf_wl x5 = 1) ∨ (x7 = 1 ∧ lf_wl x5 = 10000) ∨ (x7 = 2 ∧ lf_wl x5 = 100000000) ∨ (x7 = 3 ∧ lf_wl x5 = 1000000000000) ∨ (x7 = 4 ∧ lf_wl x5 = 10000000000000000)) → (156 - x8).toNat < M156 → X156 x8 s') (hM156 : (156 - x8).toNat ≤ M156) (hI : iv_A s.1 s.2.2) (bx1 : 0 ≤ x1 ∧ x1 ≤ 3) (bx2 : 1 ≤ x2 ∧ x2 ≤ 4) (bx3 : 0 ≤ x3 ∧ x3 ≤ 11) (bx4 : 0 ≤ x4 ∧ x4 ≤ 1) (bx7 : 0 ≤ x7 ∧ x7 ≤ 3) (bx8 : 0 ≤ x8 ∧ x8 ≤ 156) (kv0 : (x7 = 0 ∧ lf_wl x5 = 1) ∨ (x7 = 1 ∧ lf_wl x5 = 10000) ∨ (x7 = 2 ∧ lf_wl x5 = 100000000) ∨ (x7 = 3 ∧ lf_wl x5 = 1000000000000) ∨ (x7 = 4 ∧ lf_wl x5 = 10000000000000000)) : fm_289_p156 X82 Q x1 x2 x3 x4 x5 x7 X156 x8 s := by
  unfold fm_289_p156
  refine ⟨(show lf_R x8 from lf_Rof (by omega)), ?_⟩
  refine ⟨fun c19 => ?_, fun c19 => ?_⟩
  · skip
    replace c19 : 156 ≤ x8 := c19
    have b20 : lf_wl ((lf_wl x5) * 10000) = (lf_wl x5) * 10000 := lf_wlR (by omega)
    have b21 : lf_wl (lf_wl ((lf_wl x5) * 10000)) = lf_wl ((lf_wl x5) * 10000) := lf_wlI
    exact hX82 (lf_wl ((lf_wl x5) * 10000)) (x7 + 1) s hI (lf_fq_rf) (show (0 : Int) ≤ x7 + 1 ∧ x7 + 1 ≤ (4 : Int) from by omega) (show ((x7 + 1) = 0 ∧ lf_wl (lf_wl ((lf_wl x5) * 10000)) = 1) ∨ ((x7 + 1) = 1 ∧ lf_wl (lf_wl ((lf_wl x5) * 10000)) = 10000) ∨ ((x7 + 1) = 2 ∧ lf_wl (lf_wl ((lf_wl x5) * 10000)) = 100000000) ∨ ((x7 + 1) = 3 ∧ lf_wl (lf_wl ((lf_wl x5) * 10000)) = 1000000000000) ∨ ((x7 + 1) = 4 ∧ lf_wl (lf_wl ((lf_wl x5) * 10000)) = 10000000000000000) from by omega) (show (4 - (x7 + 1)).toNat < M82 from by omega)
  · skip
    replace c19 : ¬ (156 ≤ x8) := c19
    refine ⟨(show (0 : Int) ≤ x8 ∧ x8 < (156 : Int) from by omega), ?_⟩
    exact hX156 (x8 + 1) (s.1, lf_up s.2.1 109 x8 (lf_wl (s.2.1 110 x8)), s.2.2) hI (lf_fq_rf) (show (0 : Int) ≤ x8 + 1 ∧ x8 + 1 ≤ (156 : Int) from by omega) (show (x7 = 0 ∧ lf_wl x5 = 1) ∨ (x7 = 1 ∧ lf_wl x5 = 10000) ∨ (x7 = 2 ∧ lf_wl x5 = 100000000) ∨ (x7 = 3 ∧ lf_wl x5 = 1000000000000) ∨ (x7 = 4 ∧ lf_wl x5 = 10000000000000000) from by omega) (show (156 - (x8 + 1)).toNat < M156 from by omega)
theorem sm_289_p156L {X82 : Int → Int → lf_Z → Prop} {Q : Int → lf_Z → Prop} {x1 : Int} {x2 : Int} {x3 : Int} {x4 : Int} {x5 : Int} {x7 : Int} {x8 : Int} {s : lf_Z} (hQ : ∀ (r : Int) (s' : lf_Z), iv_A s'.1 s'.2.2 → lf_fq [104, 107] 1000000 true s.1 s.2.2 s'.1 s'.2.2 → Q r s') {M82 : Nat} (hX82 : ∀ (x5 : Int) (x7 : Int) (s' : lf_Z), iv_A s'.1 s'.2.2 → lf_fq [104, 107] 1000000 true s.1 s.2.2 s'.1 s'.2.2 → 0 ≤ x7 ∧ x7 ≤ 4 → ((x7 = 0 ∧ lf_wl x5 = 1) ∨ (x7 = 1 ∧ lf_wl x5 = 10000) ∨ (x7 = 2 ∧ lf_wl x5 = 100000000) ∨ (x7 = 3 ∧ lf_wl x5 = 1000000000000) ∨ (x7 = 4 ∧ lf_wl x5 = 10000000000000000)) → (4 - x7).toNat < M82 → X82 x5 x7 s') (hM82 : (4 - x7).toNat ≤ M82) (hI : iv_A s.1 s.2.2) (bx1 : 0 ≤ x1 ∧ x1 ≤ 3) (bx2 : 1 ≤ x2 ∧ x2 ≤ 4) (bx3 : 0 ≤ x3 ∧ x3 ≤ 11) (bx4 : 0 ≤ x4 ∧ x4 ≤ 1) (bx7 : 0 ≤ x7 ∧ x7 ≤ 3) (bx8 : 0 ≤ x8 ∧ x8 ≤ 156) (kv0 : (x7 = 0 ∧ lf_wl x5 = 1) ∨ (x7 = 1 ∧ lf_wl x5 = 10000) ∨ (x7 = 2 ∧ lf_wl x5 = 100000000) ∨ (x7 = 3 ∧ lf_wl x5 = 1000000000000) ∨ (x7 = 4 ∧ lf_wl x5 = 10000000000000000)) : fm_289_p156L X82 Q x1 x2 x3 x4 x5 x7 x8 s := by
  intro X156 hX
  have key : ∀ (m9 : Nat) (x8 : Int) (s' : lf_Z), iv_A s'.1 s'.2.2 → lf_fq [104, 107] 1000000 true s.1 s.2.2 s'.1 s'.2.2 → 0 ≤ x8 ∧ x8 ≤ 156 → ((x7 = 0 ∧ lf_wl x5 = 1) ∨ (x7 = 1 ∧ lf_wl x5 = 10000) ∨ (x7 = 2 ∧ lf_wl x5 = 100000000) ∨ (x7 = 3 ∧ lf_wl x5 = 1000000000000) ∨ (x7 = 4 ∧ lf_wl x5 = 10000000000000000)) → (156 - x8).toNat < m9 → X156 x8 s' := by
    intro m9
    induction m9 with
    | zero => intro x8 s' _ _ bx8 kv0 h9; exact absurd h9 (Nat.not_lt_zero _)
    | succ m9 ih => intro x8 s' i7 f7 bx8 kv0 h9; exact hX _ _ (sm_289_p156 (fun r9 t9 i9 f9 => hQ r9 t9 i9 (lf_fq_tr f7 f9))  (fun p0 p1 t9 i9 f9 => hX82 p0 p1 t9 i9 (lf_fq_tr f7 f9)) hM82 (fun x8' t8 i8 f8 bx8' kv0' h8 => ih x8' t8 i8 (lf_fq_tr f7 f8) bx8' kv0' (by omega)) (Nat.le_refl _)  i7  bx1 bx2 bx3 bx4 bx7 bx8  kv0)
  exact key _ _ s hI lf_fq_rf bx8 kv0 (Nat.lt_succ_self _)
theorem sm_289_p147 {X82 : Int → Int → lf_Z → Prop} {X116 : Int → lf_Z → Prop} {Q : Int → lf_Z → Prop} {x1 : Int} {x2 : Int} {x3 : Int} {x4 : Int} {x5 : Int} {x7 : Int} {x8 : Int} {s : lf_Z} (hQ : ∀ (r : Int) (s' : lf_Z), iv_A s'.1 s'.2.2 → lf_fq [104, 107] 1000000 true s.1 s.2.2 s'.1 s'.2.2 → Q r s') {M82 : Nat} (hX82 : ∀ (x5 : Int) (x7 : Int) (s' : lf_Z), iv_A s'.1 s'.2.2 → lf_fq [104, 107] 1000000 true s.1 s.2.2 s'.1 s'.2.2 → 0 ≤ x7 ∧ x7 ≤ 4 → ((x7 = 0 ∧ lf_wl x5 = 1) ∨ (x7 = 1 ∧ lf_wl x5 = 10000) ∨ (x7 = 2 ∧ lf_wl x5 = 100000000) ∨ (x7 = 3 ∧ lf_wl x5 = 1000000000000) ∨ (x7 = 4 ∧ lf_wl x5 = 10000000000000000)) → (4 - x7).toNat < M82 → X82 x5 x7 s') (hM82 : (4 - x7).toNat ≤ M82) {M116 : Nat} (hX116 : ∀ (x8 : Int) (s' : lf_Z), iv_A s'.1 s'.2.2 → lf_fq [104, 107] 1000000 true s.1 s.2.2 s'.1 s'.2.2 → 0 ≤ x8 ∧ x8 ≤ 156 → ((x7 = 0 ∧ lf_wl x5 = 1) ∨ (x7 = 1 ∧ lf_wl x5 = 10000) ∨ (x7 = 2 ∧ lf_wl x5 = 100000000) ∨ (x7 = 3 ∧ lf_wl x5 = 1000000000000) ∨ (x7 = 4 ∧ lf_wl x5 = 10000000000000000)) → (156 - x8).toNat < M116 → X116 x8 s') (hM116 : (156 - x8).toNat ≤ M116) (hI : iv_A s.1 s.2.2) (bx1 : 0 ≤ x1 ∧ x1 ≤ 3) (bx2 : 1 ≤ x2 ∧ x2 ≤ 4) (bx3 : 0 ≤ x3 ∧ x3 ≤ 11) (bx4 : 0 ≤ x4 ∧ x4 ≤ 1) (bx7 : 0 ≤ x7 ∧ x7 ≤ 3) (bx8 : 0 ≤ x8 ∧ x8 ≤ 155) (kv0 : (x7 = 0 ∧ lf_wl x5 = 1) ∨ (x7 = 1 ∧ lf_wl x5 = 10000) ∨ (x7 = 2 ∧ lf_wl x5 = 100000000) ∨ (x7 = 3 ∧ lf_wl x5 = 1000000000000) ∨ (x7 = 4 ∧ lf_wl x5 = 10000000000000000)) : fm_289_p147 X82 X116 Q x1 x2 x3 x4 x5 x7 x8 s := by
  unfold fm_289_p147
  exact hX116 (x8 + 1) s hI (lf_fq_rf) (show (0 : Int) ≤ x8 + 1 ∧ x8 + 1 ≤ (156 : Int) from by omega) (show (x7 = 0 ∧ lf_wl x5 = 1) ∨ (x7 = 1 ∧ lf_wl x5 = 10000) ∨ (x7 = 2 ∧ lf_wl x5 = 100000000) ∨ (x7 = 3 ∧ lf_wl x5 = 1000000000000) ∨ (x7 = 4 ∧ lf_wl x5 = 10000000000000000) from by omega) (show (156 - (x8 + 1)).toNat < M116 from by omega)
theorem sm_289_p116 {X82 : Int → Int → lf_Z → Prop} {X116 : Int → lf_Z → Prop} {Q : Int → lf_Z → Prop} {x1 : Int} {x2 : Int} {x3 : Int} {x4 : Int} {x5 : Int} {x7 : Int} {x8 : Int} {s : lf_Z} (hQ : ∀ (r : Int) (s' : lf_Z), iv_A s'.1 s'.2.2 → lf_fq [104, 107] 1000000 true s.1 s.2.2 s'.1 s'.2.2 → Q r s') {M82 : Nat} (hX82 : ∀ (x5 : Int) (x7 : Int) (s' : lf_Z), iv_A s'.1 s'.2.2 → lf_fq [104, 107] 1000000 true s.1 s.2.2 s'.1 s'.2.2 → 0 ≤ x7 ∧ x7 ≤ 4 → ((x7 = 0 ∧ lf_wl x5 = 1) ∨ (x7 = 1 ∧ lf_wl x5 = 10000) ∨ (x7 = 2 ∧ lf_wl x5 = 100000000) ∨ (x7 = 3 ∧ lf_wl x5 = 1000000000000) ∨ (x7 = 4 ∧ lf_wl x5 = 10000000000000000)) → (4 - x7).toNat < M82 → X82 x5 x7 s') (hM82 : (4 - x7).toNat ≤ M82) {M116 : Nat} (hX116 : ∀ (x8 : Int) (s' : lf_Z), iv_A s'.1 s'.2.2 → lf_fq [104, 107] 1000000 true s.1 s.2.2 s'.1 s'.2.2 → 0 ≤ x8 ∧ x8 ≤ 156 → ((x7 = 0 ∧ lf_wl x5 = 1) ∨ (x7 = 1 ∧ lf_wl x5 = 10000) ∨ (x7 = 2 ∧ lf_wl x5 = 100000000) ∨ (x7 = 3 ∧ lf_wl x5 = 1000000000000) ∨ (x7 = 4 ∧ lf_wl x5 = 10000000000000000)) → (156 - x8).toNat < M116 → X116 x8 s') (hM116 : (156 - x8).toNat ≤ M116) (hI : iv_A s.1 s.2.2) (bx1 : 0 ≤ x1 ∧ x1 ≤ 3) (bx2 : 1 ≤ x2 ∧ x2 ≤ 4) (bx3 : 0 ≤ x3 ∧ x3 ≤ 11) (bx4 : 0 ≤ x4 ∧ x4 ≤ 1) (bx7 : 0 ≤ x7 ∧ x7 ≤ 3) (bx8 : 0 ≤ x8 ∧ x8 ≤ 156) (kv0 : (x7 = 0 ∧ lf_wl x5 = 1) ∨ (x7 = 1 ∧ lf_wl x5 = 10000) ∨ (x7 = 2 ∧ lf_wl x5 = 100000000) ∨ (x7 = 3 ∧ lf_wl x5 = 1000000000000) ∨ (x7 = 4 ∧ lf_wl x5 = 10000000000000000)) : fm_289_p116 X82 Q x1 x2 x3 x4 x5 x7 X116 x8 s := by
  unfold fm_289_p116
  refine ⟨(show lf_R x8 from lf_Rof (by omega)), ?_⟩
  refine ⟨fun c18 => ?_, fun c18 => ?_⟩
  · skip
    replace c18 : 156 ≤ x8 := c18
    exact sm_289_p156L hQ hX82 (show (4 - x7).toNat ≤ M82 from by omega) hI (show (0 : Int) ≤ x1 ∧ x1 ≤ (3 : Int) from by omega) (show (1 : Int) ≤ x2 ∧ x2 ≤ (4 : Int) from by omega) (show (0 : Int) ≤ x3 ∧ x3 ≤ (11 : Int) from by omega) (show (0 : Int) ≤ x4 ∧ x4 ≤ (1 : Int) from by omega) (show (0 : Int) ≤ x7 ∧ x7 ≤ (3 : Int) from by omega) (show (0 : Int) ≤ 0 ∧ 0 ≤ (156 : Int) from by omega) (show (x7 = 0 ∧ lf_wl x5 = 1) ∨ (x7 = 1 ∧ lf_wl x5 = 10000) ∨ (x7 = 2 ∧ lf_wl x5 = 100000000) ∨ (x7 = 3 ∧ lf_wl x5 = 1000000000000) ∨ (x7 = 4 ∧ lf_wl x5 = 10000000000000000) from by omega)
  · skip
    replace c18 : ¬ (156 ≤ x8) := c18
    refine ⟨(show (0 : Int) ≤ x8 ∧ x8 < (156 : Int) from by omega), ?_⟩
    refine ⟨fun c22 => ?_, fun c22 => ?_⟩
    · replace c22 : lf_wl (s.2.1 109 x8) ≤ 0 := c22
      exact sm_289_p147 hQ hX82 (show (4 - x7).toNat ≤ M82 from by omega) hX116 (show (156 - x8).toNat ≤ M116 from by omega) hI (show (0 : Int) ≤ x1 ∧ x1 ≤ (3 : Int) from by omega) (show (1 : Int) ≤ x2 ∧ x2 ≤ (4 : Int) from by omega) (show (0 : Int) ≤ x3 ∧ x3 ≤ (11 : Int) from by omega) (show (0 : Int) ≤ x4 ∧ x4 ≤ (1 : Int) from by omega) (show (0 : Int) ≤ x7 ∧ x7 ≤ (3 : Int) from by omega) (show (0 : Int) ≤ x8 ∧ x8 ≤ (155 : Int) from by omega) (show (x7 = 0 ∧ lf_wl x5 = 1) ∨ (x7 = 1 ∧ lf_wl x5 = 10000) ∨ (x7 = 2 ∧ lf_wl x5 = 100000000) ∨ (x7 = 3 ∧ lf_wl x5 = 1000000000000) ∨ (x7 = 4 ∧ lf_wl x5 = 10000000000000000) from by omega)
    · replace c22 : ¬ (lf_wl (s.2.1 109 x8) ≤ 0) := c22
      refine sm_242 hI (show (0 : Int) ≤ x1 ∧ x1 ≤ (3 : Int) from by omega) (fun r45 q23 => ?_)
      obtain ⟨q23, q23x⟩ := q23
      replace q23x : r45 = s.1 96 (114 + 3 * x1) := q23x
      refine sm_290 hI (show (0 : Int) ≤ r45 ∧ r45 ≤ (24 : Int) from by omega) (show (0 : Int) ≤ x8 ∧ x8 ≤ (155 : Int) from by omega) (fun s46 hI25 fr24 => ?_)
      have fr27 : lf_fq [104, 107] 1000000 true s.1 s.2.2 s46.1 s46.2.2 := lf_fq_tr (lf_fq_rf) (lf_fq_wk fr24 rfl (by decide) (by decide))
      exact sm_289_p147 (fun r9 t9 i9 f9 => hQ r9 t9 i9 (lf_fq_tr fr27 f9)) (fun p0 p1 t9 i9 f9 => hX82 p0 p1 t9 i9 (lf_fq_tr fr27 f9)) (show (4 - x7).toNat ≤ M82 from by omega) (fun p0 t9 i9 f9 => hX116 p0 t9 i9 (lf_fq_tr fr27 f9)) (show (156 - x8).toNat ≤ M116 from by omega) hI25 (show (0 : Int) ≤ x1 ∧ x1 ≤ (3 : Int) from by omega) (show (1 : Int) ≤ x2 ∧ x2 ≤ (4 : Int) from by omega) (show (0 : Int) ≤ x3 ∧ x3 ≤ (11 : Int) from by omega) (show (0 : Int) ≤ x4 ∧ x4 ≤ (1 : Int) from by omega) (show (0 : Int) ≤ x7 ∧ x7 ≤ (3 : Int) from by omega) (show (0 : Int) ≤ x8 ∧ x8 ≤ (155 : Int) from by omega) (show (x7 = 0 ∧ lf_wl x5 = 1) ∨ (x7 = 1 ∧ lf_wl x5 = 10000) ∨ (x7 = 2 ∧ lf_wl x5 = 100000000) ∨ (x7 = 3 ∧ lf_wl x5 = 1000000000000) ∨ (x7 = 4 ∧ lf_wl x5 = 10000000000000000) from by omega)
theorem sm_289_p116L {X82 : Int → Int → lf_Z → Prop} {Q : Int → lf_Z → Prop} {x1 : Int} {x2 : Int} {x3 : Int} {x4 : Int} {x5 : Int} {x7 : Int} {x8 : Int} {s : lf_Z} (hQ : ∀ (r : Int) (s' : lf_Z), iv_A s'.1 s'.2.2 → lf_fq [104, 107] 1000000 true s.1 s.2.2 s'.1 s'.2.2 → Q r s') {M82 : Nat} (hX82 : ∀ (x5 : Int) (x7 : Int) (s' : lf_Z), iv_A s'.1 s'.2.2 → lf_fq [104, 107] 1000000 true s.1 s.2.2 s'.1 s'.2.2 → 0 ≤ x7 ∧ x7 ≤ 4 → ((x7 = 0 ∧ lf_wl x5 = 1) ∨ (x7 = 1 ∧ lf_wl x5 = 10000) ∨ (x7 = 2 ∧ lf_wl x5 = 100000000) ∨ (x7 = 3 ∧ lf_wl x5 = 1000000000000) ∨ (x7 = 4 ∧ lf_wl x5 = 10000000000000000)) → (4 - x7).toNat < M82 → X82 x5 x7 s') (hM82 : (4 - x7).toNat ≤ M82) (hI : iv_A s.1 s.2.2) (bx1 : 0 ≤ x1 ∧ x1 ≤ 3) (bx2 : 1 ≤ x2 ∧ x2 ≤ 4) (bx3 : 0 ≤ x3 ∧ x3 ≤ 11) (bx4 : 0 ≤ x4 ∧ x4 ≤ 1) (bx7 : 0 ≤ x7 ∧ x7 ≤ 3) (bx8 : 0 ≤ x8 ∧ x8 ≤ 156) (kv0 : (x7 = 0 ∧ lf_wl x5 = 1) ∨ (x7 = 1 ∧ lf_wl x5 = 10000) ∨ (x7 = 2 ∧ lf_wl x5 = 100000000) ∨ (x7 = 3 ∧ lf_wl x5 = 1000000000000) ∨ (x7 = 4 ∧ lf_wl x5 = 10000000000000000)) : fm_289_p116L X82 Q x1 x2 x3 x4 x5 x7 x8 s := by
  intro X116 hX
  have key : ∀ (m9 : Nat) (x8 : Int) (s' : lf_Z), iv_A s'.1 s'.2.2 → lf_fq [104, 107] 1000000 true s.1 s.2.2 s'.1 s'.2.2 → 0 ≤ x8 ∧ x8 ≤ 156 → ((x7 = 0 ∧ lf_wl x5 = 1) ∨ (x7 = 1 ∧ lf_wl x5 = 10000) ∨ (x7 = 2 ∧ lf_wl x5 = 100000000) ∨ (x7 = 3 ∧ lf_wl x5 = 1000000000000) ∨ (x7 = 4 ∧ lf_wl x5 = 10000000000000000)) → (156 - x8).toNat < m9 → X116 x8 s' := by
    intro m9
    induction m9 with
    | zero => intro x8 s' _ _ bx8 kv0 h9; exact absurd h9 (Nat.not_lt_zero _)
    | succ m9 ih => intro x8 s' i7 f7 bx8 kv0 h9; exact hX _ _ (sm_289_p116 (fun r9 t9 i9 f9 => hQ r9 t9 i9 (lf_fq_tr f7 f9))  (fun p0 p1 t9 i9 f9 => hX82 p0 p1 t9 i9 (lf_fq_tr f7 f9)) hM82 (fun x8' t8 i8 f8 bx8' kv0' h8 => ih x8' t8 i8 (lf_fq_tr f7 f8) bx8' kv0' (by omega)) (Nat.le_refl _)  i7  bx1 bx2 bx3 bx4 bx7 bx8  kv0)
  exact key _ _ s hI lf_fq_rf bx8 kv0 (Nat.lt_succ_self _)
theorem sm_289_p91 {X82 : Int → Int → lf_Z → Prop} {X91 : Int → lf_Z → Prop} {Q : Int → lf_Z → Prop} {x1 : Int} {x2 : Int} {x3 : Int} {x4 : Int} {x5 : Int} {x7 : Int} {x8 : Int} {s : lf_Z} (hQ : ∀ (r : Int) (s' : lf_Z), iv_A s'.1 s'.2.2 → lf_fq [104, 107] 1000000 true s.1 s.2.2 s'.1 s'.2.2 → Q r s') {M82 : Nat} (hX82 : ∀ (x5 : Int) (x7 : Int) (s' : lf_Z), iv_A s'.1 s'.2.2 → lf_fq [104, 107] 1000000 true s.1 s.2.2 s'.1 s'.2.2 → 0 ≤ x7 ∧ x7 ≤ 4 → ((x7 = 0 ∧ lf_wl x5 = 1) ∨ (x7 = 1 ∧ lf_wl x5 = 10000) ∨ (x7 = 2 ∧ lf_wl x5 = 100000000) ∨ (x7 = 3 ∧ lf_wl x5 = 1000000000000) ∨ (x7 = 4 ∧ lf_wl x5 = 10000000000000000)) → (4 - x7).toNat < M82 → X82 x5 x7 s') (hM82 : (4 - x7).toNat ≤ M82) {M91 : Nat} (hX91 : ∀ (x8 : Int) (s' : lf_Z), iv_A s'.1 s'.2.2 → lf_fq [104, 107] 1000000 true s.1 s.2.2 s'.1 s'.2.2 → 0 ≤ x8 ∧ x8 ≤ 156 → ((x7 = 0 ∧ lf_wl x5 = 1) ∨ (x7 = 1 ∧ lf_wl x5 = 10000) ∨ (x7 = 2 ∧ lf_wl x5 = 100000000) ∨ (x7 = 3 ∧ lf_wl x5 = 1000000000000) ∨ (x7 = 4 ∧ lf_wl x5 = 10000000000000000)) → (156 - x8).toNat < M91 → X91 x8 s') (hM91 : (156 - x8).toNat ≤ M91) (hI : iv_A s.1 s.2.2) (bx1 : 0 ≤ x1 ∧ x1 ≤ 3) (bx2 : 1 ≤ x2 ∧ x2 ≤ 4) (bx3 : 0 ≤ x3 ∧ x3 ≤ 11) (bx4 : 0 ≤ x4 ∧ x4 ≤ 1) (bx7 : 0 ≤ x7 ∧ x7 ≤ 3) (bx8 : 0 ≤ x8 ∧ x8 ≤ 156) (kv0 : (x7 = 0 ∧ lf_wl x5 = 1) ∨ (x7 = 1 ∧ lf_wl x5 = 10000) ∨ (x7 = 2 ∧ lf_wl x5 = 100000000) ∨ (x7 = 3 ∧ lf_wl x5 = 1000000000000) ∨ (x7 = 4 ∧ lf_wl x5 = 10000000000000000)) : fm_289_p91 X82 Q x1 x2 x3 x4 x5 x7 X91 x8 s := by
  unfold fm_289_p91
  refine ⟨(show lf_R x8 from lf_Rof (by omega)), ?_⟩
  refine ⟨fun c17 => ?_, fun c17 => ?_⟩
  · skip
    replace c17 : 156 ≤ x8 := c17
    exact sm_289_p116L hQ hX82 (show (4 - x7).toNat ≤ M82 from by omega) hI (show (0 : Int) ≤ x1 ∧ x1 ≤ (3 : Int) from by omega) (show (1 : Int) ≤ x2 ∧ x2 ≤ (4 : Int) from by omega) (show (0 : Int) ≤ x3 ∧ x3 ≤ (11 : Int) from by omega) (show (0 : Int) ≤ x4 ∧ x4 ≤ (1 : Int) from by omega) (show (0 : Int) ≤ x7 ∧ x7 ≤ (3 : Int) from by omega) (show (0 : Int) ≤ 0 ∧ 0 ≤ (156 : Int) from by omega) (show (x7 = 0 ∧ lf_wl x5 = 1) ∨ (x7 = 1 ∧ lf_wl x5 = 10000) ∨ (x7 = 2 ∧ lf_wl x5 = 100000000) ∨ (x7 = 3 ∧ lf_wl x5 = 1000000000000) ∨ (x7 = 4 ∧ lf_wl x5 = 10000000000000000) from by omega)
  · skip
    replace c17 : ¬ (156 ≤ x8) := c17
    refine ⟨(show (0 : Int) ≤ x8 ∧ x8 < (156 : Int) from by omega), ?_⟩
    exact hX91 (x8 + 1) (s.1, lf_up s.2.1 110 x8 0, s.2.2) hI (lf_fq_rf) (show (0 : Int) ≤ x8 + 1 ∧ x8 + 1 ≤ (156 : Int) from by omega) (show (x7 = 0 ∧ lf_wl x5 = 1) ∨ (x7 = 1 ∧ lf_wl x5 = 10000) ∨ (x7 = 2 ∧ lf_wl x5 = 100000000) ∨ (x7 = 3 ∧ lf_wl x5 = 1000000000000) ∨ (x7 = 4 ∧ lf_wl x5 = 10000000000000000) from by omega) (show (156 - (x8 + 1)).toNat < M91 from by omega)
theorem sm_289_p91L {X82 : Int → Int → lf_Z → Prop} {Q : Int → lf_Z → Prop} {x1 : Int} {x2 : Int} {x3 : Int} {x4 : Int} {x5 : Int} {x7 : Int} {x8 : Int} {s : lf_Z} (hQ : ∀ (r : Int) (s' : lf_Z), iv_A s'.1 s'.2.2 → lf_fq [104, 107] 1000000 true s.1 s.2.2 s'.1 s'.2.2 → Q r s') {M82 : Nat} (hX82 : ∀ (x5 : Int) (x7 : Int) (s' : lf_Z), iv_A s'.1 s'.2.2 → lf_fq [104, 107] 1000000 true s.1 s.2.2 s'.1 s'.2.2 → 0 ≤ x7 ∧ x7 ≤ 4 → ((x7 = 0 ∧ lf_wl x5 = 1) ∨ (x7 = 1 ∧ lf_wl x5 = 10000) ∨ (x7 = 2 ∧ lf_wl x5 = 100000000) ∨ (x7 = 3 ∧ lf_wl x5 = 1000000000000) ∨ (x7 = 4 ∧ lf_wl x5 = 10000000000000000)) → (4 - x7).toNat < M82 → X82 x5 x7 s') (hM82 : (4 - x7).toNat ≤ M82) (hI : iv_A s.1 s.2.2) (bx1 : 0 ≤ x1 ∧ x1 ≤ 3) (bx2 : 1 ≤ x2 ∧ x2 ≤ 4) (bx3 : 0 ≤ x3 ∧ x3 ≤ 11) (bx4 : 0 ≤ x4 ∧ x4 ≤ 1) (bx7 : 0 ≤ x7 ∧ x7 ≤ 3) (bx8 : 0 ≤ x8 ∧ x8 ≤ 156) (kv0 : (x7 = 0 ∧ lf_wl x5 = 1) ∨ (x7 = 1 ∧ lf_wl x5 = 10000) ∨ (x7 = 2 ∧ lf_wl x5 = 100000000) ∨ (x7 = 3 ∧ lf_wl x5 = 1000000000000) ∨ (x7 = 4 ∧ lf_wl x5 = 10000000000000000)) : fm_289_p91L X82 Q x1 x2 x3 x4 x5 x7 x8 s := by
  intro X91 hX
  have key : ∀ (m9 : Nat) (x8 : Int) (s' : lf_Z), iv_A s'.1 s'.2.2 → lf_fq [104, 107] 1000000 true s.1 s.2.2 s'.1 s'.2.2 → 0 ≤ x8 ∧ x8 ≤ 156 → ((x7 = 0 ∧ lf_wl x5 = 1) ∨ (x7 = 1 ∧ lf_wl x5 = 10000) ∨ (x7 = 2 ∧ lf_wl x5 = 100000000) ∨ (x7 = 3 ∧ lf_wl x5 = 1000000000000) ∨ (x7 = 4 ∧ lf_wl x5 = 10000000000000000)) → (156 - x8).toNat < m9 → X91 x8 s' := by
    intro m9
    induction m9 with
    | zero => intro x8 s' _ _ bx8 kv0 h9; exact absurd h9 (Nat.not_lt_zero _)
    | succ m9 ih => intro x8 s' i7 f7 bx8 kv0 h9; exact hX _ _ (sm_289_p91 (fun r9 t9 i9 f9 => hQ r9 t9 i9 (lf_fq_tr f7 f9))  (fun p0 p1 t9 i9 f9 => hX82 p0 p1 t9 i9 (lf_fq_tr f7 f9)) hM82 (fun x8' t8 i8 f8 bx8' kv0' h8 => ih x8' t8 i8 (lf_fq_tr f7 f8) bx8' kv0' (by omega)) (Nat.le_refl _)  i7  bx1 bx2 bx3 bx4 bx7 bx8  kv0)
  exact key _ _ s hI lf_fq_rf bx8 kv0 (Nat.lt_succ_self _)
theorem sm_289_p82 {X82 : Int → Int → lf_Z → Prop} {Q : Int → lf_Z → Prop} {x1 : Int} {x2 : Int} {x3 : Int} {x4 : Int} {x5 : Int} {x7 : Int} {s : lf_Z} (hQ : ∀ (r : Int) (s' : lf_Z), iv_A s'.1 s'.2.2 → lf_fq [104, 107] 1000000 true s.1 s.2.2 s'.1 s'.2.2 → Q r s') {M82 : Nat} (hX82 : ∀ (x5 : Int) (x7 : Int) (s' : lf_Z), iv_A s'.1 s'.2.2 → lf_fq [104, 107] 1000000 true s.1 s.2.2 s'.1 s'.2.2 → 0 ≤ x7 ∧ x7 ≤ 4 → ((x7 = 0 ∧ lf_wl x5 = 1) ∨ (x7 = 1 ∧ lf_wl x5 = 10000) ∨ (x7 = 2 ∧ lf_wl x5 = 100000000) ∨ (x7 = 3 ∧ lf_wl x5 = 1000000000000) ∨ (x7 = 4 ∧ lf_wl x5 = 10000000000000000)) → (4 - x7).toNat < M82 → X82 x5 x7 s') (hM82 : (4 - x7).toNat ≤ M82) (hI : iv_A s.1 s.2.2) (bx1 : 0 ≤ x1 ∧ x1 ≤ 3) (bx2 : 0 ≤ x2 ∧ x2 ≤ 4) (bx3 : 0 ≤ x3 ∧ x3 ≤ 11) (bx4 : 0 ≤ x4 ∧ x4 ≤ 1) (bx7 : 0 ≤ x7 ∧ x7 ≤ 4) (kv0 : (x7 = 0 ∧ lf_wl x5 = 1) ∨ (x7 = 1 ∧ lf_wl x5 = 10000) ∨ (x7 = 2 ∧ lf_wl x5 = 100000000) ∨ (x7 = 3 ∧ lf_wl x5 = 1000000000000) ∨ (x7 = 4 ∧ lf_wl x5 = 10000000000000000)) : fm_289_p82 Q x1 x2 x3 x4 X82 x5 x7 s := by
  unfold fm_289_p82
  refine ⟨(show lf_R x7 from lf_Rof (by omega)), ?_⟩
  refine ⟨(show lf_R x2 from lf_Rof (by omega)), ?_⟩
  refine ⟨fun c12 => ?_, fun c12 => ?_⟩
  · skip
    replace c12 : x2 ≤ x7 := c12
    exact sm_289_p204L hQ hI (show (0 : Int) ≤ x3 ∧ x3 ≤ (11 : Int) from by omega) (show (0 : Int) ≤ x4 ∧ x4 ≤ (1 : Int) from by omega) (show (0 : Int) ≤ 0 ∧ 0 ≤ (13 : Int) from by omega) (show lf_wl x5 ≠ 0 from by omega)
  · skip
    replace c12 : ¬ (x2 ≤ x7) := c12
    exact sm_289_p91L hQ hX82 (show (4 - x7).toNat ≤ M82 from by omega) hI (show (0 : Int) ≤ x1 ∧ x1 ≤ (3 : Int) from by omega) (show (1 : Int) ≤ x2 ∧ x2 ≤ (4 : Int) from by omega) (show (0 : Int) ≤ x3 ∧ x3 ≤ (11 : Int) from by omega) (show (0 : Int) ≤ x4 ∧ x4 ≤ (1 : Int) from by omega) (show (0 : Int) ≤ x7 ∧ x7 ≤ (3 : Int) from by omega) (show (0 : Int) ≤ 0 ∧ 0 ≤ (156 : Int) from by omega) (show (x7 = 0 ∧ lf_wl x5 = 1) ∨ (x7 = 1 ∧ lf_wl x5 = 10000) ∨ (x7 = 2 ∧ lf_wl x5 = 100000000) ∨ (x7 = 3 ∧ lf_wl x5 = 1000000000000) ∨ (x7 = 4 ∧ lf_wl x5 = 10000000000000000) from by omega)
theorem sm_289_p82L {Q : Int → lf_Z → Prop} {x1 : Int} {x2 : Int} {x3 : Int} {x4 : Int} {x5 : Int} {x7 : Int} {s : lf_Z} (hQ : ∀ (r : Int) (s' : lf_Z), iv_A s'.1 s'.2.2 → lf_fq [104, 107] 1000000 true s.1 s.2.2 s'.1 s'.2.2 → Q r s') (hI : iv_A s.1 s.2.2) (bx1 : 0 ≤ x1 ∧ x1 ≤ 3) (bx2 : 0 ≤ x2 ∧ x2 ≤ 4) (bx3 : 0 ≤ x3 ∧ x3 ≤ 11) (bx4 : 0 ≤ x4 ∧ x4 ≤ 1) (bx7 : 0 ≤ x7 ∧ x7 ≤ 4) (kv0 : (x7 = 0 ∧ lf_wl x5 = 1) ∨ (x7 = 1 ∧ lf_wl x5 = 10000) ∨ (x7 = 2 ∧ lf_wl x5 = 100000000) ∨ (x7 = 3 ∧ lf_wl x5 = 1000000000000) ∨ (x7 = 4 ∧ lf_wl x5 = 10000000000000000)) : fm_289_p82L Q x1 x2 x3 x4 x5 x7 s := by
  intro X82 hX
  have key : ∀ (m9 : Nat) (x5 : Int) (x7 : Int) (s' : lf_Z), iv_A s'.1 s'.2.2 → lf_fq [104, 107] 1000000 true s.1 s.2.2 s'.1 s'.2.2 → 0 ≤ x7 ∧ x7 ≤ 4 → ((x7 = 0 ∧ lf_wl x5 = 1) ∨ (x7 = 1 ∧ lf_wl x5 = 10000) ∨ (x7 = 2 ∧ lf_wl x5 = 100000000) ∨ (x7 = 3 ∧ lf_wl x5 = 1000000000000) ∨ (x7 = 4 ∧ lf_wl x5 = 10000000000000000)) → (4 - x7).toNat < m9 → X82 x5 x7 s' := by
    intro m9
    induction m9 with
    | zero => intro x5 x7 s' _ _ bx7 kv0 h9; exact absurd h9 (Nat.not_lt_zero _)
    | succ m9 ih => intro x5 x7 s' i7 f7 bx7 kv0 h9; exact hX _ _ _ (sm_289_p82 (fun r9 t9 i9 f9 => hQ r9 t9 i9 (lf_fq_tr f7 f9))   (fun x5' x7' t8 i8 f8 bx7' kv0' h8 => ih x5' x7' t8 i8 (lf_fq_tr f7 f8) bx7' kv0' (by omega)) (Nat.le_refl _)  i7  bx1 bx2 bx3 bx4 bx7  kv0)
  exact key _ _ _ s hI lf_fq_rf bx7 kv0 (Nat.lt_succ_self _)
theorem sm_289_p32 {X32 : Int → lf_Z → Prop} {Q : Int → lf_Z → Prop} {x1 : Int} {x2 : Int} {x3 : Int} {x4 : Int} {x5 : Int} {s : lf_Z} (hQ : ∀ (r : Int) (s' : lf_Z), iv_A s'.1 s'.2.2 → lf_fq [104, 107] 1000000 true s.1 s.2.2 s'.1 s'.2.2 → Q r s') {M32 : Nat} (hX32 : ∀ (x5 : Int) (s' : lf_Z), iv_A s'.1 s'.2.2 → lf_fq [104, 107] 1000000 true s.1 s.2.2 s'.1 s'.2.2 → 0 ≤ x5 ∧ x5 ≤ 156 → (156 - x5).toNat < M32 → X32 x5 s') (hM32 : (156 - x5).toNat ≤ M32) (hI : iv_A s.1 s.2.2) (bx1 : 0 ≤ x1 ∧ x1 ≤ 3) (bx2 : 0 ≤ x2 ∧ x2 ≤ 4) (bx3 : 0 ≤ x3 ∧ x3 ≤ 11) (bx4 : 0 ≤ x4 ∧ x4 ≤ 1) (bx5 : 0 ≤ x5 ∧ x5 ≤ 156) : fm_289_p32 Q x1 x2 x3 x4 X32 x5 s := by
  unfold fm_289_p32
  refine ⟨(show lf_R x5 from lf_Rof (by omega)), ?_⟩
  refine ⟨fun c8 => ?_, fun c8 => ?_⟩
  · skip
    replace c8 : 156 ≤ x5 := c8
    refine sm_255 hI (show (0 : Int) ≤ x1 ∧ x1 ≤ (3 : Int) from by omega) (fun r29 q9 => ?_)
    refine sm_256 hI (show (0 : Int) ≤ x1 ∧ x1 ≤ (3 : Int) from by omega) (fun r31 q10 => ?_)
    refine ⟨(show (0 : Int) ≤ ((13 * r29) + r31) + 1 ∧ ((13 * r29) + r31) + 1 < (156 : Int) from by omega), ?_⟩
    have b11 : lf_wl 1 = 1 := lf_wlR (by decide)
    exact sm_289_p82L hQ hI (show (0 : Int) ≤ x1 ∧ x1 ≤ (3 : Int) from by omega) (show (0 : Int) ≤ x2 ∧ x2 ≤ (4 : Int) from by omega) (show (0 : Int) ≤ x3 ∧ x3 ≤ (11 : Int) from by omega) (show (0 : Int) ≤ x4 ∧ x4 ≤ (1 : Int) from by omega) (show (0 : Int) ≤ 0 ∧ 0 ≤ (4 : Int) from by omega) (show (0 = 0 ∧ lf_wl 1 = 1) ∨ (0 = 1 ∧ lf_wl 1 = 10000) ∨ (0 = 2 ∧ lf_wl 1 = 100000000) ∨ (0 = 3 ∧ lf_wl 1 = 1000000000000) ∨ (0 = 4 ∧ lf_wl 1 = 10000000000000000) from by omega)
  · skip
    replace c8 : ¬ (156 ≤ x5) := c8
    refine ⟨(show (0 : Int) ≤ x5 ∧ x5 < (156 : Int) from by omega), ?_⟩
    exact hX32 (x5 + 1) (s.1, lf_up s.2.1 109 x5 0, s.2.2) hI (lf_fq_rf) (show (0 : Int) ≤ x5 + 1 ∧ x5 + 1 ≤ (156 : Int) from by omega) (show (156 - (x5 + 1)).toNat < M32 from by omega)
theorem sm_289_p32L {Q : Int → lf_Z → Prop} {x1 : Int} {x2 : Int} {x3 : Int} {x4 : Int} {x5 : Int} {s : lf_Z} (hQ : ∀ (r : Int) (s' : lf_Z), iv_A s'.1 s'.2.2 → lf_fq [104, 107] 1000000 true s.1 s.2.2 s'.1 s'.2.2 → Q r s') (hI : iv_A s.1 s.2.2) (bx1 : 0 ≤ x1 ∧ x1 ≤ 3) (bx2 : 0 ≤ x2 ∧ x2 ≤ 4) (bx3 : 0 ≤ x3 ∧ x3 ≤ 11) (bx4 : 0 ≤ x4 ∧ x4 ≤ 1) (bx5 : 0 ≤ x5 ∧ x5 ≤ 156) : fm_289_p32L Q x1 x2 x3 x4 x5 s := by
  intro X32 hX
  have key : ∀ (m9 : Nat) (x5 : Int) (s' : lf_Z), iv_A s'.1 s'.2.2 → lf_fq [104, 107] 1000000 true s.1 s.2.2 s'.1 s'.2.2 → 0 ≤ x5 ∧ x5 ≤ 156 → (156 - x5).toNat < m9 → X32 x5 s' := by
    intro m9
    induction m9 with
    | zero => intro x5 s' _ _ bx5 h9; exact absurd h9 (Nat.not_lt_zero _)
    | succ m9 ih => intro x5 s' i7 f7 bx5 h9; exact hX _ _ (sm_289_p32 (fun r9 t9 i9 f9 => hQ r9 t9 i9 (lf_fq_tr f7 f9))   (fun x5' t8 i8 f8 bx5' h8 => ih x5' t8 i8 (lf_fq_tr f7 f8) bx5' (by omega)) (Nat.le_refl _)  i7  bx1 bx2 bx3 bx4 bx5  )
  exact key _ _ s hI lf_fq_rf bx5 (Nat.lt_succ_self _)
theorem sm_289 {a1 : Int} {a2 : Int} {a3 : Int} {a4 : Int} {Q : Int → lf_Z → Prop} {s : lf_Z} (hI : iv_A s.1 s.2.2) (ba1 : (-2147483648) ≤ a1 ∧ a1 ≤ 2147483647) (ba2 : (-2147483648) ≤ a2 ∧ a2 ≤ 2147483647) (ba3 : (-2147483648) ≤ a3 ∧ a3 ≤ 2147483647) (ba4 : 0 ≤ a4 ∧ a4 ≤ 1) (hQ : ∀ (r : Int) (s' : lf_Z), iv_A s'.1 s'.2.2 → lf_fq [104, 107] 1000000 true s.1 s.2.2 s'.1 s'.2.2 → Q r s') : fm_289 a1 a2 a3 a4 Q s := by
  unfold fm_289
  refine sm_254 hI (show (-2147483648 : Int) ≤ a1 ∧ a1 ≤ (2147483647 : Int) from by omega) (fun z22 q1 => ?_)
  refine ⟨fun c2 => ?_, fun c2 => ?_⟩
  · skip
    have dc2 := q1.2 c2
    exact sm_289_p25 hQ hI
  · skip
    have dc2 := q1.1 c2
    refine sm_183 hI (show (-2147483648 : Int) ≤ a2 ∧ a2 ≤ (2147483647 : Int) from by omega) (show (-1 : Int) ≤ 0 ∧ 0 ≤ (97 : Int) from by omega) (show (-1 : Int) ≤ 4 ∧ 4 ≤ (9999 : Int) from by omega) (fun z24 q3 => ?_)
    refine ⟨fun c4 => ?_, fun c4 => ?_⟩
    · skip
      have dc4 := q3.2 c4
      exact sm_289_p25 hQ hI
    · skip
      have dc4 := q3.1 c4
      refine sm_185 hI (show (-2147483648 : Int) ≤ a3 ∧ a3 ≤ (2147483647 : Int) from by omega) (fun z26 q5 => ?_)
      have b6 : 0 ≤ s.1 96 0 ∧ s.1 96 0 ≤ 12 := iv_rd96 hI (iv_f3e1fa21c (by omega))
      refine ⟨fun c7 => ?_, fun c7 => ?_⟩
      · skip
        have dc7 := q5.1 c7
        exact sm_289_p32L hQ hI (show (0 : Int) ≤ a1 ∧ a1 ≤ (3 : Int) from by omega) (show (0 : Int) ≤ a2 ∧ a2 ≤ (4 : Int) from by omega) (show (0 : Int) ≤ a3 ∧ a3 ≤ (11 : Int) from by omega) (show (0 : Int) ≤ a4 ∧ a4 ≤ (1 : Int) from by omega) (show (0 : Int) ≤ 0 ∧ 0 ≤ (156 : Int) from by omega)
      · skip
        have dc7 := q5.2 c7
        exact sm_289_p25 hQ hI
-- fm_129 Walk.goFrom 68 i i
theorem sm_129_p113 {X11 : Int → Int → lf_Z → Prop} {Q : Int → lf_Z → Prop} {x1 : Int} {x3 : Int} {x4 : Int} {x5 : Int} {x7 : Int} {s : lf_Z} (hQ : ∀ (r : Int) (s' : lf_Z), iv_A s'.1 s'.2.2 → lf_fq [63, 64, 65, 66, 69, 70, 71] 1000000 true s.1 s.2.2 s'.1 s'.2.2 → (1 ≤ r ∧ r ≤ 156) → Q r s') {M11 : Nat} (hX11 : ∀ (x4 : Int) (x5 : Int) (s' : lf_Z), iv_A s'.1 s'.2.2 → lf_fq [63, 64, 65, 66, 69, 70, 71] 1000000 true s.1 s.2.2 s'.1 s'.2.2 → 1 ≤ x4 ∧ x4 ≤ 156 → 0 ≤ x5 ∧ x5 ≤ 4 → (4 - x5).toNat < M11 → X11 x4 x5 s') (hM11 : (4 - x5).toNat ≤ M11) (hI : iv_A s.1 s.2.2) (bx1 : 0 ≤ x1 ∧ x1 ≤ 155) (bx3 : 0 ≤ x3 ∧ x3 ≤ 11) (bx4 : 1 ≤ x4 ∧ x4 ≤ 156) (bx5 : 0 ≤ x5 ∧ x5 ≤ 3) (bx7 : (-2147483648) ≤ x7 ∧ x7 ≤ 2147483647) : fm_129_p113 X11 Q x1 x3 x4 x5 x7 s := by
  unfold fm_129_p113
  refine ⟨(show lf_R x7 from lf_Rof (by omega)), ?_⟩
  refine ⟨fun c16 => ?_, fun c16 => ?_⟩
  · skip
    replace c16 : x7 ≠ 10 := c16
    exact hX11 (x4) (x5 + 1) s hI (lf_fq_rf) (show (1 : Int) ≤ x4 ∧ x4 ≤ (156 : Int) from by omega) (show (0 : Int) ≤ x5 + 1 ∧ x5 + 1 ≤ (4 : Int) from by omega) (show (4 - (x5 + 1)).toNat < M11 from by omega)
  · skip
    replace c16 : ¬ (x7 ≠ 10) := c16
    exact hQ x4 s hI (lf_fq_rf) (show (1 : Int) ≤ x4 ∧ x4 ≤ (156 : Int) from by omega)
theorem sm_129_p11 {X11 : Int → Int → lf_Z → Prop} {Q : Int → lf_Z → Prop} {x1 : Int} {x3 : Int} {x4 : Int} {x5 : Int} {s : lf_Z} (hQ : ∀ (r : Int) (s' : lf_Z), iv_A s'.1 s'.2.2 → lf_fq [63, 64, 65, 66, 69, 70, 71] 1000000 true s.1 s.2.2 s'.1 s'.2.2 → (1 ≤ r ∧ r ≤ 156) → Q r s') {M11 : Nat} (hX11 : ∀ (x4 : Int) (x5 : Int) (s' : lf_Z), iv_A s'.1 s'.2.2 → lf_fq [63, 64, 65, 66, 69, 70, 71] 1000000 true s.1 s.2.2 s'.1 s'.2.2 → 1 ≤ x4 ∧ x4 ≤ 156 → 0 ≤ x5 ∧ x5 ≤ 4 → (4 - x5).toNat < M11 → X11 x4 x5 s') (hM11 : (4 - x5).toNat ≤ M11) (hI : iv_A s.1 s.2.2) (bx1 : 0 ≤ x1 ∧ x1 ≤ 155) (bx3 : 0 ≤ x3 ∧ x3 ≤ 11) (bx4 : 1 ≤ x4 ∧ x4 ≤ 156) (bx5 : 0 ≤ x5 ∧ x5 ≤ 4) : fm_129_p11 Q x1 x3 X11 x4 x5 s := by
  unfold fm_129_p11
  refine sm_76 hI (show (-2147483648 : Int) ≤ x3 ∧ x3 ≤ (2147483647 : Int) from by omega) (fun r23 q2 => ?_)
  refine ⟨(show lf_R x5 from lf_Rof (by omega)), ?_⟩
  refine ⟨(show lf_R r23 from lf_Rof (by omega)), ?_⟩
  refine ⟨fun c3 => ?_, fun c3 => ?_⟩
  · skip
    replace c3 : r23 ≤ x5 := c3
    exact hQ x4 s hI (lf_fq_rf) (show (1 : Int) ≤ x4 ∧ x4 ≤ (156 : Int) from by omega)
  · skip
    replace c3 : ¬ (r23 ≤ x5) := c3
    refine sm_77 hI (show (-2147483648 : Int) ≤ x3 ∧ x3 ≤ (2147483647 : Int) from by omega) (show (0 : Int) ≤ x5 ∧ x5 ≤ (3 : Int) from by omega) (fun r27 q4 => ?_)
    refine ⟨(show lf_R x1 from lf_Rof (by omega)), ?_⟩
    have b5 : 0 ≤ x1.tmod 13 ∧ x1.tmod 13 ≤ 12 := lf_tmodP (by omega) (by omega) (by omega)
    refine sm_123 hI (show (-1 : Int) ≤ r27 ∧ r27 ≤ (15 : Int) from by omega) (show (0 : Int) ≤ x3 ∧ x3 ≤ (11 : Int) from by omega) (show (-1 : Int) ≤ (x1.tmod 13) - 1 ∧ (x1.tmod 13) - 1 ≤ (11 : Int) from by omega) (fun r30 s29 hI7 fr6 q8 => ?_)
    obtain ⟨q8, q8x⟩ := q8
    have b9 : 0 ≤ s.1 1 1 ∧ s.1 1 1 ≤ 16 := iv_r1_1 hI
    replace q8x : r30 ≤ 0 ∨ 0 ≤ iv_od (s.1 1 1) (s.1 4) (s.1 5) r27 x3 := q8x
    have fr10 : lf_fq [63, 64, 65, 66, 69, 70, 71] 1000000 true s.1 s.2.2 s29.1 s29.2.2 := lf_fq_tr (lf_fq_rf) (lf_fq_wk fr6 rfl (by decide) (by decide))
    refine sm_78 hI7 (show (-1 : Int) ≤ r27 ∧ r27 ≤ (15 : Int) from by omega) (show (-2147483648 : Int) ≤ x3 ∧ x3 ≤ (2147483647 : Int) from by omega) (fun r32 q11 => ?_)
    obtain ⟨q11, q11x⟩ := q11
    have b12 : 0 ≤ s29.1 1 1 ∧ s29.1 1 1 ≤ 16 := iv_r1_1 hI7
    have b13 : s29.1 1 1 = s.1 1 1 := congrFun (fr6.1 1 rfl) _
    replace q11x : r32 = iv_od (s29.1 1 1) (s29.1 4) (s29.1 5) r27 x3 := q11x
    have b14 : iv_od (s29.1 1 1) (s29.1 4) (s29.1 5) r27 x3 = iv_od (s.1 1 1) (s.1 4) (s.1 5) r27 x3 := by rw [fr6.1 1 rfl, fr6.1 4 rfl, fr6.1 5 rfl]
    refine ⟨(show lf_R r30 from lf_Rof (by omega)), ?_⟩
    refine ⟨fun c15 => ?_, fun c15 => ?_⟩
    · skip
      replace c15 : r30 ≤ 0 := c15
      exact sm_129_p113 (fun r9 t9 i9 f9 => hQ r9 t9 i9 (lf_fq_tr fr10 f9)) (fun p0 p1 t9 i9 f9 => hX11 p0 p1 t9 i9 (lf_fq_tr fr10 f9)) (show (4 - x5).toNat ≤ M11 from by omega) hI7 (show (0 : Int) ≤ x1 ∧ x1 ≤ (155 : Int) from by omega) (show (0 : Int) ≤ x3 ∧ x3 ≤ (11 : Int) from by omega) (show (1 : Int) ≤ x4 ∧ x4 ≤ (156 : Int) from by omega) (show (0 : Int) ≤ x5 ∧ x5 ≤ (3 : Int) from by omega) (show (-2147483648 : Int) ≤ r30 ∧ r30 ≤ (2147483647 : Int) from by omega)
    · skip
      replace c15 : ¬ (r30 ≤ 0) := c15
      refine ⟨(show (0 : Int) ≤ ((r32 * 13) + x3) + 1 ∧ ((r32 * 13) + x3) + 1 < (156 : Int) from by omega), ?_⟩
      have b17 : (-2147483648) ≤ s29.1 71 (((r32 * 13) + x3) + 1) ∧ s29.1 71 (((r32 * 13) + x3) + 1) ≤ 2147483647 := iv_full hI7
      have b18 : s29.1 71 (((r32 * 13) + x3) + 1) = s.1 71 (((r32 * 13) + x3) + 1) := congrFun (fr6.1 71 rfl) _
      refine ⟨(show lf_R (s29.1 71 (((r32 * 13) + x3) + 1)) from lf_Rof (by omega)), ?_⟩
      refine ⟨fun c19 => ?_, fun c19 => ?_⟩
      · skip
        replace c19 : s29.1 71 (((r32 * 13) + x3) + 1) ≠ 0 := c19
        exact sm_129_p113 (fun r9 t9 i9 f9 => hQ r9 t9 i9 (lf_fq_tr fr10 f9)) (fun p0 p1 t9 i9 f9 => hX11 p0 p1 t9 i9 (lf_fq_tr fr10 f9)) (show (4 - x5).toNat ≤ M11 from by omega) hI7 (show (0 : Int) ≤ x1 ∧ x1 ≤ (155 : Int) from by omega) (show (0 : Int) ≤ x3 ∧ x3 ≤ (11 : Int) from by omega) (show (1 : Int) ≤ x4 ∧ x4 ≤ (156 : Int) from by omega) (show (0 : Int) ≤ x5 ∧ x5 ≤ (3 : Int) from by omega) (show (-2147483648 : Int) ≤ r30 ∧ r30 ≤ (2147483647 : Int) from by omega)
      · skip
        replace c19 : ¬ (s29.1 71 (((r32 * 13) + x3) + 1) ≠ 0) := c19
        refine ⟨(show lf_R x4 from lf_Rof (by omega)), ?_⟩
        refine ⟨fun c20 => ?_, fun c20 => ?_⟩
        · skip
          replace c20 : 156 ≤ x4 := c20
          exact sm_129_p113 (fun r9 t9 i9 f9 => hQ r9 t9 i9 (lf_fq_tr fr10 f9)) (fun p0 p1 t9 i9 f9 => hX11 p0 p1 t9 i9 (lf_fq_tr fr10 f9)) (show (4 - x5).toNat ≤ M11 from by omega) hI7 (show (0 : Int) ≤ x1 ∧ x1 ≤ (155 : Int) from by omega) (show (0 : Int) ≤ x3 ∧ x3 ≤ (11 : Int) from by omega) (show (1 : Int) ≤ x4 ∧ x4 ≤ (156 : Int) from by omega) (show (0 : Int) ≤ x5 ∧ x5 ≤ (3 : Int) from by omega) (show (-2147483648 : Int) ≤ r30 ∧ r30 ≤ (2147483647 : Int) from by omega)
        · skip
          replace c20 : ¬ (156 ≤ x4) := c20
          have hI21 : iv_A (lf_up s29.1 71 (((r32 * 13) + x3) + 1) 1) s29.2.2 := iv_w71 hI7 (by omega)
          have fr22 : lf_fq [63, 64, 65, 66, 69, 70, 71] 1000000 true s.1 s.2.2 (lf_up s29.1 71 (((r32 * 13) + x3) + 1) 1) s29.2.2 := lf_fq_up fr10 rfl (fun h => absurd h (by decide))
          refine ⟨(show (0 : Int) ≤ x4 ∧ x4 < (156 : Int) from by omega), ?_⟩
          have hI23 : iv_A (lf_up (lf_up s29.1 71 (((r32 * 13) + x3) + 1) 1) 70 x4 (((r32 * 13) + x3) + 1)) s29.2.2 := iv_w70 hI21 (by omega)
          have fr24 : lf_fq [63, 64, 65, 66, 69, 70, 71] 1000000 true s.1 s.2.2 (lf_up (lf_up s29.1 71 (((r32 * 13) + x3) + 1) 1) 70 x4 (((r32 * 13) + x3) + 1)) s29.2.2 := lf_fq_up fr22 rfl (fun h => absurd h (by decide))
          exact sm_129_p113 (fun r9 t9 i9 f9 => hQ r9 t9 i9 (lf_fq_tr fr24 f9)) (fun p0 p1 t9 i9 f9 => hX11 p0 p1 t9 i9 (lf_fq_tr fr24 f9)) (show (4 - x5).toNat ≤ M11 from by omega) hI23 (show (0 : Int) ≤ x1 ∧ x1 ≤ (155 : Int) from by omega) (show (0 : Int) ≤ x3 ∧ x3 ≤ (11 : Int) from by omega) (show (1 : Int) ≤ x4 + 1 ∧ x4 + 1 ≤ (156 : Int) from by omega) (show (0 : Int) ≤ x5 ∧ x5 ≤ (3 : Int) from by omega) (show (-2147483648 : Int) ≤ r30 ∧ r30 ≤ (2147483647 : Int) from by omega)
theorem sm_129_p11L {Q : Int → lf_Z → Prop} {x1 : Int} {x3 : Int} {x4 : Int} {x5 : Int} {s : lf_Z} (hQ : ∀ (r : Int) (s' : lf_Z), iv_A s'.1 s'.2.2 → lf_fq [63, 64, 65, 66, 69, 70, 71] 1000000 true s.1 s.2.2 s'.1 s'.2.2 → (1 ≤ r ∧ r ≤ 156) → Q r s') (hI : iv_A s.1 s.2.2) (bx1 : 0 ≤ x1 ∧ x1 ≤ 155) (bx3 : 0 ≤ x3 ∧ x3 ≤ 11) (bx4 : 1 ≤ x4 ∧ x4 ≤ 156) (bx5 : 0 ≤ x5 ∧ x5 ≤ 4) : fm_129_p11L Q x1 x3 x4 x5 s := by
  intro X11 hX
  have key : ∀ (m9 : Nat) (x4 : Int) (x5 : Int) (s' : lf_Z), iv_A s'.1 s'.2.2 → lf_fq [63, 64, 65, 66, 69, 70, 71] 1000000 true s.1 s.2.2 s'.1 s'.2.2 → 1 ≤ x4 ∧ x4 ≤ 156 → 0 ≤ x5 ∧ x5 ≤ 4 → (4 - x5).toNat < m9 → X11 x4 x5 s' := by
    intro m9
    induction m9 with
    | zero => intro x4 x5 s' _ _ bx4 bx5 h9; exact absurd h9 (Nat.not_lt_zero _)
    | succ m9 ih => intro x4 x5 s' i7 f7 bx4 bx5 h9; exact hX _ _ _ (sm_129_p11 (fun r9 t9 i9 f9 => hQ r9 t9 i9 (lf_fq_tr f7 f9))   (fun x4' x5' t8 i8 f8 bx4' bx5' h8 => ih x4' x5' t8 i8 (lf_fq_tr f7 f8) bx4' bx5' (by omega)) (Nat.le_refl _)  i7  bx1 bx3 bx4 bx5  )
  exact key _ _ _ s hI lf_fq_rf bx4 bx5 (Nat.lt_succ_self _)
theorem sm_129 {a1 : Int} {a2 : Int} {Q : Int → lf_Z → Prop} {s : lf_Z} (hI : iv_A s.1 s.2.2) (ba1 : 0 ≤ a1 ∧ a1 ≤ 155) (ba2 : 1 ≤ a2 ∧ a2 ≤ 156) (hQ : ∀ (r : Int) (s' : lf_Z), iv_A s'.1 s'.2.2 → lf_fq [63, 64, 65, 66, 69, 70, 71] 1000000 true s.1 s.2.2 s'.1 s'.2.2 → (1 ≤ r ∧ r ≤ 156) → Q r s') : fm_129 a1 a2 Q s := by
  unfold fm_129
  refine ⟨(show lf_R a1 from lf_Rof (by omega)), ?_⟩
  have b1 : 0 ≤ a1.tdiv 13 ∧ a1.tdiv 13 ≤ 11 := lf_tdivB (p := 0) (q := 155) (by omega) (by omega) (by decide) (by decide) (by decide)
  exact sm_129_p11L hQ hI (show (0 : Int) ≤ a1 ∧ a1 ≤ (155 : Int) from by omega) (show (0 : Int) ≤ a1.tdiv 13 ∧ a1.tdiv 13 ≤ (11 : Int) from by omega) (show (1 : Int) ≤ a2 ∧ a2 ≤ (156 : Int) from by omega) (show (0 : Int) ≤ 0 ∧ 0 ≤ (4 : Int) from by omega)
-- fm_128 Walk.spread 68 i
theorem sm_128_p38 {X38 : Int → Int → Int → lf_Z → Prop} {Q : Int → lf_Z → Prop} {x2 : Int} {x3 : Int} {x4 : Int} {s : lf_Z} (hQ : ∀ (r : Int) (s' : lf_Z), iv_A s'.1 s'.2.2 → lf_fq [63, 64, 65, 66, 69, 70, 71] 1000000 true s.1 s.2.2 s'.1 s'.2.2 → ((-2147483648) ≤ r ∧ r ≤ 2147483647) → Q r s') {M38 : Nat} (hX38 : ∀ (x2 : Int) (x3 : Int) (x4 : Int) (s' : lf_Z), iv_A s'.1 s'.2.2 → lf_fq [63, 64, 65, 66, 69, 70, 71] 1000000 true s.1 s.2.2 s'.1 s'.2.2 → 1 ≤ x2 ∧ x2 ≤ 156 → (-2147483648) ≤ x3 ∧ x3 ≤ 2147483647 → 0 ≤ x4 ∧ x4 ≤ 156 → (156 - x4).toNat < M38 → X38 x2 x3 x4 s') (hM38 : (156 - x4).toNat ≤ M38) (hI : iv_A s.1 s.2.2) (bx2 : 1 ≤ x2 ∧ x2 ≤ 156) (bx3 : (-2147483648) ≤ x3 ∧ x3 ≤ 2147483647) (bx4 : 0 ≤ x4 ∧ x4 ≤ 156) : fm_128_p38 Q X38 x2 x3 x4 s := by
  unfold fm_128_p38
  refine ⟨(show lf_R x4 from lf_Rof (by omega)), ?_⟩
  refine ⟨(show lf_R x2 from lf_Rof (by omega)), ?_⟩
  refine ⟨fun c10 => ?_, fun c10 => ?_⟩
  · skip
    replace c10 : x2 ≤ x4 := c10
    exact hQ x3 s hI (lf_fq_rf) (show (-2147483648 : Int) ≤ x3 ∧ x3 ≤ (2147483647 : Int) from by omega)
  · skip
    replace c10 : ¬ (x2 ≤ x4) := c10
    refine ⟨fun c11 => ?_, fun c11 => ?_⟩
    · skip
      replace c11 : 156 ≤ x4 := c11
      exfalso
      omega
    · skip
      replace c11 : ¬ (156 ≤ x4) := c11
      refine ⟨(show (0 : Int) ≤ x4 ∧ x4 < (156 : Int) from by omega), ?_⟩
      have b12 : 0 ≤ s.1 70 x4 ∧ s.1 70 x4 ≤ 155 := iv_r70 hI _
      refine ⟨(show lf_R (s.1 70 x4) from lf_Rof (by omega)), ?_⟩
      have b13 : 0 ≤ (s.1 70 x4).tdiv 13 ∧ (s.1 70 x4).tdiv 13 ≤ 11 := lf_tdivB (p := 0) (q := 155) (by omega) (by omega) (by decide) (by decide) (by decide)
      have b14 : 1 ≤ lf_shl 1 ((s.1 70 x4).tdiv 13) ∧ lf_shl 1 ((s.1 70 x4).tdiv 13) ≤ 2048 := lf_shl1 (m := 11) (by omega) (by omega) (by decide)
      have b15 : (-2147483648) ≤ lf_or x3 (lf_shl 1 ((s.1 70 x4).tdiv 13)) ∧ lf_or x3 (lf_shl 1 ((s.1 70 x4).tdiv 13)) ≤ 2147483647 := lf_orB
      refine sm_129 hI (show (0 : Int) ≤ s.1 70 x4 ∧ s.1 70 x4 ≤ (155 : Int) from by omega) (show (1 : Int) ≤ x2 ∧ x2 ≤ (156 : Int) from by omega) (fun r29 s28 hI17 fr16 q18 => ?_)
      have fr19 : lf_fq [63, 64, 65, 66, 69, 70, 71] 1000000 true s.1 s.2.2 s28.1 s28.2.2 := lf_fq_tr (lf_fq_rf) (lf_fq_wk fr16 rfl (by decide) (by decide))
      exact hX38 (r29) (lf_or x3 (lf_shl 1 ((s.1 70 x4).tdiv 13))) (x4 + 1) s28 hI17 fr19 (show (1 : Int) ≤ r29 ∧ r29 ≤ (156 : Int) from by omega) (show (-2147483648 : Int) ≤ lf_or x3 (lf_shl 1 ((s.1 70 x4).tdiv 13)) ∧ lf_or x3 (lf_shl 1 ((s.1 70 x4).tdiv 13)) ≤ (2147483647 : Int) from by omega) (show (0 : Int) ≤ x4 + 1 ∧ x4 + 1 ≤ (156 : Int) from by omega) (show (156 - (x4 + 1)).toNat < M38 from by omega)
theorem sm_128_p38L {Q : Int → lf_Z → Prop} {x2 : Int} {x3 : Int} {x4 : Int} {s : lf_Z} (hQ : ∀ (r : Int) (s' : lf_Z), iv_A s'.1 s'.2.2 → lf_fq [63, 64, 65, 66, 69, 70, 71] 1000000 true s.1 s.2.2 s'.1 s'.2.2 → ((-2147483648) ≤ r ∧ r ≤ 2147483647) → Q r s') (hI : iv_A s.1 s.2.2) (bx2 : 1 ≤ x2 ∧ x2 ≤ 156) (bx3 : (-2147483648) ≤ x3 ∧ x3 ≤ 2147483647) (bx4 : 0 ≤ x4 ∧ x4 ≤ 156) : fm_128_p38L Q x2 x3 x4 s := by
  intro X38 hX
  have key : ∀ (m9 : Nat) (x2 : Int) (x3 : Int) (x4 : Int) (s' : lf_Z), iv_A s'.1 s'.2.2 → lf_fq [63, 64, 65, 66, 69, 70, 71] 1000000 true s.1 s.2.2 s'.1 s'.2.2 → 1 ≤ x2 ∧ x2 ≤ 156 → (-2147483648) ≤ x3 ∧ x3 ≤ 2147483647 → 0 ≤ x4 ∧ x4 ≤ 156 → (156 - x4).toNat < m9 → X38 x2 x3 x4 s' := by
    intro m9
    induction m9 with
    | zero => intro x2 x3 x4 s' _ _ bx2 bx3 bx4 h9; exact absurd h9 (Nat.not_lt_zero _)
    | succ m9 ih => intro x2 x3 x4 s' i7 f7 bx2 bx3 bx4 h9; exact hX _ _ _ _ (sm_128_p38 (fun r9 t9 i9 f9 => hQ r9 t9 i9 (lf_fq_tr f7 f9))   (fun x2' x3' x4' t8 i8 f8 bx2' bx3' bx4' h8 => ih x2' x3' x4' t8 i8 (lf_fq_tr f7 f8) bx2' bx3' bx4' (by omega)) (Nat.le_refl _)  i7  bx2 bx3 bx4  )
  exact key _ _ _ _ s hI lf_fq_rf bx2 bx3 bx4 (Nat.lt_succ_self _)
theorem sm_128 {a1 : Int} {Q : Int → lf_Z → Prop} {s : lf_Z} (hI : iv_A s.1 s.2.2) (ba1 : 0 ≤ a1 ∧ a1 ≤ 3) (kp0 : 0 < s.1 16 a1) (hQ : ∀ (r : Int) (s' : lf_Z), iv_A s'.1 s'.2.2 → lf_fq [63, 64, 65, 66, 69, 70, 71] 1000000 true s.1 s.2.2 s'.1 s'.2.2 → ((-2147483648) ≤ r ∧ r ≤ 2147483647) → Q r s') : fm_128 a1 Q s := by
  unfold fm_128
  have hI1 : iv_A (lf_fl s.1 71 156 0) s.2.2 := iv_fl71 hI (by omega)
  have fr2 : lf_fq [63, 64, 65, 66, 69, 70, 71] 1000000 true s.1 s.2.2 (lf_fl s.1 71 156 0) s.2.2 := lf_fq_fl (lf_fq_rf) rfl (by decide)
  have b3 : (-2147483648) ≤ (lf_fl s.1 71 156 0) 16 a1 ∧ (lf_fl s.1 71 156 0) 16 a1 ≤ 2147483647 := iv_full hI1
  have b4 : (lf_fl s.1 71 156 0) 16 a1 = s.1 16 a1 := lf_fl_c (by omega)
  refine sm_120 hI1 (show (0 : Int) ≤ a1 ∧ a1 ≤ (3 : Int) from by omega) (show 0 < ((lf_fl s.1 71 156 0) 16 a1) from by omega) (fun r22 q5 => ?_)
  have hI6 : iv_A (lf_up (lf_fl s.1 71 156 0) 70 0 r22) s.2.2 := iv_w70 hI1 (by omega)
  have fr7 : lf_fq [63, 64, 65, 66, 69, 70, 71] 1000000 true s.1 s.2.2 (lf_up (lf_fl s.1 71 156 0) 70 0 r22) s.2.2 := lf_fq_up fr2 rfl (fun h => absurd h (by decide))
  refine ⟨(show (0 : Int) ≤ r22 ∧ r22 < (156 : Int) from by omega), ?_⟩
  have hI8 : iv_A (lf_up (lf_up (lf_fl s.1 71 156 0) 70 0 r22) 71 r22 1) s.2.2 := iv_w71 hI6 (by omega)
  have fr9 : lf_fq [63, 64, 65, 66, 69, 70, 71] 1000000 true s.1 s.2.2 (lf_up (lf_up (lf_fl s.1 71 156 0) 70 0 r22) 71 r22 1) s.2.2 := lf_fq_up fr7 rfl (fun h => absurd h (by decide))
  exact sm_128_p38L (fun r9 t9 i9 f9 => hQ r9 t9 i9 (lf_fq_tr fr9 f9)) hI8 (show (1 : Int) ≤ 1 ∧ 1 ≤ (156 : Int) from by omega) (show (-2147483648 : Int) ≤ 0 ∧ 0 ≤ (2147483647 : Int) from by omega) (show (0 : Int) ≤ 0 ∧ 0 ≤ (156 : Int) from by omega)
-- fm_127 Walk.reached 68 i
theorem sm_127 {a1 : Int} {Q : Int → lf_Z → Prop} {s : lf_Z} (hI : iv_A s.1 s.2.2) (ba1 : 0 ≤ a1 ∧ a1 ≤ 3) (kp0 : 0 < s.1 16 a1) (hQ : ∀ (r : Int) (s' : lf_Z), iv_A s'.1 s'.2.2 → lf_fq [63, 64, 65, 66, 68, 69, 70, 71] 1000000 true s.1 s.2.2 s'.1 s'.2.2 → ((-2147483648) ≤ r ∧ r ≤ 2147483647) → Q r s') : fm_127 a1 Q s := by
  unfold fm_127
  refine sm_118 hI (show (0 : Int) ≤ a1 ∧ a1 ≤ (3 : Int) from by omega) (show (0 : Int) ≤ 0 ∧ 0 ≤ (9 : Int) from by omega) (fun s21 hI2 fr1 => ?_)
  have fr4 : lf_fq [63, 64, 65, 66, 68, 69, 70, 71] 1000000 true s.1 s.2.2 s21.1 s21.2.2 := lf_fq_tr (lf_fq_rf) (lf_fq_wk fr1 rfl (by decide) (by decide))
  have b7 : (-2147483648) ≤ s21.1 16 a1 ∧ s21.1 16 a1 ≤ 2147483647 := iv_full hI2
  have b8 : s21.1 16 a1 = s.1 16 a1 := congrFun (fr1.1 16 rfl) _
  refine sm_128 hI2 (show (0 : Int) ≤ a1 ∧ a1 ≤ (3 : Int) from by omega) (show 0 < (s21.1 16 a1) from by omega) (fun r23 s22 hI6 fr5 q9 => ?_)
  have fr10 : lf_fq [63, 64, 65, 66, 68, 69, 70, 71] 1000000 true s.1 s.2.2 s22.1 s22.2.2 := lf_fq_tr fr4 (lf_fq_wk fr5 rfl (by decide) (by decide))
  exact hQ r23 s22 hI6 fr10 (show (-2147483648 : Int) ≤ r23 ∧ r23 ≤ (2147483647 : Int) from by omega)
-- fm_126 ElevenBullocks.canCome 0 i
theorem sm_126 {a1 : Int} {Q : Int → lf_Z → Prop} {s : lf_Z} (hI : iv_A s.1 s.2.2) (ba1 : (-2147483648) ≤ a1 ∧ a1 ≤ 2147483647) (hQ : ∀ (r : Int) (s' : lf_Z), iv_A s'.1 s'.2.2 → lf_fq [63, 64, 65, 66, 68, 69, 70, 71] 1000000 true s.1 s.2.2 s'.1 s'.2.2 → ((-2147483648) ≤ r ∧ r ≤ 2147483647) → Q r s') : fm_126 a1 Q s := by
  unfold fm_126
  refine sm_80 hI (show (-2147483648 : Int) ≤ a1 ∧ a1 ≤ (2147483647 : Int) from by omega) (fun z22 q1 => ?_)
  have b2 : (-2147483648) ≤ s.1 16 a1 ∧ s.1 16 a1 ≤ 2147483647 := iv_full hI
  refine ⟨fun c3 => ?_, fun c3 => ?_⟩
  · skip
    have dc3 := q1.2 c3
    exact hQ (-1) s hI (lf_fq_rf) (show (-2147483648 : Int) ≤ (-1) ∧ (-1) ≤ (2147483647 : Int) from by omega)
  · skip
    have dc3 := q1.1 c3
    refine sm_127 hI (show (0 : Int) ≤ a1 ∧ a1 ≤ (3 : Int) from by omega) (show 0 < (s.1 16 a1) from by omega) (fun r24 s23 hI5 fr4 q6 => ?_)
    have fr7 : lf_fq [63, 64, 65, 66, 68, 69, 70, 71] 1000000 true s.1 s.2.2 s23.1 s23.2.2 := lf_fq_tr (lf_fq_rf) (lf_fq_wk fr4 rfl (by decide) (by decide))
    exact hQ r24 s23 hI5 fr7 (show (-2147483648 : Int) ≤ r24 ∧ r24 ≤ (2147483647 : Int) from by omega)
-- fm_294 Model.comesTo 95 i
theorem sm_294_p203 {X63 : Int → Int → Int → lf_Z → Prop} {Q : Int → lf_Z → Prop} {x1 : Int} {x2 : Int} {x3 : Int} {x4 : Int} {s : lf_Z} (hQ : ∀ (r : Int) (s' : lf_Z), iv_A s'.1 s'.2.2 → lf_fq [104, 107, 111, 112] 1000000 true s.1 s.2.2 s'.1 s'.2.2 → ((-2147483648) ≤ r ∧ r ≤ 2147483647) → Q r s') {M63 : Nat} (hX63 : ∀ (x2 : Int) (x3 : Int) (x4 : Int) (s' : lf_Z), iv_A s'.1 s'.2.2 → lf_fq [104, 107, 111, 112] 1000000 true s.1 s.2.2 s'.1 s'.2.2 → 1 ≤ x2 ∧ x2 ≤ 156 → (-2147483648) ≤ x3 ∧ x3 ≤ 2147483647 → 0 ≤ x4 ∧ x4 ≤ 156 → (x2 = lf_ct (s'.1 111) 156) → (156 - x4).toNat < M63 → X63 x2 x3 x4 s') (hM63 : (156 - x4).toNat ≤ M63) (hI : iv_A s.1 s.2.2) (bx1 : 0 ≤ x1 ∧ x1 ≤ 3) (bx2 : 1 ≤ x2 ∧ x2 ≤ 156) (bx3 : (-2147483648) ≤ x3 ∧ x3 ≤ 2147483647) (bx4 : 0 ≤ x4 ∧ x4 ≤ 155) (kv0 : x2 = lf_ct (s.1 111) 156) : fm_294_p203 X63 Q x1 x2 x3 x4 s := by
  unfold fm_294_p203
  have b18 : x2 = lf_ct ((s.1 111)) 156 := by first | omega | exact (lf_zr1 kv0 (by omega) (by omega) (by omega) lf_up_s (fun j hj => lf_up_i hj)).symm
  exact hX63 (x2) (x3) (x4 + 1) s hI (lf_fq_rf) (show (1 : Int) ≤ x2 ∧ x2 ≤ (156 : Int) from by omega) (show (-2147483648 : Int) ≤ x3 ∧ x3 ≤ (2147483647 : Int) from by omega) (show (0 : Int) ≤ x4 + 1 ∧ x4 + 1 ≤ (156 : Int) from by omega) (show x2 = lf_ct ((s.1 111)) 156 from by omega) (show (156 - (x4 + 1)).toNat < M63 from by omega)
theorem sm_294_p197 {X63 : Int → Int → Int → lf_Z → Prop} {X94 : Int → Int → Int → lf_Z → Prop} {Q : Int → lf_Z → Prop} {x1 : Int} {x2 : Int} {x3 : Int} {x4 : Int} {x5 : Int} {x6 : Int} {x7 : Int} {s : lf_Z} (hQ : ∀ (r : Int) (s' : lf_Z), iv_A s'.1 s'.2.2 → lf_fq [104, 107, 111, 112] 1000000 true s.1 s.2.2 s'.1 s'.2.2 → ((-2147483648) ≤ r ∧ r ≤ 2147483647) → Q r s') {M63 : Nat} (hX63 : ∀ (x2 : Int) (x3 : Int) (x4 : Int) (s' : lf_Z), iv_A s'.1 s'.2.2 → lf_fq [104, 107, 111, 112] 1000000 true s.1 s.2.2 s'.1 s'.2.2 → 1 ≤ x2 ∧ x2 ≤ 156 → (-2147483648) ≤ x3 ∧ x3 ≤ 2147483647 → 0 ≤ x4 ∧ x4 ≤ 156 → (x2 = lf_ct (s'.1 111) 156) → (156 - x4).toNat < M63 → X63 x2 x3 x4 s') (hM63 : (156 - x4).toNat ≤ M63) {M94 : Nat} (hX94 : ∀ (x2 : Int) (x6 : Int) (x7 : Int) (s' : lf_Z), iv_A s'.1 s'.2.2 → lf_fq [104, 107, 111, 112] 1000000 true s.1 s.2.2 s'.1 s'.2.2 → 1 ≤ x2 ∧ x2 ≤ 156 → 0 ≤ x6 ∧ x6 ≤ 100 → 0 ≤ x7 ∧ x7 ≤ 16 → (x2 = lf_ct (s'.1 111) 156) → (16 - x7).toNat < M94 → X94 x2 x6 x7 s') (hM94 : (16 - x7).toNat ≤ M94) (hI : iv_A s.1 s.2.2) (bx1 : 0 ≤ x1 ∧ x1 ≤ 3) (bx2 : 1 ≤ x2 ∧ x2 ≤ 156) (bx3 : (-2147483648) ≤ x3 ∧ x3 ≤ 2147483647) (bx4 : 0 ≤ x4 ∧ x4 ≤ 155) (bx5 : 0 ≤ x5 ∧ x5 ≤ 11) (bx6 : 0 ≤ x6 ∧ x6 ≤ 100) (bx7 : 0 ≤ x7 ∧ x7 ≤ 15) (kv0 : x2 = lf_ct (s.1 111) 156) : fm_294_p197 X63 X94 Q x1 x2 x3 x4 x5 x6 x7 s := by
  unfold fm_294_p197
  exact hX94 (x2) (x6) (x7 + 1) s hI (lf_fq_rf) (show (1 : Int) ≤ x2 ∧ x2 ≤ (156 : Int) from by omega) (show (0 : Int) ≤ x6 ∧ x6 ≤ (100 : Int) from by omega) (show (0 : Int) ≤ x7 + 1 ∧ x7 + 1 ≤ (16 : Int) from by omega) (show x2 = lf_ct ((s.1 111)) 156 from by omega) (show (16 - (x7 + 1)).toNat < M94 from by omega)
theorem sm_294_p94 {X63 : Int → Int → Int → lf_Z → Prop} {X94 : Int → Int → Int → lf_Z → Prop} {Q : Int → lf_Z → Prop} {x1 : Int} {x2 : Int} {x3 : Int} {x4 : Int} {x5 : Int} {x6 : Int} {x7 : Int} {s : lf_Z} (hQ : ∀ (r : Int) (s' : lf_Z), iv_A s'.1 s'.2.2 → lf_fq [104, 107, 111, 112] 1000000 true s.1 s.2.2 s'.1 s'.2.2 → ((-2147483648) ≤ r ∧ r ≤ 2147483647) → Q r s') {M63 : Nat} (hX63 : ∀ (x2 : Int) (x3 : Int) (x4 : Int) (s' : lf_Z), iv_A s'.1 s'.2.2 → lf_fq [104, 107, 111, 112] 1000000 true s.1 s.2.2 s'.1 s'.2.2 → 1 ≤ x2 ∧ x2 ≤ 156 → (-2147483648) ≤ x3 ∧ x3 ≤ 2147483647 → 0 ≤ x4 ∧ x4 ≤ 156 → (x2 = lf_ct (s'.1 111) 156) → (156 - x4).toNat < M63 → X63 x2 x3 x4 s') (hM63 : (156 - x4).toNat ≤ M63) {M94 : Nat} (hX94 : ∀ (x2 : Int) (x6 : Int) (x7 : Int) (s' : lf_Z), iv_A s'.1 s'.2.2 → lf_fq [104, 107, 111, 112] 1000000 true s.1 s.2.2 s'.1 s'.2.2 → 1 ≤ x2 ∧ x2 ≤ 156 → 0 ≤ x6 ∧ x6 ≤ 100 → 0 ≤ x7 ∧ x7 ≤ 16 → (x2 = lf_ct (s'.1 111) 156) → (16 - x7).toNat < M94 → X94 x2 x6 x7 s') (hM94 : (16 - x7).toNat ≤ M94) (hI : iv_A s.1 s.2.2) (bx1 : 0 ≤ x1 ∧ x1 ≤ 3) (bx2 : 1 ≤ x2 ∧ x2 ≤ 156) (bx3 : (-2147483648) ≤ x3 ∧ x3 ≤ 2147483647) (bx4 : 0 ≤ x4 ∧ x4 ≤ 155) (bx5 : 0 ≤ x5 ∧ x5 ≤ 11) (bx6 : 0 ≤ x6 ∧ x6 ≤ 100) (bx7 : 0 ≤ x7 ∧ x7 ≤ 16) (kv0 : x2 = lf_ct (s.1 111) 156) : fm_294_p94 X63 Q x1 x3 x4 x5 X94 x2 x6 x7 s := by
  unfold fm_294_p94
  have b15 : 0 ≤ s.1 96 1 ∧ s.1 96 1 ≤ 16 := iv_rd96 hI (iv_fd6ad3e54 (by omega))
  have b16 : s.1 96 1 ≤ 0 ∨ 0 < s.1 96 0 := (show s.1 96 1 ≤ 0 ∨ 0 < s.1 96 0 from iv_l96_1 hI)
  refine ⟨(show lf_R x7 from lf_Rof (by omega)), ?_⟩
  refine ⟨(show lf_R (s.1 96 1) from lf_Rof (by omega)), ?_⟩
  refine ⟨fun c17 => ?_, fun c17 => ?_⟩
  · skip
    replace c17 : s.1 96 1 ≤ x7 := c17
    exact sm_294_p203 hQ hX63 (show (156 - x4).toNat ≤ M63 from by omega) hI (show (0 : Int) ≤ x1 ∧ x1 ≤ (3 : Int) from by omega) (show (1 : Int) ≤ x2 ∧ x2 ≤ (156 : Int) from by omega) (show (-2147483648 : Int) ≤ x3 ∧ x3 ≤ (2147483647 : Int) from by omega) (show (0 : Int) ≤ x4 ∧ x4 ≤ (155 : Int) from by omega) (show x2 = lf_ct ((s.1 111)) 156 from by omega)
  · skip
    replace c17 : ¬ (s.1 96 1 ≤ x7) := c17
    refine ⟨(show lf_R x6 from lf_Rof (by omega)), ?_⟩
    refine ⟨fun c19 => ?_, fun c19 => ?_⟩
    · skip
      replace c19 : 10 ≤ x6 := c19
      exact sm_294_p203 hQ hX63 (show (156 - x4).toNat ≤ M63 from by omega) hI (show (0 : Int) ≤ x1 ∧ x1 ≤ (3 : Int) from by omega) (show (1 : Int) ≤ x2 ∧ x2 ≤ (156 : Int) from by omega) (show (-2147483648 : Int) ≤ x3 ∧ x3 ≤ (2147483647 : Int) from by omega) (show (0 : Int) ≤ x4 ∧ x4 ≤ (155 : Int) from by omega) (show x2 = lf_ct ((s.1 111)) 156 from by omega)
    · skip
      replace c19 : ¬ (10 ≤ x6) := c19
      refine sm_242 hI (show (0 : Int) ≤ x1 ∧ x1 ≤ (3 : Int) from by omega) (fun r35 q20 => ?_)
      obtain ⟨q20, q20x⟩ := q20
      replace q20x : r35 = s.1 96 (114 + 3 * x1) := q20x
      refine ⟨(show (0 : Int) ≤ x4 ∧ x4 < (156 : Int) from by omega), ?_⟩
      have b21 : 0 ≤ s.1 112 x4 ∧ s.1 112 x4 ≤ 155 := iv_r112 hI _
      refine ⟨(show lf_R (s.1 112 x4) from lf_Rof (by omega)), ?_⟩
      have b22 : 0 ≤ (s.1 112 x4).tmod 13 ∧ (s.1 112 x4).tmod 13 ≤ 12 := lf_tmodP (by omega) (by omega) (by omega)
      refine sm_273 hI (show (0 : Int) ≤ r35 ∧ r35 ≤ (24 : Int) from by omega) (show (0 : Int) ≤ x5 ∧ x5 ≤ (11 : Int) from by omega) (show (-1 : Int) ≤ ((s.1 112 x4).tmod 13) - 1 ∧ ((s.1 112 x4).tmod 13) - 1 ≤ (11 : Int) from by omega) (show (0 : Int) ≤ x7 ∧ x7 ≤ (15 : Int) from by omega) (fun r39 s38 hI24 fr23 q25 => ?_)
      obtain ⟨q25, q25x⟩ := q25
      replace q25x : r39 ≤ 0 ∨ 0 ≤ iv_os (s.1 96) x7 x5 := q25x
      have fr26 : lf_fq [104, 107, 111, 112] 1000000 true s.1 s.2.2 s38.1 s38.2.2 := lf_fq_tr (lf_fq_rf) (lf_fq_wk fr23 rfl (by decide) (by decide))
      have b27 : lf_ct ((s38.1 111)) 156 = lf_ct (s.1 111) 156 := lf_c2 lf_ct (fr23.1 111 rfl) rfl
      refine ⟨(show lf_R r39 from lf_Rof (by omega)), ?_⟩
      refine ⟨fun c28 => ?_, fun c28 => ?_⟩
      · skip
        replace c28 : r39 ≠ 0 := c28
        refine sm_187 hI24 (show (0 : Int) ≤ x7 ∧ x7 ≤ (15 : Int) from by omega) (show (0 : Int) ≤ x5 ∧ x5 ≤ (11 : Int) from by omega) (fun r42 q29 => ?_)
        obtain ⟨q29, q29x⟩ := q29
        replace q29x : r42 = iv_os (s38.1 96) x7 x5 := q29x
        have b30 : iv_os (s38.1 96) x7 x5 = iv_os (s.1 96) x7 x5 := by rw [fr23.1 96 rfl]
        refine ⟨(show (0 : Int) ≤ ((13 * r42) + x5) + 1 ∧ ((13 * r42) + x5) + 1 < (156 : Int) from by omega), ?_⟩
        have b31 : 0 ≤ s38.1 111 (((13 * r42) + x5) + 1) ∧ s38.1 111 (((13 * r42) + x5) + 1) ≤ 1 := iv_r111 hI24 _
        have b32 : s38.1 111 (((13 * r42) + x5) + 1) = s.1 111 (((13 * r42) + x5) + 1) := congrFun (fr23.1 111 rfl) _
        refine ⟨(show lf_R (s38.1 111 (((13 * r42) + x5) + 1)) from lf_Rof (by omega)), ?_⟩
        refine ⟨fun c33 => ?_, fun c33 => ?_⟩
        · skip
          replace c33 : s38.1 111 (((13 * r42) + x5) + 1) = 0 := c33
          have b34 : lf_ct ((s38.1 111)) 156 + 1 ≤ 156 := lf_cts (i := (((13 * r42) + x5) + 1)) (fun j => (iv_r111 hI24 j).2) (by omega) (by omega) (by omega)
          have hI35 : iv_A (lf_up s38.1 111 (((13 * r42) + x5) + 1) 1) s38.2.2 := iv_w111 hI24 (by omega)
          have fr36 : lf_fq [104, 107, 111, 112] 1000000 true s.1 s.2.2 (lf_up s38.1 111 (((13 * r42) + x5) + 1) 1) s38.2.2 := lf_fq_up fr26 rfl (fun h => absurd h (by decide))
          refine ⟨(show (0 : Int) ≤ x2 ∧ x2 < (156 : Int) from by omega), ?_⟩
          have hI37 : iv_A (lf_up (lf_up s38.1 111 (((13 * r42) + x5) + 1) 1) 112 x2 (((13 * r42) + x5) + 1)) s38.2.2 := iv_w112 hI35 (by omega)
          have fr38 : lf_fq [104, 107, 111, 112] 1000000 true s.1 s.2.2 (lf_up (lf_up s38.1 111 (((13 * r42) + x5) + 1) 1) 112 x2 (((13 * r42) + x5) + 1)) s38.2.2 := lf_fq_up fr36 rfl (fun h => absurd h (by decide))
          have b39 : lf_ct (((lf_up s38.1 111 (((13 * r42) + x5) + 1) 1) 111)) 156 = lf_ct (s38.1 111) 156 + 1 := lf_ctu (i := (((13 * r42) + x5) + 1)) (by omega) (by omega) (by rw [lf_up_s]; omega) (fun j hj => lf_up_i hj)
          exact sm_294_p197 (fun r9 t9 i9 f9 => hQ r9 t9 i9 (lf_fq_tr fr38 f9)) (fun p0 p1 p2 t9 i9 f9 => hX63 p0 p1 p2 t9 i9 (lf_fq_tr fr38 f9)) (show (156 - x4).toNat ≤ M63 from by omega) (fun p0 p1 p2 t9 i9 f9 => hX94 p0 p1 p2 t9 i9 (lf_fq_tr fr38 f9)) (show (16 - x7).toNat ≤ M94 from by omega) hI37 (show (0 : Int) ≤ x1 ∧ x1 ≤ (3 : Int) from by omega) (show (1 : Int) ≤ x2 + 1 ∧ x2 + 1 ≤ (156 : Int) from by omega) (show (-2147483648 : Int) ≤ x3 ∧ x3 ≤ (2147483647 : Int) from by omega) (show (0 : Int) ≤ x4 ∧ x4 ≤ (155 : Int) from by omega) (show (0 : Int) ≤ x5 ∧ x5 ≤ (11 : Int) from by omega) (show (0 : Int) ≤ r39 ∧ r39 ≤ (100 : Int) from by omega) (show (0 : Int) ≤ x7 ∧ x7 ≤ (15 : Int) from by omega) (show (x2 + 1) = lf_ct (((lf_up s38.1 111 (((13 * r42) + x5) + 1) 1) 111)) 156 from by omega)
        · skip
          replace c33 : ¬ (s38.1 111 (((13 * r42) + x5) + 1) = 0) := c33
          exact sm_294_p197 (fun r9 t9 i9 f9 => hQ r9 t9 i9 (lf_fq_tr fr26 f9)) (fun p0 p1 p2 t9 i9 f9 => hX63 p0 p1 p2 t9 i9 (lf_fq_tr fr26 f9)) (show (156 - x4).toNat ≤ M63 from by omega) (fun p0 p1 p2 t9 i9 f9 => hX94 p0 p1 p2 t9 i9 (lf_fq_tr fr26 f9)) (show (16 - x7).toNat ≤ M94 from by omega) hI24 (show (0 : Int) ≤ x1 ∧ x1 ≤ (3 : Int) from by omega) (show (1 : Int) ≤ x2 ∧ x2 ≤ (156 : Int) from by omega) (show (-2147483648 : Int) ≤ x3 ∧ x3 ≤ (2147483647 : Int) from by omega) (show (0 : Int) ≤ x4 ∧ x4 ≤ (155 : Int) from by omega) (show (0 : Int) ≤ x5 ∧ x5 ≤ (11 : Int) from by omega) (show (0 : Int) ≤ r39 ∧ r39 ≤ (100 : Int) from by omega) (show (0 : Int) ≤ x7 ∧ x7 ≤ (15 : Int) from by omega) (show x2 = lf_ct ((s38.1 111)) 156 from by omega)
      · skip
        replace c28 : ¬ (r39 ≠ 0) := c28
        exact sm_294_p197 (fun r9 t9 i9 f9 => hQ r9 t9 i9 (lf_fq_tr fr26 f9)) (fun p0 p1 p2 t9 i9 f9 => hX63 p0 p1 p2 t9 i9 (lf_fq_tr fr26 f9)) (show (156 - x4).toNat ≤ M63 from by omega) (fun p0 p1 p2 t9 i9 f9 => hX94 p0 p1 p2 t9 i9 (lf_fq_tr fr26 f9)) (show (16 - x7).toNat ≤ M94 from by omega) hI24 (show (0 : Int) ≤ x1 ∧ x1 ≤ (3 : Int) from by omega) (show (1 : Int) ≤ x2 ∧ x2 ≤ (156 : Int) from by omega) (show (-2147483648 : Int) ≤ x3 ∧ x3 ≤ (2147483647 : Int) from by omega) (show (0 : Int) ≤ x4 ∧ x4 ≤ (155 : Int) from by omega) (show (0 : Int) ≤ x5 ∧ x5 ≤ (11 : Int) from by omega) (show (0 : Int) ≤ r39 ∧ r39 ≤ (100 : Int) from by omega) (show (0 : Int) ≤ x7 ∧ x7 ≤ (15 : Int) from by omega) (show x2 = lf_ct ((s38.1 111)) 156 from by omega)
theorem sm_294_p94L {X63 : Int → Int → Int → lf_Z → Prop} {Q : Int → lf_Z → Prop} {x1 : Int} {x2 : Int} {x3 : Int} {x4 : Int} {x5 : Int} {x6 : Int} {x7 : Int} {s : lf_Z} (hQ : ∀ (r : Int) (s' : lf_Z), iv_A s'.1 s'.2.2 → lf_fq [104, 107, 111, 112] 1000000 true s.1 s.2.2 s'.1 s'.2.2 → ((-2147483648) ≤ r ∧ r ≤ 2147483647) → Q r s') {M63 : Nat} (hX63 : ∀ (x2 : Int) (x3 : Int) (x4 : Int) (s' : lf_Z), iv_A s'.1 s'.2.2 → lf_fq [104, 107, 111, 112] 1000000 true s.1 s.2.2 s'.1 s'.2.2 → 1 ≤ x2 ∧ x2 ≤ 156 → (-2147483648) ≤ x3 ∧ x3 ≤ 2147483647 → 0 ≤ x4 ∧ x4 ≤ 156 → (x2 = lf_ct (s'.1 111) 156) → (156 - x4).toNat < M63 → X63 x2 x3 x4 s') (hM63 : (156 - x4).toNat ≤ M63) (hI : iv_A s.1 s.2.2) (bx1 : 0 ≤ x1 ∧ x1 ≤ 3) (bx2 : 1 ≤ x2 ∧ x2 ≤ 156) (bx3 : (-2147483648) ≤ x3 ∧ x3 ≤ 2147483647) (bx4 : 0 ≤ x4 ∧ x4 ≤ 155) (bx5 : 0 ≤ x5 ∧ x5 ≤ 11) (bx6 : 0 ≤ x6 ∧ x6 ≤ 100) (bx7 : 0 ≤ x7 ∧ x7 ≤ 16) (kv0 : x2 = lf_ct (s.1 111) 156) : fm_294_p94L X63 Q x1 x2 x3 x4 x5 x6 x7 s := by
  intro X94 hX
  have key : ∀ (m9 : Nat) (x2 : Int) (x6 : Int) (x7 : Int) (s' : lf_Z), iv_A s'.1 s'.2.2 → lf_fq [104, 107, 111, 112] 1000000 true s.1 s.2.2 s'.1 s'.2.2 → 1 ≤ x2 ∧ x2 ≤ 156 → 0 ≤ x6 ∧ x6 ≤ 100 → 0 ≤ x7 ∧ x7 ≤ 16 → (x2 = lf_ct (s'.1 111) 156) → (16 - x7).toNat < m9 → X94 x2 x6 x7 s' := by
    intro m9
    induction m9 with
    | zero => intro x2 x6 x7 s' _ _ bx2 bx6 bx7 kv0 h9; exact absurd h9 (Nat.not_lt_zero _)
    | succ m9 ih => intro x2 x6 x7 s' i7 f7 bx2 bx6 bx7 kv0 h9; exact hX _ _ _ _ (sm_294_p94 (fun r9 t9 i9 f9 => hQ r9 t9 i9 (lf_fq_tr f7 f9))  (fun p0 p1 p2 t9 i9 f9 => hX63 p0 p1 p2 t9 i9 (lf_fq_tr f7 f9)) hM63 (fun x2' x6' x7' t8 i8 f8 bx2' bx6' bx7' kv0' h8 => ih x2' x6' x7' t8 i8 (lf_fq_tr f7 f8) bx2' bx6' bx7' kv0' (by omega)) (Nat.le_refl _)  i7  bx1 bx2 bx3 bx4 bx5 bx6 bx7  kv0)
  exact key _ _ _ _ s hI lf_fq_rf bx2 bx6 bx7 kv0 (Nat.lt_succ_self _)
theorem sm_294_p63 {X63 : Int → Int → Int → lf_Z → Prop} {Q : Int → lf_Z → Prop} {x1 : Int} {x2 : Int} {x3 : Int} {x4 : Int} {s : lf_Z} (hQ : ∀ (r : Int) (s' : lf_Z), iv_A s'.1 s'.2.2 → lf_fq [104, 107, 111, 112] 1000000 true s.1 s.2.2 s'.1 s'.2.2 → ((-2147483648) ≤ r ∧ r ≤ 2147483647) → Q r s') {M63 : Nat} (hX63 : ∀ (x2 : Int) (x3 : Int) (x4 : Int) (s' : lf_Z), iv_A s'.1 s'.2.2 → lf_fq [104, 107, 111, 112] 1000000 true s.1 s.2.2 s'.1 s'.2.2 → 1 ≤ x2 ∧ x2 ≤ 156 → (-2147483648) ≤ x3 ∧ x3 ≤ 2147483647 → 0 ≤ x4 ∧ x4 ≤ 156 → (x2 = lf_ct (s'.1 111) 156) → (156 - x4).toNat < M63 → X63 x2 x3 x4 s') (hM63 : (156 - x4).toNat ≤ M63) (hI : iv_A s.1 s.2.2) (bx1 : 0 ≤ x1 ∧ x1 ≤ 3) (bx2 : 1 ≤ x2 ∧ x2 ≤ 156) (bx3 : (-2147483648) ≤ x3 ∧ x3 ≤ 2147483647) (bx4 : 0 ≤ x4 ∧ x4 ≤ 156) (kv0 : x2 = lf_ct (s.1 111) 156) : fm_294_p63 Q x1 X63 x2 x3 x4 s := by
  unfold fm_294_p63
  refine ⟨(show lf_R x4 from lf_Rof (by omega)), ?_⟩
  refine ⟨(show lf_R x2 from lf_Rof (by omega)), ?_⟩
  refine ⟨fun c10 => ?_, fun c10 => ?_⟩
  · skip
    replace c10 : x2 ≤ x4 := c10
    exact hQ x3 s hI (lf_fq_rf) (show (-2147483648 : Int) ≤ x3 ∧ x3 ≤ (2147483647 : Int) from by omega)
  · skip
    replace c10 : ¬ (x2 ≤ x4) := c10
    refine ⟨(show (0 : Int) ≤ x4 ∧ x4 < (156 : Int) from by omega), ?_⟩
    have b11 : 0 ≤ s.1 112 x4 ∧ s.1 112 x4 ≤ 155 := iv_r112 hI _
    refine ⟨(show lf_R (s.1 112 x4) from lf_Rof (by omega)), ?_⟩
    have b12 : 0 ≤ (s.1 112 x4).tdiv 13 ∧ (s.1 112 x4).tdiv 13 ≤ 11 := lf_tdivB (p := 0) (q := 155) (by omega) (by omega) (by decide) (by decide) (by decide)
    have b13 : 1 ≤ lf_shl 1 ((s.1 112 x4).tdiv 13) ∧ lf_shl 1 ((s.1 112 x4).tdiv 13) ≤ 2048 := lf_shl1 (m := 11) (by omega) (by omega) (by decide)
    have b14 : (-2147483648) ≤ lf_or x3 (lf_shl 1 ((s.1 112 x4).tdiv 13)) ∧ lf_or x3 (lf_shl 1 ((s.1 112 x4).tdiv 13)) ≤ 2147483647 := lf_orB
    exact sm_294_p94L hQ hX63 (show (156 - x4).toNat ≤ M63 from by omega) hI (show (0 : Int) ≤ x1 ∧ x1 ≤ (3 : Int) from by omega) (show (1 : Int) ≤ x2 ∧ x2 ≤ (156 : Int) from by omega) (show (-2147483648 : Int) ≤ lf_or x3 (lf_shl 1 ((s.1 112 x4).tdiv 13)) ∧ lf_or x3 (lf_shl 1 ((s.1 112 x4).tdiv 13)) ≤ (2147483647 : Int) from by omega) (show (0 : Int) ≤ x4 ∧ x4 ≤ (155 : Int) from by omega) (show (0 : Int) ≤ (s.1 112 x4).tdiv 13 ∧ (s.1 112 x4).tdiv 13 ≤ (11 : Int) from by omega) (show (0 : Int) ≤ 0 ∧ 0 ≤ (100 : Int) from by omega) (show (0 : Int) ≤ 0 ∧ 0 ≤ (16 : Int) from by omega) (show x2 = lf_ct ((s.1 111)) 156 from by omega)
theorem sm_294_p63L {Q : Int → lf_Z → Prop} {x1 : Int} {x2 : Int} {x3 : Int} {x4 : Int} {s : lf_Z} (hQ : ∀ (r : Int) (s' : lf_Z), iv_A s'.1 s'.2.2 → lf_fq [104, 107, 111, 112] 1000000 true s.1 s.2.2 s'.1 s'.2.2 → ((-2147483648) ≤ r ∧ r ≤ 2147483647) → Q r s') (hI : iv_A s.1 s.2.2) (bx1 : 0 ≤ x1 ∧ x1 ≤ 3) (bx2 : 1 ≤ x2 ∧ x2 ≤ 156) (bx3 : (-2147483648) ≤ x3 ∧ x3 ≤ 2147483647) (bx4 : 0 ≤ x4 ∧ x4 ≤ 156) (kv0 : x2 = lf_ct (s.1 111) 156) : fm_294_p63L Q x1 x2 x3 x4 s := by
  intro X63 hX
  have key : ∀ (m9 : Nat) (x2 : Int) (x3 : Int) (x4 : Int) (s' : lf_Z), iv_A s'.1 s'.2.2 → lf_fq [104, 107, 111, 112] 1000000 true s.1 s.2.2 s'.1 s'.2.2 → 1 ≤ x2 ∧ x2 ≤ 156 → (-2147483648) ≤ x3 ∧ x3 ≤ 2147483647 → 0 ≤ x4 ∧ x4 ≤ 156 → (x2 = lf_ct (s'.1 111) 156) → (156 - x4).toNat < m9 → X63 x2 x3 x4 s' := by
    intro m9
    induction m9 with
    | zero => intro x2 x3 x4 s' _ _ bx2 bx3 bx4 kv0 h9; exact absurd h9 (Nat.not_lt_zero _)
    | succ m9 ih => intro x2 x3 x4 s' i7 f7 bx2 bx3 bx4 kv0 h9; exact hX _ _ _ _ (sm_294_p63 (fun r9 t9 i9 f9 => hQ r9 t9 i9 (lf_fq_tr f7 f9))   (fun x2' x3' x4' t8 i8 f8 bx2' bx3' bx4' kv0' h8 => ih x2' x3' x4' t8 i8 (lf_fq_tr f7 f8) bx2' bx3' bx4' kv0' (by omega)) (Nat.le_refl _)  i7  bx1 bx2 bx3 bx4  kv0)
  exact key _ _ _ _ s hI lf_fq_rf bx2 bx3 bx4 kv0 (Nat.lt_succ_self _)
theorem sm_294_p2 {X2 : Int → lf_Z → Prop} {Q : Int → lf_Z → Prop} {x1 : Int} {x2 : Int} {s : lf_Z} (hQ : ∀ (r : Int) (s' : lf_Z), iv_A s'.1 s'.2.2 → lf_fq [104, 107, 111, 112] 1000000 true s.1 s.2.2 s'.1 s'.2.2 → ((-2147483648) ≤ r ∧ r ≤ 2147483647) → Q r s') {M2 : Nat} (hX2 : ∀ (x2 : Int) (s' : lf_Z), iv_A s'.1 s'.2.2 → lf_fq [104, 107, 111, 112] 1000000 true s.1 s.2.2 s'.1 s'.2.2 → 0 ≤ x2 ∧ x2 ≤ 156 → (lf_zr (s'.1 111) (x2)) → (156 - x2).toNat < M2 → X2 x2 s') (hM2 : (156 - x2).toNat ≤ M2) (hI : iv_A s.1 s.2.2) (bx1 : 0 ≤ x1 ∧ x1 ≤ 3) (bx2 : 0 ≤ x2 ∧ x2 ≤ 156) (kv0 : lf_zr (s.1 111) (x2)) : fm_294_p2 Q x1 X2 x2 s := by
  unfold fm_294_p2
  refine ⟨(show lf_R x2 from lf_Rof (by omega)), ?_⟩
  refine ⟨fun c2 => ?_, fun c2 => ?_⟩
  · skip
    replace c2 : 156 ≤ x2 := c2
    refine sm_255 hI (show (0 : Int) ≤ x1 ∧ x1 ≤ (3 : Int) from by omega) (fun r23 q3 => ?_)
    refine sm_256 hI (show (0 : Int) ≤ x1 ∧ x1 ≤ (3 : Int) from by omega) (fun r25 q4 => ?_)
    have hI5 : iv_A (lf_up s.1 112 0 (((13 * r23) + r25) + 1)) s.2.2 := iv_w112 hI (by omega)
    have fr6 : lf_fq [104, 107, 111, 112] 1000000 true s.1 s.2.2 (lf_up s.1 112 0 (((13 * r23) + r25) + 1)) s.2.2 := lf_fq_up (lf_fq_rf) rfl (fun h => absurd h (by decide))
    refine ⟨(show (0 : Int) ≤ ((13 * r23) + r25) + 1 ∧ ((13 * r23) + r25) + 1 < (156 : Int) from by omega), ?_⟩
    have hI7 : iv_A (lf_up (lf_up s.1 112 0 (((13 * r23) + r25) + 1)) 111 (((13 * r23) + r25) + 1) 1) s.2.2 := iv_w111 hI5 (by omega)
    have fr8 : lf_fq [104, 107, 111, 112] 1000000 true s.1 s.2.2 (lf_up (lf_up s.1 112 0 (((13 * r23) + r25) + 1)) 111 (((13 * r23) + r25) + 1) 1) s.2.2 := lf_fq_up fr6 rfl (fun h => absurd h (by decide))
    have b9 : 1 = lf_ct (((lf_up (lf_up s.1 112 0 (((13 * r23) + r25) + 1)) 111 (((13 * r23) + r25) + 1) 1) 111)) 156 := by first | omega | exact (lf_zr1 kv0 (by omega) (by omega) (by omega) lf_up_s (fun j hj => lf_up_i hj)).symm
    exact sm_294_p63L (fun r9 t9 i9 f9 => hQ r9 t9 i9 (lf_fq_tr fr8 f9)) hI7 (show (0 : Int) ≤ x1 ∧ x1 ≤ (3 : Int) from by omega) (show (1 : Int) ≤ 1 ∧ 1 ≤ (156 : Int) from by omega) (show (-2147483648 : Int) ≤ 0 ∧ 0 ≤ (2147483647 : Int) from by omega) (show (0 : Int) ≤ 0 ∧ 0 ≤ (156 : Int) from by omega) (show 1 = lf_ct (((lf_up (lf_up s.1 112 0 (((13 * r23) + r25) + 1)) 111 (((13 * r23) + r25) + 1) 1) 111)) 156 from by omega)
  · skip
    replace c2 : ¬ (156 ≤ x2) := c2
    refine ⟨(show (0 : Int) ≤ x2 ∧ x2 < (156 : Int) from by omega), ?_⟩
    have hI40 : iv_A (lf_up s.1 111 x2 0) s.2.2 := iv_w111 hI (by omega)
    have fr41 : lf_fq [104, 107, 111, 112] 1000000 true s.1 s.2.2 (lf_up s.1 111 x2 0) s.2.2 := lf_fq_up (lf_fq_rf) rfl (fun h => absurd h (by decide))
    have b42 : lf_zr (((lf_up s.1 111 x2 0) 111)) ((x2 + 1)) := by first | exact lf_zrS kv0 lf_up_s (fun j hj => lf_up_i hj) | exact (fun j a b => by omega)
    exact hX2 (x2 + 1) (lf_up s.1 111 x2 0, s.2.1, s.2.2) hI40 fr41 (show (0 : Int) ≤ x2 + 1 ∧ x2 + 1 ≤ (156 : Int) from by omega) (show lf_zr (((lf_up s.1 111 x2 0) 111)) ((x2 + 1)) from by first | with_reducible assumption | assumption) (show (156 - (x2 + 1)).toNat < M2 from by omega)
theorem sm_294_p2L {Q : Int → lf_Z → Prop} {x1 : Int} {x2 : Int} {s : lf_Z} (hQ : ∀ (r : Int) (s' : lf_Z), iv_A s'.1 s'.2.2 → lf_fq [104, 107, 111, 112] 1000000 true s.1 s.2.2 s'.1 s'.2.2 → ((-2147483648) ≤ r ∧ r ≤ 2147483647) → Q r s') (hI : iv_A s.1 s.2.2) (bx1 : 0 ≤ x1 ∧ x1 ≤ 3) (bx2 : 0 ≤ x2 ∧ x2 ≤ 156) (kv0 : lf_zr (s.1 111) (x2)) : fm_294_p2L Q x1 x2 s := by
  intro X2 hX
  have key : ∀ (m9 : Nat) (x2 : Int) (s' : lf_Z), iv_A s'.1 s'.2.2 → lf_fq [104, 107, 111, 112] 1000000 true s.1 s.2.2 s'.1 s'.2.2 → 0 ≤ x2 ∧ x2 ≤ 156 → (lf_zr (s'.1 111) (x2)) → (156 - x2).toNat < m9 → X2 x2 s' := by
    intro m9
    induction m9 with
    | zero => intro x2 s' _ _ bx2 kv0 h9; exact absurd h9 (Nat.not_lt_zero _)
    | succ m9 ih => intro x2 s' i7 f7 bx2 kv0 h9; exact hX _ _ (sm_294_p2 (fun r9 t9 i9 f9 => hQ r9 t9 i9 (lf_fq_tr f7 f9))   (fun x2' t8 i8 f8 bx2' kv0' h8 => ih x2' t8 i8 (lf_fq_tr f7 f8) bx2' kv0' (by omega)) (Nat.le_refl _)  i7  bx1 bx2  kv0)
  exact key _ _ s hI lf_fq_rf bx2 kv0 (Nat.lt_succ_self _)
theorem sm_294 {a1 : Int} {Q : Int → lf_Z → Prop} {s : lf_Z} (hI : iv_A s.1 s.2.2) (ba1 : 0 ≤ a1 ∧ a1 ≤ 3) (hQ : ∀ (r : Int) (s' : lf_Z), iv_A s'.1 s'.2.2 → lf_fq [104, 107, 111, 112] 1000000 true s.1 s.2.2 s'.1 s'.2.2 → ((-2147483648) ≤ r ∧ r ≤ 2147483647) → Q r s') : fm_294 a1 Q s := by
  unfold fm_294
  have b1 : lf_zr ((s.1 111)) (0) := by first | exact lf_zrS kv0 lf_up_s (fun j hj => lf_up_i hj) | exact (fun j a b => by omega)
  exact sm_294_p2L hQ hI (show (0 : Int) ≤ a1 ∧ a1 ≤ (3 : Int) from by omega) (show (0 : Int) ≤ 0 ∧ 0 ≤ (156 : Int) from by omega) (show lf_zr ((s.1 111)) (0) from by first | with_reducible assumption | assumption)
