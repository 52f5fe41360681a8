-- fm_295 Model.stopped 95 i i
theorem sm_295_p120 {Q : Int → lf_Z → Prop} {x3 : Int} {s : lf_Z} (hQ : ∀ (r : Int) (s' : lf_Z), iv_A s'.1 s'.2.2 → lf_fq [95, 104, 107, 111, 112] 1000000 true s.1 s.2.2 s'.1 s'.2.2 → ((-1) ≤ r ∧ r ≤ 4095) → Q r s') (hI : iv_A s.1 s.2.2) (bx3 : (-1) ≤ x3 ∧ x3 ≤ 4095) : fm_295_p120 Q x3 s := by
  unfold fm_295_p120
  have hI8 : iv_A (lf_up s.1 95 29 0) s.2.2 := iv_w95_29 hI (by omega)
  have fr9 : lf_fq [95, 104, 107, 111, 112] 1000000 true s.1 s.2.2 (lf_up s.1 95 29 0) s.2.2 := lf_fq_up (lf_fq_rf) rfl (fun h => absurd h (by decide))
  exact hQ x3 (lf_up s.1 95 29 0, s.2.1, s.2.2) hI8 fr9 (show (-1 : Int) ≤ x3 ∧ x3 ≤ (4095 : Int) from by omega)
theorem sm_295_p114 {X30 : Int → Int → lf_Z → Prop} {Q : Int → lf_Z → Prop} {x1 : Int} {x3 : Int} {x4 : Int} {s : lf_Z} (hQ : ∀ (r : Int) (s' : lf_Z), iv_A s'.1 s'.2.2 → lf_fq [95, 104, 107, 111, 112] 1000000 true s.1 s.2.2 s'.1 s'.2.2 → ((-1) ≤ r ∧ r ≤ 4095) → Q r s') {M30 : Nat} (hX30 : ∀ (x3 : Int) (x4 : Int) (s' : lf_Z), iv_A s'.1 s'.2.2 → lf_fq [95, 104, 107, 111, 112] 1000000 true s.1 s.2.2 s'.1 s'.2.2 → (-1) ≤ x3 ∧ x3 ≤ 4095 → 0 ≤ x4 ∧ x4 ≤ 4 → (4 - x4).toNat < M30 → X30 x3 x4 s') (hM30 : (4 - x4).toNat ≤ M30) (hI : iv_A s.1 s.2.2) (bx1 : 0 ≤ x1 ∧ x1 ≤ 3) (bx3 : (-1) ≤ x3 ∧ x3 ≤ 4095) (bx4 : 0 ≤ x4 ∧ x4 ≤ 3) : fm_295_p114 X30 Q x1 x3 x4 s := by
  unfold fm_295_p114
  exact hX30 (x3) (x4 + 1) s hI (lf_fq_rf) (show (-1 : Int) ≤ x3 ∧ x3 ≤ (4095 : Int) from by omega) (show (0 : Int) ≤ x4 + 1 ∧ x4 + 1 ≤ (4 : Int) from by omega) (show (4 - (x4 + 1)).toNat < M30 from by omega)
theorem sm_295_p108 {X30 : Int → Int → lf_Z → Prop} {X43 : Int → Int → lf_Z → Prop} {Q : Int → lf_Z → Prop} {x1 : Int} {x3 : Int} {x4 : Int} {x5 : Int} {s : lf_Z} (hQ : ∀ (r : Int) (s' : lf_Z), iv_A s'.1 s'.2.2 → lf_fq [95, 104, 107, 111, 112] 1000000 true s.1 s.2.2 s'.1 s'.2.2 → ((-1) ≤ r ∧ r ≤ 4095) → Q r s') {M30 : Nat} (hX30 : ∀ (x3 : Int) (x4 : Int) (s' : lf_Z), iv_A s'.1 s'.2.2 → lf_fq [95, 104, 107, 111, 112] 1000000 true s.1 s.2.2 s'.1 s'.2.2 → (-1) ≤ x3 ∧ x3 ≤ 4095 → 0 ≤ x4 ∧ x4 ≤ 4 → (4 - x4).toNat < M30 → X30 x3 x4 s') (hM30 : (4 - x4).toNat ≤ M30) {M43 : Nat} (hX43 : ∀ (x3 : Int) (x5 : Int) (s' : lf_Z), iv_A s'.1 s'.2.2 → lf_fq [95, 104, 107, 111, 112] 1000000 true s.1 s.2.2 s'.1 s'.2.2 → (-1) ≤ x3 ∧ x3 ≤ 4095 → 0 ≤ x5 ∧ x5 ≤ 2147483647 → (2147483647 - x5).toNat < M43 → X43 x3 x5 s') (hM43 : (2147483647 - x5).toNat ≤ M43) (hI : iv_A s.1 s.2.2) (bx1 : 0 ≤ x1 ∧ x1 ≤ 3) (bx3 : (-1) ≤ x3 ∧ x3 ≤ 4095) (bx4 : 0 ≤ x4 ∧ x4 ≤ 3) (bx5 : 0 ≤ x5 ∧ x5 ≤ 2147483646) : fm_295_p108 X30 X43 Q x1 x3 x4 x5 s := by
  unfold fm_295_p108
  exact hX43 (x3) (x5 + 1) s hI (lf_fq_rf) (show (-1 : Int) ≤ x3 ∧ x3 ≤ (4095 : Int) from by omega) (show (0 : Int) ≤ x5 + 1 ∧ x5 + 1 ≤ (2147483647 : Int) from by omega) (show (2147483647 - (x5 + 1)).toNat < M43 from by omega)
theorem sm_295_p43 {X30 : Int → Int → lf_Z → Prop} {X43 : Int → Int → lf_Z → Prop} {Q : Int → lf_Z → Prop} {x1 : Int} {x3 : Int} {x4 : Int} {x5 : Int} {s : lf_Z} (hQ : ∀ (r : Int) (s' : lf_Z), iv_A s'.1 s'.2.2 → lf_fq [95, 104, 107, 111, 112] 1000000 true s.1 s.2.2 s'.1 s'.2.2 → ((-1) ≤ r ∧ r ≤ 4095) → Q r s') {M30 : Nat} (hX30 : ∀ (x3 : Int) (x4 : Int) (s' : lf_Z), iv_A s'.1 s'.2.2 → lf_fq [95, 104, 107, 111, 112] 1000000 true s.1 s.2.2 s'.1 s'.2.2 → (-1) ≤ x3 ∧ x3 ≤ 4095 → 0 ≤ x4 ∧ x4 ≤ 4 → (4 - x4).toNat < M30 → X30 x3 x4 s') (hM30 : (4 - x4).toNat ≤ M30) {M43 : Nat} (hX43 : ∀ (x3 : Int) (x5 : Int) (s' : lf_Z), iv_A s'.1 s'.2.2 → lf_fq [95, 104, 107, 111, 112] 1000000 true s.1 s.2.2 s'.1 s'.2.2 → (-1) ≤ x3 ∧ x3 ≤ 4095 → 0 ≤ x5 ∧ x5 ≤ 2147483647 → (2147483647 - x5).toNat < M43 → X43 x3 x5 s') (hM43 : (2147483647 - x5).toNat ≤ M43) (hI : iv_A s.1 s.2.2) (bx1 : 0 ≤ x1 ∧ x1 ≤ 3) (bx3 : (-1) ≤ x3 ∧ x3 ≤ 4095) (bx4 : 0 ≤ x4 ∧ x4 ≤ 3) (bx5 : 0 ≤ x5 ∧ x5 ≤ 2147483647) : fm_295_p43 X30 Q x1 x4 X43 x3 x5 s := by
  unfold fm_295_p43
  have b11 : 0 ≤ s.1 96 0 ∧ s.1 96 0 ≤ 12 := iv_rd96 hI (iv_f3e1fa21c (by omega))
  have b12 : 1 ≤ lf_shl 1 (s.1 96 0) ∧ lf_shl 1 (s.1 96 0) ≤ 4096 := lf_shl1 (m := 12) (by omega) (by omega) (by decide)
  refine ⟨(show lf_R x5 from lf_Rof (by omega)), ?_⟩
  refine ⟨fun c13 => ?_, fun c13 => ?_⟩
  · skip
    replace c13 : lf_shl 1 (s.1 96 0) ≤ x5 := c13
    exact sm_295_p114 hQ hX30 (show (4 - x4).toNat ≤ M30 from by omega) hI (show (0 : Int) ≤ x1 ∧ x1 ≤ (3 : Int) from by omega) (show (-1 : Int) ≤ x3 ∧ x3 ≤ (4095 : Int) from by omega) (show (0 : Int) ≤ x4 ∧ x4 ≤ (3 : Int) from by omega)
  · skip
    replace c13 : ¬ (lf_shl 1 (s.1 96 0) ≤ x5) := c13
    refine ⟨(show lf_R x3 from lf_Rof (by omega)), ?_⟩
    refine ⟨fun c14 => ?_, fun c14 => ?_⟩
    · skip
      replace c14 : 0 ≤ x3 := c14
      exact sm_295_p114 hQ hX30 (show (4 - x4).toNat ≤ M30 from by omega) hI (show (0 : Int) ≤ x1 ∧ x1 ≤ (3 : Int) from by omega) (show (-1 : Int) ≤ x3 ∧ x3 ≤ (4095 : Int) from by omega) (show (0 : Int) ≤ x4 ∧ x4 ≤ (3 : Int) from by omega)
    · skip
      replace c14 : ¬ (0 ≤ x3) := c14
      refine sm_188 hI (show (-2147483648 : Int) ≤ x5 ∧ x5 ≤ (2147483647 : Int) from by omega) (fun r30 ps16 q15 => ?_)
      replace ps16 : r30 = lf_bt (x5) 16 := ps16
      refine ⟨(show lf_R r30 from lf_Rof (by omega)), ?_⟩
      refine ⟨(show lf_R x4 from lf_Rof (by omega)), ?_⟩
      refine ⟨fun c17 => ?_, fun c17 => ?_⟩
      · skip
        replace c17 : r30 ≠ x4 := c17
        exact sm_295_p108 hQ hX30 (show (4 - x4).toNat ≤ M30 from by omega) hX43 (show (2147483647 - x5).toNat ≤ M43 from by omega) hI (show (0 : Int) ≤ x1 ∧ x1 ≤ (3 : Int) from by omega) (show (-1 : Int) ≤ x3 ∧ x3 ≤ (4095 : Int) from by omega) (show (0 : Int) ≤ x4 ∧ x4 ≤ (3 : Int) from by omega) (show (0 : Int) ≤ x5 ∧ x5 ≤ (2147483646 : Int) from by omega)
      · skip
        replace c17 : ¬ (r30 ≠ x4) := c17
        refine sm_255 hI (show (0 : Int) ≤ x1 ∧ x1 ≤ (3 : Int) from by omega) (fun r34 q18 => ?_)
        refine sm_210 hI (show (-2147483648 : Int) ≤ x5 ∧ x5 ≤ (2147483647 : Int) from by omega) (show (-1 : Int) ≤ r34 ∧ r34 ≤ (15 : Int) from by omega) (fun z36 q19 => ?_)
        refine ⟨fun c20 => ?_, fun c20 => ?_⟩
        · skip
          have dc20 := q19.2 c20
          have hI21 : iv_A (lf_up s.1 95 29 x5) s.2.2 := iv_w95_29 hI (by omega)
          have fr22 : lf_fq [95, 104, 107, 111, 112] 1000000 true s.1 s.2.2 (lf_up s.1 95 29 x5) s.2.2 := lf_fq_up (lf_fq_rf) rfl (fun h => absurd h (by decide))
          refine sm_294 hI21 (show (0 : Int) ≤ x1 ∧ x1 ≤ (3 : Int) from by omega) (fun r38 s37 hI24 fr23 q25 => ?_)
          have fr26 : lf_fq [95, 104, 107, 111, 112] 1000000 true s.1 s.2.2 s37.1 s37.2.2 := lf_fq_tr fr22 (lf_fq_wk fr23 rfl (by decide) (by decide))
          refine sm_296 hI24 (show (-2147483648 : Int) ≤ r38 ∧ r38 ≤ (2147483647 : Int) from by omega) (show (0 : Int) ≤ 2 ∧ 2 ≤ (3 : Int) from by omega) (fun r40 q27 => ?_)
          refine ⟨(show lf_R r40 from lf_Rof (by omega)), ?_⟩
          refine ⟨fun c28 => ?_, fun c28 => ?_⟩
          · skip
            replace c28 : r40 ≠ 0 := c28
            exact sm_295_p108 (fun r9 t9 i9 f9 => hQ r9 t9 i9 (lf_fq_tr fr26 f9)) (fun p0 p1 t9 i9 f9 => hX30 p0 p1 t9 i9 (lf_fq_tr fr26 f9)) (show (4 - x4).toNat ≤ M30 from by omega) (fun p0 p1 t9 i9 f9 => hX43 p0 p1 t9 i9 (lf_fq_tr fr26 f9)) (show (2147483647 - x5).toNat ≤ M43 from by omega) hI24 (show (0 : Int) ≤ x1 ∧ x1 ≤ (3 : Int) from by omega) (show (-1 : Int) ≤ x3 ∧ x3 ≤ (4095 : Int) from by omega) (show (0 : Int) ≤ x4 ∧ x4 ≤ (3 : Int) from by omega) (show (0 : Int) ≤ x5 ∧ x5 ≤ (2147483646 : Int) from by omega)
          · skip
            replace c28 : ¬ (r40 ≠ 0) := c28
            exact sm_295_p108 (fun r9 t9 i9 f9 => hQ r9 t9 i9 (lf_fq_tr fr26 f9)) (fun p0 p1 t9 i9 f9 => hX30 p0 p1 t9 i9 (lf_fq_tr fr26 f9)) (show (4 - x4).toNat ≤ M30 from by omega) (fun p0 p1 t9 i9 f9 => hX43 p0 p1 t9 i9 (lf_fq_tr fr26 f9)) (show (2147483647 - x5).toNat ≤ M43 from by omega) hI24 (show (0 : Int) ≤ x1 ∧ x1 ≤ (3 : Int) from by omega) (show (-1 : Int) ≤ x5 ∧ x5 ≤ (4095 : Int) from by omega) (show (0 : Int) ≤ x4 ∧ x4 ≤ (3 : Int) from by omega) (show (0 : Int) ≤ x5 ∧ x5 ≤ (2147483646 : Int) from by omega)
        · skip
          have dc20 := q19.1 c20
          exact sm_295_p108 hQ hX30 (show (4 - x4).toNat ≤ M30 from by omega) hX43 (show (2147483647 - x5).toNat ≤ M43 from by omega) hI (show (0 : Int) ≤ x1 ∧ x1 ≤ (3 : Int) from by omega) (show (-1 : Int) ≤ x3 ∧ x3 ≤ (4095 : Int) from by omega) (show (0 : Int) ≤ x4 ∧ x4 ≤ (3 : Int) from by omega) (show (0 : Int) ≤ x5 ∧ x5 ≤ (2147483646 : Int) from by omega)
theorem sm_295_p43L {X30 : Int → Int → lf_Z → Prop} {Q : Int → lf_Z → Prop} {x1 : Int} {x3 : Int} {x4 : Int} {x5 : Int} {s : lf_Z} (hQ : ∀ (r : Int) (s' : lf_Z), iv_A s'.1 s'.2.2 → lf_fq [95, 104, 107, 111, 112] 1000000 true s.1 s.2.2 s'.1 s'.2.2 → ((-1) ≤ r ∧ r ≤ 4095) → Q r s') {M30 : Nat} (hX30 : ∀ (x3 : Int) (x4 : Int) (s' : lf_Z), iv_A s'.1 s'.2.2 → lf_fq [95, 104, 107, 111, 112] 1000000 true s.1 s.2.2 s'.1 s'.2.2 → (-1) ≤ x3 ∧ x3 ≤ 4095 → 0 ≤ x4 ∧ x4 ≤ 4 → (4 - x4).toNat < M30 → X30 x3 x4 s') (hM30 : (4 - x4).toNat ≤ M30) (hI : iv_A s.1 s.2.2) (bx1 : 0 ≤ x1 ∧ x1 ≤ 3) (bx3 : (-1) ≤ x3 ∧ x3 ≤ 4095) (bx4 : 0 ≤ x4 ∧ x4 ≤ 3) (bx5 : 0 ≤ x5 ∧ x5 ≤ 2147483647) : fm_295_p43L X30 Q x1 x3 x4 x5 s := by
  intro X43 hX
  have key : ∀ (m9 : Nat) (x3 : Int) (x5 : Int) (s' : lf_Z), iv_A s'.1 s'.2.2 → lf_fq [95, 104, 107, 111, 112] 1000000 true s.1 s.2.2 s'.1 s'.2.2 → (-1) ≤ x3 ∧ x3 ≤ 4095 → 0 ≤ x5 ∧ x5 ≤ 2147483647 → (2147483647 - x5).toNat < m9 → X43 x3 x5 s' := by
    intro m9
    induction m9 with
    | zero => intro x3 x5 s' _ _ bx3 bx5 h9; exact absurd h9 (Nat.not_lt_zero _)
    | succ m9 ih => intro x3 x5 s' i7 f7 bx3 bx5 h9; exact hX _ _ _ (sm_295_p43 (fun r9 t9 i9 f9 => hQ r9 t9 i9 (lf_fq_tr f7 f9))  (fun p0 p1 t9 i9 f9 => hX30 p0 p1 t9 i9 (lf_fq_tr f7 f9)) hM30 (fun x3' x5' t8 i8 f8 bx3' bx5' h8 => ih x3' x5' t8 i8 (lf_fq_tr f7 f8) bx3' bx5' (by omega)) (Nat.le_refl _)  i7  bx1 bx3 bx4 bx5  )
  exact key _ _ _ s hI lf_fq_rf bx3 bx5 (Nat.lt_succ_self _)
theorem sm_295_p30 {X30 : Int → Int → lf_Z → Prop} {Q : Int → lf_Z → Prop} {x1 : Int} {x3 : Int} {x4 : Int} {s : lf_Z} (hQ : ∀ (r : Int) (s' : lf_Z), iv_A s'.1 s'.2.2 → lf_fq [95, 104, 107, 111, 112] 1000000 true s.1 s.2.2 s'.1 s'.2.2 → ((-1) ≤ r ∧ r ≤ 4095) → Q r s') {M30 : Nat} (hX30 : ∀ (x3 : Int) (x4 : Int) (s' : lf_Z), iv_A s'.1 s'.2.2 → lf_fq [95, 104, 107, 111, 112] 1000000 true s.1 s.2.2 s'.1 s'.2.2 → (-1) ≤ x3 ∧ x3 ≤ 4095 → 0 ≤ x4 ∧ x4 ≤ 4 → (4 - x4).toNat < M30 → X30 x3 x4 s') (hM30 : (4 - x4).toNat ≤ M30) (hI : iv_A s.1 s.2.2) (bx1 : 0 ≤ x1 ∧ x1 ≤ 3) (bx3 : (-1) ≤ x3 ∧ x3 ≤ 4095) (bx4 : 0 ≤ x4 ∧ x4 ≤ 4) : fm_295_p30 Q x1 X30 x3 x4 s := by
  unfold fm_295_p30
  refine ⟨(show lf_R x4 from lf_Rof (by omega)), ?_⟩
  refine ⟨fun c7 => ?_, fun c7 => ?_⟩
  · skip
    replace c7 : 3 < x4 := c7
    exact sm_295_p120 hQ hI (show (-1 : Int) ≤ x3 ∧ x3 ≤ (4095 : Int) from by omega)
  · skip
    replace c7 : ¬ (3 < x4) := c7
    refine ⟨(show lf_R x3 from lf_Rof (by omega)), ?_⟩
    refine ⟨fun c10 => ?_, fun c10 => ?_⟩
    · skip
      replace c10 : 0 ≤ x3 := c10
      exact sm_295_p120 hQ hI (show (-1 : Int) ≤ x3 ∧ x3 ≤ (4095 : Int) from by omega)
    · skip
      replace c10 : ¬ (0 ≤ x3) := c10
      exact sm_295_p43L hQ hX30 (show (4 - x4).toNat ≤ M30 from by omega) hI (show (0 : Int) ≤ x1 ∧ x1 ≤ (3 : Int) from by omega) (show (-1 : Int) ≤ x3 ∧ x3 ≤ (4095 : Int) from by omega) (show (0 : Int) ≤ x4 ∧ x4 ≤ (3 : Int) from by omega) (show (0 : Int) ≤ 0 ∧ 0 ≤ (2147483647 : Int) from by omega)
theorem sm_295_p30L {Q : Int → lf_Z → Prop} {x1 : Int} {x3 : Int} {x4 : Int} {s : lf_Z} (hQ : ∀ (r : Int) (s' : lf_Z), iv_A s'.1 s'.2.2 → lf_fq [95, 104, 107, 111, 112] 1000000 true s.1 s.2.2 s'.1 s'.2.2 → ((-1) ≤ r ∧ r ≤ 4095) → Q r s') (hI : iv_A s.1 s.2.2) (bx1 : 0 ≤ x1 ∧ x1 ≤ 3) (bx3 : (-1) ≤ x3 ∧ x3 ≤ 4095) (bx4 : 0 ≤ x4 ∧ x4 ≤ 4) : fm_295_p30L Q x1 x3 x4 s := by
  intro X30 hX
  have key : ∀ (m9 : Nat) (x3 : Int) (x4 : Int) (s' : lf_Z), iv_A s'.1 s'.2.2 → lf_fq [95, 104, 107, 111, 112] 1000000 true s.1 s.2.2 s'.1 s'.2.2 → (-1) ≤ x3 ∧ x3 ≤ 4095 → 0 ≤ x4 ∧ x4 ≤ 4 → (4 - x4).toNat < m9 → X30 x3 x4 s' := by
    intro m9
    induction m9 with
    | zero => intro x3 x4 s' _ _ bx3 bx4 h9; exact absurd h9 (Nat.not_lt_zero _)
    | succ m9 ih => intro x3 x4 s' i7 f7 bx3 bx4 h9; exact hX _ _ _ (sm_295_p30 (fun r9 t9 i9 f9 => hQ r9 t9 i9 (lf_fq_tr f7 f9))   (fun x3' x4' t8 i8 f8 bx3' bx4' h8 => ih x3' x4' t8 i8 (lf_fq_tr f7 f8) bx3' bx4' (by omega)) (Nat.le_refl _)  i7  bx1 bx3 bx4  )
  exact key _ _ _ s hI lf_fq_rf bx3 bx4 (Nat.lt_succ_self _)
theorem sm_295 {a1 : Int} {a2 : Int} {Q : Int → lf_Z → Prop} {s : lf_Z} (hI : iv_A s.1 s.2.2) (ba1 : (-2147483648) ≤ a1 ∧ a1 ≤ 2147483647) (ba2 : (-2147483648) ≤ a2 ∧ a2 ≤ 2147483647) (hQ : ∀ (r : Int) (s' : lf_Z), iv_A s'.1 s'.2.2 → lf_fq [95, 104, 107, 111, 112] 1000000 true s.1 s.2.2 s'.1 s'.2.2 → ((-1) ≤ r ∧ r ≤ 4095) → Q r s') : fm_295 a1 a2 Q s := by
  unfold fm_295
  refine sm_254 hI (show (-2147483648 : Int) ≤ a1 ∧ a1 ≤ (2147483647 : Int) from by omega) (fun z22 q1 => ?_)
  refine ⟨fun c2 => ?_, fun c2 => ?_⟩
  · skip
    have dc2 := q1.2 c2
    exact hQ (-1) s hI (lf_fq_rf) (show (-1 : Int) ≤ (-1) ∧ (-1) ≤ (4095 : Int) from by omega)
  · skip
    have dc2 := q1.1 c2
    refine sm_183 hI (show (-2147483648 : Int) ≤ a2 ∧ a2 ≤ (2147483647 : Int) from by omega) (show (-1 : Int) ≤ 0 ∧ 0 ≤ (97 : Int) from by omega) (show (-1 : Int) ≤ 9 ∧ 9 ≤ (9999 : Int) from by omega) (fun z24 q3 => ?_)
    refine ⟨fun c4 => ?_, fun c4 => ?_⟩
    · skip
      have dc4 := q3.1 c4
      have hI5 : iv_A (lf_up s.1 95 30 a2) s.2.2 := iv_w95_30 hI (by omega)
      have fr6 : lf_fq [95, 104, 107, 111, 112] 1000000 true s.1 s.2.2 (lf_up s.1 95 30 a2) s.2.2 := lf_fq_up (lf_fq_rf) rfl (fun h => absurd h (by decide))
      exact sm_295_p30L (fun r9 t9 i9 f9 => hQ r9 t9 i9 (lf_fq_tr fr6 f9)) hI5 (show (0 : Int) ≤ a1 ∧ a1 ≤ (3 : Int) from by omega) (show (-1 : Int) ≤ (-1) ∧ (-1) ≤ (4095 : Int) from by omega) (show (0 : Int) ≤ 0 ∧ 0 ≤ (4 : Int) from by omega)
    · skip
      have dc4 := q3.2 c4
      exact hQ (-1) s hI (lf_fq_rf) (show (-1 : Int) ≤ (-1) ∧ (-1) ≤ (4095 : Int) from by omega)
-- fm_135 Land.minutesBetween 1 i i i
theorem sm_135 {a1 : Int} {a2 : Int} {a3 : Int} {Q : Int → lf_Z → Prop} {s : lf_Z} (hI : iv_A s.1 s.2.2) (ba1 : (-2147483648) ≤ a1 ∧ a1 ≤ 2147483647) (ba2 : (-2147483648) ≤ a2 ∧ a2 ≤ 2147483647) (ba3 : (-2147483648) ≤ a3 ∧ a3 ≤ 2147483647) (hQ : ∀ (r : Int), (((-1) ≤ r ∧ r ≤ 999) ∧ (r = -1 ∨ (0 ≤ a2 ∧ a2 < s.1 1 0 ∧ 0 ≤ a3 ∧ a3 < s.1 1 0))) → Q r s) : fm_135 a1 a2 a3 Q s := by
  unfold fm_135
  refine sm_75 hI (show (-2147483648 : Int) ≤ a2 ∧ a2 ≤ (2147483647 : Int) from by omega) (show (-2147483648 : Int) ≤ a3 ∧ a3 ≤ (2147483647 : Int) from by omega) (fun r22 q1 => ?_)
  obtain ⟨q1, q1x⟩ := q1
  have b2 : 0 ≤ s.1 1 0 ∧ s.1 1 0 ≤ 12 := iv_r1_0 hI
  replace q1x : 1000 ≤ r22 ∨ (0 ≤ a2 ∧ a2 < s.1 1 0 ∧ 0 ≤ a3 ∧ a3 < s.1 1 0) := q1x
  refine ⟨(show lf_R r22 from lf_Rof (by omega)), ?_⟩
  refine ⟨fun c3 => ?_, fun c3 => ?_⟩
  · skip
    replace c3 : 1000 ≤ r22 := c3
    exact hQ (-1) ⟨(show (-1 : Int) ≤ (-1) ∧ (-1) ≤ (999 : Int) from by omega), (show (-1) = -1 ∨ (0 ≤ a2 ∧ a2 < s.1 1 0 ∧ 0 ≤ a3 ∧ a3 < s.1 1 0) from by omega)⟩
  · skip
    replace c3 : ¬ (1000 ≤ r22) := c3
    refine sm_99 hI (show (-2147483648 : Int) ≤ a1 ∧ a1 ≤ (2147483647 : Int) from by omega) (fun z25 q4 => ?_)
    have b5 : 0 ≤ s.1 1 2 ∧ s.1 1 2 ≤ 6 := iv_r1_2 hI
    refine ⟨fun c6 => ?_, fun c6 => ?_⟩
    · skip
      have dc6 := q4.1 c6
      refine ⟨(show (0 : Int) ≤ a1 ∧ a1 < (6 : Int) from by omega), ?_⟩
      have b7 : 0 ≤ s.1 8 a1 ∧ s.1 8 a1 ≤ 1 := iv_r8 hI _
      refine ⟨(show lf_R (s.1 8 a1) from lf_Rof (by omega)), ?_⟩
      refine ⟨fun c8 => ?_, fun c8 => ?_⟩
      · skip
        replace c8 : s.1 8 a1 = 0 := c8
        exact hQ r22 ⟨(show (-1 : Int) ≤ r22 ∧ r22 ≤ (999 : Int) from by omega), (show r22 = -1 ∨ (0 ≤ a2 ∧ a2 < s.1 1 0 ∧ 0 ≤ a3 ∧ a3 < s.1 1 0) from by omega)⟩
      · skip
        replace c8 : ¬ (s.1 8 a1 = 0) := c8
        refine ⟨(show lf_R (r22 + 1) from lf_Rof (by omega)), ?_⟩
        have b9 : 0 ≤ (r22 + 1).tdiv 2 ∧ (r22 + 1).tdiv 2 ≤ 500 := lf_tdivB (p := 1) (q := 1000) (by omega) (by omega) (by decide) (by decide) (by decide)
        exact hQ ((r22 + 1).tdiv 2) ⟨(show (-1 : Int) ≤ (r22 + 1).tdiv 2 ∧ (r22 + 1).tdiv 2 ≤ (999 : Int) from by omega), (show (r22 + 1).tdiv 2 = -1 ∨ (0 ≤ a2 ∧ a2 < s.1 1 0 ∧ 0 ≤ a3 ∧ a3 < s.1 1 0) from by omega)⟩
    · skip
      have dc6 := q4.2 c6
      exact hQ (-1) ⟨(show (-1 : Int) ≤ (-1) ∧ (-1) ≤ (999 : Int) from by omega), (show (-1) = -1 ∨ (0 ≤ a2 ∧ a2 < s.1 1 0 ∧ 0 ≤ a3 ∧ a3 < s.1 1 0) from by omega)⟩
-- fm_134 ElevenBullocks.soon 0 i i
theorem sm_134 {a1 : Int} {a2 : Int} {Q : Int → lf_Z → Prop} {s : lf_Z} (hI : iv_A s.1 s.2.2) (ba1 : (-2147483648) ≤ a1 ∧ a1 ≤ 2147483647) (ba2 : (-2147483648) ≤ a2 ∧ a2 ≤ 2147483647) (hQ : ∀ (r : Int), ((-1) ≤ r ∧ r ≤ 999) → Q r s) : fm_134 a1 a2 Q s := by
  unfold fm_134
  refine sm_99 hI (show (-2147483648 : Int) ≤ a1 ∧ a1 ≤ (2147483647 : Int) from by omega) (fun z22 q1 => ?_)
  have b2 : 0 ≤ s.1 1 2 ∧ s.1 1 2 ≤ 6 := iv_r1_2 hI
  refine ⟨fun c3 => ?_, fun c3 => ?_⟩
  · skip
    have dc3 := q1.2 c3
    exact hQ (-1) (show (-1 : Int) ≤ (-1) ∧ (-1) ≤ (999 : Int) from by omega)
  · skip
    have dc3 := q1.1 c3
    refine sm_18 hI (show (-2147483648 : Int) ≤ a2 ∧ a2 ≤ (2147483647 : Int) from by omega) (fun z24 q4 => ?_)
    have b5 : 0 ≤ s.1 1 0 ∧ s.1 1 0 ≤ 12 := iv_r1_0 hI
    refine ⟨fun c6 => ?_, fun c6 => ?_⟩
    · skip
      have dc6 := q4.1 c6
      refine ⟨(show (0 : Int) ≤ a1 ∧ a1 < (6 : Int) from by omega), ?_⟩
      have b7 : (-2147483648) ≤ s.1 19 a1 ∧ s.1 19 a1 ≤ 2147483647 := iv_full hI
      refine sm_135 hI (show (-2147483648 : Int) ≤ a1 ∧ a1 ≤ (2147483647 : Int) from by omega) (show (-2147483648 : Int) ≤ s.1 19 a1 ∧ s.1 19 a1 ≤ (2147483647 : Int) from by omega) (show (-2147483648 : Int) ≤ a2 ∧ a2 ≤ (2147483647 : Int) from by omega) (fun r27 q8 => ?_)
      obtain ⟨q8, q8x⟩ := q8
      replace q8x : r27 = -1 ∨ (0 ≤ (s.1 19 a1) ∧ (s.1 19 a1) < s.1 1 0 ∧ 0 ≤ a2 ∧ a2 < s.1 1 0) := q8x
      exact hQ r27 (show (-1 : Int) ≤ r27 ∧ r27 ≤ (999 : Int) from by omega)
    · skip
      have dc6 := q4.2 c6
      exact hQ (-1) (show (-1 : Int) ≤ (-1) ∧ (-1) ≤ (999 : Int) from by omega)
-- fm_299 Model.minutesOf 95 i i
theorem sm_299 {a1 : Int} {a2 : Int} {Q : Int → lf_Z → Prop} {s : lf_Z} (hI : iv_A s.1 s.2.2) (ba1 : 0 ≤ a1 ∧ a1 ≤ 5) (ba2 : 0 ≤ a2 ∧ a2 ≤ 11) (hQ : ∀ (r : Int), (0 ≤ r ∧ r ≤ 1000) → Q r s) : fm_299 a1 a2 Q s := by
  unfold fm_299
  refine ⟨(show (0 : Int) ≤ a2 ∧ a2 < (12 : Int) from by omega), ?_⟩
  have b1 : 0 ≤ s.1 108 a2 ∧ s.1 108 a2 ≤ 1000 := iv_r108 hI _
  refine ⟨(show lf_R (s.1 108 a2) from lf_Rof (by omega)), ?_⟩
  refine ⟨fun c2 => ?_, fun c2 => ?_⟩
  · skip
    replace c2 : s.1 108 a2 < 1000 := c2
    refine sm_239d hI (show (0 : Int) ≤ a1 ∧ a1 ≤ (5 : Int) from by omega) (fun r24 q3 => ?_)
    obtain ⟨q3, q3x⟩ := q3
    replace q3x : r24 = s.1 96 (126 + 6 * a1 + 1) := q3x
    refine ⟨(show lf_R r24 from lf_Rof (by omega)), ?_⟩
    refine ⟨fun c4 => ?_, fun c4 => ?_⟩
    · skip
      replace c4 : r24 ≠ 1 := c4
      exact hQ (s.1 108 a2) (show (0 : Int) ≤ s.1 108 a2 ∧ s.1 108 a2 ≤ (1000 : Int) from by omega)
    · skip
      replace c4 : ¬ (r24 ≠ 1) := c4
      refine ⟨(show lf_R ((s.1 108 a2) + 1) from lf_Rof (by omega)), ?_⟩
      have b5 : 0 ≤ ((s.1 108 a2) + 1).tdiv 2 ∧ ((s.1 108 a2) + 1).tdiv 2 ≤ 500 := lf_tdivB (p := 1) (q := 1000) (by omega) (by omega) (by decide) (by decide) (by decide)
      exact hQ (((s.1 108 a2) + 1).tdiv 2) (show (0 : Int) ≤ ((s.1 108 a2) + 1).tdiv 2 ∧ ((s.1 108 a2) + 1).tdiv 2 ≤ (1000 : Int) from by omega)
  · skip
    replace c2 : ¬ (s.1 108 a2 < 1000) := c2
    exact hQ 1000 (show (0 : Int) ≤ 1000 ∧ 1000 ≤ (1000 : Int) from by omega)
-- fm_298 Model.soon 95 i i
theorem sm_298 {a1 : Int} {a2 : Int} {Q : Int → lf_Z → Prop} {s : lf_Z} (hI : iv_A s.1 s.2.2) (ba1 : (-2147483648) ≤ a1 ∧ a1 ≤ 2147483647) (ba2 : (-2147483648) ≤ a2 ∧ a2 ≤ 2147483647) (hQ : ∀ (r : Int) (s' : lf_Z), iv_A s'.1 s'.2.2 → lf_fq [108] 1000000 true s.1 s.2.2 s'.1 s'.2.2 → ((-1) ≤ r ∧ r ≤ 999) → Q r s') : fm_298 a1 a2 Q s := by
  unfold fm_298
  refine sm_249 hI (show (-2147483648 : Int) ≤ a1 ∧ a1 ≤ (2147483647 : Int) from by omega) (fun z22 q1 => ?_)
  have b2 : 0 ≤ s.1 96 2 ∧ s.1 96 2 ≤ 6 := iv_rd96 hI (iv_f2103129b (by omega))
  have b3 : s.1 96 2 ≤ 0 ∨ 0 < s.1 96 0 := (show s.1 96 2 ≤ 0 ∨ 0 < s.1 96 0 from iv_l96_2 hI)
  refine ⟨fun c4 => ?_, fun c4 => ?_⟩
  · skip
    have dc4 := q1.2 c4
    exact hQ (-1) s hI (lf_fq_rf) (show (-1 : Int) ≤ (-1) ∧ (-1) ≤ (999 : Int) from by omega)
  · skip
    have dc4 := q1.1 c4
    refine sm_185 hI (show (-2147483648 : Int) ≤ a2 ∧ a2 ≤ (2147483647 : Int) from by omega) (fun z24 q5 => ?_)
    have b6 : 0 ≤ s.1 96 0 ∧ s.1 96 0 ≤ 12 := iv_rd96 hI (iv_f3e1fa21c (by omega))
    refine ⟨fun c7 => ?_, fun c7 => ?_⟩
    · skip
      have dc7 := q5.1 c7
      refine sm_261 hI (show (-1 : Int) ≤ a2 ∧ a2 ≤ (11 : Int) from by omega) (show (0 : Int) ≤ 1 ∧ 1 ≤ (1 : Int) from by omega) (fun s25 hI9 fr8 ps11 => ?_)
      replace ps11 : (1 : Int) = 1 → bf_G (s25.1 96) (s25.1 108) (a2) := ps11
      have fr12 : lf_fq [108] 1000000 true s.1 s.2.2 s25.1 s25.2.2 := lf_fq_tr (lf_fq_rf) (lf_fq_wk fr8 rfl (by decide) (by decide))
      refine sm_239 hI9 (show (0 : Int) ≤ a1 ∧ a1 ≤ (5 : Int) from by omega) (fun r27 q13 => ?_)
      obtain ⟨q13, q13x⟩ := q13
      replace q13x : r27 = s25.1 96 (126 + 6 * a1 + 3) := q13x
      refine sm_299 hI9 (show (0 : Int) ≤ a1 ∧ a1 ≤ (5 : Int) from by omega) (show (0 : Int) ≤ r27 ∧ r27 ≤ (11 : Int) from by omega) (fun r29 q14 => ?_)
      refine ⟨(show lf_R r29 from lf_Rof (by omega)), ?_⟩
      refine ⟨fun c15 => ?_, fun c15 => ?_⟩
      · skip
        replace c15 : r29 < 1000 := c15
        exact hQ r29 s25 hI9 fr12 (show (-1 : Int) ≤ r29 ∧ r29 ≤ (999 : Int) from by omega)
      · skip
        replace c15 : ¬ (r29 < 1000) := c15
        exact hQ (-1) s25 hI9 fr12 (show (-1 : Int) ≤ (-1) ∧ (-1) ≤ (999 : Int) from by omega)
    · skip
      have dc7 := q5.2 c7
      exact hQ (-1) s hI (lf_fq_rf) (show (-1 : Int) ≤ (-1) ∧ (-1) ≤ (999 : Int) from by omega)
-- fm_138 java/lang/Integer.bitCount i
theorem sm_138 {a0 : Int} {Q : Int → lf_Z → Prop} {s : lf_Z} (hI : iv_A s.1 s.2.2) (ba0 : 0 ≤ a0 ∧ a0 ≤ 4095) (hQ : ∀ (r : Int), (0 ≤ r ∧ r ≤ 63) → Q r s) : fm_138 a0 Q s := by
  unfold fm_138
  have b1 : 0 ≤ lf_ushr a0 1 ∧ lf_ushr a0 1 ≤ 4095 := lf_ushrP (by omega) (by omega)
  have b2 : 0 ≤ lf_and (lf_ushr a0 1) 1431655765 ∧ lf_and (lf_ushr a0 1) 1431655765 ≤ 1431655765 := lf_andB (by omega) (by omega)
  have b3 : 0 ≤ lf_and (a0 - (lf_and (lf_ushr a0 1) 1431655765)) 858993459 ∧ lf_and (a0 - (lf_and (lf_ushr a0 1) 1431655765)) 858993459 ≤ 858993459 := lf_andB (by omega) (by omega)
  have b4 : (-2147483648) ≤ lf_ushr (a0 - (lf_and (lf_ushr a0 1) 1431655765)) 2 ∧ lf_ushr (a0 - (lf_and (lf_ushr a0 1) 1431655765)) 2 ≤ 2147483647 := lf_ushrB
  have b5 : 0 ≤ lf_and (lf_ushr (a0 - (lf_and (lf_ushr a0 1) 1431655765)) 2) 858993459 ∧ lf_and (lf_ushr (a0 - (lf_and (lf_ushr a0 1) 1431655765)) 2) 858993459 ≤ 858993459 := lf_andB (by omega) (by omega)
  have b6 : 0 ≤ lf_ushr ((lf_and (a0 - (lf_and (lf_ushr a0 1) 1431655765)) 858993459) + (lf_and (lf_ushr (a0 - (lf_and (lf_ushr a0 1) 1431655765)) 2) 858993459)) 4 ∧ lf_ushr ((lf_and (a0 - (lf_and (lf_ushr a0 1) 1431655765)) 858993459) + (lf_and (lf_ushr (a0 - (lf_and (lf_ushr a0 1) 1431655765)) 2) 858993459)) 4 ≤ 1717986918 := lf_ushrP (by omega) (by omega)
  have b7 : (-2147483648) ≤ lf_w (((lf_and (a0 - (lf_and (lf_ushr a0 1) 1431655765)) 858993459) + (lf_and (lf_ushr (a0 - (lf_and (lf_ushr a0 1) 1431655765)) 2) 858993459)) + (lf_ushr ((lf_and (a0 - (lf_and (lf_ushr a0 1) 1431655765)) 858993459) + (lf_and (lf_ushr (a0 - (lf_and (lf_ushr a0 1) 1431655765)) 2) 858993459)) 4)) ∧ lf_w (((lf_and (a0 - (lf_and (lf_ushr a0 1) 1431655765)) 858993459) + (lf_and (lf_ushr (a0 - (lf_and (lf_ushr a0 1) 1431655765)) 2) 858993459)) + (lf_ushr ((lf_and (a0 - (lf_and (lf_ushr a0 1) 1431655765)) 858993459) + (lf_and (lf_ushr (a0 - (lf_and (lf_ushr a0 1) 1431655765)) 2) 858993459)) 4)) ≤ 2147483647 := lf_wB
  have b8 : 0 ≤ lf_and (lf_w (((lf_and (a0 - (lf_and (lf_ushr a0 1) 1431655765)) 858993459) + (lf_and (lf_ushr (a0 - (lf_and (lf_ushr a0 1) 1431655765)) 2) 858993459)) + (lf_ushr ((lf_and (a0 - (lf_and (lf_ushr a0 1) 1431655765)) 858993459) + (lf_and (lf_ushr (a0 - (lf_and (lf_ushr a0 1) 1431655765)) 2) 858993459)) 4))) 252645135 ∧ lf_and (lf_w (((lf_and (a0 - (lf_and (lf_ushr a0 1) 1431655765)) 858993459) + (lf_and (lf_ushr (a0 - (lf_and (lf_ushr a0 1) 1431655765)) 2) 858993459)) + (lf_ushr ((lf_and (a0 - (lf_and (lf_ushr a0 1) 1431655765)) 858993459) + (lf_and (lf_ushr (a0 - (lf_and (lf_ushr a0 1) 1431655765)) 2) 858993459)) 4))) 252645135 ≤ 252645135 := lf_andB (by omega) (by omega)
  have b9 : 0 ≤ lf_ushr (lf_and (lf_w (((lf_and (a0 - (lf_and (lf_ushr a0 1) 1431655765)) 858993459) + (lf_and (lf_ushr (a0 - (lf_and (lf_ushr a0 1) 1431655765)) 2) 858993459)) + (lf_ushr ((lf_and (a0 - (lf_and (lf_ushr a0 1) 1431655765)) 858993459) + (lf_and (lf_ushr (a0 - (lf_and (lf_ushr a0 1) 1431655765)) 2) 858993459)) 4))) 252645135) 8 ∧ lf_ushr (lf_and (lf_w (((lf_and (a0 - (lf_and (lf_ushr a0 1) 1431655765)) 858993459) + (lf_and (lf_ushr (a0 - (lf_and (lf_ushr a0 1) 1431655765)) 2) 858993459)) + (lf_ushr ((lf_and (a0 - (lf_and (lf_ushr a0 1) 1431655765)) 858993459) + (lf_and (lf_ushr (a0 - (lf_and (lf_ushr a0 1) 1431655765)) 2) 858993459)) 4))) 252645135) 8 ≤ 252645135 := lf_ushrP (by omega) (by omega)
  have b10 : 0 ≤ lf_ushr ((lf_and (lf_w (((lf_and (a0 - (lf_and (lf_ushr a0 1) 1431655765)) 858993459) + (lf_and (lf_ushr (a0 - (lf_and (lf_ushr a0 1) 1431655765)) 2) 858993459)) + (lf_ushr ((lf_and (a0 - (lf_and (lf_ushr a0 1) 1431655765)) 858993459) + (lf_and (lf_ushr (a0 - (lf_and (lf_ushr a0 1) 1431655765)) 2) 858993459)) 4))) 252645135) + (lf_ushr (lf_and (lf_w (((lf_and (a0 - (lf_and (lf_ushr a0 1) 1431655765)) 858993459) + (lf_and (lf_ushr (a0 - (lf_and (lf_ushr a0 1) 1431655765)) 2) 858993459)) + (lf_ushr ((lf_and (a0 - (lf_and (lf_ushr a0 1) 1431655765)) 858993459) + (lf_and (lf_ushr (a0 - (lf_and (lf_ushr a0 1) 1431655765)) 2) 858993459)) 4))) 252645135) 8)) 16 ∧ lf_ushr ((lf_and (lf_w (((lf_and (a0 - (lf_and (lf_ushr a0 1) 1431655765)) 858993459) + (lf_and (lf_ushr (a0 - (lf_and (lf_ushr a0 1) 1431655765)) 2) 858993459)) + (lf_ushr ((lf_and (a0 - (lf_and (lf_ushr a0 1) 1431655765)) 858993459) + (lf_and (lf_ushr (a0 - (lf_and (lf_ushr a0 1) 1431655765)) 2) 858993459)) 4))) 252645135) + (lf_ushr (lf_and (lf_w (((lf_and (a0 - (lf_and (lf_ushr a0 1) 1431655765)) 858993459) + (lf_and (lf_ushr (a0 - (lf_and (lf_ushr a0 1) 1431655765)) 2) 858993459)) + (lf_ushr ((lf_and (a0 - (lf_and (lf_ushr a0 1) 1431655765)) 858993459) + (lf_and (lf_ushr (a0 - (lf_and (lf_ushr a0 1) 1431655765)) 2) 858993459)) 4))) 252645135) 8)) 16 ≤ 505290270 := lf_ushrP (by omega) (by omega)
  have b11 : 0 ≤ lf_and (((lf_and (lf_w (((lf_and (a0 - (lf_and (lf_ushr a0 1) 1431655765)) 858993459) + (lf_and (lf_ushr (a0 - (lf_and (lf_ushr a0 1) 1431655765)) 2) 858993459)) + (lf_ushr ((lf_and (a0 - (lf_and (lf_ushr a0 1) 1431655765)) 858993459) + (lf_and (lf_ushr (a0 - (lf_and (lf_ushr a0 1) 1431655765)) 2) 858993459)) 4))) 252645135) + (lf_ushr (lf_and (lf_w (((lf_and (a0 - (lf_and (lf_ushr a0 1) 1431655765)) 858993459) + (lf_and (lf_ushr (a0 - (lf_and (lf_ushr a0 1) 1431655765)) 2) 858993459)) + (lf_ushr ((lf_and (a0 - (lf_and (lf_ushr a0 1) 1431655765)) 858993459) + (lf_and (lf_ushr (a0 - (lf_and (lf_ushr a0 1) 1431655765)) 2) 858993459)) 4))) 252645135) 8)) + (lf_ushr ((lf_and (lf_w (((lf_and (a0 - (lf_and (lf_ushr a0 1) 1431655765)) 858993459) + (lf_and (lf_ushr (a0 - (lf_and (lf_ushr a0 1) 1431655765)) 2) 858993459)) + (lf_ushr ((lf_and (a0 - (lf_and (lf_ushr a0 1) 1431655765)) 858993459) + (lf_and (lf_ushr (a0 - (lf_and (lf_ushr a0 1) 1431655765)) 2) 858993459)) 4))) 252645135) + (lf_ushr (lf_and (lf_w (((lf_and (a0 - (lf_and (lf_ushr a0 1) 1431655765)) 858993459) + (lf_and (lf_ushr (a0 - (lf_and (lf_ushr a0 1) 1431655765)) 2) 858993459)) + (lf_ushr ((lf_and (a0 - (lf_and (lf_ushr a0 1) 1431655765)) 858993459) + (lf_and (lf_ushr (a0 - (lf_and (lf_ushr a0 1) 1431655765)) 2) 858993459)) 4))) 252645135) 8)) 16)) 63 ∧ lf_and (((lf_and (lf_w (((lf_and (a0 - (lf_and (lf_ushr a0 1) 1431655765)) 858993459) + (lf_and (lf_ushr (a0 - (lf_and (lf_ushr a0 1) 1431655765)) 2) 858993459)) + (lf_ushr ((lf_and (a0 - (lf_and (lf_ushr a0 1) 1431655765)) 858993459) + (lf_and (lf_ushr (a0 - (lf_and (lf_ushr a0 1) 1431655765)) 2) 858993459)) 4))) 252645135) + (lf_ushr (lf_and (lf_w (((lf_and (a0 - (lf_and (lf_ushr a0 1) 1431655765)) 858993459) + (lf_and (lf_ushr (a0 - (lf_and (lf_ushr a0 1) 1431655765)) 2) 858993459)) + (lf_ushr ((lf_and (a0 - (lf_and (lf_ushr a0 1) 1431655765)) 858993459) + (lf_and (lf_ushr (a0 - (lf_and (lf_ushr a0 1) 1431655765)) 2) 858993459)) 4))) 252645135) 8)) + (lf_ushr ((lf_and (lf_w (((lf_and (a0 - (lf_and (lf_ushr a0 1) 1431655765)) 858993459) + (lf_and (lf_ushr (a0 - (lf_and (lf_ushr a0 1) 1431655765)) 2) 858993459)) + (lf_ushr ((lf_and (a0 - (lf_and (lf_ushr a0 1) 1431655765)) 858993459) + (lf_and (lf_ushr (a0 - (lf_and (lf_ushr a0 1) 1431655765)) 2) 858993459)) 4))) 252645135) + (lf_ushr (lf_and (lf_w (((lf_and (a0 - (lf_and (lf_ushr a0 1) 1431655765)) 858993459) + (lf_and (lf_ushr (a0 - (lf_and (lf_ushr a0 1) 1431655765)) 2) 858993459)) + (lf_ushr ((lf_and (a0 - (lf_and (lf_ushr a0 1) 1431655765)) 858993459) + (lf_and (lf_ushr (a0 - (lf_and (lf_ushr a0 1) 1431655765)) 2) 858993459)) 4))) 252645135) 8)) 16)) 63 ≤ 63 := lf_andB (by omega) (by omega)
  exact hQ (lf_and (((lf_and (lf_w (((lf_and (a0 - (lf_and (lf_ushr a0 1) 1431655765)) 858993459) + (lf_and (lf_ushr (a0 - (lf_and (lf_ushr a0 1) 1431655765)) 2) 858993459)) + (lf_ushr ((lf_and (a0 - (lf_and (lf_ushr a0 1) 1431655765)) 858993459) + (lf_and (lf_ushr (a0 - (lf_and (lf_ushr a0 1) 1431655765)) 2) 858993459)) 4))) 252645135) + (lf_ushr (lf_and (lf_w (((lf_and (a0 - (lf_and (lf_ushr a0 1) 1431655765)) 858993459) + (lf_and (lf_ushr (a0 - (lf_and (lf_ushr a0 1) 1431655765)) 2) 858993459)) + (lf_ushr ((lf_and (a0 - (lf_and (lf_ushr a0 1) 1431655765)) 858993459) + (lf_and (lf_ushr (a0 - (lf_and (lf_ushr a0 1) 1431655765)) 2) 858993459)) 4))) 252645135) 8)) + (lf_ushr ((lf_and (lf_w (((lf_and (a0 - (lf_and (lf_ushr a0 1) 1431655765)) 858993459) + (lf_and (lf_ushr (a0 - (lf_and (lf_ushr a0 1) 1431655765)) 2) 858993459)) + (lf_ushr ((lf_and (a0 - (lf_and (lf_ushr a0 1) 1431655765)) 858993459) + (lf_and (lf_ushr (a0 - (lf_and (lf_ushr a0 1) 1431655765)) 2) 858993459)) 4))) 252645135) + (lf_ushr (lf_and (lf_w (((lf_and (a0 - (lf_and (lf_ushr a0 1) 1431655765)) 858993459) + (lf_and (lf_ushr (a0 - (lf_and (lf_ushr a0 1) 1431655765)) 2) 858993459)) + (lf_ushr ((lf_and (a0 - (lf_and (lf_ushr a0 1) 1431655765)) 858993459) + (lf_and (lf_ushr (a0 - (lf_and (lf_ushr a0 1) 1431655765)) 2) 858993459)) 4))) 252645135) 8)) 16)) 63) (show (0 : Int) ≤ lf_and (((lf_and (lf_w (((lf_and (a0 - (lf_and (lf_ushr a0 1) 1431655765)) 858993459) + (lf_and (lf_ushr (a0 - (lf_and (lf_ushr a0 1) 1431655765)) 2) 858993459)) + (lf_ushr ((lf_and (a0 - (lf_and (lf_ushr a0 1) 1431655765)) 858993459) + (lf_and (lf_ushr (a0 - (lf_and (lf_ushr a0 1) 1431655765)) 2) 858993459)) 4))) 252645135) + (lf_ushr (lf_and (lf_w (((lf_and (a0 - (lf_and (lf_ushr a0 1) 1431655765)) 858993459) + (lf_and (lf_ushr (a0 - (lf_and (lf_ushr a0 1) 1431655765)) 2) 858993459)) + (lf_ushr ((lf_and (a0 - (lf_and (lf_ushr a0 1) 1431655765)) 858993459) + (lf_and (lf_ushr (a0 - (lf_and (lf_ushr a0 1) 1431655765)) 2) 858993459)) 4))) 252645135) 8)) + (lf_ushr ((lf_and (lf_w (((lf_and (a0 - (lf_and (lf_ushr a0 1) 1431655765)) 858993459) + (lf_and (lf_ushr (a0 - (lf_and (lf_ushr a0 1) 1431655765)) 2) 858993459)) + (lf_ushr ((lf_and (a0 - (lf_and (lf_ushr a0 1) 1431655765)) 858993459) + (lf_and (lf_ushr (a0 - (lf_and (lf_ushr a0 1) 1431655765)) 2) 858993459)) 4))) 252645135) + (lf_ushr (lf_and (lf_w (((lf_and (a0 - (lf_and (lf_ushr a0 1) 1431655765)) 858993459) + (lf_and (lf_ushr (a0 - (lf_and (lf_ushr a0 1) 1431655765)) 2) 858993459)) + (lf_ushr ((lf_and (a0 - (lf_and (lf_ushr a0 1) 1431655765)) 858993459) + (lf_and (lf_ushr (a0 - (lf_and (lf_ushr a0 1) 1431655765)) 2) 858993459)) 4))) 252645135) 8)) 16)) 63 ∧ lf_and (((lf_and (lf_w (((lf_and (a0 - (lf_and (lf_ushr a0 1) 1431655765)) 858993459) + (lf_and (lf_ushr (a0 - (lf_and (lf_ushr a0 1) 1431655765)) 2) 858993459)) + (lf_ushr ((lf_and (a0 - (lf_and (lf_ushr a0 1) 1431655765)) 858993459) + (lf_and (lf_ushr (a0 - (lf_and (lf_ushr a0 1) 1431655765)) 2) 858993459)) 4))) 252645135) + (lf_ushr (lf_and (lf_w (((lf_and (a0 - (lf_and (lf_ushr a0 1) 1431655765)) 858993459) + (lf_and (lf_ushr (a0 - (lf_and (lf_ushr a0 1) 1431655765)) 2) 858993459)) + (lf_ushr ((lf_and (a0 - (lf_and (lf_ushr a0 1) 1431655765)) 858993459) + (lf_and (lf_ushr (a0 - (lf_and (lf_ushr a0 1) 1431655765)) 2) 858993459)) 4))) 252645135) 8)) + (lf_ushr ((lf_and (lf_w (((lf_and (a0 - (lf_and (lf_ushr a0 1) 1431655765)) 858993459) + (lf_and (lf_ushr (a0 - (lf_and (lf_ushr a0 1) 1431655765)) 2) 858993459)) + (lf_ushr ((lf_and (a0 - (lf_and (lf_ushr a0 1) 1431655765)) 858993459) + (lf_and (lf_ushr (a0 - (lf_and (lf_ushr a0 1) 1431655765)) 2) 858993459)) 4))) 252645135) + (lf_ushr (lf_and (lf_w (((lf_and (a0 - (lf_and (lf_ushr a0 1) 1431655765)) 858993459) + (lf_and (lf_ushr (a0 - (lf_and (lf_ushr a0 1) 1431655765)) 2) 858993459)) + (lf_ushr ((lf_and (a0 - (lf_and (lf_ushr a0 1) 1431655765)) 858993459) + (lf_and (lf_ushr (a0 - (lf_and (lf_ushr a0 1) 1431655765)) 2) 858993459)) 4))) 252645135) 8)) 16)) 63 ≤ (63 : Int) from by omega)
-- fm_140 Errands.keepChoice 74 i
theorem sm_140 {a1 : Int} {Q : lf_Z → Prop} {s : lf_Z} (hI : iv_A s.1 s.2.2) (ba1 : (-2147483648) ≤ a1 ∧ a1 ≤ 2147483647) (hQ : ∀  (s' : lf_Z), iv_A s'.1 s'.2.2 → lf_fq [74, 77] 1000000 true s.1 s.2.2 s'.1 s'.2.2 → Q  s') : fm_140 a1 Q s := by
  unfold fm_140
  have hI1 : iv_A (lf_up s.1 74 6 a1) s.2.2 := iv_w74_6 hI (by omega)
  have fr2 : lf_fq [74, 77] 1000000 true s.1 s.2.2 (lf_up s.1 74 6 a1) s.2.2 := lf_fq_up (lf_fq_rf) rfl (fun h => absurd h (by decide))
  have hI3 : iv_A (lf_cp (lf_up s.1 74 6 a1) 76 77 0 0 6) s.2.2 := iv_cp76_77 hI1
  have fr4 : lf_fq [74, 77] 1000000 true s.1 s.2.2 (lf_cp (lf_up s.1 74 6 a1) 76 77 0 0 6) s.2.2 := lf_fq_cp fr2 rfl (by decide)
  exact hQ (lf_cp (lf_up s.1 74 6 a1) 76 77 0 0 6, s.2.1, s.2.2) hI3 fr4
-- fm_139 Errands.choosePerson 74 i i i
theorem sm_139_p122 {R139 : Int → Int → Int → (lf_Z → Prop) → lf_Z → Prop} {X34 : Int → lf_Z → Prop} {Q : lf_Z → Prop} {x1 : Int} {x2 : Int} {x3 : Int} {x4 : Int} {s : lf_Z} {MR : Nat} (hQ : ∀  (s' : lf_Z), iv_A s'.1 s'.2.2 → lf_fq [74, 76, 77] 1000000 true s.1 s.2.2 s'.1 s'.2.2 → Q  s') (hR139 : ∀ {a1 a2 a3 : Int} {Q : lf_Z → Prop} {s : lf_Z}, (7 - a1).toNat < MR → iv_A s.1 s.2.2 → 0 ≤ a1 ∧ a1 ≤ 6 → 0 ≤ a2 ∧ a2 ≤ 63 → 0 ≤ a3 ∧ a3 ≤ 999 → (∀  (s' : lf_Z), iv_A s'.1 s'.2.2 → lf_fq [74, 76, 77] 1000000 true s.1 s.2.2 s'.1 s'.2.2 → Q  s') → R139 a1 a2 a3 Q s) {M34 : Nat} (hX34 : ∀ (x4 : Int) (s' : lf_Z), iv_A s'.1 s'.2.2 → lf_fq [74, 76, 77] 1000000 true s.1 s.2.2 s'.1 s'.2.2 → 0 ≤ x4 ∧ x4 ≤ 6 → (6 - x4).toNat < M34 → X34 x4 s') (hM34 : (6 - x4).toNat ≤ M34) (hMR : (7 - x1).toNat ≤ MR) (hI : iv_A s.1 s.2.2) (bx1 : 0 ≤ x1 ∧ x1 ≤ 5) (bx2 : 0 ≤ x2 ∧ x2 ≤ 63) (bx3 : 0 ≤ x3 ∧ x3 ≤ 999) (bx4 : 0 ≤ x4 ∧ x4 ≤ 5) : fm_139_p122 R139 X34 Q x1 x2 x3 x4 s := by
  unfold fm_139_p122
  exact hX34 (x4 + 1) s hI (lf_fq_rf) (show (0 : Int) ≤ x4 + 1 ∧ x4 + 1 ≤ (6 : Int) from by omega) (show (6 - (x4 + 1)).toNat < M34 from by omega)
theorem sm_139_p85 {R139 : Int → Int → Int → (lf_Z → Prop) → lf_Z → Prop} {X34 : Int → lf_Z → Prop} {Q : lf_Z → Prop} {x1 : Int} {x2 : Int} {x3 : Int} {x4 : Int} {y0 : Int} {s : lf_Z} {MR : Nat} (hQ : ∀  (s' : lf_Z), iv_A s'.1 s'.2.2 → lf_fq [74, 76, 77] 1000000 true s.1 s.2.2 s'.1 s'.2.2 → Q  s') (hR139 : ∀ {a1 a2 a3 : Int} {Q : lf_Z → Prop} {s : lf_Z}, (7 - a1).toNat < MR → iv_A s.1 s.2.2 → 0 ≤ a1 ∧ a1 ≤ 6 → 0 ≤ a2 ∧ a2 ≤ 63 → 0 ≤ a3 ∧ a3 ≤ 999 → (∀  (s' : lf_Z), iv_A s'.1 s'.2.2 → lf_fq [74, 76, 77] 1000000 true s.1 s.2.2 s'.1 s'.2.2 → Q  s') → R139 a1 a2 a3 Q s) {M34 : Nat} (hX34 : ∀ (x4 : Int) (s' : lf_Z), iv_A s'.1 s'.2.2 → lf_fq [74, 76, 77] 1000000 true s.1 s.2.2 s'.1 s'.2.2 → 0 ≤ x4 ∧ x4 ≤ 6 → (6 - x4).toNat < M34 → X34 x4 s') (hM34 : (6 - x4).toNat ≤ M34) (hMR : (7 - x1).toNat ≤ MR) (hI : iv_A s.1 s.2.2) (bx1 : 0 ≤ x1 ∧ x1 ≤ 5) (bx2 : 0 ≤ x2 ∧ x2 ≤ 63) (bx3 : 0 ≤ x3 ∧ x3 ≤ 999) (bx4 : 0 ≤ x4 ∧ x4 ≤ 5) (by0 : (-1) ≤ y0 ∧ y0 ≤ 999) : fm_139_p85 R139 X34 Q x1 x2 x3 x4 y0 s := by
  unfold fm_139_p85
  refine ⟨(show lf_R y0 from lf_Rof (by omega)), ?_⟩
  refine ⟨fun c10 => ?_, fun c10 => ?_⟩
  · skip
    replace c10 : y0 = (-1) := c10
    exact sm_139_p122 hQ hR139 hX34 (show (6 - x4).toNat ≤ M34 from by omega) (show (7 - x1).toNat ≤ MR from by omega) hI (show (0 : Int) ≤ x1 ∧ x1 ≤ (5 : Int) from by omega) (show (0 : Int) ≤ x2 ∧ x2 ≤ (63 : Int) from by omega) (show (0 : Int) ≤ x3 ∧ x3 ≤ (999 : Int) from by omega) (show (0 : Int) ≤ x4 ∧ x4 ≤ (5 : Int) from by omega)
  · skip
    replace c10 : ¬ (y0 = (-1)) := c10
    refine ⟨(show (0 : Int) ≤ x1 ∧ x1 < (6 : Int) from by omega), ?_⟩
    have hI11 : iv_A (lf_up s.1 76 x1 x4) s.2.2 := iv_w76 hI (by omega)
    have fr12 : lf_fq [74, 76, 77] 1000000 true s.1 s.2.2 (lf_up s.1 76 x1 x4) s.2.2 := lf_fq_up (lf_fq_rf) rfl (fun h => absurd h (by decide))
    have b13 : 1 ≤ lf_shl 1 x4 ∧ lf_shl 1 x4 ≤ 32 := lf_shl1 (m := 5) (by omega) (by omega) (by decide)
    have b14 : (-2147483648) ≤ lf_xor (lf_shl 1 x4) (-1) ∧ lf_xor (lf_shl 1 x4) (-1) ≤ 2147483647 := lf_xorB
    have b15 : 0 ≤ lf_and x2 (lf_xor (lf_shl 1 x4) (-1)) ∧ lf_and x2 (lf_xor (lf_shl 1 x4) (-1)) ≤ 63 := lf_andBl (by omega) (by omega)
    refine ⟨(show lf_R x3 from lf_Rof (by omega)), ?_⟩
    refine hR139 (show (7 - (x1 + 1)).toNat < MR from by omega) hI11 (show (0 : Int) ≤ x1 + 1 ∧ x1 + 1 ≤ (6 : Int) from by omega) (show (0 : Int) ≤ lf_and x2 (lf_xor (lf_shl 1 x4) (-1)) ∧ lf_and x2 (lf_xor (lf_shl 1 x4) (-1)) ≤ (63 : Int) from by omega) (show (0 : Int) ≤ max x3 y0 ∧ max x3 y0 ≤ (999 : Int) from by omega) (fun s29 hI17 fr16 => ?_)
    have fr19 : lf_fq [74, 76, 77] 1000000 true s.1 s.2.2 s29.1 s29.2.2 := lf_fq_tr fr12 (lf_fq_wk fr16 rfl (by decide) (by decide))
    exact sm_139_p122 (fun t9 i9 f9 => hQ t9 i9 (lf_fq_tr fr19 f9)) hR139 (fun p0 t9 i9 f9 => hX34 p0 t9 i9 (lf_fq_tr fr19 f9)) (show (6 - x4).toNat ≤ M34 from by omega) (show (7 - x1).toNat ≤ MR from by omega) hI17 (show (0 : Int) ≤ x1 ∧ x1 ≤ (5 : Int) from by omega) (show (0 : Int) ≤ x2 ∧ x2 ≤ (63 : Int) from by omega) (show (0 : Int) ≤ x3 ∧ x3 ≤ (999 : Int) from by omega) (show (0 : Int) ≤ x4 ∧ x4 ≤ (5 : Int) from by omega)
theorem sm_139_p34 {R139 : Int → Int → Int → (lf_Z → Prop) → lf_Z → Prop} {X34 : Int → lf_Z → Prop} {Q : lf_Z → Prop} {x1 : Int} {x2 : Int} {x3 : Int} {x4 : Int} {s : lf_Z} {MR : Nat} (hQ : ∀  (s' : lf_Z), iv_A s'.1 s'.2.2 → lf_fq [74, 76, 77] 1000000 true s.1 s.2.2 s'.1 s'.2.2 → Q  s') (hR139 : ∀ {a1 a2 a3 : Int} {Q : lf_Z → Prop} {s : lf_Z}, (7 - a1).toNat < MR → iv_A s.1 s.2.2 → 0 ≤ a1 ∧ a1 ≤ 6 → 0 ≤ a2 ∧ a2 ≤ 63 → 0 ≤ a3 ∧ a3 ≤ 999 → (∀  (s' : lf_Z), iv_A s'.1 s'.2.2 → lf_fq [74, 76, 77] 1000000 true s.1 s.2.2 s'.1 s'.2.2 → Q  s') → R139 a1 a2 a3 Q s) {M34 : Nat} (hX34 : ∀ (x4 : Int) (s' : lf_Z), iv_A s'.1 s'.2.2 → lf_fq [74, 76, 77] 1000000 true s.1 s.2.2 s'.1 s'.2.2 → 0 ≤ x4 ∧ x4 ≤ 6 → (6 - x4).toNat < M34 → X34 x4 s') (hM34 : (6 - x4).toNat ≤ M34) (hMR : (7 - x1).toNat ≤ MR) (hI : iv_A s.1 s.2.2) (bx1 : 0 ≤ x1 ∧ x1 ≤ 5) (bx2 : 0 ≤ x2 ∧ x2 ≤ 63) (bx3 : 0 ≤ x3 ∧ x3 ≤ 999) (bx4 : 0 ≤ x4 ∧ x4 ≤ 6) : fm_139_p34 R139 Q x1 x2 x3 X34 x4 s := by
  unfold fm_139_p34
  have b5 : 0 ≤ s.1 1 2 ∧ s.1 1 2 ≤ 6 := iv_r1_2 hI
  refine ⟨(show lf_R x4 from lf_Rof (by omega)), ?_⟩
  refine ⟨(show lf_R (s.1 1 2) from lf_Rof (by omega)), ?_⟩
  refine ⟨fun c6 => ?_, fun c6 => ?_⟩
  · skip
    replace c6 : s.1 1 2 ≤ x4 := c6
    exact hQ s hI (lf_fq_rf)
  · skip
    replace c6 : ¬ (s.1 1 2 ≤ x4) := c6
    have b7 : 0 ≤ lf_shr x2 x4 ∧ lf_shr x2 x4 ≤ 63 := lf_shrP (by omega) (by omega)
    have b8 : 0 ≤ lf_and (lf_shr x2 x4) 1 ∧ lf_and (lf_shr x2 x4) 1 ≤ 1 := lf_andB (by omega) (by omega)
    refine ⟨fun c9 => ?_, fun c9 => ?_⟩
    · skip
      replace c9 : lf_and (lf_shr x2 x4) 1 ≠ 1 := c9
      exact sm_139_p85 hQ hR139 hX34 (show (6 - x4).toNat ≤ M34 from by omega) (show (7 - x1).toNat ≤ MR from by omega) hI (show (0 : Int) ≤ x1 ∧ x1 ≤ (5 : Int) from by omega) (show (0 : Int) ≤ x2 ∧ x2 ≤ (63 : Int) from by omega) (show (0 : Int) ≤ x3 ∧ x3 ≤ (999 : Int) from by omega) (show (0 : Int) ≤ x4 ∧ x4 ≤ (5 : Int) from by omega) (show (-1 : Int) ≤ (-1) ∧ (-1) ≤ (999 : Int) from by omega)
    · skip
      replace c9 : ¬ (lf_and (lf_shr x2 x4) 1 ≠ 1) := c9
      refine ⟨(show (0 : Int) ≤ x4 ∧ x4 < (6 : Int) from by omega), ?_⟩
      have b20 : (-2147483648) ≤ s.1 19 x4 ∧ s.1 19 x4 ≤ 2147483647 := iv_full hI
      refine ⟨(show (0 : Int) ≤ x1 ∧ x1 < (6 : Int) from by omega), ?_⟩
      have b21 : (-2147483648) ≤ s.1 75 x1 ∧ s.1 75 x1 ≤ 2147483647 := iv_full hI
      refine sm_135 hI (show (-2147483648 : Int) ≤ x4 ∧ x4 ≤ (2147483647 : Int) from by omega) (show (-2147483648 : Int) ≤ s.1 19 x4 ∧ s.1 19 x4 ≤ (2147483647 : Int) from by omega) (show (-2147483648 : Int) ≤ s.1 75 x1 ∧ s.1 75 x1 ≤ (2147483647 : Int) from by omega) (fun r33 q22 => ?_)
      obtain ⟨q22, q22x⟩ := q22
      have b23 : 0 ≤ s.1 1 0 ∧ s.1 1 0 ≤ 12 := iv_r1_0 hI
      replace q22x : r33 = -1 ∨ (0 ≤ (s.1 19 x4) ∧ (s.1 19 x4) < s.1 1 0 ∧ 0 ≤ (s.1 75 x1) ∧ (s.1 75 x1) < s.1 1 0) := q22x
      exact sm_139_p85 hQ hR139 hX34 (show (6 - x4).toNat ≤ M34 from by omega) (show (7 - x1).toNat ≤ MR from by omega) hI (show (0 : Int) ≤ x1 ∧ x1 ≤ (5 : Int) from by omega) (show (0 : Int) ≤ x2 ∧ x2 ≤ (63 : Int) from by omega) (show (0 : Int) ≤ x3 ∧ x3 ≤ (999 : Int) from by omega) (show (0 : Int) ≤ x4 ∧ x4 ≤ (5 : Int) from by omega) (show (-1 : Int) ≤ r33 ∧ r33 ≤ (999 : Int) from by omega)
theorem sm_139_p34L {R139 : Int → Int → Int → (lf_Z → Prop) → lf_Z → Prop} {Q : lf_Z → Prop} {x1 : Int} {x2 : Int} {x3 : Int} {x4 : Int} {s : lf_Z} {MR : Nat} (hQ : ∀  (s' : lf_Z), iv_A s'.1 s'.2.2 → lf_fq [74, 76, 77] 1000000 true s.1 s.2.2 s'.1 s'.2.2 → Q  s') (hR139 : ∀ {a1 a2 a3 : Int} {Q : lf_Z → Prop} {s : lf_Z}, (7 - a1).toNat < MR → iv_A s.1 s.2.2 → 0 ≤ a1 ∧ a1 ≤ 6 → 0 ≤ a2 ∧ a2 ≤ 63 → 0 ≤ a3 ∧ a3 ≤ 999 → (∀  (s' : lf_Z), iv_A s'.1 s'.2.2 → lf_fq [74, 76, 77] 1000000 true s.1 s.2.2 s'.1 s'.2.2 → Q  s') → R139 a1 a2 a3 Q s) (hMR : (7 - x1).toNat ≤ MR) (hI : iv_A s.1 s.2.2) (bx1 : 0 ≤ x1 ∧ x1 ≤ 5) (bx2 : 0 ≤ x2 ∧ x2 ≤ 63) (bx3 : 0 ≤ x3 ∧ x3 ≤ 999) (bx4 : 0 ≤ x4 ∧ x4 ≤ 6) : fm_139_p34L R139 Q x1 x2 x3 x4 s := by
  intro X34 hX
  have key : ∀ (m9 : Nat) (x4 : Int) (s' : lf_Z), iv_A s'.1 s'.2.2 → lf_fq [74, 76, 77] 1000000 true s.1 s.2.2 s'.1 s'.2.2 → 0 ≤ x4 ∧ x4 ≤ 6 → (6 - x4).toNat < m9 → X34 x4 s' := by
    intro m9
    induction m9 with
    | zero => intro x4 s' _ _ bx4 h9; exact absurd h9 (Nat.not_lt_zero _)
    | succ m9 ih => intro x4 s' i7 f7 bx4 h9; exact hX _ _ (sm_139_p34 (fun t9 i9 f9 => hQ t9 i9 (lf_fq_tr f7 f9)) hR139  (fun x4' t8 i8 f8 bx4' h8 => ih x4' t8 i8 (lf_fq_tr f7 f8) bx4' (by omega)) (Nat.le_refl _) hMR i7  bx1 bx2 bx3 bx4  )
  exact key _ _ s hI lf_fq_rf bx4 (Nat.lt_succ_self _)
theorem sm_139_p17 {R139 : Int → Int → Int → (lf_Z → Prop) → lf_Z → Prop} {Q : lf_Z → Prop} {x1 : Int} {x2 : Int} {x3 : Int} {s : lf_Z} {MR : Nat} (hQ : ∀  (s' : lf_Z), iv_A s'.1 s'.2.2 → lf_fq [74, 76, 77] 1000000 true s.1 s.2.2 s'.1 s'.2.2 → Q  s') (hR139 : ∀ {a1 a2 a3 : Int} {Q : lf_Z → Prop} {s : lf_Z}, (7 - a1).toNat < MR → iv_A s.1 s.2.2 → 0 ≤ a1 ∧ a1 ≤ 6 → 0 ≤ a2 ∧ a2 ≤ 63 → 0 ≤ a3 ∧ a3 ≤ 999 → (∀  (s' : lf_Z), iv_A s'.1 s'.2.2 → lf_fq [74, 76, 77] 1000000 true s.1 s.2.2 s'.1 s'.2.2 → Q  s') → R139 a1 a2 a3 Q s) (hMR : (7 - x1).toNat ≤ MR) (hI : iv_A s.1 s.2.2) (bx1 : 0 ≤ x1 ∧ x1 ≤ 6) (bx2 : 0 ≤ x2 ∧ x2 ≤ 63) (bx3 : 0 ≤ x3 ∧ x3 ≤ 999) : fm_139_p17 R139 Q x1 x2 x3 s := by
  unfold fm_139_p17
  have b3 : 0 ≤ s.1 74 5 ∧ s.1 74 5 ≤ 6 := iv_r74_5 hI
  refine ⟨(show lf_R x1 from lf_Rof (by omega)), ?_⟩
  refine ⟨(show lf_R (s.1 74 5) from lf_Rof (by omega)), ?_⟩
  refine ⟨fun c4 => ?_, fun c4 => ?_⟩
  · skip
    replace c4 : x1 < s.1 74 5 := c4
    exact sm_139_p34L hQ hR139 (show (7 - x1).toNat ≤ MR from by omega) hI (show (0 : Int) ≤ x1 ∧ x1 ≤ (5 : Int) from by omega) (show (0 : Int) ≤ x2 ∧ x2 ≤ (63 : Int) from by omega) (show (0 : Int) ≤ x3 ∧ x3 ≤ (999 : Int) from by omega) (show (0 : Int) ≤ 0 ∧ 0 ≤ (6 : Int) from by omega)
  · skip
    replace c4 : ¬ (x1 < s.1 74 5) := c4
    refine sm_140 hI (show (-2147483648 : Int) ≤ x3 ∧ x3 ≤ (2147483647 : Int) from by omega) (fun s34 hI25 fr24 => ?_)
    have fr27 : lf_fq [74, 76, 77] 1000000 true s.1 s.2.2 s34.1 s34.2.2 := lf_fq_tr (lf_fq_rf) (lf_fq_wk fr24 rfl (by decide) (by decide))
    exact hQ s34 hI25 fr27
theorem sm_139 {R139 : Int → Int → Int → (lf_Z → Prop) → lf_Z → Prop} {a1 : Int} {a2 : Int} {a3 : Int} {Q : lf_Z → Prop} {s : lf_Z} {MR : Nat} (hR139 : ∀ {a1 a2 a3 : Int} {Q : lf_Z → Prop} {s : lf_Z}, (7 - a1).toNat < MR → iv_A s.1 s.2.2 → 0 ≤ a1 ∧ a1 ≤ 6 → 0 ≤ a2 ∧ a2 ≤ 63 → 0 ≤ a3 ∧ a3 ≤ 999 → (∀  (s' : lf_Z), iv_A s'.1 s'.2.2 → lf_fq [74, 76, 77] 1000000 true s.1 s.2.2 s'.1 s'.2.2 → Q  s') → R139 a1 a2 a3 Q s) (hMR : (7 - a1).toNat ≤ MR) (hI : iv_A s.1 s.2.2) (ba1 : 0 ≤ a1 ∧ a1 ≤ 6) (ba2 : 0 ≤ a2 ∧ a2 ≤ 63) (ba3 : 0 ≤ a3 ∧ a3 ≤ 999) (hQ : ∀  (s' : lf_Z), iv_A s'.1 s'.2.2 → lf_fq [74, 76, 77] 1000000 true s.1 s.2.2 s'.1 s'.2.2 → Q  s') : fm_139 R139 a1 a2 a3 Q s := by
  unfold fm_139
  have b1 : (-2147483648) ≤ s.1 74 6 ∧ s.1 74 6 ≤ 2147483647 := iv_full hI
  refine ⟨(show lf_R (s.1 74 6) from lf_Rof (by omega)), ?_⟩
  refine ⟨fun c2 => ?_, fun c2 => ?_⟩
  · skip
    replace c2 : s.1 74 6 = (-1) := c2
    exact sm_139_p17 hQ hR139 (show (7 - a1).toNat ≤ MR from by omega) hI (show (0 : Int) ≤ a1 ∧ a1 ≤ (6 : Int) from by omega) (show (0 : Int) ≤ a2 ∧ a2 ≤ (63 : Int) from by omega) (show (0 : Int) ≤ a3 ∧ a3 ≤ (999 : Int) from by omega)
  · skip
    replace c2 : ¬ (s.1 74 6 = (-1)) := c2
    refine ⟨(show lf_R a3 from lf_Rof (by omega)), ?_⟩
    refine ⟨fun c28 => ?_, fun c28 => ?_⟩
    · skip
      replace c28 : a3 < s.1 74 6 := c28
      exact sm_139_p17 hQ hR139 (show (7 - a1).toNat ≤ MR from by omega) hI (show (0 : Int) ≤ a1 ∧ a1 ≤ (6 : Int) from by omega) (show (0 : Int) ≤ a2 ∧ a2 ≤ (63 : Int) from by omega) (show (0 : Int) ≤ a3 ∧ a3 ≤ (999 : Int) from by omega)
    · skip
      replace c28 : ¬ (a3 < s.1 74 6) := c28
      exact hQ s hI (lf_fq_rf)
-- cl_139 cluster
theorem sc_139T : ∀ n : Nat, (∀ {a1 a2 a3 : Int} {Q : lf_Z → Prop} {s : lf_Z}, (7 - a1).toNat < n → iv_A s.1 s.2.2 → 0 ≤ a1 ∧ a1 ≤ 6 → 0 ≤ a2 ∧ a2 ≤ 63 → 0 ≤ a3 ∧ a3 ≤ 999 → (∀  (s' : lf_Z), iv_A s'.1 s'.2.2 → lf_fq [74, 76, 77] 1000000 true s.1 s.2.2 s'.1 s'.2.2 → Q  s') → (fc_139T n) a1 a2 a3 Q s)
  | 0 => by intros; omega
  | n + 1 => fun hm hI b1 b2 b3 hQ => sm_139 (MR := n) (sc_139T n) (by omega) hI b1 b2 b3 hQ
theorem sc_139 {a1 : Int} {a2 : Int} {a3 : Int} {Q : lf_Z → Prop} {s : lf_Z} (hI : iv_A s.1 s.2.2) (ba1 : 0 ≤ a1 ∧ a1 ≤ 6) (ba2 : 0 ≤ a2 ∧ a2 ≤ 63) (ba3 : 0 ≤ a3 ∧ a3 ≤ 999) (hQ : ∀  (s' : lf_Z), iv_A s'.1 s'.2.2 → lf_fq [74, 76, 77] 1000000 true s.1 s.2.2 s'.1 s'.2.2 → Q  s') : fc_139 a1 a2 a3 Q s := (sc_139T 200) (by omega) hI ba1 ba2 ba3 hQ
-- fm_137 Errands.sendAll 74 i i
theorem sm_137_p79 {X30 : Int → lf_Z → Prop} {Q : Int → lf_Z → Prop} {x1 : Int} {x2 : Int} {x3 : Int} {s : lf_Z} (hQ : ∀ (r : Int) (s' : lf_Z), iv_A s'.1 s'.2.2 → lf_fq [74, 75, 76, 77] 1000000 true s.1 s.2.2 s'.1 s'.2.2 → ((-2147483648) ≤ r ∧ r ≤ 2147483647) → Q r s') {M30 : Nat} (hX30 : ∀ (x3 : Int) (s' : lf_Z), iv_A s'.1 s'.2.2 → lf_fq [74, 75, 76, 77] 1000000 true s.1 s.2.2 s'.1 s'.2.2 → 0 ≤ x3 ∧ x3 ≤ 12 → (12 - x3).toNat < M30 → X30 x3 s') (hM30 : (12 - x3).toNat ≤ M30) (hI : iv_A s.1 s.2.2) (bx1 : 0 ≤ x1 ∧ x1 ≤ 63) (bx2 : 1 ≤ x2 ∧ x2 ≤ 4095) (bx3 : 0 ≤ x3 ∧ x3 ≤ 11) : fm_137_p79 X30 Q x1 x2 x3 s := by
  unfold fm_137_p79
  exact hX30 (x3 + 1) s hI (lf_fq_rf) (show (0 : Int) ≤ x3 + 1 ∧ x3 + 1 ≤ (12 : Int) from by omega) (show (12 - (x3 + 1)).toNat < M30 from by omega)
theorem sm_137_p30 {X30 : Int → lf_Z → Prop} {Q : Int → lf_Z → Prop} {x1 : Int} {x2 : Int} {x3 : Int} {s : lf_Z} (hQ : ∀ (r : Int) (s' : lf_Z), iv_A s'.1 s'.2.2 → lf_fq [74, 75, 76, 77] 1000000 true s.1 s.2.2 s'.1 s'.2.2 → ((-2147483648) ≤ r ∧ r ≤ 2147483647) → Q r s') {M30 : Nat} (hX30 : ∀ (x3 : Int) (s' : lf_Z), iv_A s'.1 s'.2.2 → lf_fq [74, 75, 76, 77] 1000000 true s.1 s.2.2 s'.1 s'.2.2 → 0 ≤ x3 ∧ x3 ≤ 12 → (12 - x3).toNat < M30 → X30 x3 s') (hM30 : (12 - x3).toNat ≤ M30) (hI : iv_A s.1 s.2.2) (bx1 : 0 ≤ x1 ∧ x1 ≤ 63) (bx2 : 1 ≤ x2 ∧ x2 ≤ 4095) (bx3 : 0 ≤ x3 ∧ x3 ≤ 12) : fm_137_p30 Q x1 x2 X30 x3 s := by
  unfold fm_137_p30
  have b8 : 0 ≤ s.1 1 0 ∧ s.1 1 0 ≤ 12 := iv_r1_0 hI
  refine ⟨(show lf_R x3 from lf_Rof (by omega)), ?_⟩
  refine ⟨(show lf_R (s.1 1 0) from lf_Rof (by omega)), ?_⟩
  refine ⟨fun c9 => ?_, fun c9 => ?_⟩
  · skip
    replace c9 : s.1 1 0 ≤ x3 := c9
    refine sc_139 hI (show (0 : Int) ≤ 0 ∧ 0 ≤ (6 : Int) from by omega) (show (0 : Int) ≤ x1 ∧ x1 ≤ (63 : Int) from by omega) (show (0 : Int) ≤ 0 ∧ 0 ≤ (999 : Int) from by omega) (fun s30 hI11 fr10 => ?_)
    have fr13 : lf_fq [74, 75, 76, 77] 1000000 true s.1 s.2.2 s30.1 s30.2.2 := lf_fq_tr (lf_fq_rf) (lf_fq_wk fr10 rfl (by decide) (by decide))
    have b14 : (-2147483648) ≤ s30.1 74 6 ∧ s30.1 74 6 ≤ 2147483647 := iv_full hI11
    exact hQ (s30.1 74 6) s30 hI11 fr13 (show (-2147483648 : Int) ≤ s30.1 74 6 ∧ s30.1 74 6 ≤ (2147483647 : Int) from by omega)
  · skip
    replace c9 : ¬ (s.1 1 0 ≤ x3) := c9
    have b15 : 0 ≤ lf_shr x2 x3 ∧ lf_shr x2 x3 ≤ 4095 := lf_shrP (by omega) (by omega)
    have b16 : 0 ≤ lf_and (lf_shr x2 x3) 1 ∧ lf_and (lf_shr x2 x3) 1 ≤ 1 := lf_andB (by omega) (by omega)
    refine ⟨fun c17 => ?_, fun c17 => ?_⟩
    · skip
      replace c17 : lf_and (lf_shr x2 x3) 1 ≠ 1 := c17
      exact sm_137_p79 hQ hX30 (show (12 - x3).toNat ≤ M30 from by omega) hI (show (0 : Int) ≤ x1 ∧ x1 ≤ (63 : Int) from by omega) (show (1 : Int) ≤ x2 ∧ x2 ≤ (4095 : Int) from by omega) (show (0 : Int) ≤ x3 ∧ x3 ≤ (11 : Int) from by omega)
    · skip
      replace c17 : ¬ (lf_and (lf_shr x2 x3) 1 ≠ 1) := c17
      have b18 : 0 ≤ s.1 74 5 ∧ s.1 74 5 ≤ 6 := iv_r74_5 hI
      refine ⟨(show lf_R (s.1 74 5) from lf_Rof (by omega)), ?_⟩
      refine ⟨fun c19 => ?_, fun c19 => ?_⟩
      · skip
        replace c19 : 6 ≤ s.1 74 5 := c19
        exact sm_137_p79 hQ hX30 (show (12 - x3).toNat ≤ M30 from by omega) hI (show (0 : Int) ≤ x1 ∧ x1 ≤ (63 : Int) from by omega) (show (1 : Int) ≤ x2 ∧ x2 ≤ (4095 : Int) from by omega) (show (0 : Int) ≤ x3 ∧ x3 ≤ (11 : Int) from by omega)
      · skip
        replace c19 : ¬ (6 ≤ s.1 74 5) := c19
        refine ⟨(show (0 : Int) ≤ s.1 74 5 ∧ s.1 74 5 < (6 : Int) from by omega), ?_⟩
        have hI20 : iv_A (lf_up s.1 75 (s.1 74 5) x3) s.2.2 := iv_w75 hI (by omega)
        have fr21 : lf_fq [74, 75, 76, 77] 1000000 true s.1 s.2.2 (lf_up s.1 75 (s.1 74 5) x3) s.2.2 := lf_fq_up (lf_fq_rf) rfl (fun h => absurd h (by decide))
        have hI22 : iv_A (lf_up (lf_up s.1 75 (s.1 74 5) x3) 74 5 ((s.1 74 5) + 1)) s.2.2 := iv_w74_5 hI20 (by omega)
        have fr23 : lf_fq [74, 75, 76, 77] 1000000 true s.1 s.2.2 (lf_up (lf_up s.1 75 (s.1 74 5) x3) 74 5 ((s.1 74 5) + 1)) s.2.2 := lf_fq_up fr21 rfl (fun h => absurd h (by decide))
        exact sm_137_p79 (fun r9 t9 i9 f9 => hQ r9 t9 i9 (lf_fq_tr fr23 f9)) (fun p0 t9 i9 f9 => hX30 p0 t9 i9 (lf_fq_tr fr23 f9)) (show (12 - x3).toNat ≤ M30 from by omega) hI22 (show (0 : Int) ≤ x1 ∧ x1 ≤ (63 : Int) from by omega) (show (1 : Int) ≤ x2 ∧ x2 ≤ (4095 : Int) from by omega) (show (0 : Int) ≤ x3 ∧ x3 ≤ (11 : Int) from by omega)
theorem sm_137_p30L {Q : Int → lf_Z → Prop} {x1 : Int} {x2 : Int} {x3 : Int} {s : lf_Z} (hQ : ∀ (r : Int) (s' : lf_Z), iv_A s'.1 s'.2.2 → lf_fq [74, 75, 76, 77] 1000000 true s.1 s.2.2 s'.1 s'.2.2 → ((-2147483648) ≤ r ∧ r ≤ 2147483647) → Q r s') (hI : iv_A s.1 s.2.2) (bx1 : 0 ≤ x1 ∧ x1 ≤ 63) (bx2 : 1 ≤ x2 ∧ x2 ≤ 4095) (bx3 : 0 ≤ x3 ∧ x3 ≤ 12) : fm_137_p30L Q x1 x2 x3 s := by
  intro X30 hX
  have key : ∀ (m9 : Nat) (x3 : Int) (s' : lf_Z), iv_A s'.1 s'.2.2 → lf_fq [74, 75, 76, 77] 1000000 true s.1 s.2.2 s'.1 s'.2.2 → 0 ≤ x3 ∧ x3 ≤ 12 → (12 - x3).toNat < m9 → X30 x3 s' := by
    intro m9
    induction m9 with
    | zero => intro x3 s' _ _ bx3 h9; exact absurd h9 (Nat.not_lt_zero _)
    | succ m9 ih => intro x3 s' i7 f7 bx3 h9; exact hX _ _ (sm_137_p30 (fun r9 t9 i9 f9 => hQ r9 t9 i9 (lf_fq_tr f7 f9))   (fun x3' t8 i8 f8 bx3' h8 => ih x3' t8 i8 (lf_fq_tr f7 f8) bx3' (by omega)) (Nat.le_refl _)  i7  bx1 bx2 bx3  )
  exact key _ _ s hI lf_fq_rf bx3 (Nat.lt_succ_self _)
theorem sm_137 {a1 : Int} {a2 : Int} {Q : Int → lf_Z → Prop} {s : lf_Z} (hI : iv_A s.1 s.2.2) (ba1 : 0 ≤ a1 ∧ a1 ≤ 63) (ba2 : 1 ≤ a2 ∧ a2 ≤ 4095) (hQ : ∀ (r : Int) (s' : lf_Z), iv_A s'.1 s'.2.2 → lf_fq [74, 75, 76, 77] 1000000 true s.1 s.2.2 s'.1 s'.2.2 → ((-2147483648) ≤ r ∧ r ≤ 2147483647) → Q r s') : fm_137 a1 a2 Q s := by
  unfold fm_137
  have hI1 : iv_A (lf_up s.1 74 6 (-1)) s.2.2 := iv_w74_6 hI (by omega)
  have fr2 : lf_fq [74, 75, 76, 77] 1000000 true s.1 s.2.2 (lf_up s.1 74 6 (-1)) s.2.2 := lf_fq_up (lf_fq_rf) rfl (fun h => absurd h (by decide))
  have hI3 : iv_A (lf_up (lf_up s.1 74 6 (-1)) 74 5 0) s.2.2 := iv_w74_5 hI1 (by omega)
  have fr4 : lf_fq [74, 75, 76, 77] 1000000 true s.1 s.2.2 (lf_up (lf_up s.1 74 6 (-1)) 74 5 0) s.2.2 := lf_fq_up fr2 rfl (fun h => absurd h (by decide))
  refine sm_138 hI3 (show (0 : Int) ≤ a2 ∧ a2 ≤ (4095 : Int) from by omega) (fun r22 q5 => ?_)
  refine sm_138 hI3 (show (0 : Int) ≤ a1 ∧ a1 ≤ (4095 : Int) from by omega) (fun r24 q6 => ?_)
  refine ⟨(show lf_R r24 from lf_Rof (by omega)), ?_⟩
  refine ⟨(show lf_R r22 from lf_Rof (by omega)), ?_⟩
  refine ⟨(show lf_R (min 6 r24) from lf_Rof (by omega)), ?_⟩
  refine ⟨fun c7 => ?_, fun c7 => ?_⟩
  · skip
    replace c7 : r22 ≤ min 6 r24 := c7
    exact sm_137_p30L (fun r9 t9 i9 f9 => hQ r9 t9 i9 (lf_fq_tr fr4 f9)) hI3 (show (0 : Int) ≤ a1 ∧ a1 ≤ (63 : Int) from by omega) (show (1 : Int) ≤ a2 ∧ a2 ≤ (4095 : Int) from by omega) (show (0 : Int) ≤ 0 ∧ 0 ≤ (12 : Int) from by omega)
  · skip
    replace c7 : ¬ (r22 ≤ min 6 r24) := c7
    exact hQ (-1) (lf_up (lf_up s.1 74 6 (-1)) 74 5 0, s.2.1, s.2.2) hI3 fr4 (show (-2147483648 : Int) ≤ (-1) ∧ (-1) ≤ (2147483647 : Int) from by omega)
-- fm_141 Errands.whoGoesTo 74 i
theorem sm_141_p2 {X2 : Int → lf_Z → Prop} {Q : Int → lf_Z → Prop} {x1 : Int} {x2 : Int} {s : lf_Z} (hQ : ∀ (r : Int), ((-1) ≤ r ∧ r ≤ 5) → Q r s) {M2 : Nat} (hX2 : ∀ (x2 : Int), 0 ≤ x2 ∧ x2 ≤ 6 → (6 - x2).toNat < M2 → X2 x2 s) (hM2 : (6 - x2).toNat ≤ M2) (hI : iv_A s.1 s.2.2) (bx1 : 0 ≤ x1 ∧ x1 ≤ 11) (bx2 : 0 ≤ x2 ∧ x2 ≤ 6) : fm_141_p2 Q x1 X2 x2 s := by
  unfold fm_141_p2
  have b1 : 0 ≤ s.1 74 5 ∧ s.1 74 5 ≤ 6 := iv_r74_5 hI
  refine ⟨(show lf_R x2 from lf_Rof (by omega)), ?_⟩
  refine ⟨(show lf_R (s.1 74 5) from lf_Rof (by omega)), ?_⟩
  refine ⟨fun c2 => ?_, fun c2 => ?_⟩
  · skip
    replace c2 : s.1 74 5 ≤ x2 := c2
    exact hQ (-1) (show (-1 : Int) ≤ (-1) ∧ (-1) ≤ (5 : Int) from by omega)
  · skip
    replace c2 : ¬ (s.1 74 5 ≤ x2) := c2
    have b3 : (-2147483648) ≤ s.1 74 6 ∧ s.1 74 6 ≤ 2147483647 := iv_full hI
    refine ⟨(show lf_R (s.1 74 6) from lf_Rof (by omega)), ?_⟩
    refine ⟨fun c4 => ?_, fun c4 => ?_⟩
    · skip
      replace c4 : s.1 74 6 = (-1) := c4
      exact hQ (-1) (show (-1 : Int) ≤ (-1) ∧ (-1) ≤ (5 : Int) from by omega)
    · skip
      replace c4 : ¬ (s.1 74 6 = (-1)) := c4
      refine ⟨(show (0 : Int) ≤ x2 ∧ x2 < (6 : Int) from by omega), ?_⟩
      have b5 : (-2147483648) ≤ s.1 75 x2 ∧ s.1 75 x2 ≤ 2147483647 := iv_full hI
      refine ⟨(show lf_R (s.1 75 x2) from lf_Rof (by omega)), ?_⟩
      refine ⟨(show lf_R x1 from lf_Rof (by omega)), ?_⟩
      refine ⟨fun c6 => ?_, fun c6 => ?_⟩
      · skip
        replace c6 : s.1 75 x2 ≠ x1 := c6
        exact hX2 (x2 + 1) (show (0 : Int) ≤ x2 + 1 ∧ x2 + 1 ≤ (6 : Int) from by omega) (show (6 - (x2 + 1)).toNat < M2 from by omega)
      · skip
        replace c6 : ¬ (s.1 75 x2 ≠ x1) := c6
        have b7 : 0 ≤ s.1 77 x2 ∧ s.1 77 x2 ≤ 5 := iv_r77 hI _
        exact hQ (s.1 77 x2) (show (-1 : Int) ≤ s.1 77 x2 ∧ s.1 77 x2 ≤ (5 : Int) from by omega)
theorem sm_141_p2L {Q : Int → lf_Z → Prop} {x1 : Int} {x2 : Int} {s : lf_Z} (hQ : ∀ (r : Int), ((-1) ≤ r ∧ r ≤ 5) → Q r s) (hI : iv_A s.1 s.2.2) (bx1 : 0 ≤ x1 ∧ x1 ≤ 11) (bx2 : 0 ≤ x2 ∧ x2 ≤ 6) : fm_141_p2L Q x1 x2 s := by
  intro X2 hX
  have key : ∀ (m9 : Nat) (x2 : Int), 0 ≤ x2 ∧ x2 ≤ 6 → (6 - x2).toNat < m9 → X2 x2 s := by
    intro m9
    induction m9 with
    | zero => intro x2 bx2 h9; exact absurd h9 (Nat.not_lt_zero _)
    | succ m9 ih => intro x2 bx2 h9; exact hX _ _ (sm_141_p2 hQ   (fun x2' bx2' h8 => ih x2' bx2' (by omega)) (Nat.le_refl _)  hI  bx1 bx2  )
  exact key _ _ bx2   (Nat.lt_succ_self _)
theorem sm_141 {a1 : Int} {Q : Int → lf_Z → Prop} {s : lf_Z} (hI : iv_A s.1 s.2.2) (ba1 : 0 ≤ a1 ∧ a1 ≤ 11) (hQ : ∀ (r : Int), ((-1) ≤ r ∧ r ≤ 5) → Q r s) : fm_141 a1 Q s := by
  unfold fm_141
  exact sm_141_p2L hQ hI (show (0 : Int) ≤ a1 ∧ a1 ≤ (11 : Int) from by omega) (show (0 : Int) ≤ 0 ∧ 0 ≤ (6 : Int) from by omega)
-- fm_136 ElevenBullocks.whom 0 i i i
theorem sm_136_p66 {Q : Int → lf_Z → Prop} {x1 : Int} {x2 : Int} {x3 : Int} {s : lf_Z} (hQ : ∀ (r : Int) (s' : lf_Z), iv_A s'.1 s'.2.2 → lf_fq [74, 75, 76, 77] 1000000 true s.1 s.2.2 s'.1 s'.2.2 → ((-2147483648) ≤ r ∧ r ≤ 2147483647) → Q r s') (hI : iv_A s.1 s.2.2) (bx1 : 0 ≤ x1 ∧ x1 ≤ 63) (bx2 : 1 ≤ x2 ∧ x2 ≤ 4095) (bx3 : (-1) ≤ x3 ∧ x3 ≤ 11) : fm_136_p66 Q x1 x2 x3 s := by
  unfold fm_136_p66
  refine sm_137 hI (show (0 : Int) ≤ x1 ∧ x1 ≤ (63 : Int) from by omega) (show (1 : Int) ≤ x2 ∧ x2 ≤ (4095 : Int) from by omega) (fun r27 s26 hI11 fr10 q12 => ?_)
  have fr13 : lf_fq [74, 75, 76, 77] 1000000 true s.1 s.2.2 s26.1 s26.2.2 := lf_fq_tr (lf_fq_rf) (lf_fq_wk fr10 rfl (by decide) (by decide))
  refine ⟨(show lf_R x3 from lf_Rof (by omega)), ?_⟩
  refine ⟨fun c14 => ?_, fun c14 => ?_⟩
  · skip
    replace c14 : x3 ≠ (-1) := c14
    refine sm_141 hI11 (show (0 : Int) ≤ x3 ∧ x3 ≤ (11 : Int) from by omega) (fun r30 q15 => ?_)
    exact hQ r30 s26 hI11 fr13 (show (-2147483648 : Int) ≤ r30 ∧ r30 ≤ (2147483647 : Int) from by omega)
  · skip
    replace c14 : ¬ (x3 ≠ (-1)) := c14
    exact hQ r27 s26 hI11 fr13 (show (-2147483648 : Int) ≤ r27 ∧ r27 ≤ (2147483647 : Int) from by omega)
theorem sm_136 {a1 : Int} {a2 : Int} {a3 : Int} {Q : Int → lf_Z → Prop} {s : lf_Z} (hI : iv_A s.1 s.2.2) (ba1 : (-2147483648) ≤ a1 ∧ a1 ≤ 2147483647) (ba2 : (-2147483648) ≤ a2 ∧ a2 ≤ 2147483647) (ba3 : (-2147483648) ≤ a3 ∧ a3 ≤ 2147483647) (hQ : ∀ (r : Int) (s' : lf_Z), iv_A s'.1 s'.2.2 → lf_fq [74, 75, 76, 77] 1000000 true s.1 s.2.2 s'.1 s'.2.2 → ((-2147483648) ≤ r ∧ r ≤ 2147483647) → Q r s') : fm_136 a1 a2 a3 Q s := by
  unfold fm_136
  have b1 : 0 ≤ s.1 1 2 ∧ s.1 1 2 ≤ 6 := iv_r1_2 hI
  have b2 : 1 ≤ lf_shl 1 (s.1 1 2) ∧ lf_shl 1 (s.1 1 2) ≤ 64 := lf_shl1 (m := 6) (by omega) (by omega) (by decide)
  refine sm_15 hI (show (-2147483648 : Int) ≤ a1 ∧ a1 ≤ (2147483647 : Int) from by omega) (show (-1 : Int) ≤ 0 ∧ 0 ≤ (99 : Int) from by omega) (show (-2147483648 : Int) ≤ (lf_shl 1 (s.1 1 2)) - 1 ∧ (lf_shl 1 (s.1 1 2)) - 1 ≤ (2147483647 : Int) from by omega) (fun z22 q3 => ?_)
  refine ⟨fun c4 => ?_, fun c4 => ?_⟩
  · skip
    have dc4 := q3.2 c4
    exact hQ (-1) s hI (lf_fq_rf) (show (-2147483648 : Int) ≤ (-1) ∧ (-1) ≤ (2147483647 : Int) from by omega)
  · skip
    have dc4 := q3.1 c4
    have b5 : 0 ≤ s.1 1 0 ∧ s.1 1 0 ≤ 12 := iv_r1_0 hI
    have b6 : 1 ≤ lf_shl 1 (s.1 1 0) ∧ lf_shl 1 (s.1 1 0) ≤ 4096 := lf_shl1 (m := 12) (by omega) (by omega) (by decide)
    refine sm_15 hI (show (-2147483648 : Int) ≤ a2 ∧ a2 ≤ (2147483647 : Int) from by omega) (show (-1 : Int) ≤ 1 ∧ 1 ≤ (99 : Int) from by omega) (show (-2147483648 : Int) ≤ (lf_shl 1 (s.1 1 0)) - 1 ∧ (lf_shl 1 (s.1 1 0)) - 1 ≤ (2147483647 : Int) from by omega) (fun z24 q7 => ?_)
    refine ⟨fun c8 => ?_, fun c8 => ?_⟩
    · skip
      have dc8 := q7.1 c8
      refine ⟨(show lf_R a3 from lf_Rof (by omega)), ?_⟩
      refine ⟨fun c9 => ?_, fun c9 => ?_⟩
      · skip
        replace c9 : a3 = (-1) := c9
        exact sm_136_p66 hQ hI (show (0 : Int) ≤ a1 ∧ a1 ≤ (63 : Int) from by omega) (show (1 : Int) ≤ a2 ∧ a2 ≤ (4095 : Int) from by omega) (show (-1 : Int) ≤ a3 ∧ a3 ≤ (11 : Int) from by omega)
      · skip
        replace c9 : ¬ (a3 = (-1)) := c9
        refine sm_18 hI (show (-2147483648 : Int) ≤ a3 ∧ a3 ≤ (2147483647 : Int) from by omega) (fun z32 q16 => ?_)
        refine ⟨fun c17 => ?_, fun c17 => ?_⟩
        · skip
          have dc17 := q16.2 c17
          exact hQ (-1) s hI (lf_fq_rf) (show (-2147483648 : Int) ≤ (-1) ∧ (-1) ≤ (2147483647 : Int) from by omega)
        · skip
          have dc17 := q16.1 c17
          have b18 : 0 ≤ lf_shr a2 a3 ∧ lf_shr a2 a3 ≤ 4095 := lf_shrP (by omega) (by omega)
          have b19 : 0 ≤ lf_and (lf_shr a2 a3) 1 ∧ lf_and (lf_shr a2 a3) 1 ≤ 1 := lf_andB (by omega) (by omega)
          refine ⟨fun c20 => ?_, fun c20 => ?_⟩
          · skip
            replace c20 : lf_and (lf_shr a2 a3) 1 ≠ 0 := c20
            exact sm_136_p66 hQ hI (show (0 : Int) ≤ a1 ∧ a1 ≤ (63 : Int) from by omega) (show (1 : Int) ≤ a2 ∧ a2 ≤ (4095 : Int) from by omega) (show (-1 : Int) ≤ a3 ∧ a3 ≤ (11 : Int) from by omega)
          · skip
            replace c20 : ¬ (lf_and (lf_shr a2 a3) 1 ≠ 0) := c20
            exact hQ (-1) s hI (lf_fq_rf) (show (-2147483648 : Int) ≤ (-1) ∧ (-1) ≤ (2147483647 : Int) from by omega)
    · skip
      have dc8 := q7.2 c8
      exact hQ (-1) s hI (lf_fq_rf) (show (-2147483648 : Int) ≤ (-1) ∧ (-1) ≤ (2147483647 : Int) from by omega)
-- fm_301 Model.layOut i 113
theorem sm_301_p28 {X4 : Int → Int → lf_Z → Prop} {Q : Int → lf_Z → Prop} {x0 : Int} {x2 : Int} {x3 : Int} {s : lf_Z} {s0 : lf_Z} (hQ : ∀ (r : Int) (s' : lf_Z), iv_A s'.1 s'.2.2 → lf_fq [113] 1000000 true s.1 s.2.2 s'.1 s'.2.2 → (r = lf_bt (x0) 12) → (lo_C (s'.1 113) (x0) (r) 12) → (0 ≤ r ∧ r ≤ 6) → Q r s') {M4 : Nat} (hX4 : ∀ (x2 : Int) (x3 : Int) (s' : lf_Z), iv_A s'.1 s'.2.2 → lf_fq [113] 1000000 true s.1 s.2.2 s'.1 s'.2.2 → 0 ≤ x2 ∧ x2 ≤ 6 → 0 ≤ x3 ∧ x3 ≤ 12 → (x2 = lf_bt (x0) (x3)) → (x2 ≤ x3) → (lo_C (s'.1 113) (x0) (x2) (x3)) → (12 - x3).toNat < M4 → X4 x2 x3 s') (hM4 : (12 - x3).toNat ≤ M4) (hI : iv_A s.1 s.2.2) (bx0 : 0 ≤ x0 ∧ x0 ≤ 63) (bx2 : 0 ≤ x2 ∧ x2 ≤ 6) (bx3 : 0 ≤ x3 ∧ x3 ≤ 11) (kv0 : x2 = lf_bt (x0) (x3 + 1)) (kv1 : x2 ≤ x3 + 1) (kv2 : lo_C (s.1 113) (x0) (x2) (x3 + 1)) : fm_301_p28 X4 Q x0 x2 x3 s := by
  unfold fm_301_p28
  have b14 : lf_bt (x0) 0 = 0 := rfl
  have b15 : lo_C ((s.1 113)) (x0) (x2) ((x3 + 1)) := by first | with_reducible assumption | exact (fun q a b => by omega)
  exact hX4 (x2) (x3 + 1) s hI (lf_fq_rf) (show (0 : Int) ≤ x2 ∧ x2 ≤ (6 : Int) from by omega) (show (0 : Int) ≤ x3 + 1 ∧ x3 + 1 ≤ (12 : Int) from by omega) (show x2 = lf_bt (x0) ((x3 + 1)) from by omega) (show x2 ≤ (x3 + 1) from by omega) (show lo_C ((s.1 113)) (x0) (x2) ((x3 + 1)) from by first | with_reducible assumption | assumption) (show (12 - (x3 + 1)).toNat < M4 from by omega)
theorem sm_301_p4 {X4 : Int → Int → lf_Z → Prop} {Q : Int → lf_Z → Prop} {x0 : Int} {x2 : Int} {x3 : Int} {s : lf_Z} {s0 : lf_Z} (hQ : ∀ (r : Int) (s' : lf_Z), iv_A s'.1 s'.2.2 → lf_fq [113] 1000000 true s.1 s.2.2 s'.1 s'.2.2 → (r = lf_bt (x0) 12) → (lo_C (s'.1 113) (x0) (r) 12) → (0 ≤ r ∧ r ≤ 6) → Q r s') {M4 : Nat} (hX4 : ∀ (x2 : Int) (x3 : Int) (s' : lf_Z), iv_A s'.1 s'.2.2 → lf_fq [113] 1000000 true s.1 s.2.2 s'.1 s'.2.2 → 0 ≤ x2 ∧ x2 ≤ 6 → 0 ≤ x3 ∧ x3 ≤ 12 → (x2 = lf_bt (x0) (x3)) → (x2 ≤ x3) → (lo_C (s'.1 113) (x0) (x2) (x3)) → (12 - x3).toNat < M4 → X4 x2 x3 s') (hM4 : (12 - x3).toNat ≤ M4) (hI : iv_A s.1 s.2.2) (bx0 : 0 ≤ x0 ∧ x0 ≤ 63) (bx2 : 0 ≤ x2 ∧ x2 ≤ 6) (bx3 : 0 ≤ x3 ∧ x3 ≤ 12) (kv0 : x2 = lf_bt (x0) (x3)) (kv1 : x2 ≤ x3) (kv2 : lo_C (s.1 113) (x0) (x2) (x3)) : fm_301_p4 Q x0 X4 x2 x3 s := by
  unfold fm_301_p4
  refine ⟨(show lf_R x3 from lf_Rof (by omega)), ?_⟩
  refine ⟨fun c3 => ?_, fun c3 => ?_⟩
  · skip
    replace c3 : 12 ≤ x3 := c3
    have b4 : lf_bt (x0) (x3) = lf_bt (x0) 12 := congrArg (lf_bt x0) (by omega)
    have b5 : lo_C ((s.1 113)) (x0) (x2) 12 := lo_CK kv2 (by omega)
    exact hQ x2 s hI (lf_fq_rf) (show x2 = lf_bt (x0) 12 from by omega) (show lo_C ((s.1 113)) (x0) (x2) 12 from by first | with_reducible assumption | assumption) (show (0 : Int) ≤ x2 ∧ x2 ≤ (6 : Int) from by omega)
  · skip
    replace c3 : ¬ (12 ≤ x3) := c3
    have b6 : lf_bt (x0) (x3 + 1) = lf_bt (x0) (x3) + lf_and (lf_shr (x0) (x3)) 1 := lf_btS (by omega)
    have b7 : 0 ≤ lf_and (lf_shr (x0) (x3)) 1 ∧ lf_and (lf_shr (x0) (x3)) 1 ≤ 1 := lf_and01
    refine sm_210 hI (show (-2147483648 : Int) ≤ x0 ∧ x0 ≤ (2147483647 : Int) from by omega) (show (-1 : Int) ≤ x3 ∧ x3 ≤ (15 : Int) from by omega) (fun z23 q8 => ?_)
    refine ⟨fun c9 => ?_, fun c9 => ?_⟩
    · skip
      have dc9 := q8.1 c9
      have b10 : 64 ≤ x0 ∨ x0 < 0 ∨ x3 < 0 ∨ 31 < x3 ∨ x3 < 6 := lf_hasB (by omega)
      refine ⟨(show (0 : Int) ≤ x2 ∧ x2 < (6 : Int) from by omega), ?_⟩
      have hI11 : iv_A (lf_up s.1 113 x2 x3) s.2.2 := iv_w113 hI (by omega)
      have fr12 : lf_fq [113] 1000000 true s.1 s.2.2 (lf_up s.1 113 x2 x3) s.2.2 := lf_fq_up (lf_fq_rf) rfl (fun h => absurd h (by decide))
      have b13 : lo_C (((lf_up s.1 113 x2 x3) 113)) (x0) ((x2 + 1)) (x3 + 1) := by first | exact lo_C1 kv2 (by omega) lf_up_s (fun j hj => lf_up_i hj) | exact lo_C0 kv2 (by omega)
      exact sm_301_p28 (s0 := s0) (fun r9 t9 i9 f9 => hQ r9 t9 i9 (lf_fq_tr fr12 f9)) (fun p0 p1 t9 i9 f9 => hX4 p0 p1 t9 i9 (lf_fq_tr fr12 f9)) (show (12 - x3).toNat ≤ M4 from by omega) hI11 (show (0 : Int) ≤ x0 ∧ x0 ≤ (63 : Int) from by omega) (show (0 : Int) ≤ x2 + 1 ∧ x2 + 1 ≤ (6 : Int) from by omega) (show (0 : Int) ≤ x3 ∧ x3 ≤ (11 : Int) from by omega) (show (x2 + 1) = lf_bt (x0) (x3 + 1) from by omega) (show (x2 + 1) ≤ x3 + 1 from by omega) (show lo_C (((lf_up s.1 113 x2 x3) 113)) (x0) ((x2 + 1)) (x3 + 1) from by first | with_reducible assumption | assumption)
    · skip
      have dc9 := q8.2 c9
      have b16 : lo_C ((s.1 113)) (x0) (x2) (x3 + 1) := by first | exact lo_C1 kv2 (by omega) lf_up_s (fun j hj => lf_up_i hj) | exact lo_C0 kv2 (by omega)
      exact sm_301_p28 (s0 := s0) hQ hX4 (show (12 - x3).toNat ≤ M4 from by omega) hI (show (0 : Int) ≤ x0 ∧ x0 ≤ (63 : Int) from by omega) (show (0 : Int) ≤ x2 ∧ x2 ≤ (6 : Int) from by omega) (show (0 : Int) ≤ x3 ∧ x3 ≤ (11 : Int) from by omega) (show x2 = lf_bt (x0) (x3 + 1) from by omega) (show x2 ≤ x3 + 1 from by omega) (show lo_C ((s.1 113)) (x0) (x2) (x3 + 1) from by first | with_reducible assumption | assumption)
theorem sm_301_p4L {Q : Int → lf_Z → Prop} {x0 : Int} {x2 : Int} {x3 : Int} {s : lf_Z} {s0 : lf_Z} (hQ : ∀ (r : Int) (s' : lf_Z), iv_A s'.1 s'.2.2 → lf_fq [113] 1000000 true s.1 s.2.2 s'.1 s'.2.2 → (r = lf_bt (x0) 12) → (lo_C (s'.1 113) (x0) (r) 12) → (0 ≤ r ∧ r ≤ 6) → Q r s') (hI : iv_A s.1 s.2.2) (bx0 : 0 ≤ x0 ∧ x0 ≤ 63) (bx2 : 0 ≤ x2 ∧ x2 ≤ 6) (bx3 : 0 ≤ x3 ∧ x3 ≤ 12) (kv0 : x2 = lf_bt (x0) (x3)) (kv1 : x2 ≤ x3) (kv2 : lo_C (s.1 113) (x0) (x2) (x3)) : fm_301_p4L Q x0 x2 x3 s := by
  intro X4 hX
  have key : ∀ (m9 : Nat) (x2 : Int) (x3 : Int) (s' : lf_Z), iv_A s'.1 s'.2.2 → lf_fq [113] 1000000 true s.1 s.2.2 s'.1 s'.2.2 → 0 ≤ x2 ∧ x2 ≤ 6 → 0 ≤ x3 ∧ x3 ≤ 12 → (x2 = lf_bt (x0) (x3)) → (x2 ≤ x3) → (lo_C (s'.1 113) (x0) (x2) (x3)) → (12 - x3).toNat < m9 → X4 x2 x3 s' := by
    intro m9
    induction m9 with
    | zero => intro x2 x3 s' _ _ bx2 bx3 kv0 kv1 kv2 h9; exact absurd h9 (Nat.not_lt_zero _)
    | succ m9 ih => intro x2 x3 s' i7 f7 bx2 bx3 kv0 kv1 kv2 h9; exact hX _ _ _ (sm_301_p4 (s0 := s0) (fun r9 t9 i9 f9 => hQ r9 t9 i9 (lf_fq_tr f7 f9))   (fun x2' x3' t8 i8 f8 bx2' bx3' kv0' kv1' kv2' h8 => ih x2' x3' t8 i8 (lf_fq_tr f7 f8) bx2' bx3' kv0' kv1' kv2' (by omega)) (Nat.le_refl _)  i7  bx0 bx2 bx3  kv0 kv1 kv2)
  exact key _ _ _ s hI lf_fq_rf bx2 bx3 kv0 kv1 kv2 (Nat.lt_succ_self _)
theorem sm_301 {a0 : Int} {Q : Int → lf_Z → Prop} {s : lf_Z} (hI : iv_A s.1 s.2.2) (ba0 : 0 ≤ a0 ∧ a0 ≤ 63) (hQ : ∀ (r : Int) (s' : lf_Z), iv_A s'.1 s'.2.2 → lf_fq [113] 1000000 true s.1 s.2.2 s'.1 s'.2.2 → (r = lf_bt (a0) 12) → (lo_C (s'.1 113) (a0) (r) 12) → (0 ≤ r ∧ r ≤ 6) → Q r s') : fm_301 a0 Q s := by
  unfold fm_301
  have b1 : lf_bt (a0) 0 = 0 := rfl
  have b2 : lo_C ((s.1 113)) (a0) (0) (0) := by first | with_reducible assumption | exact (fun q a b => by omega)
  exact sm_301_p4L (s0 := s) hQ hI (show (0 : Int) ≤ a0 ∧ a0 ≤ (63 : Int) from by omega) (show (0 : Int) ≤ 0 ∧ 0 ≤ (6 : Int) from by omega) (show (0 : Int) ≤ 0 ∧ 0 ≤ (12 : Int) from by omega) (show 0 = lf_bt (a0) (0) from by omega) (show 0 ≤ 0 from by omega) (show lo_C ((s.1 113)) (a0) (0) (0) from by first | with_reducible assumption | assumption)
-- fm_301b Model.layOut i 114
theorem sm_301b_p28 {X4 : Int → Int → lf_Z → Prop} {Q : Int → lf_Z → Prop} {x0 : Int} {x2 : Int} {x3 : Int} {s : lf_Z} {s0 : lf_Z} (hQ : ∀ (r : Int) (s' : lf_Z), iv_A s'.1 s'.2.2 → lf_fq [114] 1000000 true s.1 s.2.2 s'.1 s'.2.2 → (r = lf_bt (x0) 12) → (lo_C (s'.1 114) (x0) (r) 12) → (0 ≤ r ∧ r ≤ 12) → Q r s') {M4 : Nat} (hX4 : ∀ (x2 : Int) (x3 : Int) (s' : lf_Z), iv_A s'.1 s'.2.2 → lf_fq [114] 1000000 true s.1 s.2.2 s'.1 s'.2.2 → 0 ≤ x2 ∧ x2 ≤ 12 → 0 ≤ x3 ∧ x3 ≤ 12 → (x2 = lf_bt (x0) (x3)) → (x2 ≤ x3) → (lo_C (s'.1 114) (x0) (x2) (x3)) → (12 - x3).toNat < M4 → X4 x2 x3 s') (hM4 : (12 - x3).toNat ≤ M4) (hI : iv_A s.1 s.2.2) (bx0 : 0 ≤ x0 ∧ x0 ≤ 4095) (bx2 : 0 ≤ x2 ∧ x2 ≤ 12) (bx3 : 0 ≤ x3 ∧ x3 ≤ 11) (kv0 : x2 = lf_bt (x0) (x3 + 1)) (kv1 : x2 ≤ x3 + 1) (kv2 : lo_C (s.1 114) (x0) (x2) (x3 + 1)) : fm_301b_p28 X4 Q x0 x2 x3 s := by
  unfold fm_301b_p28
  have b14 : lf_bt (x0) 0 = 0 := rfl
  have b15 : lo_C ((s.1 114)) (x0) (x2) ((x3 + 1)) := by first | with_reducible assumption | exact (fun q a b => by omega)
  exact hX4 (x2) (x3 + 1) s hI (lf_fq_rf) (show (0 : Int) ≤ x2 ∧ x2 ≤ (12 : Int) from by omega) (show (0 : Int) ≤ x3 + 1 ∧ x3 + 1 ≤ (12 : Int) from by omega) (show x2 = lf_bt (x0) ((x3 + 1)) from by omega) (show x2 ≤ (x3 + 1) from by omega) (show lo_C ((s.1 114)) (x0) (x2) ((x3 + 1)) from by first | with_reducible assumption | assumption) (show (12 - (x3 + 1)).toNat < M4 from by omega)
theorem sm_301b_p4 {X4 : Int → Int → lf_Z → Prop} {Q : Int → lf_Z → Prop} {x0 : Int} {x2 : Int} {x3 : Int} {s : lf_Z} {s0 : lf_Z} (hQ : ∀ (r : Int) (s' : lf_Z), iv_A s'.1 s'.2.2 → lf_fq [114] 1000000 true s.1 s.2.2 s'.1 s'.2.2 → (r = lf_bt (x0) 12) → (lo_C (s'.1 114) (x0) (r) 12) → (0 ≤ r ∧ r ≤ 12) → Q r s') {M4 : Nat} (hX4 : ∀ (x2 : Int) (x3 : Int) (s' : lf_Z), iv_A s'.1 s'.2.2 → lf_fq [114] 1000000 true s.1 s.2.2 s'.1 s'.2.2 → 0 ≤ x2 ∧ x2 ≤ 12 → 0 ≤ x3 ∧ x3 ≤ 12 → (x2 = lf_bt (x0) (x3)) → (x2 ≤ x3) → (lo_C (s'.1 114) (x0) (x2) (x3)) → (12 - x3).toNat < M4 → X4 x2 x3 s') (hM4 : (12 - x3).toNat ≤ M4) (hI : iv_A s.1 s.2.2) (bx0 : 0 ≤ x0 ∧ x0 ≤ 4095) (bx2 : 0 ≤ x2 ∧ x2 ≤ 12) (bx3 : 0 ≤ x3 ∧ x3 ≤ 12) (kv0 : x2 = lf_bt (x0) (x3)) (kv1 : x2 ≤ x3) (kv2 : lo_C (s.1 114) (x0) (x2) (x3)) : fm_301b_p4 Q x0 X4 x2 x3 s := by
  unfold fm_301b_p4
  refine ⟨(show lf_R x3 from lf_Rof (by omega)), ?_⟩
  refine ⟨fun c3 => ?_, fun c3 => ?_⟩
  · skip
    replace c3 : 12 ≤ x3 := c3
    have b4 : lf_bt (x0) (x3) = lf_bt (x0) 12 := congrArg (lf_bt x0) (by omega)
    have b5 : lo_C ((s.1 114)) (x0) (x2) 12 := lo_CK kv2 (by omega)
    exact hQ x2 s hI (lf_fq_rf) (show x2 = lf_bt (x0) 12 from by omega) (show lo_C ((s.1 114)) (x0) (x2) 12 from by first | with_reducible assumption | assumption) (show (0 : Int) ≤ x2 ∧ x2 ≤ (12 : Int) from by omega)
  · skip
    replace c3 : ¬ (12 ≤ x3) := c3
    have b6 : lf_bt (x0) (x3 + 1) = lf_bt (x0) (x3) + lf_and (lf_shr (x0) (x3)) 1 := lf_btS (by omega)
    have b7 : 0 ≤ lf_and (lf_shr (x0) (x3)) 1 ∧ lf_and (lf_shr (x0) (x3)) 1 ≤ 1 := lf_and01
    refine sm_210 hI (show (-2147483648 : Int) ≤ x0 ∧ x0 ≤ (2147483647 : Int) from by omega) (show (-1 : Int) ≤ x3 ∧ x3 ≤ (15 : Int) from by omega) (fun z23 q8 => ?_)
    refine ⟨fun c9 => ?_, fun c9 => ?_⟩
    · skip
      have dc9 := q8.1 c9
      have b10 : 64 ≤ x0 ∨ x0 < 0 ∨ x3 < 0 ∨ 31 < x3 ∨ x3 < 6 := lf_hasB (by omega)
      refine ⟨(show (0 : Int) ≤ x2 ∧ x2 < (12 : Int) from by omega), ?_⟩
      have hI11 : iv_A (lf_up s.1 114 x2 x3) s.2.2 := iv_w114 hI (by omega)
      have fr12 : lf_fq [114] 1000000 true s.1 s.2.2 (lf_up s.1 114 x2 x3) s.2.2 := lf_fq_up (lf_fq_rf) rfl (fun h => absurd h (by decide))
      have b13 : lo_C (((lf_up s.1 114 x2 x3) 114)) (x0) ((x2 + 1)) (x3 + 1) := by first | exact lo_C1 kv2 (by omega) lf_up_s (fun j hj => lf_up_i hj) | exact lo_C0 kv2 (by omega)
      exact sm_301b_p28 (s0 := s0) (fun r9 t9 i9 f9 => hQ r9 t9 i9 (lf_fq_tr fr12 f9)) (fun p0 p1 t9 i9 f9 => hX4 p0 p1 t9 i9 (lf_fq_tr fr12 f9)) (show (12 - x3).toNat ≤ M4 from by omega) hI11 (show (0 : Int) ≤ x0 ∧ x0 ≤ (4095 : Int) from by omega) (show (0 : Int) ≤ x2 + 1 ∧ x2 + 1 ≤ (12 : Int) from by omega) (show (0 : Int) ≤ x3 ∧ x3 ≤ (11 : Int) from by omega) (show (x2 + 1) = lf_bt (x0) (x3 + 1) from by omega) (show (x2 + 1) ≤ x3 + 1 from by omega) (show lo_C (((lf_up s.1 114 x2 x3) 114)) (x0) ((x2 + 1)) (x3 + 1) from by first | with_reducible assumption | assumption)
    · skip
      have dc9 := q8.2 c9
      have b16 : lo_C ((s.1 114)) (x0) (x2) (x3 + 1) := by first | exact lo_C1 kv2 (by omega) lf_up_s (fun j hj => lf_up_i hj) | exact lo_C0 kv2 (by omega)
      exact sm_301b_p28 (s0 := s0) hQ hX4 (show (12 - x3).toNat ≤ M4 from by omega) hI (show (0 : Int) ≤ x0 ∧ x0 ≤ (4095 : Int) from by omega) (show (0 : Int) ≤ x2 ∧ x2 ≤ (12 : Int) from by omega) (show (0 : Int) ≤ x3 ∧ x3 ≤ (11 : Int) from by omega) (show x2 = lf_bt (x0) (x3 + 1) from by omega) (show x2 ≤ x3 + 1 from by omega) (show lo_C ((s.1 114)) (x0) (x2) (x3 + 1) from by first | with_reducible assumption | assumption)
theorem sm_301b_p4L {Q : Int → lf_Z → Prop} {x0 : Int} {x2 : Int} {x3 : Int} {s : lf_Z} {s0 : lf_Z} (hQ : ∀ (r : Int) (s' : lf_Z), iv_A s'.1 s'.2.2 → lf_fq [114] 1000000 true s.1 s.2.2 s'.1 s'.2.2 → (r = lf_bt (x0) 12) → (lo_C (s'.1 114) (x0) (r) 12) → (0 ≤ r ∧ r ≤ 12) → Q r s') (hI : iv_A s.1 s.2.2) (bx0 : 0 ≤ x0 ∧ x0 ≤ 4095) (bx2 : 0 ≤ x2 ∧ x2 ≤ 12) (bx3 : 0 ≤ x3 ∧ x3 ≤ 12) (kv0 : x2 = lf_bt (x0) (x3)) (kv1 : x2 ≤ x3) (kv2 : lo_C (s.1 114) (x0) (x2) (x3)) : fm_301b_p4L Q x0 x2 x3 s := by
  intro X4 hX
  have key : ∀ (m9 : Nat) (x2 : Int) (x3 : Int) (s' : lf_Z), iv_A s'.1 s'.2.2 → lf_fq [114] 1000000 true s.1 s.2.2 s'.1 s'.2.2 → 0 ≤ x2 ∧ x2 ≤ 12 → 0 ≤ x3 ∧ x3 ≤ 12 → (x2 = lf_bt (x0) (x3)) → (x2 ≤ x3) → (lo_C (s'.1 114) (x0) (x2) (x3)) → (12 - x3).toNat < m9 → X4 x2 x3 s' := by
    intro m9
    induction m9 with
    | zero => intro x2 x3 s' _ _ bx2 bx3 kv0 kv1 kv2 h9; exact absurd h9 (Nat.not_lt_zero _)
    | succ m9 ih => intro x2 x3 s' i7 f7 bx2 bx3 kv0 kv1 kv2 h9; exact hX _ _ _ (sm_301b_p4 (s0 := s0) (fun r9 t9 i9 f9 => hQ r9 t9 i9 (lf_fq_tr f7 f9))   (fun x2' x3' t8 i8 f8 bx2' bx3' kv0' kv1' kv2' h8 => ih x2' x3' t8 i8 (lf_fq_tr f7 f8) bx2' bx3' kv0' kv1' kv2' (by omega)) (Nat.le_refl _)  i7  bx0 bx2 bx3  kv0 kv1 kv2)
  exact key _ _ _ s hI lf_fq_rf bx2 bx3 kv0 kv1 kv2 (Nat.lt_succ_self _)
theorem sm_301b {a0 : Int} {Q : Int → lf_Z → Prop} {s : lf_Z} (hI : iv_A s.1 s.2.2) (ba0 : 0 ≤ a0 ∧ a0 ≤ 4095) (hQ : ∀ (r : Int) (s' : lf_Z), iv_A s'.1 s'.2.2 → lf_fq [114] 1000000 true s.1 s.2.2 s'.1 s'.2.2 → (r = lf_bt (a0) 12) → (lo_C (s'.1 114) (a0) (r) 12) → (0 ≤ r ∧ r ≤ 12) → Q r s') : fm_301b a0 Q s := by
  unfold fm_301b
  have b1 : lf_bt (a0) 0 = 0 := rfl
  have b2 : lo_C ((s.1 114)) (a0) (0) (0) := by first | with_reducible assumption | exact (fun q a b => by omega)
  exact sm_301b_p4L (s0 := s) hQ hI (show (0 : Int) ≤ a0 ∧ a0 ≤ (4095 : Int) from by omega) (show (0 : Int) ≤ 0 ∧ 0 ≤ (12 : Int) from by omega) (show (0 : Int) ≤ 0 ∧ 0 ≤ (12 : Int) from by omega) (show 0 = lf_bt (a0) (0) from by omega) (show 0 ≤ 0 from by omega) (show lo_C ((s.1 114)) (a0) (0) (0) from by first | with_reducible assumption | assumption)
