-- fm_261 Model.findFar 95 i i
theorem sm_261_p174 {X34 : Int → lf_Z → Prop} {X47 : Int → lf_Z → Prop} {Q : lf_Z → Prop} {x2 : Int} {x3 : Int} {x4 : Int} {s : lf_Z} (hQ : ∀  (s' : lf_Z), iv_A s'.1 s'.2.2 → lf_fq [108] 1000000 true s.1 s.2.2 s'.1 s'.2.2 → Q  s') {M34 : Nat} (hX34 : ∀ (x3 : Int) (s' : lf_Z), iv_A s'.1 s'.2.2 → lf_fq [108] 1000000 true s.1 s.2.2 s'.1 s'.2.2 → 0 ≤ x3 ∧ x3 ≤ 12 → (12 - x3).toNat < M34 → X34 x3 s') (hM34 : (12 - x3).toNat ≤ M34) {M47 : Nat} (hX47 : ∀ (x4 : Int) (s' : lf_Z), iv_A s'.1 s'.2.2 → lf_fq [108] 1000000 true s.1 s.2.2 s'.1 s'.2.2 → 0 ≤ x4 ∧ x4 ≤ 16 → (16 - x4).toNat < M47 → X47 x4 s') (hM47 : (16 - x4).toNat ≤ M47) (hI : iv_A s.1 s.2.2) (bx2 : 0 ≤ x2 ∧ x2 ≤ 1) (bx3 : 0 ≤ x3 ∧ x3 ≤ 11) (bx4 : 0 ≤ x4 ∧ x4 ≤ 15) : fm_261_p174 X34 X47 Q x2 x3 x4 s := by
  unfold fm_261_p174
  exact hX47 (x4 + 1) s hI (lf_fq_rf) (show (0 : Int) ≤ x4 + 1 ∧ x4 + 1 ≤ (16 : Int) from by omega) (show (16 - (x4 + 1)).toNat < M47 from by omega)
theorem sm_261_p139 {X34 : Int → lf_Z → Prop} {X47 : Int → lf_Z → Prop} {Q : lf_Z → Prop} {x2 : Int} {x3 : Int} {x4 : Int} {x5 : Int} {x6 : Int} {s : lf_Z} (hQ : ∀  (s' : lf_Z), iv_A s'.1 s'.2.2 → lf_fq [108] 1000000 true s.1 s.2.2 s'.1 s'.2.2 → Q  s') {M34 : Nat} (hX34 : ∀ (x3 : Int) (s' : lf_Z), iv_A s'.1 s'.2.2 → lf_fq [108] 1000000 true s.1 s.2.2 s'.1 s'.2.2 → 0 ≤ x3 ∧ x3 ≤ 12 → (12 - x3).toNat < M34 → X34 x3 s') (hM34 : (12 - x3).toNat ≤ M34) {M47 : Nat} (hX47 : ∀ (x4 : Int) (s' : lf_Z), iv_A s'.1 s'.2.2 → lf_fq [108] 1000000 true s.1 s.2.2 s'.1 s'.2.2 → 0 ≤ x4 ∧ x4 ≤ 16 → (16 - x4).toNat < M47 → X47 x4 s') (hM47 : (16 - x4).toNat ≤ M47) (hI : iv_A s.1 s.2.2) (bx2 : 0 ≤ x2 ∧ x2 ≤ 1) (bx3 : 0 ≤ x3 ∧ x3 ≤ 11) (bx4 : 0 ≤ x4 ∧ x4 ≤ 15) (bx5 : 0 ≤ x5 ∧ x5 ≤ 11) (bx6 : 0 ≤ x6 ∧ x6 ≤ 11) : fm_261_p139 X34 X47 Q x2 x3 x4 x5 x6 s := by
  unfold fm_261_p139
  refine ⟨(show (0 : Int) ≤ x6 ∧ x6 < (12 : Int) from by omega), ?_⟩
  have b14 : 0 ≤ s.1 108 x6 ∧ s.1 108 x6 ≤ 1000 := iv_r108 hI _
  refine ⟨(show (0 : Int) ≤ x5 ∧ x5 < (12 : Int) from by omega), ?_⟩
  have b15 : 0 ≤ s.1 108 x5 ∧ s.1 108 x5 ≤ 1000 := iv_r108 hI _
  refine ⟨(show lf_R ((s.1 108 x6) + 1) from lf_Rof (by omega)), ?_⟩
  refine ⟨(show lf_R (s.1 108 x5) from lf_Rof (by omega)), ?_⟩
  refine ⟨fun c16 => ?_, fun c16 => ?_⟩
  · skip
    have c16 : s.1 108 x5 ≤ (s.1 108 x6) + 1 := c16
    exact sm_261_p174 hQ hX34 (show (12 - x3).toNat ≤ M34 from by omega) hX47 (show (16 - x4).toNat ≤ M47 from by omega) hI (show (0 : Int) ≤ x2 ∧ x2 ≤ (1 : Int) from by omega) (show (0 : Int) ≤ x3 ∧ x3 ≤ (11 : Int) from by omega) (show (0 : Int) ≤ x4 ∧ x4 ≤ (15 : Int) from by omega)
  · skip
    have c16 : ¬ (s.1 108 x5 ≤ (s.1 108 x6) + 1) := c16
    have hI17 : iv_A (lf_up s.1 108 x5 ((s.1 108 x6) + 1)) s.2.2 := iv_w108 hI (by omega)
    have fr18 : lf_fq [108] 1000000 true s.1 s.2.2 (lf_up s.1 108 x5 ((s.1 108 x6) + 1)) s.2.2 := lf_fq_up (lf_fq_rf) rfl (fun h => absurd h (by decide))
    exact sm_261_p174 (fun t9 i9 f9 => hQ t9 i9 (lf_fq_tr fr18 f9)) (fun p0 t9 i9 f9 => hX34 p0 t9 i9 (lf_fq_tr fr18 f9)) (show (12 - x3).toNat ≤ M34 from by omega) (fun p0 t9 i9 f9 => hX47 p0 t9 i9 (lf_fq_tr fr18 f9)) (show (16 - x4).toNat ≤ M47 from by omega) hI17 (show (0 : Int) ≤ x2 ∧ x2 ≤ (1 : Int) from by omega) (show (0 : Int) ≤ x3 ∧ x3 ≤ (11 : Int) from by omega) (show (0 : Int) ≤ x4 ∧ x4 ≤ (15 : Int) from by omega)
theorem sm_261_p74 {X34 : Int → lf_Z → Prop} {X47 : Int → lf_Z → Prop} {Q : lf_Z → Prop} {x2 : Int} {x3 : Int} {x4 : Int} {s : lf_Z} (hQ : ∀  (s' : lf_Z), iv_A s'.1 s'.2.2 → lf_fq [108] 1000000 true s.1 s.2.2 s'.1 s'.2.2 → Q  s') {M34 : Nat} (hX34 : ∀ (x3 : Int) (s' : lf_Z), iv_A s'.1 s'.2.2 → lf_fq [108] 1000000 true s.1 s.2.2 s'.1 s'.2.2 → 0 ≤ x3 ∧ x3 ≤ 12 → (12 - x3).toNat < M34 → X34 x3 s') (hM34 : (12 - x3).toNat ≤ M34) {M47 : Nat} (hX47 : ∀ (x4 : Int) (s' : lf_Z), iv_A s'.1 s'.2.2 → lf_fq [108] 1000000 true s.1 s.2.2 s'.1 s'.2.2 → 0 ≤ x4 ∧ x4 ≤ 16 → (16 - x4).toNat < M47 → X47 x4 s') (hM47 : (16 - x4).toNat ≤ M47) (hI : iv_A s.1 s.2.2) (bx2 : 0 ≤ x2 ∧ x2 ≤ 1) (bx3 : 0 ≤ x3 ∧ x3 ≤ 11) (bx4 : 0 ≤ x4 ∧ x4 ≤ 15) : fm_261_p74 X34 X47 Q x2 x3 x4 s := by
  unfold fm_261_p74
  refine ⟨(show (0 : Int) ≤ 50 + (4 * x4) ∧ 50 + (4 * x4) < (1538 : Int) from by omega), ?_⟩
  have b9 : 0 ≤ s.1 96 (50 + (4 * x4)) ∧ s.1 96 (50 + (4 * x4)) ≤ 11 := iv_rd96 hI (iv_f76190a29 (x4) (by omega) (by omega))
  refine ⟨(show (0 : Int) ≤ (50 + (4 * x4)) + 1 ∧ (50 + (4 * x4)) + 1 < (1538 : Int) from by omega), ?_⟩
  have b10 : 0 ≤ s.1 96 ((50 + (4 * x4)) + 1) ∧ s.1 96 ((50 + (4 * x4)) + 1) ≤ 11 := iv_rd96 hI (iv_fba8b7512 (x4) (by omega) (by omega))
  refine ⟨(show (0 : Int) ≤ s.1 96 (50 + (4 * x4)) ∧ s.1 96 (50 + (4 * x4)) < (12 : Int) from by omega), ?_⟩
  have b11 : 0 ≤ s.1 108 (s.1 96 (50 + (4 * x4))) ∧ s.1 108 (s.1 96 (50 + (4 * x4))) ≤ 1000 := iv_r108 hI _
  refine ⟨(show (0 : Int) ≤ s.1 96 ((50 + (4 * x4)) + 1) ∧ s.1 96 ((50 + (4 * x4)) + 1) < (12 : Int) from by omega), ?_⟩
  have b12 : 0 ≤ s.1 108 (s.1 96 ((50 + (4 * x4)) + 1)) ∧ s.1 108 (s.1 96 ((50 + (4 * x4)) + 1)) ≤ 1000 := iv_r108 hI _
  refine ⟨(show lf_R ((s.1 108 (s.1 96 (50 + (4 * x4)))) + 1) from lf_Rof (by omega)), ?_⟩
  refine ⟨(show lf_R (s.1 108 (s.1 96 ((50 + (4 * x4)) + 1))) from lf_Rof (by omega)), ?_⟩
  refine ⟨fun c13 => ?_, fun c13 => ?_⟩
  · skip
    have c13 : s.1 108 (s.1 96 ((50 + (4 * x4)) + 1)) ≤ (s.1 108 (s.1 96 (50 + (4 * x4)))) + 1 := c13
    exact sm_261_p139 hQ hX34 (show (12 - x3).toNat ≤ M34 from by omega) hX47 (show (16 - x4).toNat ≤ M47 from by omega) hI (show (0 : Int) ≤ x2 ∧ x2 ≤ (1 : Int) from by omega) (show (0 : Int) ≤ x3 ∧ x3 ≤ (11 : Int) from by omega) (show (0 : Int) ≤ x4 ∧ x4 ≤ (15 : Int) from by omega) (show (0 : Int) ≤ s.1 96 (50 + (4 * x4)) ∧ s.1 96 (50 + (4 * x4)) ≤ (11 : Int) from by omega) (show (0 : Int) ≤ s.1 96 ((50 + (4 * x4)) + 1) ∧ s.1 96 ((50 + (4 * x4)) + 1) ≤ (11 : Int) from by omega)
  · skip
    have c13 : ¬ (s.1 108 (s.1 96 ((50 + (4 * x4)) + 1)) ≤ (s.1 108 (s.1 96 (50 + (4 * x4)))) + 1) := c13
    have hI19 : iv_A (lf_up s.1 108 (s.1 96 ((50 + (4 * x4)) + 1)) ((s.1 108 (s.1 96 (50 + (4 * x4)))) + 1)) s.2.2 := iv_w108 hI (by omega)
    have fr20 : lf_fq [108] 1000000 true s.1 s.2.2 (lf_up s.1 108 (s.1 96 ((50 + (4 * x4)) + 1)) ((s.1 108 (s.1 96 (50 + (4 * x4)))) + 1)) s.2.2 := lf_fq_up (lf_fq_rf) rfl (fun h => absurd h (by decide))
    exact sm_261_p139 (fun t9 i9 f9 => hQ t9 i9 (lf_fq_tr fr20 f9)) (fun p0 t9 i9 f9 => hX34 p0 t9 i9 (lf_fq_tr fr20 f9)) (show (12 - x3).toNat ≤ M34 from by omega) (fun p0 t9 i9 f9 => hX47 p0 t9 i9 (lf_fq_tr fr20 f9)) (show (16 - x4).toNat ≤ M47 from by omega) hI19 (show (0 : Int) ≤ x2 ∧ x2 ≤ (1 : Int) from by omega) (show (0 : Int) ≤ x3 ∧ x3 ≤ (11 : Int) from by omega) (show (0 : Int) ≤ x4 ∧ x4 ≤ (15 : Int) from by omega) (show (0 : Int) ≤ s.1 96 (50 + (4 * x4)) ∧ s.1 96 (50 + (4 * x4)) ≤ (11 : Int) from by omega) (show (0 : Int) ≤ s.1 96 ((50 + (4 * x4)) + 1) ∧ s.1 96 ((50 + (4 * x4)) + 1) ≤ (11 : Int) from by omega)
theorem sm_261_p47 {X34 : Int → lf_Z → Prop} {X47 : Int → lf_Z → Prop} {Q : lf_Z → Prop} {x2 : Int} {x3 : Int} {x4 : Int} {s : lf_Z} (hQ : ∀  (s' : lf_Z), iv_A s'.1 s'.2.2 → lf_fq [108] 1000000 true s.1 s.2.2 s'.1 s'.2.2 → Q  s') {M34 : Nat} (hX34 : ∀ (x3 : Int) (s' : lf_Z), iv_A s'.1 s'.2.2 → lf_fq [108] 1000000 true s.1 s.2.2 s'.1 s'.2.2 → 0 ≤ x3 ∧ x3 ≤ 12 → (12 - x3).toNat < M34 → X34 x3 s') (hM34 : (12 - x3).toNat ≤ M34) {M47 : Nat} (hX47 : ∀ (x4 : Int) (s' : lf_Z), iv_A s'.1 s'.2.2 → lf_fq [108] 1000000 true s.1 s.2.2 s'.1 s'.2.2 → 0 ≤ x4 ∧ x4 ≤ 16 → (16 - x4).toNat < M47 → X47 x4 s') (hM47 : (16 - x4).toNat ≤ M47) (hI : iv_A s.1 s.2.2) (bx2 : 0 ≤ x2 ∧ x2 ≤ 1) (bx3 : 0 ≤ x3 ∧ x3 ≤ 11) (bx4 : 0 ≤ x4 ∧ x4 ≤ 16) : fm_261_p47 X34 Q x2 x3 X47 x4 s := by
  unfold fm_261_p47
  have b4 : 0 ≤ s.1 96 1 ∧ s.1 96 1 ≤ 16 := iv_rd96 hI (iv_fd6ad3e54 (by omega))
  have b5 : s.1 96 1 ≤ 0 ∨ 0 < s.1 96 0 := iv_l96_1 hI
  refine ⟨(show lf_R x4 from lf_Rof (by omega)), ?_⟩
  refine ⟨(show lf_R (s.1 96 1) from lf_Rof (by omega)), ?_⟩
  refine ⟨fun c6 => ?_, fun c6 => ?_⟩
  · skip
    have c6 : s.1 96 1 ≤ x4 := c6
    exact hX34 (x3 + 1) s hI (lf_fq_rf) (show (0 : Int) ≤ x3 + 1 ∧ x3 + 1 ≤ (12 : Int) from by omega) (show (12 - (x3 + 1)).toNat < M34 from by omega)
  · skip
    have c6 : ¬ (s.1 96 1 ≤ x4) := c6
    refine sm_252 hI (show (0 : Int) ≤ x4 ∧ x4 ≤ (15 : Int) from by omega) (fun z27 => ?_)
    refine ⟨fun c8 => ?_, fun c8 => ?_⟩
    · skip
      exact sm_261_p74 hQ hX34 (show (12 - x3).toNat ≤ M34 from by omega) hX47 (show (16 - x4).toNat ≤ M47 from by omega) hI (show (0 : Int) ≤ x2 ∧ x2 ≤ (1 : Int) from by omega) (show (0 : Int) ≤ x3 ∧ x3 ≤ (11 : Int) from by omega) (show (0 : Int) ≤ x4 ∧ x4 ≤ (15 : Int) from by omega)
    · skip
      refine ⟨(show lf_R x2 from lf_Rof (by omega)), ?_⟩
      refine ⟨fun c21 => ?_, fun c21 => ?_⟩
      · skip
        have c21 : x2 ≠ 0 := c21
        exact sm_261_p74 hQ hX34 (show (12 - x3).toNat ≤ M34 from by omega) hX47 (show (16 - x4).toNat ≤ M47 from by omega) hI (show (0 : Int) ≤ x2 ∧ x2 ≤ (1 : Int) from by omega) (show (0 : Int) ≤ x3 ∧ x3 ≤ (11 : Int) from by omega) (show (0 : Int) ≤ x4 ∧ x4 ≤ (15 : Int) from by omega)
      · skip
        have c21 : ¬ (x2 ≠ 0) := c21
        exact sm_261_p174 hQ hX34 (show (12 - x3).toNat ≤ M34 from by omega) hX47 (show (16 - x4).toNat ≤ M47 from by omega) hI (show (0 : Int) ≤ x2 ∧ x2 ≤ (1 : Int) from by omega) (show (0 : Int) ≤ x3 ∧ x3 ≤ (11 : Int) from by omega) (show (0 : Int) ≤ x4 ∧ x4 ≤ (15 : Int) from by omega)
theorem sm_261_p47L {X34 : Int → lf_Z → Prop} {Q : lf_Z → Prop} {x2 : Int} {x3 : Int} {x4 : Int} {s : lf_Z} (hQ : ∀  (s' : lf_Z), iv_A s'.1 s'.2.2 → lf_fq [108] 1000000 true s.1 s.2.2 s'.1 s'.2.2 → Q  s') {M34 : Nat} (hX34 : ∀ (x3 : Int) (s' : lf_Z), iv_A s'.1 s'.2.2 → lf_fq [108] 1000000 true s.1 s.2.2 s'.1 s'.2.2 → 0 ≤ x3 ∧ x3 ≤ 12 → (12 - x3).toNat < M34 → X34 x3 s') (hM34 : (12 - x3).toNat ≤ M34) (hI : iv_A s.1 s.2.2) (bx2 : 0 ≤ x2 ∧ x2 ≤ 1) (bx3 : 0 ≤ x3 ∧ x3 ≤ 11) (bx4 : 0 ≤ x4 ∧ x4 ≤ 16) : fm_261_p47L X34 Q x2 x3 x4 s := by
  intro X47 hX
  have key : ∀ (m9 : Nat) (x4 : Int) (s' : lf_Z), iv_A s'.1 s'.2.2 → lf_fq [108] 1000000 true s.1 s.2.2 s'.1 s'.2.2 → 0 ≤ x4 ∧ x4 ≤ 16 → (16 - x4).toNat < m9 → X47 x4 s' := by
    intro m9
    induction m9 with
    | zero => intro x4 s' _ _ bx4 h9; exact absurd h9 (Nat.not_lt_zero _)
    | succ m9 ih => intro x4 s' i7 f7 bx4 h9; exact hX _ _ (sm_261_p47 (fun t9 i9 f9 => hQ t9 i9 (lf_fq_tr f7 f9))  (fun p0 t9 i9 f9 => hX34 p0 t9 i9 (lf_fq_tr f7 f9)) hM34 (fun x4' t8 i8 f8 bx4' h8 => ih x4' t8 i8 (lf_fq_tr f7 f8) bx4' (by omega)) (Nat.le_refl _)  i7  bx2 bx3 bx4  )
  exact key _ _ s hI lf_fq_rf bx4 (Nat.lt_succ_self _)
theorem sm_261_p34 {X34 : Int → lf_Z → Prop} {Q : lf_Z → Prop} {x2 : Int} {x3 : Int} {s : lf_Z} (hQ : ∀  (s' : lf_Z), iv_A s'.1 s'.2.2 → lf_fq [108] 1000000 true s.1 s.2.2 s'.1 s'.2.2 → Q  s') {M34 : Nat} (hX34 : ∀ (x3 : Int) (s' : lf_Z), iv_A s'.1 s'.2.2 → lf_fq [108] 1000000 true s.1 s.2.2 s'.1 s'.2.2 → 0 ≤ x3 ∧ x3 ≤ 12 → (12 - x3).toNat < M34 → X34 x3 s') (hM34 : (12 - x3).toNat ≤ M34) (hI : iv_A s.1 s.2.2) (bx2 : 0 ≤ x2 ∧ x2 ≤ 1) (bx3 : 0 ≤ x3 ∧ x3 ≤ 12) : fm_261_p34 Q x2 X34 x3 s := by
  unfold fm_261_p34
  have b2 : 0 ≤ s.1 96 0 ∧ s.1 96 0 ≤ 12 := iv_rd96 hI (iv_f3e1fa21c (by omega))
  refine ⟨(show lf_R x3 from lf_Rof (by omega)), ?_⟩
  refine ⟨(show lf_R (s.1 96 0) from lf_Rof (by omega)), ?_⟩
  refine ⟨fun c3 => ?_, fun c3 => ?_⟩
  · skip
    have c3 : s.1 96 0 ≤ x3 := c3
    exact hQ s hI (lf_fq_rf)
  · skip
    have c3 : ¬ (s.1 96 0 ≤ x3) := c3
    exact sm_261_p47L hQ hX34 (show (12 - x3).toNat ≤ M34 from by omega) hI (show (0 : Int) ≤ x2 ∧ x2 ≤ (1 : Int) from by omega) (show (0 : Int) ≤ x3 ∧ x3 ≤ (11 : Int) from by omega) (show (0 : Int) ≤ 0 ∧ 0 ≤ (16 : Int) from by omega)
theorem sm_261_p34L {Q : lf_Z → Prop} {x2 : Int} {x3 : Int} {s : lf_Z} (hQ : ∀  (s' : lf_Z), iv_A s'.1 s'.2.2 → lf_fq [108] 1000000 true s.1 s.2.2 s'.1 s'.2.2 → Q  s') (hI : iv_A s.1 s.2.2) (bx2 : 0 ≤ x2 ∧ x2 ≤ 1) (bx3 : 0 ≤ x3 ∧ x3 ≤ 12) : fm_261_p34L Q x2 x3 s := by
  intro X34 hX
  have key : ∀ (m9 : Nat) (x3 : Int) (s' : lf_Z), iv_A s'.1 s'.2.2 → lf_fq [108] 1000000 true s.1 s.2.2 s'.1 s'.2.2 → 0 ≤ x3 ∧ x3 ≤ 12 → (12 - x3).toNat < m9 → X34 x3 s' := by
    intro m9
    induction m9 with
    | zero => intro x3 s' _ _ bx3 h9; exact absurd h9 (Nat.not_lt_zero _)
    | succ m9 ih => intro x3 s' i7 f7 bx3 h9; exact hX _ _ (sm_261_p34 (fun t9 i9 f9 => hQ t9 i9 (lf_fq_tr f7 f9))   (fun x3' t8 i8 f8 bx3' h8 => ih x3' t8 i8 (lf_fq_tr f7 f8) bx3' (by omega)) (Nat.le_refl _)  i7  bx2 bx3  )
  exact key _ _ s hI lf_fq_rf bx3 (Nat.lt_succ_self _)
theorem sm_261_p25 {X2 : Int → lf_Z → Prop} {Q : lf_Z → Prop} {x1 : Int} {x2 : Int} {x3 : Int} {y1 : Int} {y2 : Int} {s : lf_Z} (hQ : ∀  (s' : lf_Z), iv_A s'.1 s'.2.2 → lf_fq [108] 1000000 true s.1 s.2.2 s'.1 s'.2.2 → Q  s') {M2 : Nat} (hX2 : ∀ (x3 : Int) (s' : lf_Z), iv_A s'.1 s'.2.2 → lf_fq [108] 1000000 true s.1 s.2.2 s'.1 s'.2.2 → 0 ≤ x3 ∧ x3 ≤ 12 → (12 - x3).toNat < M2 → X2 x3 s') (hM2 : (12 - x3).toNat ≤ M2) (hI : iv_A s.1 s.2.2) (bx1 : (-1) ≤ x1 ∧ x1 ≤ 11) (bx2 : 0 ≤ x2 ∧ x2 ≤ 1) (bx3 : 0 ≤ x3 ∧ x3 ≤ 11) (by1 : 0 ≤ y1 ∧ y1 ≤ 11) (by2 : 0 ≤ y2 ∧ y2 ≤ 1000) : fm_261_p25 X2 Q x1 x2 x3 y1 y2 s := by
  unfold fm_261_p25
  refine ⟨(show (0 : Int) ≤ y1 ∧ y1 < (12 : Int) from by omega), ?_⟩
  have hI23 : iv_A (lf_up s.1 108 y1 y2) s.2.2 := iv_w108 hI (by omega)
  have fr24 : lf_fq [108] 1000000 true s.1 s.2.2 (lf_up s.1 108 y1 y2) s.2.2 := lf_fq_up (lf_fq_rf) rfl (fun h => absurd h (by decide))
  exact hX2 (x3 + 1) (lf_up s.1 108 y1 y2, s.2.1, s.2.2) hI23 fr24 (show (0 : Int) ≤ x3 + 1 ∧ x3 + 1 ≤ (12 : Int) from by omega) (show (12 - (x3 + 1)).toNat < M2 from by omega)
theorem sm_261_p2 {X2 : Int → lf_Z → Prop} {Q : lf_Z → Prop} {x1 : Int} {x2 : Int} {x3 : Int} {s : lf_Z} (hQ : ∀  (s' : lf_Z), iv_A s'.1 s'.2.2 → lf_fq [108] 1000000 true s.1 s.2.2 s'.1 s'.2.2 → Q  s') {M2 : Nat} (hX2 : ∀ (x3 : Int) (s' : lf_Z), iv_A s'.1 s'.2.2 → lf_fq [108] 1000000 true s.1 s.2.2 s'.1 s'.2.2 → 0 ≤ x3 ∧ x3 ≤ 12 → (12 - x3).toNat < M2 → X2 x3 s') (hM2 : (12 - x3).toNat ≤ M2) (hI : iv_A s.1 s.2.2) (bx1 : (-1) ≤ x1 ∧ x1 ≤ 11) (bx2 : 0 ≤ x2 ∧ x2 ≤ 1) (bx3 : 0 ≤ x3 ∧ x3 ≤ 12) : fm_261_p2 Q x1 x2 X2 x3 s := by
  unfold fm_261_p2
  refine ⟨(show lf_R x3 from lf_Rof (by omega)), ?_⟩
  refine ⟨fun c1 => ?_, fun c1 => ?_⟩
  · skip
    have c1 : 12 ≤ x3 := c1
    exact sm_261_p34L hQ hI (show (0 : Int) ≤ x2 ∧ x2 ≤ (1 : Int) from by omega) (show (0 : Int) ≤ 0 ∧ 0 ≤ (12 : Int) from by omega)
  · skip
    have c1 : ¬ (12 ≤ x3) := c1
    refine ⟨(show lf_R x1 from lf_Rof (by omega)), ?_⟩
    refine ⟨fun c22 => ?_, fun c22 => ?_⟩
    · skip
      have c22 : x3 ≠ x1 := c22
      exact sm_261_p25 hQ hX2 (show (12 - x3).toNat ≤ M2 from by omega) hI (show (-1 : Int) ≤ x1 ∧ x1 ≤ (11 : Int) from by omega) (show (0 : Int) ≤ x2 ∧ x2 ≤ (1 : Int) from by omega) (show (0 : Int) ≤ x3 ∧ x3 ≤ (11 : Int) from by omega) (show (0 : Int) ≤ x3 ∧ x3 ≤ (11 : Int) from by omega) (show (0 : Int) ≤ 1000 ∧ 1000 ≤ (1000 : Int) from by omega)
    · skip
      have c22 : ¬ (x3 ≠ x1) := c22
      exact sm_261_p25 hQ hX2 (show (12 - x3).toNat ≤ M2 from by omega) hI (show (-1 : Int) ≤ x1 ∧ x1 ≤ (11 : Int) from by omega) (show (0 : Int) ≤ x2 ∧ x2 ≤ (1 : Int) from by omega) (show (0 : Int) ≤ x3 ∧ x3 ≤ (11 : Int) from by omega) (show (0 : Int) ≤ x3 ∧ x3 ≤ (11 : Int) from by omega) (show (0 : Int) ≤ 0 ∧ 0 ≤ (1000 : Int) from by omega)
theorem sm_261_p2L {Q : lf_Z → Prop} {x1 : Int} {x2 : Int} {x3 : Int} {s : lf_Z} (hQ : ∀  (s' : lf_Z), iv_A s'.1 s'.2.2 → lf_fq [108] 1000000 true s.1 s.2.2 s'.1 s'.2.2 → Q  s') (hI : iv_A s.1 s.2.2) (bx1 : (-1) ≤ x1 ∧ x1 ≤ 11) (bx2 : 0 ≤ x2 ∧ x2 ≤ 1) (bx3 : 0 ≤ x3 ∧ x3 ≤ 12) : fm_261_p2L Q x1 x2 x3 s := by
  intro X2 hX
  have key : ∀ (m9 : Nat) (x3 : Int) (s' : lf_Z), iv_A s'.1 s'.2.2 → lf_fq [108] 1000000 true s.1 s.2.2 s'.1 s'.2.2 → 0 ≤ x3 ∧ x3 ≤ 12 → (12 - x3).toNat < m9 → X2 x3 s' := by
    intro m9
    induction m9 with
    | zero => intro x3 s' _ _ bx3 h9; exact absurd h9 (Nat.not_lt_zero _)
    | succ m9 ih => intro x3 s' i7 f7 bx3 h9; exact hX _ _ (sm_261_p2 (fun t9 i9 f9 => hQ t9 i9 (lf_fq_tr f7 f9))   (fun x3' t8 i8 f8 bx3' h8 => ih x3' t8 i8 (lf_fq_tr f7 f8) bx3' (by omega)) (Nat.le_refl _)  i7  bx1 bx2 bx3  )
  exact key _ _ s hI lf_fq_rf bx3 (Nat.lt_succ_self _)
theorem sm_261 {a1 : Int} {a2 : Int} {Q : lf_Z → Prop} {s : lf_Z} (hI : iv_A s.1 s.2.2) (ba1 : (-1) ≤ a1 ∧ a1 ≤ 11) (ba2 : 0 ≤ a2 ∧ a2 ≤ 1) (hQ : ∀  (s' : lf_Z), iv_A s'.1 s'.2.2 → lf_fq [108] 1000000 true s.1 s.2.2 s'.1 s'.2.2 → Q  s') : fm_261 a1 a2 Q s := by
  unfold fm_261
  exact sm_261_p2L hQ hI (show (-1 : Int) ≤ a1 ∧ a1 ≤ (11 : Int) from by omega) (show (0 : Int) ≤ a2 ∧ a2 ≤ (1 : Int) from by omega) (show (0 : Int) ≤ 0 ∧ 0 ≤ (12 : Int) from by omega)
-- fm_239d Model.get 95 i 1
theorem sm_239d {a1 : Int} {Q : Int → lf_Z → Prop} {s : lf_Z} (hI : iv_A s.1 s.2.2) (ba1 : 0 ≤ a1 ∧ a1 ≤ 5) (hQ : ∀ (r : Int), (0 ≤ r ∧ r ≤ 1) → Q r s) : fm_239d a1 Q s := by
  unfold fm_239d
  refine ⟨(show (0 : Int) ≤ (126 + (6 * a1)) + 1 ∧ (126 + (6 * a1)) + 1 < (1538 : Int) from by omega), ?_⟩
  have b1 : 0 ≤ s.1 96 ((126 + (6 * a1)) + 1) ∧ s.1 96 ((126 + (6 * a1)) + 1) ≤ 1 := iv_rd96 hI (iv_f1cfbf807 (a1) (by omega) (by omega))
  exact hQ (s.1 96 ((126 + (6 * a1)) + 1)) (show (0 : Int) ≤ s.1 96 ((126 + (6 * a1)) + 1) ∧ s.1 96 ((126 + (6 * a1)) + 1) ≤ (1 : Int) from by omega)
-- fm_262 Model.goOn 95 i
theorem sm_262_p88 {X36 : Int → Int → lf_Z → Prop} {Q : lf_Z → Prop} {x1 : Int} {x2 : Int} {x3 : Int} {x4 : Int} {s : lf_Z} (hQ : ∀  (s' : lf_Z), iv_A s'.1 s'.2.2 → lf_fq [96] 129 true s.1 s.2.2 s'.1 s'.2.2 → Q  s') {M36 : Nat} (hX36 : ∀ (x3 : Int) (x4 : Int) (s' : lf_Z), iv_A s'.1 s'.2.2 → lf_fq [96] 129 true s.1 s.2.2 s'.1 s'.2.2 → 0 ≤ x3 ∧ x3 ≤ 12 → 0 ≤ x4 ∧ x4 ≤ 16 → (16 - x4).toNat < M36 → X36 x3 x4 s') (hM36 : (16 - x4).toNat ≤ M36) (hI : iv_A s.1 s.2.2) (bx1 : 0 ≤ x1 ∧ x1 ≤ 5) (bx2 : 0 ≤ x2 ∧ x2 ≤ 11) (bx3 : 0 ≤ x3 ∧ x3 ≤ 12) (bx4 : 0 ≤ x4 ∧ x4 ≤ 15) : fm_262_p88 X36 Q x1 x2 x3 x4 s := by
  unfold fm_262_p88
  exact hX36 (x3) (x4 + 1) s hI (lf_fq_rf) (show (0 : Int) ≤ x3 ∧ x3 ≤ (12 : Int) from by omega) (show (0 : Int) ≤ x4 + 1 ∧ x4 + 1 ≤ (16 : Int) from by omega) (show (16 - (x4 + 1)).toNat < M36 from by omega)
theorem sm_262_p36 {X36 : Int → Int → lf_Z → Prop} {Q : lf_Z → Prop} {x1 : Int} {x2 : Int} {x3 : Int} {x4 : Int} {s : lf_Z} (hQ : ∀  (s' : lf_Z), iv_A s'.1 s'.2.2 → lf_fq [96] 129 true s.1 s.2.2 s'.1 s'.2.2 → Q  s') {M36 : Nat} (hX36 : ∀ (x3 : Int) (x4 : Int) (s' : lf_Z), iv_A s'.1 s'.2.2 → lf_fq [96] 129 true s.1 s.2.2 s'.1 s'.2.2 → 0 ≤ x3 ∧ x3 ≤ 12 → 0 ≤ x4 ∧ x4 ≤ 16 → (16 - x4).toNat < M36 → X36 x3 x4 s') (hM36 : (16 - x4).toNat ≤ M36) (hI : iv_A s.1 s.2.2) (bx1 : 0 ≤ x1 ∧ x1 ≤ 5) (bx2 : 0 ≤ x2 ∧ x2 ≤ 11) (bx3 : 0 ≤ x3 ∧ x3 ≤ 12) (bx4 : 0 ≤ x4 ∧ x4 ≤ 16) : fm_262_p36 Q x1 x2 X36 x3 x4 s := by
  unfold fm_262_p36
  have b6 : 0 ≤ s.1 96 1 ∧ s.1 96 1 ≤ 16 := iv_rd96 hI (iv_fd6ad3e54 (by omega))
  have b7 : s.1 96 1 ≤ 0 ∨ 0 < s.1 96 0 := iv_l96_1 hI
  refine ⟨(show lf_R x4 from lf_Rof (by omega)), ?_⟩
  refine ⟨(show lf_R (s.1 96 1) from lf_Rof (by omega)), ?_⟩
  refine ⟨fun c8 => ?_, fun c8 => ?_⟩
  · skip
    have c8 : s.1 96 1 ≤ x4 := c8
    refine sm_191d hI (show (0 : Int) ≤ x1 ∧ x1 ≤ (5 : Int) from by omega) (show (0 : Int) ≤ x3 ∧ x3 ≤ (12 : Int) from by omega) (fun s31 hI10 fr9 => ?_)
    have fr12 : lf_fq [96] 129 true s.1 s.2.2 s31.1 s31.2.2 := lf_fq_tr (lf_fq_rf) (lf_fq_wk fr9 rfl (by decide) (by decide))
    exact hQ s31 hI10 fr12
  · skip
    have c8 : ¬ (s.1 96 1 ≤ x4) := c8
    refine sm_187 hI (show (0 : Int) ≤ x4 ∧ x4 ≤ (15 : Int) from by omega) (show (0 : Int) ≤ x2 ∧ x2 ≤ (11 : Int) from by omega) (fun r33 q13 => ?_)
    obtain ⟨q13, q13x⟩ := q13
    have q13x : r33 = iv_os (s.1 96) x4 x2 := q13x
    refine ⟨(show lf_R r33 from lf_Rof (by omega)), ?_⟩
    refine ⟨fun c14 => ?_, fun c14 => ?_⟩
    · skip
      have c14 : r33 < 0 := c14
      exact sm_262_p88 hQ hX36 (show (16 - x4).toNat ≤ M36 from by omega) hI (show (0 : Int) ≤ x1 ∧ x1 ≤ (5 : Int) from by omega) (show (0 : Int) ≤ x2 ∧ x2 ≤ (11 : Int) from by omega) (show (0 : Int) ≤ x3 ∧ x3 ≤ (12 : Int) from by omega) (show (0 : Int) ≤ x4 ∧ x4 ≤ (15 : Int) from by omega)
    · skip
      have c14 : ¬ (r33 < 0) := c14
      refine ⟨(show (0 : Int) ≤ r33 ∧ r33 < (12 : Int) from by omega), ?_⟩
      have b15 : 0 ≤ s.1 108 r33 ∧ s.1 108 r33 ≤ 1000 := iv_r108 hI _
      refine ⟨(show (0 : Int) ≤ x2 ∧ x2 < (12 : Int) from by omega), ?_⟩
      have b16 : 0 ≤ s.1 108 x2 ∧ s.1 108 x2 ≤ 1000 := iv_r108 hI _
      refine ⟨(show lf_R (s.1 108 r33) from lf_Rof (by omega)), ?_⟩
      refine ⟨(show lf_R ((s.1 108 x2) - 1) from lf_Rof (by omega)), ?_⟩
      refine ⟨fun c17 => ?_, fun c17 => ?_⟩
      · skip
        have c17 : s.1 108 r33 ≠ (s.1 108 x2) - 1 := c17
        exact sm_262_p88 hQ hX36 (show (16 - x4).toNat ≤ M36 from by omega) hI (show (0 : Int) ≤ x1 ∧ x1 ≤ (5 : Int) from by omega) (show (0 : Int) ≤ x2 ∧ x2 ≤ (11 : Int) from by omega) (show (0 : Int) ≤ x3 ∧ x3 ≤ (12 : Int) from by omega) (show (0 : Int) ≤ x4 ∧ x4 ≤ (15 : Int) from by omega)
      · skip
        have c17 : ¬ (s.1 108 r33 ≠ (s.1 108 x2) - 1) := c17
        refine ⟨(show lf_R x3 from lf_Rof (by omega)), ?_⟩
        refine ⟨fun c18 => ?_, fun c18 => ?_⟩
        · skip
          have c18 : x3 ≤ r33 := c18
          exact sm_262_p88 hQ hX36 (show (16 - x4).toNat ≤ M36 from by omega) hI (show (0 : Int) ≤ x1 ∧ x1 ≤ (5 : Int) from by omega) (show (0 : Int) ≤ x2 ∧ x2 ≤ (11 : Int) from by omega) (show (0 : Int) ≤ x3 ∧ x3 ≤ (12 : Int) from by omega) (show (0 : Int) ≤ x4 ∧ x4 ≤ (15 : Int) from by omega)
        · skip
          have c18 : ¬ (x3 ≤ r33) := c18
          exact sm_262_p88 hQ hX36 (show (16 - x4).toNat ≤ M36 from by omega) hI (show (0 : Int) ≤ x1 ∧ x1 ≤ (5 : Int) from by omega) (show (0 : Int) ≤ x2 ∧ x2 ≤ (11 : Int) from by omega) (show (0 : Int) ≤ r33 ∧ r33 ≤ (12 : Int) from by omega) (show (0 : Int) ≤ x4 ∧ x4 ≤ (15 : Int) from by omega)
theorem sm_262_p36L {Q : lf_Z → Prop} {x1 : Int} {x2 : Int} {x3 : Int} {x4 : Int} {s : lf_Z} (hQ : ∀  (s' : lf_Z), iv_A s'.1 s'.2.2 → lf_fq [96] 129 true s.1 s.2.2 s'.1 s'.2.2 → Q  s') (hI : iv_A s.1 s.2.2) (bx1 : 0 ≤ x1 ∧ x1 ≤ 5) (bx2 : 0 ≤ x2 ∧ x2 ≤ 11) (bx3 : 0 ≤ x3 ∧ x3 ≤ 12) (bx4 : 0 ≤ x4 ∧ x4 ≤ 16) : fm_262_p36L Q x1 x2 x3 x4 s := by
  intro X36 hX
  have key : ∀ (m9 : Nat) (x3 : Int) (x4 : Int) (s' : lf_Z), iv_A s'.1 s'.2.2 → lf_fq [96] 129 true s.1 s.2.2 s'.1 s'.2.2 → 0 ≤ x3 ∧ x3 ≤ 12 → 0 ≤ x4 ∧ x4 ≤ 16 → (16 - x4).toNat < m9 → X36 x3 x4 s' := by
    intro m9
    induction m9 with
    | zero => intro x3 x4 s' _ _ bx3 bx4 h9; exact absurd h9 (Nat.not_lt_zero _)
    | succ m9 ih => intro x3 x4 s' i7 f7 bx3 bx4 h9; exact hX _ _ _ (sm_262_p36 (fun t9 i9 f9 => hQ t9 i9 (lf_fq_tr f7 f9))   (fun x3' x4' t8 i8 f8 bx3' bx4' h8 => ih x3' x4' t8 i8 (lf_fq_tr f7 f8) bx3' bx4' (by omega)) (Nat.le_refl _)  i7  bx1 bx2 bx3 bx4  )
  exact key _ _ _ s hI lf_fq_rf bx3 bx4 (Nat.lt_succ_self _)
theorem sm_262 {a1 : Int} {Q : lf_Z → Prop} {s : lf_Z} (hI : iv_A s.1 s.2.2) (ba1 : 0 ≤ a1 ∧ a1 ≤ 5) (hQ : ∀  (s' : lf_Z), iv_A s'.1 s'.2.2 → lf_fq [96] 129 true s.1 s.2.2 s'.1 s'.2.2 → Q  s') : fm_262 a1 Q s := by
  unfold fm_262
  refine sm_239 hI (show (0 : Int) ≤ a1 ∧ a1 ≤ (5 : Int) from by omega) (fun r22 q1 => ?_)
  refine sm_239b hI (show (0 : Int) ≤ a1 ∧ a1 ≤ (5 : Int) from by omega) (fun r24 q2 => ?_)
  refine ⟨(show lf_R r22 from lf_Rof (by omega)), ?_⟩
  refine ⟨(show lf_R r24 from lf_Rof (by omega)), ?_⟩
  refine ⟨fun c3 => ?_, fun c3 => ?_⟩
  · skip
    have c3 : r22 = r24 := c3
    exact hQ s hI (lf_fq_rf)
  · skip
    have c3 : ¬ (r22 = r24) := c3
    refine ⟨(show (0 : Int) ≤ r22 ∧ r22 < (12 : Int) from by omega), ?_⟩
    have b4 : 0 ≤ s.1 108 r22 ∧ s.1 108 r22 ≤ 1000 := iv_r108 hI _
    refine ⟨(show lf_R (s.1 108 r22) from lf_Rof (by omega)), ?_⟩
    refine ⟨fun c5 => ?_, fun c5 => ?_⟩
    · skip
      have c5 : s.1 108 r22 < 1000 := c5
      exact sm_262_p36L hQ hI (show (0 : Int) ≤ a1 ∧ a1 ≤ (5 : Int) from by omega) (show (0 : Int) ≤ r22 ∧ r22 ≤ (11 : Int) from by omega) (show (0 : Int) ≤ 12 ∧ 12 ≤ (12 : Int) from by omega) (show (0 : Int) ≤ 0 ∧ 0 ≤ (16 : Int) from by omega)
    · skip
      have c5 : ¬ (s.1 108 r22 < 1000) := c5
      exact hQ s hI (lf_fq_rf)
-- fm_260 Model.pass 95
theorem sm_260_p163 {X115 : Int → lf_Z → Prop} {Q : lf_Z → Prop} {x1 : Int} {s : lf_Z} (hQ : ∀  (s' : lf_Z), iv_A s'.1 s'.2.2 → lf_fq [96, 104, 107, 108] 3 true s.1 s.2.2 s'.1 s'.2.2 → Q  s') {M115 : Nat} (hX115 : ∀ (x1 : Int) (s' : lf_Z), iv_A s'.1 s'.2.2 → lf_fq [96, 104, 107, 108] 3 true s.1 s.2.2 s'.1 s'.2.2 → 0 ≤ x1 ∧ x1 ≤ 4 → (4 - x1).toNat < M115 → X115 x1 s') (hM115 : (4 - x1).toNat ≤ M115) (hI : iv_A s.1 s.2.2) (bx1 : 0 ≤ x1 ∧ x1 ≤ 3) : fm_260_p163 X115 Q x1 s := by
  unfold fm_260_p163
  exact hX115 (x1 + 1) s hI (lf_fq_rf) (show (0 : Int) ≤ x1 + 1 ∧ x1 + 1 ≤ (4 : Int) from by omega) (show (4 - (x1 + 1)).toNat < M115 from by omega)
theorem sm_260_p115 {X115 : Int → lf_Z → Prop} {Q : lf_Z → Prop} {x1 : Int} {s : lf_Z} (hQ : ∀  (s' : lf_Z), iv_A s'.1 s'.2.2 → lf_fq [96, 104, 107, 108] 3 true s.1 s.2.2 s'.1 s'.2.2 → Q  s') {M115 : Nat} (hX115 : ∀ (x1 : Int) (s' : lf_Z), iv_A s'.1 s'.2.2 → lf_fq [96, 104, 107, 108] 3 true s.1 s.2.2 s'.1 s'.2.2 → 0 ≤ x1 ∧ x1 ≤ 4 → (4 - x1).toNat < M115 → X115 x1 s') (hM115 : (4 - x1).toNat ≤ M115) (hI : iv_A s.1 s.2.2) (bx1 : 0 ≤ x1 ∧ x1 ≤ 4) : fm_260_p115 Q X115 x1 s := by
  unfold fm_260_p115
  refine ⟨(show lf_R x1 from lf_Rof (by omega)), ?_⟩
  refine ⟨fun c5 => ?_, fun c5 => ?_⟩
  · skip
    have c5 : 4 ≤ x1 := c5
    refine sm_278 hI (fun s25 hI7 fr6 => ?_)
    have fr9 : lf_fq [96, 104, 107, 108] 3 true s.1 s.2.2 s25.1 s25.2.2 := lf_fq_tr (lf_fq_rf) (lf_fq_wk fr6 rfl (by decide) (by decide))
    have b10 : (-2147483648) ≤ s25.1 96 3 ∧ s25.1 96 3 ≤ 2147483647 := iv_full hI7
    have b11 : s25.1 96 3 = s.1 96 3 := fr6.2.1 3 (by decide)
    have b12 : (-2147483648) ≤ lf_w ((s25.1 96 3) + 1) ∧ lf_w ((s25.1 96 3) + 1) ≤ 2147483647 := lf_wB
    have hI13 : iv_A (lf_up s25.1 96 3 (lf_w ((s25.1 96 3) + 1))) s25.2.2 := iv_wd96 hI7 (lf_le2 (iv_f0d376a7e (by omega)) (by omega)) (fun h => absurd h (by omega))
    have fr14 : lf_fq [96, 104, 107, 108] 3 true s.1 s.2.2 (lf_up s25.1 96 3 (lf_w ((s25.1 96 3) + 1))) s25.2.2 := lf_fq_up fr9 rfl (fun _ => by omega)
    exact hQ (lf_up s25.1 96 3 (lf_w ((s25.1 96 3) + 1)), s25.2.1, s25.2.2) hI13 fr14
  · skip
    have c5 : ¬ (4 ≤ x1) := c5
    refine sm_242 hI (show (0 : Int) ≤ x1 ∧ x1 ≤ (3 : Int) from by omega) (fun r27 q15 => ?_)
    refine ⟨(show lf_R r27 from lf_Rof (by omega)), ?_⟩
    refine ⟨fun c16 => ?_, fun c16 => ?_⟩
    · skip
      have c16 : r27 ≤ 0 := c16
      exact sm_260_p163 hQ hX115 (show (4 - x1).toNat ≤ M115 from by omega) hI (show (0 : Int) ≤ x1 ∧ x1 ≤ (3 : Int) from by omega)
    · skip
      have c16 : ¬ (r27 ≤ 0) := c16
      refine sm_255 hI (show (0 : Int) ≤ x1 ∧ x1 ≤ (3 : Int) from by omega) (fun r30 q17 => ?_)
      refine ⟨(show (0 : Int) ≤ (14 + (3 * r30)) + 2 ∧ (14 + (3 * r30)) + 2 < (1538 : Int) from by omega), ?_⟩
      have b18 : (-2147483648) ≤ s.1 96 ((14 + (3 * r30)) + 2) ∧ s.1 96 ((14 + (3 * r30)) + 2) ≤ 2147483647 := iv_full hI
      refine sm_242 hI (show (0 : Int) ≤ x1 ∧ x1 ≤ (3 : Int) from by omega) (fun r33 q19 => ?_)
      refine sm_255 hI (show (0 : Int) ≤ x1 ∧ x1 ≤ (3 : Int) from by omega) (fun r35 q20 => ?_)
      refine sm_277 hI (show (0 : Int) ≤ r35 ∧ r35 ≤ (11 : Int) from by omega) (fun r37 q21 => ?_)
      have b22 : (-2147483648) ≤ lf_w (r33 * r37) ∧ lf_w (r33 * r37) ≤ 2147483647 := lf_wB
      have b23 : (-2147483648) ≤ lf_w ((s.1 96 ((14 + (3 * r30)) + 2)) + (lf_w (r33 * r37))) ∧ lf_w ((s.1 96 ((14 + (3 * r30)) + 2)) + (lf_w (r33 * r37))) ≤ 2147483647 := lf_wB
      have hI24 : iv_A (lf_up s.1 96 ((14 + (3 * r30)) + 2) (lf_w ((s.1 96 ((14 + (3 * r30)) + 2)) + (lf_w (r33 * r37))))) s.2.2 := iv_wd96 hI (lf_le2 (iv_f06618364 (r30) (by omega) (by omega)) (by omega)) (fun h => absurd h (by omega))
      have fr25 : lf_fq [96, 104, 107, 108] 3 true s.1 s.2.2 (lf_up s.1 96 ((14 + (3 * r30)) + 2) (lf_w ((s.1 96 ((14 + (3 * r30)) + 2)) + (lf_w (r33 * r37))))) s.2.2 := lf_fq_up (lf_fq_rf) rfl (fun _ => by omega)
      exact sm_260_p163 (fun t9 i9 f9 => hQ t9 i9 (lf_fq_tr fr25 f9)) (fun p0 t9 i9 f9 => hX115 p0 t9 i9 (lf_fq_tr fr25 f9)) (show (4 - x1).toNat ≤ M115 from by omega) hI24 (show (0 : Int) ≤ x1 ∧ x1 ≤ (3 : Int) from by omega)
theorem sm_260_p115L {Q : lf_Z → Prop} {x1 : Int} {s : lf_Z} (hQ : ∀  (s' : lf_Z), iv_A s'.1 s'.2.2 → lf_fq [96, 104, 107, 108] 3 true s.1 s.2.2 s'.1 s'.2.2 → Q  s') (hI : iv_A s.1 s.2.2) (bx1 : 0 ≤ x1 ∧ x1 ≤ 4) : fm_260_p115L Q x1 s := by
  intro X115 hX
  have key : ∀ (m9 : Nat) (x1 : Int) (s' : lf_Z), iv_A s'.1 s'.2.2 → lf_fq [96, 104, 107, 108] 3 true s.1 s.2.2 s'.1 s'.2.2 → 0 ≤ x1 ∧ x1 ≤ 4 → (4 - x1).toNat < m9 → X115 x1 s' := by
    intro m9
    induction m9 with
    | zero => intro x1 s' _ _ bx1 h9; exact absurd h9 (Nat.not_lt_zero _)
    | succ m9 ih => intro x1 s' i7 f7 bx1 h9; exact hX _ _ (sm_260_p115 (fun t9 i9 f9 => hQ t9 i9 (lf_fq_tr f7 f9))   (fun x1' t8 i8 f8 bx1' h8 => ih x1' t8 i8 (lf_fq_tr f7 f8) bx1' (by omega)) (Nat.le_refl _)  i7  bx1  )
  exact key _ _ s hI lf_fq_rf bx1 (Nat.lt_succ_self _)
theorem sm_260_p107 {X67 : Int → lf_Z → Prop} {Q : lf_Z → Prop} {x1 : Int} {s : lf_Z} (hQ : ∀  (s' : lf_Z), iv_A s'.1 s'.2.2 → lf_fq [96, 104, 107, 108] 3 true s.1 s.2.2 s'.1 s'.2.2 → Q  s') {M67 : Nat} (hX67 : ∀ (x1 : Int) (s' : lf_Z), iv_A s'.1 s'.2.2 → lf_fq [96, 104, 107, 108] 3 true s.1 s.2.2 s'.1 s'.2.2 → 0 ≤ x1 ∧ x1 ≤ 4 → (4 - x1).toNat < M67 → X67 x1 s') (hM67 : (4 - x1).toNat ≤ M67) (hI : iv_A s.1 s.2.2) (bx1 : 0 ≤ x1 ∧ x1 ≤ 3) : fm_260_p107 X67 Q x1 s := by
  unfold fm_260_p107
  exact hX67 (x1 + 1) s hI (lf_fq_rf) (show (0 : Int) ≤ x1 + 1 ∧ x1 + 1 ≤ (4 : Int) from by omega) (show (4 - (x1 + 1)).toNat < M67 from by omega)
theorem sm_260_p91 {X67 : Int → lf_Z → Prop} {X91 : Int → lf_Z → Prop} {Q : lf_Z → Prop} {x1 : Int} {x2 : Int} {x3 : Int} {s : lf_Z} (hQ : ∀  (s' : lf_Z), iv_A s'.1 s'.2.2 → lf_fq [96, 104, 107, 108] 3 true s.1 s.2.2 s'.1 s'.2.2 → Q  s') {M67 : Nat} (hX67 : ∀ (x1 : Int) (s' : lf_Z), iv_A s'.1 s'.2.2 → lf_fq [96, 104, 107, 108] 3 true s.1 s.2.2 s'.1 s'.2.2 → 0 ≤ x1 ∧ x1 ≤ 4 → (4 - x1).toNat < M67 → X67 x1 s') (hM67 : (4 - x1).toNat ≤ M67) {M91 : Nat} (hX91 : ∀ (x3 : Int) (s' : lf_Z), iv_A s'.1 s'.2.2 → lf_fq [96, 104, 107, 108] 3 true s.1 s.2.2 s'.1 s'.2.2 → 0 ≤ x3 ∧ x3 ≤ 2147483646 → (2147483646 - x3).toNat < M91 → X91 x3 s') (hM91 : (2147483646 - x3).toNat ≤ M91) (hI : iv_A s.1 s.2.2) (bx1 : 0 ≤ x1 ∧ x1 ≤ 3) (bx2 : 0 ≤ x2 ∧ x2 ≤ 100) (bx3 : 0 ≤ x3 ∧ x3 ≤ 2147483646) : fm_260_p91 X67 Q x1 x2 X91 x3 s := by
  unfold fm_260_p91
  refine ⟨(show lf_R x3 from lf_Rof (by omega)), ?_⟩
  refine ⟨(show lf_R x2 from lf_Rof (by omega)), ?_⟩
  refine ⟨fun c32 => ?_, fun c32 => ?_⟩
  · skip
    have c32 : x2 ≤ x3 := c32
    exact sm_260_p107 hQ hX67 (show (4 - x1).toNat ≤ M67 from by omega) hI (show (0 : Int) ≤ x1 ∧ x1 ≤ (3 : Int) from by omega)
  · skip
    have c32 : ¬ (x2 ≤ x3) := c32
    refine sm_272 hI (show (0 : Int) ≤ x1 ∧ x1 ≤ (3 : Int) from by omega) (fun s45 hI34 fr33 => ?_)
    have fr36 : lf_fq [96, 104, 107, 108] 3 true s.1 s.2.2 s45.1 s45.2.2 := lf_fq_tr (lf_fq_rf) (lf_fq_wk fr33 rfl (by decide) (by decide))
    exact hX91 (x3 + 1) s45 hI34 fr36 (show (0 : Int) ≤ x3 + 1 ∧ x3 + 1 ≤ (2147483646 : Int) from by omega) (show (2147483646 - (x3 + 1)).toNat < M91 from by omega)
theorem sm_260_p91L {X67 : Int → lf_Z → Prop} {Q : lf_Z → Prop} {x1 : Int} {x2 : Int} {x3 : Int} {s : lf_Z} (hQ : ∀  (s' : lf_Z), iv_A s'.1 s'.2.2 → lf_fq [96, 104, 107, 108] 3 true s.1 s.2.2 s'.1 s'.2.2 → Q  s') {M67 : Nat} (hX67 : ∀ (x1 : Int) (s' : lf_Z), iv_A s'.1 s'.2.2 → lf_fq [96, 104, 107, 108] 3 true s.1 s.2.2 s'.1 s'.2.2 → 0 ≤ x1 ∧ x1 ≤ 4 → (4 - x1).toNat < M67 → X67 x1 s') (hM67 : (4 - x1).toNat ≤ M67) (hI : iv_A s.1 s.2.2) (bx1 : 0 ≤ x1 ∧ x1 ≤ 3) (bx2 : 0 ≤ x2 ∧ x2 ≤ 100) (bx3 : 0 ≤ x3 ∧ x3 ≤ 2147483646) : fm_260_p91L X67 Q x1 x2 x3 s := by
  intro X91 hX
  have key : ∀ (m9 : Nat) (x3 : Int) (s' : lf_Z), iv_A s'.1 s'.2.2 → lf_fq [96, 104, 107, 108] 3 true s.1 s.2.2 s'.1 s'.2.2 → 0 ≤ x3 ∧ x3 ≤ 2147483646 → (2147483646 - x3).toNat < m9 → X91 x3 s' := by
    intro m9
    induction m9 with
    | zero => intro x3 s' _ _ bx3 h9; exact absurd h9 (Nat.not_lt_zero _)
    | succ m9 ih => intro x3 s' i7 f7 bx3 h9; exact hX _ _ (sm_260_p91 (fun t9 i9 f9 => hQ t9 i9 (lf_fq_tr f7 f9))  (fun p0 t9 i9 f9 => hX67 p0 t9 i9 (lf_fq_tr f7 f9)) hM67 (fun x3' t8 i8 f8 bx3' h8 => ih x3' t8 i8 (lf_fq_tr f7 f8) bx3' (by omega)) (Nat.le_refl _)  i7  bx1 bx2 bx3  )
  exact key _ _ s hI lf_fq_rf bx3 (Nat.lt_succ_self _)
theorem sm_260_p67 {X67 : Int → lf_Z → Prop} {Q : lf_Z → Prop} {x1 : Int} {s : lf_Z} (hQ : ∀  (s' : lf_Z), iv_A s'.1 s'.2.2 → lf_fq [96, 104, 107, 108] 3 true s.1 s.2.2 s'.1 s'.2.2 → Q  s') {M67 : Nat} (hX67 : ∀ (x1 : Int) (s' : lf_Z), iv_A s'.1 s'.2.2 → lf_fq [96, 104, 107, 108] 3 true s.1 s.2.2 s'.1 s'.2.2 → 0 ≤ x1 ∧ x1 ≤ 4 → (4 - x1).toNat < M67 → X67 x1 s') (hM67 : (4 - x1).toNat ≤ M67) (hI : iv_A s.1 s.2.2) (bx1 : 0 ≤ x1 ∧ x1 ≤ 4) : fm_260_p67 Q X67 x1 s := by
  unfold fm_260_p67
  refine ⟨(show lf_R x1 from lf_Rof (by omega)), ?_⟩
  refine ⟨fun c4 => ?_, fun c4 => ?_⟩
  · skip
    have c4 : 4 ≤ x1 := c4
    exact sm_260_p115L hQ hI (show (0 : Int) ≤ 0 ∧ 0 ≤ (4 : Int) from by omega)
  · skip
    have c4 : ¬ (4 ≤ x1) := c4
    refine sm_242 hI (show (0 : Int) ≤ x1 ∧ x1 ≤ (3 : Int) from by omega) (fun r39 q26 => ?_)
    refine ⟨(show lf_R r39 from lf_Rof (by omega)), ?_⟩
    refine ⟨fun c27 => ?_, fun c27 => ?_⟩
    · skip
      have c27 : r39 ≠ 0 := c27
      refine sm_263 hI (show (0 : Int) ≤ x1 ∧ x1 ≤ (3 : Int) from by omega) (fun r42 s41 hI29 fr28 q30 => ?_)
      have fr31 : lf_fq [96, 104, 107, 108] 3 true s.1 s.2.2 s41.1 s41.2.2 := lf_fq_tr (lf_fq_rf) (lf_fq_wk fr28 rfl (by decide) (by decide))
      exact sm_260_p91L (fun t9 i9 f9 => hQ t9 i9 (lf_fq_tr fr31 f9)) (fun p0 t9 i9 f9 => hX67 p0 t9 i9 (lf_fq_tr fr31 f9)) (show (4 - x1).toNat ≤ M67 from by omega) hI29 (show (0 : Int) ≤ x1 ∧ x1 ≤ (3 : Int) from by omega) (show (0 : Int) ≤ r42 ∧ r42 ≤ (100 : Int) from by omega) (show (0 : Int) ≤ 0 ∧ 0 ≤ (2147483646 : Int) from by omega)
    · skip
      have c27 : ¬ (r39 ≠ 0) := c27
      exact sm_260_p107 hQ hX67 (show (4 - x1).toNat ≤ M67 from by omega) hI (show (0 : Int) ≤ x1 ∧ x1 ≤ (3 : Int) from by omega)
theorem sm_260_p67L {Q : lf_Z → Prop} {x1 : Int} {s : lf_Z} (hQ : ∀  (s' : lf_Z), iv_A s'.1 s'.2.2 → lf_fq [96, 104, 107, 108] 3 true s.1 s.2.2 s'.1 s'.2.2 → Q  s') (hI : iv_A s.1 s.2.2) (bx1 : 0 ≤ x1 ∧ x1 ≤ 4) : fm_260_p67L Q x1 s := by
  intro X67 hX
  have key : ∀ (m9 : Nat) (x1 : Int) (s' : lf_Z), iv_A s'.1 s'.2.2 → lf_fq [96, 104, 107, 108] 3 true s.1 s.2.2 s'.1 s'.2.2 → 0 ≤ x1 ∧ x1 ≤ 4 → (4 - x1).toNat < m9 → X67 x1 s' := by
    intro m9
    induction m9 with
    | zero => intro x1 s' _ _ bx1 h9; exact absurd h9 (Nat.not_lt_zero _)
    | succ m9 ih => intro x1 s' i7 f7 bx1 h9; exact hX _ _ (sm_260_p67 (fun t9 i9 f9 => hQ t9 i9 (lf_fq_tr f7 f9))   (fun x1' t8 i8 f8 bx1' h8 => ih x1' t8 i8 (lf_fq_tr f7 f8) bx1' (by omega)) (Nat.le_refl _)  i7  bx1  )
  exact key _ _ s hI lf_fq_rf bx1 (Nat.lt_succ_self _)
theorem sm_260_p59 {X2 : Int → lf_Z → Prop} {Q : lf_Z → Prop} {x1 : Int} {s : lf_Z} (hQ : ∀  (s' : lf_Z), iv_A s'.1 s'.2.2 → lf_fq [96, 104, 107, 108] 3 true s.1 s.2.2 s'.1 s'.2.2 → Q  s') {M2 : Nat} (hX2 : ∀ (x1 : Int) (s' : lf_Z), iv_A s'.1 s'.2.2 → lf_fq [96, 104, 107, 108] 3 true s.1 s.2.2 s'.1 s'.2.2 → 0 ≤ x1 ∧ x1 ≤ 6 → (6 - x1).toNat < M2 → X2 x1 s') (hM2 : (6 - x1).toNat ≤ M2) (hI : iv_A s.1 s.2.2) (bx1 : 0 ≤ x1 ∧ x1 ≤ 5) : fm_260_p59 X2 Q x1 s := by
  unfold fm_260_p59
  exact hX2 (x1 + 1) s hI (lf_fq_rf) (show (0 : Int) ≤ x1 + 1 ∧ x1 + 1 ≤ (6 : Int) from by omega) (show (6 - (x1 + 1)).toNat < M2 from by omega)
theorem sm_260_p38 {X2 : Int → lf_Z → Prop} {X38 : Int → lf_Z → Prop} {Q : lf_Z → Prop} {x1 : Int} {x2 : Int} {s : lf_Z} (hQ : ∀  (s' : lf_Z), iv_A s'.1 s'.2.2 → lf_fq [96, 104, 107, 108] 3 true s.1 s.2.2 s'.1 s'.2.2 → Q  s') {M2 : Nat} (hX2 : ∀ (x1 : Int) (s' : lf_Z), iv_A s'.1 s'.2.2 → lf_fq [96, 104, 107, 108] 3 true s.1 s.2.2 s'.1 s'.2.2 → 0 ≤ x1 ∧ x1 ≤ 6 → (6 - x1).toNat < M2 → X2 x1 s') (hM2 : (6 - x1).toNat ≤ M2) {M38 : Nat} (hX38 : ∀ (x2 : Int) (s' : lf_Z), iv_A s'.1 s'.2.2 → lf_fq [96, 104, 107, 108] 3 true s.1 s.2.2 s'.1 s'.2.2 → 0 ≤ x2 ∧ x2 ≤ 2 → (2 - x2).toNat < M38 → X38 x2 s') (hM38 : (2 - x2).toNat ≤ M38) (hI : iv_A s.1 s.2.2) (bx1 : 0 ≤ x1 ∧ x1 ≤ 5) (bx2 : 0 ≤ x2 ∧ x2 ≤ 2) : fm_260_p38 X2 Q x1 X38 x2 s := by
  unfold fm_260_p38
  refine sm_239d hI (show (0 : Int) ≤ x1 ∧ x1 ≤ (5 : Int) from by omega) (fun r53 q44 => ?_)
  refine ⟨(show lf_R x2 from lf_Rof (by omega)), ?_⟩
  refine ⟨(show lf_R r53 from lf_Rof (by omega)), ?_⟩
  refine ⟨fun c45 => ?_, fun c45 => ?_⟩
  · skip
    have c45 : r53 < x2 := c45
    exact sm_260_p59 hQ hX2 (show (6 - x1).toNat ≤ M2 from by omega) hI (show (0 : Int) ≤ x1 ∧ x1 ≤ (5 : Int) from by omega)
  · skip
    have c45 : ¬ (r53 < x2) := c45
    refine sm_262 hI (show (0 : Int) ≤ x1 ∧ x1 ≤ (5 : Int) from by omega) (fun s56 hI47 fr46 => ?_)
    have fr49 : lf_fq [96, 104, 107, 108] 3 true s.1 s.2.2 s56.1 s56.2.2 := lf_fq_tr (lf_fq_rf) (lf_fq_wk fr46 rfl (by decide) (by decide))
    exact hX38 (x2 + 1) s56 hI47 fr49 (show (0 : Int) ≤ x2 + 1 ∧ x2 + 1 ≤ (2 : Int) from by omega) (show (2 - (x2 + 1)).toNat < M38 from by omega)
theorem sm_260_p38L {X2 : Int → lf_Z → Prop} {Q : lf_Z → Prop} {x1 : Int} {x2 : Int} {s : lf_Z} (hQ : ∀  (s' : lf_Z), iv_A s'.1 s'.2.2 → lf_fq [96, 104, 107, 108] 3 true s.1 s.2.2 s'.1 s'.2.2 → Q  s') {M2 : Nat} (hX2 : ∀ (x1 : Int) (s' : lf_Z), iv_A s'.1 s'.2.2 → lf_fq [96, 104, 107, 108] 3 true s.1 s.2.2 s'.1 s'.2.2 → 0 ≤ x1 ∧ x1 ≤ 6 → (6 - x1).toNat < M2 → X2 x1 s') (hM2 : (6 - x1).toNat ≤ M2) (hI : iv_A s.1 s.2.2) (bx1 : 0 ≤ x1 ∧ x1 ≤ 5) (bx2 : 0 ≤ x2 ∧ x2 ≤ 2) : fm_260_p38L X2 Q x1 x2 s := by
  intro X38 hX
  have key : ∀ (m9 : Nat) (x2 : Int) (s' : lf_Z), iv_A s'.1 s'.2.2 → lf_fq [96, 104, 107, 108] 3 true s.1 s.2.2 s'.1 s'.2.2 → 0 ≤ x2 ∧ x2 ≤ 2 → (2 - x2).toNat < m9 → X38 x2 s' := by
    intro m9
    induction m9 with
    | zero => intro x2 s' _ _ bx2 h9; exact absurd h9 (Nat.not_lt_zero _)
    | succ m9 ih => intro x2 s' i7 f7 bx2 h9; exact hX _ _ (sm_260_p38 (fun t9 i9 f9 => hQ t9 i9 (lf_fq_tr f7 f9))  (fun p0 t9 i9 f9 => hX2 p0 t9 i9 (lf_fq_tr f7 f9)) hM2 (fun x2' t8 i8 f8 bx2' h8 => ih x2' t8 i8 (lf_fq_tr f7 f8) bx2' (by omega)) (Nat.le_refl _)  i7  bx1 bx2  )
  exact key _ _ s hI lf_fq_rf bx2 (Nat.lt_succ_self _)
theorem sm_260_p2 {X2 : Int → lf_Z → Prop} {Q : lf_Z → Prop} {x1 : Int} {s : lf_Z} (hQ : ∀  (s' : lf_Z), iv_A s'.1 s'.2.2 → lf_fq [96, 104, 107, 108] 3 true s.1 s.2.2 s'.1 s'.2.2 → Q  s') {M2 : Nat} (hX2 : ∀ (x1 : Int) (s' : lf_Z), iv_A s'.1 s'.2.2 → lf_fq [96, 104, 107, 108] 3 true s.1 s.2.2 s'.1 s'.2.2 → 0 ≤ x1 ∧ x1 ≤ 6 → (6 - x1).toNat < M2 → X2 x1 s') (hM2 : (6 - x1).toNat ≤ M2) (hI : iv_A s.1 s.2.2) (bx1 : 0 ≤ x1 ∧ x1 ≤ 6) : fm_260_p2 Q X2 x1 s := by
  unfold fm_260_p2
  have b1 : 0 ≤ s.1 96 2 ∧ s.1 96 2 ≤ 6 := iv_rd96 hI (iv_f2103129b (by omega))
  have b2 : s.1 96 2 ≤ 0 ∨ 0 < s.1 96 0 := iv_l96_2 hI
  refine ⟨(show lf_R x1 from lf_Rof (by omega)), ?_⟩
  refine ⟨(show lf_R (s.1 96 2) from lf_Rof (by omega)), ?_⟩
  refine ⟨fun c3 => ?_, fun c3 => ?_⟩
  · skip
    have c3 : s.1 96 2 ≤ x1 := c3
    exact sm_260_p67L hQ hI (show (0 : Int) ≤ 0 ∧ 0 ≤ (4 : Int) from by omega)
  · skip
    have c3 : ¬ (s.1 96 2 ≤ x1) := c3
    refine sm_239b hI (show (0 : Int) ≤ x1 ∧ x1 ≤ (5 : Int) from by omega) (fun r47 q37 => ?_)
    refine ⟨(show lf_R r47 from lf_Rof (by omega)), ?_⟩
    refine ⟨fun c38 => ?_, fun c38 => ?_⟩
    · skip
      have c38 : r47 ≠ (-1) := c38
      refine sm_239b hI (show (0 : Int) ≤ x1 ∧ x1 ≤ (5 : Int) from by omega) (fun r50 q39 => ?_)
      refine sm_261 hI (show (-1 : Int) ≤ r50 ∧ r50 ≤ (11 : Int) from by omega) (show (0 : Int) ≤ 1 ∧ 1 ≤ (1 : Int) from by omega) (fun s51 hI41 fr40 => ?_)
      have fr43 : lf_fq [96, 104, 107, 108] 3 true s.1 s.2.2 s51.1 s51.2.2 := lf_fq_tr (lf_fq_rf) (lf_fq_wk fr40 rfl (by decide) (by decide))
      exact sm_260_p38L (fun t9 i9 f9 => hQ t9 i9 (lf_fq_tr fr43 f9)) (fun p0 t9 i9 f9 => hX2 p0 t9 i9 (lf_fq_tr fr43 f9)) (show (6 - x1).toNat ≤ M2 from by omega) hI41 (show (0 : Int) ≤ x1 ∧ x1 ≤ (5 : Int) from by omega) (show (0 : Int) ≤ 0 ∧ 0 ≤ (2 : Int) from by omega)
    · skip
      have c38 : ¬ (r47 ≠ (-1)) := c38
      exact sm_260_p59 hQ hX2 (show (6 - x1).toNat ≤ M2 from by omega) hI (show (0 : Int) ≤ x1 ∧ x1 ≤ (5 : Int) from by omega)
theorem sm_260_p2L {Q : lf_Z → Prop} {x1 : Int} {s : lf_Z} (hQ : ∀  (s' : lf_Z), iv_A s'.1 s'.2.2 → lf_fq [96, 104, 107, 108] 3 true s.1 s.2.2 s'.1 s'.2.2 → Q  s') (hI : iv_A s.1 s.2.2) (bx1 : 0 ≤ x1 ∧ x1 ≤ 6) : fm_260_p2L Q x1 s := by
  intro X2 hX
  have key : ∀ (m9 : Nat) (x1 : Int) (s' : lf_Z), iv_A s'.1 s'.2.2 → lf_fq [96, 104, 107, 108] 3 true s.1 s.2.2 s'.1 s'.2.2 → 0 ≤ x1 ∧ x1 ≤ 6 → (6 - x1).toNat < m9 → X2 x1 s' := by
    intro m9
    induction m9 with
    | zero => intro x1 s' _ _ bx1 h9; exact absurd h9 (Nat.not_lt_zero _)
    | succ m9 ih => intro x1 s' i7 f7 bx1 h9; exact hX _ _ (sm_260_p2 (fun t9 i9 f9 => hQ t9 i9 (lf_fq_tr f7 f9))   (fun x1' t8 i8 f8 bx1' h8 => ih x1' t8 i8 (lf_fq_tr f7 f8) bx1' (by omega)) (Nat.le_refl _)  i7  bx1  )
  exact key _ _ s hI lf_fq_rf bx1 (Nat.lt_succ_self _)
theorem sm_260 {Q : lf_Z → Prop} {s : lf_Z} (hI : iv_A s.1 s.2.2) (hQ : ∀  (s' : lf_Z), iv_A s'.1 s'.2.2 → lf_fq [96, 104, 107, 108] 3 true s.1 s.2.2 s'.1 s'.2.2 → Q  s') : fm_260 Q s := by
  unfold fm_260
  exact sm_260_p2L hQ hI (show (0 : Int) ≤ 0 ∧ 0 ≤ (6 : Int) from by omega)
-- fm_259 Model.passStep 95
theorem sm_259 {Q : Bool → lf_Z → Prop} {s : lf_Z} (hI : iv_A s.1 s.2.2) (hQ : ∀ (z : Bool) (s' : lf_Z), iv_A s'.1 s'.2.2 → lf_fq [96, 104, 107, 108] 3 true s.1 s.2.2 s'.1 s'.2.2 → Q z s') : fm_259 Q s := by
  unfold fm_259
  have b1 : (-2147483648) ≤ s.1 96 3 ∧ s.1 96 3 ≤ 2147483647 := iv_full hI
  refine ⟨(show lf_R (s.1 96 3) from lf_Rof (by omega)), ?_⟩
  refine ⟨fun c2 => ?_, fun c2 => ?_⟩
  · skip
    have c2 : s.1 96 3 ≠ 999 := c2
    refine sm_244 hI (fun s22 hI4 fr3 => ?_)
    have fr6 : lf_fq [96, 104, 107, 108] 3 true s.1 s.2.2 s22.1 s22.2.2 := lf_fq_tr (lf_fq_rf) (lf_fq_wk fr3 rfl (by decide) (by decide))
    refine sm_260 hI4 (fun s23 hI8 fr7 => ?_)
    have fr10 : lf_fq [96, 104, 107, 108] 3 true s.1 s.2.2 s23.1 s23.2.2 := lf_fq_tr fr6 (lf_fq_wk fr7 rfl (by decide) (by decide))
    exact hQ true s23 hI8 fr10
  · skip
    have c2 : ¬ (s.1 96 3 ≠ 999) := c2
    exact hQ false s hI (lf_fq_rf)
-- fm_258 Model.areMinutes 95 i
theorem sm_258_p2 {X2 : Int → lf_Z → Prop} {Q : Bool → lf_Z → Prop} {x1 : Int} {x2 : Int} {s : lf_Z} (hQ : ∀ (z : Bool) (s' : lf_Z), iv_A s'.1 s'.2.2 → lf_fq [96, 104, 107, 108] 3 true s.1 s.2.2 s'.1 s'.2.2 → Q z s') {M2 : Nat} (hX2 : ∀ (x2 : Int) (s' : lf_Z), iv_A s'.1 s'.2.2 → lf_fq [96, 104, 107, 108] 3 true s.1 s.2.2 s'.1 s'.2.2 → 0 ≤ x2 ∧ x2 ≤ 2147483647 → (2147483647 - x2).toNat < M2 → X2 x2 s') (hM2 : (2147483647 - x2).toNat ≤ M2) (hI : iv_A s.1 s.2.2) (bx1 : (-2147483648) ≤ x1 ∧ x1 ≤ 2147483647) (bx2 : 0 ≤ x2 ∧ x2 ≤ 2147483647) : fm_258_p2 Q x1 X2 x2 s := by
  unfold fm_258_p2
  refine ⟨(show lf_R x2 from lf_Rof (by omega)), ?_⟩
  refine ⟨(show lf_R x1 from lf_Rof (by omega)), ?_⟩
  refine ⟨fun c1 => ?_, fun c1 => ?_⟩
  · skip
    have c1 : x1 ≤ x2 := c1
    exact hQ true s hI (lf_fq_rf)
  · skip
    have c1 : ¬ (x1 ≤ x2) := c1
    refine sm_259 hI (fun z24 s23 hI3 fr2 => ?_)
    have fr5 : lf_fq [96, 104, 107, 108] 3 true s.1 s.2.2 s23.1 s23.2.2 := lf_fq_tr (lf_fq_rf) (lf_fq_wk fr2 rfl (by decide) (by decide))
    refine ⟨fun c6 => ?_, fun c6 => ?_⟩
    · skip
      exact hX2 (x2 + 1) s23 hI3 fr5 (show (0 : Int) ≤ x2 + 1 ∧ x2 + 1 ≤ (2147483647 : Int) from by omega) (show (2147483647 - (x2 + 1)).toNat < M2 from by omega)
    · skip
      exact hQ false s23 hI3 fr5
theorem sm_258_p2L {Q : Bool → lf_Z → Prop} {x1 : Int} {x2 : Int} {s : lf_Z} (hQ : ∀ (z : Bool) (s' : lf_Z), iv_A s'.1 s'.2.2 → lf_fq [96, 104, 107, 108] 3 true s.1 s.2.2 s'.1 s'.2.2 → Q z s') (hI : iv_A s.1 s.2.2) (bx1 : (-2147483648) ≤ x1 ∧ x1 ≤ 2147483647) (bx2 : 0 ≤ x2 ∧ x2 ≤ 2147483647) : fm_258_p2L Q x1 x2 s := by
  intro X2 hX
  have key : ∀ (m9 : Nat) (x2 : Int) (s' : lf_Z), iv_A s'.1 s'.2.2 → lf_fq [96, 104, 107, 108] 3 true s.1 s.2.2 s'.1 s'.2.2 → 0 ≤ x2 ∧ x2 ≤ 2147483647 → (2147483647 - x2).toNat < m9 → X2 x2 s' := by
    intro m9
    induction m9 with
    | zero => intro x2 s' _ _ bx2 h9; exact absurd h9 (Nat.not_lt_zero _)
    | succ m9 ih => intro x2 s' i7 f7 bx2 h9; exact hX _ _ (sm_258_p2 (fun r9 t9 i9 f9 => hQ r9 t9 i9 (lf_fq_tr f7 f9))   (fun x2' t8 i8 f8 bx2' h8 => ih x2' t8 i8 (lf_fq_tr f7 f8) bx2' (by omega)) (Nat.le_refl _)  i7  bx1 bx2  )
  exact key _ _ s hI lf_fq_rf bx2 (Nat.lt_succ_self _)
theorem sm_258 {a1 : Int} {Q : Bool → lf_Z → Prop} {s : lf_Z} (hI : iv_A s.1 s.2.2) (ba1 : (-2147483648) ≤ a1 ∧ a1 ≤ 2147483647) (hQ : ∀ (z : Bool) (s' : lf_Z), iv_A s'.1 s'.2.2 → lf_fq [96, 104, 107, 108] 3 true s.1 s.2.2 s'.1 s'.2.2 → Q z s') : fm_258 a1 Q s := by
  unfold fm_258
  exact sm_258_p2L hQ hI (show (-2147483648 : Int) ≤ a1 ∧ a1 ≤ (2147483647 : Int) from by omega) (show (0 : Int) ≤ 0 ∧ 0 ≤ (2147483647 : Int) from by omega)
-- fm_279 Model.allDone 95
theorem sm_279_p4 {X4 : Int → Int → lf_Z → Prop} {Q : Int → lf_Z → Prop} {x1 : Int} {x2 : Int} {s : lf_Z} (hQ : ∀ (r : Int), ((-2147483648) ≤ r ∧ r ≤ 2147483647) → Q r s) {M4 : Nat} (hX4 : ∀ (x1 : Int) (x2 : Int), (-2147483648) ≤ x1 ∧ x1 ≤ 2147483647 → 0 ≤ x2 ∧ x2 ≤ 12 → (12 - x2).toNat < M4 → X4 x1 x2 s) (hM4 : (12 - x2).toNat ≤ M4) (hI : iv_A s.1 s.2.2) (bx1 : (-2147483648) ≤ x1 ∧ x1 ≤ 2147483647) (bx2 : 0 ≤ x2 ∧ x2 ≤ 12) : fm_279_p4 Q X4 x1 x2 s := by
  unfold fm_279_p4
  have b1 : 0 ≤ s.1 96 0 ∧ s.1 96 0 ≤ 12 := iv_rd96 hI (iv_f3e1fa21c (by omega))
  refine ⟨(show lf_R x2 from lf_Rof (by omega)), ?_⟩
  refine ⟨(show lf_R (s.1 96 0) from lf_Rof (by omega)), ?_⟩
  refine ⟨fun c2 => ?_, fun c2 => ?_⟩
  · skip
    have c2 : s.1 96 0 ≤ x2 := c2
    exact hQ x1 (show (-2147483648 : Int) ≤ x1 ∧ x1 ≤ (2147483647 : Int) from by omega)
  · skip
    have c2 : ¬ (s.1 96 0 ≤ x2) := c2
    refine sm_246 hI (show (0 : Int) ≤ x2 ∧ x2 ≤ (11 : Int) from by omega) (fun r24 q3 => ?_)
    have b4 : (-2147483648) ≤ lf_w (x1 + r24) ∧ lf_w (x1 + r24) ≤ 2147483647 := lf_wB
    exact hX4 (lf_w (x1 + r24)) (x2 + 1) (show (-2147483648 : Int) ≤ lf_w (x1 + r24) ∧ lf_w (x1 + r24) ≤ (2147483647 : Int) from by omega) (show (0 : Int) ≤ x2 + 1 ∧ x2 + 1 ≤ (12 : Int) from by omega) (show (12 - (x2 + 1)).toNat < M4 from by omega)
theorem sm_279_p4L {Q : Int → lf_Z → Prop} {x1 : Int} {x2 : Int} {s : lf_Z} (hQ : ∀ (r : Int), ((-2147483648) ≤ r ∧ r ≤ 2147483647) → Q r s) (hI : iv_A s.1 s.2.2) (bx1 : (-2147483648) ≤ x1 ∧ x1 ≤ 2147483647) (bx2 : 0 ≤ x2 ∧ x2 ≤ 12) : fm_279_p4L Q x1 x2 s := by
  intro X4 hX
  have key : ∀ (m9 : Nat) (x1 : Int) (x2 : Int), (-2147483648) ≤ x1 ∧ x1 ≤ 2147483647 → 0 ≤ x2 ∧ x2 ≤ 12 → (12 - x2).toNat < m9 → X4 x1 x2 s := by
    intro m9
    induction m9 with
    | zero => intro x1 x2 bx1 bx2 h9; exact absurd h9 (Nat.not_lt_zero _)
    | succ m9 ih => intro x1 x2 bx1 bx2 h9; exact hX _ _ _ (sm_279_p4 hQ   (fun x1' x2' bx1' bx2' h8 => ih x1' x2' bx1' bx2' (by omega)) (Nat.le_refl _)  hI  bx1 bx2  )
  exact key _ _ _ bx1 bx2   (Nat.lt_succ_self _)
theorem sm_279 {Q : Int → lf_Z → Prop} {s : lf_Z} (hI : iv_A s.1 s.2.2) (hQ : ∀ (r : Int), ((-2147483648) ≤ r ∧ r ≤ 2147483647) → Q r s) : fm_279 Q s := by
  unfold fm_279
  exact sm_279_p4L hQ hI (show (-2147483648 : Int) ≤ 0 ∧ 0 ≤ (2147483647 : Int) from by omega) (show (0 : Int) ≤ 0 ∧ 0 ≤ (12 : Int) from by omega)
-- fm_257 Model.minute 95 i
theorem sm_257 {a1 : Int} {Q : Int → lf_Z → Prop} {s : lf_Z} (hI : iv_A s.1 s.2.2) (ba1 : (-2147483648) ≤ a1 ∧ a1 ≤ 2147483647) (hQ : ∀ (r : Int) (s' : lf_Z), iv_A s'.1 s'.2.2 → lf_fq [96, 104, 107, 108] 3 true s.1 s.2.2 s'.1 s'.2.2 → ((-2147483648) ≤ r ∧ r ≤ 2147483647) → Q r s') : fm_257 a1 Q s := by
  unfold fm_257
  refine sm_183 hI (show (-2147483648 : Int) ≤ a1 ∧ a1 ≤ (2147483647 : Int) from by omega) (show (-1 : Int) ≤ 1 ∧ 1 ≤ (97 : Int) from by omega) (show (-2147483648 : Int) ≤ 60 ∧ 60 ≤ (2147483647 : Int) from by omega) (fun z22 q1 => ?_)
  refine ⟨fun c2 => ?_, fun c2 => ?_⟩
  · skip
    have dc2 := q1.2 c2
    exact hQ (-1) s hI (lf_fq_rf) (show (-2147483648 : Int) ≤ (-1) ∧ (-1) ≤ (2147483647 : Int) from by omega)
  · skip
    have dc2 := q1.1 c2
    have b3 : (-2147483648) ≤ s.1 96 3 ∧ s.1 96 3 ≤ 2147483647 := iv_full hI
    have b4 : (-2147483648) ≤ lf_w ((s.1 96 3) + a1) ∧ lf_w ((s.1 96 3) + a1) ≤ 2147483647 := lf_wB
    refine ⟨fun c5 => ?_, fun c5 => ?_⟩
    · skip
      have c5 : 999 < lf_w ((s.1 96 3) + a1) := c5
      exact hQ (-1) s hI (lf_fq_rf) (show (-2147483648 : Int) ≤ (-1) ∧ (-1) ≤ (2147483647 : Int) from by omega)
    · skip
      have c5 : ¬ (999 < lf_w ((s.1 96 3) + a1)) := c5
      refine sm_258 hI (show (-2147483648 : Int) ≤ a1 ∧ a1 ≤ (2147483647 : Int) from by omega) (fun z24 s23 hI7 fr6 => ?_)
      have fr9 : lf_fq [96, 104, 107, 108] 3 true s.1 s.2.2 s23.1 s23.2.2 := lf_fq_tr (lf_fq_rf) (lf_fq_wk fr6 rfl (by decide) (by decide))
      refine ⟨fun c10 => ?_, fun c10 => ?_⟩
      · skip
        exact hQ (-1) s23 hI7 fr9 (show (-2147483648 : Int) ≤ (-1) ∧ (-1) ≤ (2147483647 : Int) from by omega)
      · skip
        refine sm_279 hI7 (fun r26 q11 => ?_)
        exact hQ r26 s23 hI7 fr9 (show (-2147483648 : Int) ≤ r26 ∧ r26 ≤ (2147483647 : Int) from by omega)
-- fm_99 Land.hasPerson 1 i
theorem sm_99 {a1 : Int} {Q : Bool → lf_Z → Prop} {s : lf_Z} (hI : iv_A s.1 s.2.2) (ba1 : (-2147483648) ≤ a1 ∧ a1 ≤ 2147483647) (hQ : ∀ (z : Bool), ((z = true → (0 ≤ a1 ∧ a1 < s.1 1 2)) ∧ (z = false → ¬ (0 ≤ a1 ∧ a1 < s.1 1 2))) → Q z s) : fm_99 a1 Q s := by
  unfold fm_99
  refine ⟨(show lf_R a1 from lf_Rof (by omega)), ?_⟩
  refine ⟨fun c1 => ?_, fun c1 => ?_⟩
  · skip
    have c1 : a1 < 0 := c1
    exact hQ false (lf_pf (by omega))
  · skip
    have c1 : ¬ (a1 < 0) := c1
    have b2 : 0 ≤ s.1 1 2 ∧ s.1 1 2 ≤ 6 := iv_r1_2 hI
    refine ⟨(show lf_R (s.1 1 2) from lf_Rof (by omega)), ?_⟩
    refine ⟨fun c3 => ?_, fun c3 => ?_⟩
    · skip
      have c3 : s.1 1 2 ≤ a1 := c3
      exact hQ false (lf_pf (by omega))
    · skip
      have c3 : ¬ (s.1 1 2 ≤ a1) := c3
      exact hQ true (lf_pt (by omega))
-- fm_98 ElevenBullocks.send 0 i i
theorem sm_98 {a1 : Int} {a2 : Int} {Q : Bool → lf_Z → Prop} {s : lf_Z} (hI : iv_A s.1 s.2.2) (ba1 : (-2147483648) ≤ a1 ∧ a1 ≤ 2147483647) (ba2 : (-2147483648) ≤ a2 ∧ a2 ≤ 2147483647) (hQ : ∀ (z : Bool) (s' : lf_Z), iv_A s'.1 s'.2.2 → lf_fq [20, 22, 23, 24] 1000000 true s.1 s.2.2 s'.1 s'.2.2 → Q z s') : fm_98 a1 a2 Q s := by
  unfold fm_98
  refine sm_99 hI (show (-2147483648 : Int) ≤ a1 ∧ a1 ≤ (2147483647 : Int) from by omega) (fun z22 q1 => ?_)
  have b2 : 0 ≤ s.1 1 2 ∧ s.1 1 2 ≤ 6 := iv_r1_2 hI
  refine ⟨fun c3 => ?_, fun c3 => ?_⟩
  · skip
    have dc3 := q1.2 c3
    exact hQ false s hI (lf_fq_rf)
  · skip
    have dc3 := q1.1 c3
    have b4 : 0 ≤ s.1 1 0 ∧ s.1 1 0 ≤ 12 := iv_r1_0 hI
    refine sm_15 hI (show (-2147483648 : Int) ≤ a2 ∧ a2 ≤ (2147483647 : Int) from by omega) (show (-1 : Int) ≤ (-1) ∧ (-1) ≤ (99 : Int) from by omega) (show (-2147483648 : Int) ≤ (s.1 1 0) - 1 ∧ (s.1 1 0) - 1 ≤ (2147483647 : Int) from by omega) (fun z24 q5 => ?_)
    refine ⟨fun c6 => ?_, fun c6 => ?_⟩
    · skip
      have dc6 := q5.2 c6
      exact hQ false s hI (lf_fq_rf)
    · skip
      have dc6 := q5.1 c6
      refine ⟨(show (0 : Int) ≤ a1 ∧ a1 < (6 : Int) from by omega), ?_⟩
      have b7 : (-2147483648) ≤ s.1 20 a1 ∧ s.1 20 a1 ≤ 2147483647 := iv_full hI
      refine ⟨(show lf_R (s.1 20 a1) from lf_Rof (by omega)), ?_⟩
      refine ⟨(show lf_R a2 from lf_Rof (by omega)), ?_⟩
      refine ⟨fun c8 => ?_, fun c8 => ?_⟩
      · skip
        have c8 : s.1 20 a1 ≠ a2 := c8
        refine sm_67 hI (show (0 : Int) ≤ s.1 1 2 ∧ s.1 1 2 ≤ (6 : Int) from by omega) (fun s28 hI10 fr9 => ?_)
        have fr12 : lf_fq [20, 22, 23, 24] 1000000 true s.1 s.2.2 s28.1 s28.2.2 := lf_fq_tr (lf_fq_rf) (lf_fq_wk fr9 rfl (by decide) (by decide))
        have hI13 : iv_A (lf_up s28.1 20 a1 a2) s28.2.2 := iv_w20 hI10 (by omega)
        have fr14 : lf_fq [20, 22, 23, 24] 1000000 true s.1 s.2.2 (lf_up s28.1 20 a1 a2) s28.2.2 := lf_fq_up fr12 rfl (fun h => absurd h (by decide))
        exact hQ true (lf_up s28.1 20 a1 a2, s28.2.1, s28.2.2) hI13 fr14
      · skip
        have c8 : ¬ (s.1 20 a1 ≠ a2) := c8
        exact hQ false s hI (lf_fq_rf)
-- fm_249 Model.isPerson 95 i
theorem sm_249 {a1 : Int} {Q : Bool → lf_Z → Prop} {s : lf_Z} (hI : iv_A s.1 s.2.2) (ba1 : (-2147483648) ≤ a1 ∧ a1 ≤ 2147483647) (hQ : ∀ (z : Bool), ((z = true → (0 ≤ a1 ∧ a1 < s.1 96 2)) ∧ (z = false → ¬ (0 ≤ a1 ∧ a1 < s.1 96 2))) → Q z s) : fm_249 a1 Q s := by
  unfold fm_249
  have b1 : 0 ≤ s.1 96 2 ∧ s.1 96 2 ≤ 6 := iv_rd96 hI (iv_f2103129b (by omega))
  have b2 : s.1 96 2 ≤ 0 ∨ 0 < s.1 96 0 := iv_l96_2 hI
  refine sm_183 hI (show (-2147483648 : Int) ≤ a1 ∧ a1 ≤ (2147483647 : Int) from by omega) (show (-1 : Int) ≤ 0 ∧ 0 ≤ (97 : Int) from by omega) (show (-2147483648 : Int) ≤ (s.1 96 2) - 1 ∧ (s.1 96 2) - 1 ≤ (2147483647 : Int) from by omega) (fun z22 q3 => ?_)
  exact hQ z22 ⟨fun h9 => by have h8 := q3.1 h9; omega, fun h9 => by have h8 := q3.2 h9; omega⟩
-- fm_248 Model.send 95 i i
theorem sm_248_p21 {Q : Bool → lf_Z → Prop} {x1 : Int} {x2 : Int} {s : lf_Z} (hQ : ∀ (z : Bool) (s' : lf_Z), iv_A s'.1 s'.2.2 → lf_fq [96] 9 true s.1 s.2.2 s'.1 s'.2.2 → Q z s') (hI : iv_A s.1 s.2.2) (bx1 : 0 ≤ x1 ∧ x1 ≤ 5) (bx2 : (-1) ≤ x2 ∧ x2 ≤ 11) : fm_248_p21 Q x1 x2 s := by
  unfold fm_248_p21
  refine sm_239b hI (show (0 : Int) ≤ x1 ∧ x1 ≤ (5 : Int) from by omega) (fun r25 q6 => ?_)
  refine ⟨(show lf_R r25 from lf_Rof (by omega)), ?_⟩
  refine ⟨(show lf_R x2 from lf_Rof (by omega)), ?_⟩
  refine ⟨fun c7 => ?_, fun c7 => ?_⟩
  · skip
    have c7 : r25 ≠ x2 := c7
    refine sm_244 hI (fun s28 hI9 fr8 => ?_)
    have fr11 : lf_fq [96] 9 true s.1 s.2.2 s28.1 s28.2.2 := lf_fq_tr (lf_fq_rf) (lf_fq_wk fr8 rfl (by decide) (by decide))
    refine sm_191e hI9 (show (0 : Int) ≤ x1 ∧ x1 ≤ (5 : Int) from by omega) (show (-1 : Int) ≤ x2 ∧ x2 ≤ (11 : Int) from by omega) (fun s29 hI13 fr12 => ?_)
    have fr15 : lf_fq [96] 9 true s.1 s.2.2 s29.1 s29.2.2 := lf_fq_tr fr11 (lf_fq_wk fr12 rfl (by decide) (by decide))
    exact hQ true s29 hI13 fr15
  · skip
    have c7 : ¬ (r25 ≠ x2) := c7
    exact hQ false s hI (lf_fq_rf)
theorem sm_248 {a1 : Int} {a2 : Int} {Q : Bool → lf_Z → Prop} {s : lf_Z} (hI : iv_A s.1 s.2.2) (ba1 : (-2147483648) ≤ a1 ∧ a1 ≤ 2147483647) (ba2 : (-2147483648) ≤ a2 ∧ a2 ≤ 2147483647) (hQ : ∀ (z : Bool) (s' : lf_Z), iv_A s'.1 s'.2.2 → lf_fq [96] 9 true s.1 s.2.2 s'.1 s'.2.2 → Q z s') : fm_248 a1 a2 Q s := by
  unfold fm_248
  refine sm_249 hI (show (-2147483648 : Int) ≤ a1 ∧ a1 ≤ (2147483647 : Int) from by omega) (fun z22 q1 => ?_)
  have b2 : 0 ≤ s.1 96 2 ∧ s.1 96 2 ≤ 6 := iv_rd96 hI (iv_f2103129b (by omega))
  have b3 : s.1 96 2 ≤ 0 ∨ 0 < s.1 96 0 := iv_l96_2 hI
  refine ⟨fun c4 => ?_, fun c4 => ?_⟩
  · skip
    have dc4 := q1.2 c4
    exact hQ false s hI (lf_fq_rf)
  · skip
    have dc4 := q1.1 c4
    refine ⟨(show lf_R a2 from lf_Rof (by omega)), ?_⟩
    refine ⟨fun c5 => ?_, fun c5 => ?_⟩
    · skip
      have c5 : a2 = (-1) := c5
      exact sm_248_p21 hQ hI (show (0 : Int) ≤ a1 ∧ a1 ≤ (5 : Int) from by omega) (show (-1 : Int) ≤ a2 ∧ a2 ≤ (11 : Int) from by omega)
    · skip
      have c5 : ¬ (a2 = (-1)) := c5
      refine sm_185 hI (show (-2147483648 : Int) ≤ a2 ∧ a2 ≤ (2147483647 : Int) from by omega) (fun z31 q16 => ?_)
      have b17 : 0 ≤ s.1 96 0 ∧ s.1 96 0 ≤ 12 := iv_rd96 hI (iv_f3e1fa21c (by omega))
      refine ⟨fun c18 => ?_, fun c18 => ?_⟩
      · skip
        have dc18 := q16.2 c18
        exact hQ false s hI (lf_fq_rf)
      · skip
        have dc18 := q16.1 c18
        exact sm_248_p21 hQ hI (show (0 : Int) ≤ a1 ∧ a1 ≤ (5 : Int) from by omega) (show (-1 : Int) ≤ a2 ∧ a2 ≤ (11 : Int) from by omega)
-- fm_101 Stand.turn 15 i
theorem sm_101 {a1 : Int} {Q : lf_Z → Prop} {s : lf_Z} (hI : iv_A s.1 s.2.2) (ba1 : 0 ≤ a1 ∧ a1 ≤ 15) (hQ : ∀  (s' : lf_Z), iv_A s'.1 s'.2.2 → lf_fq [15] 1000000 true s.1 s.2.2 s'.1 s'.2.2 → Q  s') : fm_101 a1 Q s := by
  unfold fm_101
  have b1 : (-2147483648) ≤ s.1 15 6 ∧ s.1 15 6 ≤ 2147483647 := iv_full hI
  have b2 : 1 ≤ lf_shl 1 a1 ∧ lf_shl 1 a1 ≤ 32768 := lf_shl1 (m := 15) (by omega) (by omega) (by decide)
  have b3 : (-2147483648) ≤ lf_xor (s.1 15 6) (lf_shl 1 a1) ∧ lf_xor (s.1 15 6) (lf_shl 1 a1) ≤ 2147483647 := lf_xorB
  have hI4 : iv_A (lf_up s.1 15 6 (lf_xor (s.1 15 6) (lf_shl 1 a1))) s.2.2 := iv_w15_6 hI (by omega)
  have fr5 : lf_fq [15] 1000000 true s.1 s.2.2 (lf_up s.1 15 6 (lf_xor (s.1 15 6) (lf_shl 1 a1))) s.2.2 := lf_fq_up (lf_fq_rf) rfl (fun h => absurd h (by decide))
  exact hQ (lf_up s.1 15 6 (lf_xor (s.1 15 6) (lf_shl 1 a1)), s.2.1, s.2.2) hI4 fr5
-- fm_100 ElevenBullocks.gate 0 i i
theorem sm_100 {a1 : Int} {a2 : Int} {Q : Bool → lf_Z → Prop} {s : lf_Z} (hI : iv_A s.1 s.2.2) (ba1 : (-2147483648) ≤ a1 ∧ a1 ≤ 2147483647) (ba2 : 0 ≤ a2 ∧ a2 ≤ 1) (hQ : ∀ (z : Bool) (s' : lf_Z), iv_A s'.1 s'.2.2 → lf_fq [15, 22, 23, 24] 1000000 true s.1 s.2.2 s'.1 s'.2.2 → Q z s') : fm_100 a1 a2 Q s := by
  unfold fm_100
  refine sm_89 hI (show (-2147483648 : Int) ≤ a1 ∧ a1 ≤ (2147483647 : Int) from by omega) (fun z22 q1 => ?_)
  have b2 : 0 ≤ s.1 1 1 ∧ s.1 1 1 ≤ 16 := iv_r1_1 hI
  have b3 : 0 ≤ s.1 6 a1 ∧ s.1 6 a1 ≤ 1 := iv_r6 hI _
  refine ⟨fun c4 => ?_, fun c4 => ?_⟩
  · skip
    have dc4 := q1.2 c4
    exact hQ false s hI (lf_fq_rf)
  · skip
    have dc4 := q1.1 c4
    refine sm_90 hI (show (0 : Int) ≤ a1 ∧ a1 ≤ (15 : Int) from by omega) (fun z24 => ?_)
    have b7 : 0 ≤ lf_b z24 ∧ lf_b z24 ≤ 1 := lf_b01
    refine ⟨(show lf_R a2 from lf_Rof (by omega)), ?_⟩
    refine ⟨fun c6 => ?_, fun c6 => ?_⟩
    · skip
      have c6 : lf_b z24 ≠ a2 := c6
      have b8 : 0 ≤ s.1 1 2 ∧ s.1 1 2 ≤ 6 := iv_r1_2 hI
      refine sm_67 hI (show (0 : Int) ≤ s.1 1 2 ∧ s.1 1 2 ≤ (6 : Int) from by omega) (fun s26 hI10 fr9 => ?_)
      have fr12 : lf_fq [15, 22, 23, 24] 1000000 true s.1 s.2.2 s26.1 s26.2.2 := lf_fq_tr (lf_fq_rf) (lf_fq_wk fr9 rfl (by decide) (by decide))
      refine sm_101 hI10 (show (0 : Int) ≤ a1 ∧ a1 ≤ (15 : Int) from by omega) (fun s27 hI14 fr13 => ?_)
      have fr16 : lf_fq [15, 22, 23, 24] 1000000 true s.1 s.2.2 s27.1 s27.2.2 := lf_fq_tr fr12 (lf_fq_wk fr13 rfl (by decide) (by decide))
      exact hQ true s27 hI14 fr16
    · skip
      have c6 : ¬ (lf_b z24 ≠ a2) := c6
      exact hQ false s hI (lf_fq_rf)
-- fm_251 Model.isWay 95 i
theorem sm_251 {a1 : Int} {Q : Bool → lf_Z → Prop} {s : lf_Z} (hI : iv_A s.1 s.2.2) (ba1 : (-2147483648) ≤ a1 ∧ a1 ≤ 2147483647) (hQ : ∀ (z : Bool), ((z = true → (0 ≤ a1 ∧ a1 < s.1 96 1)) ∧ (z = false → ¬ (0 ≤ a1 ∧ a1 < s.1 96 1))) → Q z s) : fm_251 a1 Q s := by
  unfold fm_251
  have b1 : 0 ≤ s.1 96 1 ∧ s.1 96 1 ≤ 16 := iv_rd96 hI (iv_fd6ad3e54 (by omega))
  have b2 : s.1 96 1 ≤ 0 ∨ 0 < s.1 96 0 := iv_l96_1 hI
  refine sm_183 hI (show (-2147483648 : Int) ≤ a1 ∧ a1 ≤ (2147483647 : Int) from by omega) (show (-1 : Int) ≤ 0 ∧ 0 ≤ (97 : Int) from by omega) (show (-2147483648 : Int) ≤ (s.1 96 1) - 1 ∧ (s.1 96 1) - 1 ≤ (2147483647 : Int) from by omega) (fun z22 q3 => ?_)
  exact hQ z22 ⟨fun h9 => by have h8 := q3.1 h9; omega, fun h9 => by have h8 := q3.2 h9; omega⟩
-- fm_250 Model.gate 95 i i
theorem sm_250_p52 {Q : Bool → lf_Z → Prop} {y1 : Int} {y2 : Int} {s : lf_Z} (hQ : ∀ (z : Bool) (s' : lf_Z), iv_A s'.1 s'.2.2 → lf_fq [96] 9 true s.1 s.2.2 s'.1 s'.2.2 → Q z s') (hI : iv_A s.1 s.2.2) (by1 : 53 ≤ y1 ∧ y1 ≤ 113) (by2 : 0 ≤ y2 ∧ y2 ≤ 1) : fm_250_p52 Q y1 y2 s := by
  unfold fm_250_p52
  refine ⟨(show (0 : Int) ≤ y1 ∧ y1 < (1538 : Int) from by omega), ?_⟩
  have hI15 : iv_A (lf_up s.1 96 y1 y2) s.2.2 := iv_wd96 hI (lf_le2 (iv_f2c6f65e5 (y1) (by omega) (by omega)) (by omega)) (fun h => absurd h (by omega))
  have fr16 : lf_fq [96] 9 true s.1 s.2.2 (lf_up s.1 96 y1 y2) s.2.2 := lf_fq_up (lf_fq_rf) rfl (fun _ => by omega)
  exact hQ true (lf_up s.1 96 y1 y2, s.2.1, s.2.2) hI15 fr16
theorem sm_250 {a1 : Int} {a2 : Int} {Q : Bool → lf_Z → Prop} {s : lf_Z} (hI : iv_A s.1 s.2.2) (ba1 : (-2147483648) ≤ a1 ∧ a1 ≤ 2147483647) (ba2 : 0 ≤ a2 ∧ a2 ≤ 1) (hQ : ∀ (z : Bool) (s' : lf_Z), iv_A s'.1 s'.2.2 → lf_fq [96] 9 true s.1 s.2.2 s'.1 s'.2.2 → Q z s') : fm_250 a1 a2 Q s := by
  unfold fm_250
  refine sm_251 hI (show (-2147483648 : Int) ≤ a1 ∧ a1 ≤ (2147483647 : Int) from by omega) (fun z22 q1 => ?_)
  have b2 : 0 ≤ s.1 96 1 ∧ s.1 96 1 ≤ 16 := iv_rd96 hI (iv_fd6ad3e54 (by omega))
  have b3 : s.1 96 1 ≤ 0 ∨ 0 < s.1 96 0 := iv_l96_1 hI
  refine ⟨fun c4 => ?_, fun c4 => ?_⟩
  · skip
    have dc4 := q1.2 c4
    exact hQ false s hI (lf_fq_rf)
  · skip
    have dc4 := q1.1 c4
    refine sm_252 hI (show (0 : Int) ≤ a1 ∧ a1 ≤ (15 : Int) from by omega) (fun z24 => ?_)
    refine ⟨fun c6 => ?_, fun c6 => ?_⟩
    · skip
      exact hQ false s hI (lf_fq_rf)
    · skip
      refine sm_245 hI (show (0 : Int) ≤ a1 ∧ a1 ≤ (15 : Int) from by omega) (fun z26 => ?_)
      have b9 : 0 ≤ lf_b z26 ∧ lf_b z26 ≤ 1 := lf_b01
      refine ⟨(show lf_R a2 from lf_Rof (by omega)), ?_⟩
      refine ⟨fun c8 => ?_, fun c8 => ?_⟩
      · skip
        have c8 : lf_b z26 ≠ a2 := c8
        refine sm_244 hI (fun s28 hI11 fr10 => ?_)
        have fr13 : lf_fq [96] 9 true s.1 s.2.2 s28.1 s28.2.2 := lf_fq_tr (lf_fq_rf) (lf_fq_wk fr10 rfl (by decide) (by decide))
        refine ⟨fun c14 => ?_, fun c14 => ?_⟩
        · skip
          have c14 : a2 = 0 := c14
          exact sm_250_p52 (fun r9 t9 i9 f9 => hQ r9 t9 i9 (lf_fq_tr fr13 f9)) hI11 (show (53 : Int) ≤ (50 + (4 * a1)) + 3 ∧ (50 + (4 * a1)) + 3 ≤ (113 : Int) from by omega) (show (0 : Int) ≤ 0 ∧ 0 ≤ (1 : Int) from by omega)
        · skip
          have c14 : ¬ (a2 = 0) := c14
          exact sm_250_p52 (fun r9 t9 i9 f9 => hQ r9 t9 i9 (lf_fq_tr fr13 f9)) hI11 (show (53 : Int) ≤ (50 + (4 * a1)) + 3 ∧ (50 + (4 * a1)) + 3 ≤ (113 : Int) from by omega) (show (0 : Int) ≤ 1 ∧ 1 ≤ (1 : Int) from by omega)
      · skip
        have c8 : ¬ (lf_b z26 ≠ a2) := c8
        exact hQ false s hI (lf_fq_rf)
-- fm_102 ElevenBullocks.split 0 i i
theorem sm_102 {a1 : Int} {a2 : Int} {Q : Int → lf_Z → Prop} {s : lf_Z} (hI : iv_A s.1 s.2.2) (ba1 : (-2147483648) ≤ a1 ∧ a1 ≤ 2147483647) (ba2 : (-2147483648) ≤ a2 ∧ a2 ≤ 2147483647) (hQ : ∀ (r : Int) (s' : lf_Z), iv_A s'.1 s'.2.2 → lf_fq [16, 17, 18, 22, 23, 24] 1000000 true s.1 s.2.2 s'.1 s'.2.2 → ((-1) ≤ r ∧ r ≤ 3) → Q r s') : fm_102 a1 a2 Q s := by
  unfold fm_102
  refine sm_80 hI (show (-2147483648 : Int) ≤ a1 ∧ a1 ≤ (2147483647 : Int) from by omega) (fun z22 q1 => ?_)
  have b2 : (-2147483648) ≤ s.1 16 a1 ∧ s.1 16 a1 ≤ 2147483647 := iv_full hI
  refine ⟨fun c3 => ?_, fun c3 => ?_⟩
  · skip
    have dc3 := q1.2 c3
    exact hQ (-1) s hI (lf_fq_rf) (show (-1 : Int) ≤ (-1) ∧ (-1) ≤ (3 : Int) from by omega)
  · skip
    have dc3 := q1.1 c3
    refine ⟨(show (0 : Int) ≤ a1 ∧ a1 < (4 : Int) from by omega), ?_⟩
    refine sm_15 hI (show (-2147483648 : Int) ≤ a2 ∧ a2 ≤ (2147483647 : Int) from by omega) (show (-1 : Int) ≤ 1 ∧ 1 ≤ (99 : Int) from by omega) (show (-2147483648 : Int) ≤ (s.1 16 a1) - 1 ∧ (s.1 16 a1) - 1 ≤ (2147483647 : Int) from by omega) (fun z25 q4 => ?_)
    refine ⟨fun c5 => ?_, fun c5 => ?_⟩
    · skip
      have dc5 := q4.1 c5
      refine sm_66 hI (fun r27 q6 => ?_)
      refine ⟨(show lf_R r27 from lf_Rof (by omega)), ?_⟩
      refine ⟨fun c7 => ?_, fun c7 => ?_⟩
      · skip
        have c7 : r27 = (-1) := c7
        exact hQ r27 s hI (lf_fq_rf) (show (-1 : Int) ≤ r27 ∧ r27 ≤ (3 : Int) from by omega)
      · skip
        have c7 : ¬ (r27 = (-1)) := c7
        have b8 : 0 ≤ s.1 1 2 ∧ s.1 1 2 ≤ 6 := iv_r1_2 hI
        refine sm_67 hI (show (0 : Int) ≤ s.1 1 2 ∧ s.1 1 2 ≤ (6 : Int) from by omega) (fun s29 hI10 fr9 => ?_)
        have fr12 : lf_fq [16, 17, 18, 22, 23, 24] 1000000 true s.1 s.2.2 s29.1 s29.2.2 := lf_fq_tr (lf_fq_rf) (lf_fq_wk fr9 rfl (by decide) (by decide))
        have b13 : (-2147483648) ≤ s29.1 16 a1 ∧ s29.1 16 a1 ≤ 2147483647 := iv_full hI10
        have b14 : s29.1 16 a1 = s.1 16 a1 := congrFun (fr9.1 16 rfl) _
        have b15 : (-1) ≤ s29.1 17 a1 ∧ s29.1 17 a1 ≤ 11 := iv_r17 hI10 _
        have b16 : s29.1 17 a1 = s.1 17 a1 := congrFun (fr9.1 17 rfl) _
        have b17 : s29.1 16 a1 ≤ 0 ∨ 0 ≤ s29.1 17 a1 := iv_sp hI10 (by omega) (by omega)
        have hI18 : iv_A (lf_up s29.1 16 a1 ((s29.1 16 a1) - a2)) s29.2.2 := iv_w16 hI10 (by omega) (by omega)
        have fr19 : lf_fq [16, 17, 18, 22, 23, 24] 1000000 true s.1 s.2.2 (lf_up s29.1 16 a1 ((s29.1 16 a1) - a2)) s29.2.2 := lf_fq_up fr12 rfl (fun h => absurd h (by decide))
        have b20 : (lf_up s29.1 16 a1 ((s29.1 16 a1) - a2)) 16 a1 ≤ 0 ∨ 0 ≤ s29.1 17 a1 := iv_sp hI18 (by omega) (by omega)
        have b21 : (-1) ≤ s29.1 18 a1 ∧ s29.1 18 a1 ≤ 11 := (show (-1) ≤ (lf_up s29.1 16 a1 ((s29.1 16 a1) - a2)) 18 a1 ∧ (lf_up s29.1 16 a1 ((s29.1 16 a1) - a2)) 18 a1 ≤ 11 from iv_r18 hI18 _)
        have b22 : s29.1 18 a1 = s.1 18 a1 := congrFun (fr9.1 18 rfl) _
        refine sm_69 hI18 (show (0 : Int) ≤ r27 ∧ r27 ≤ (3 : Int) from by omega) (show (-2147483648 : Int) ≤ a2 ∧ a2 ≤ (2147483647 : Int) from by omega) (show (-1 : Int) ≤ s29.1 17 a1 ∧ s29.1 17 a1 ≤ (11 : Int) from by omega) (show (-1 : Int) ≤ s29.1 18 a1 ∧ s29.1 18 a1 ≤ (11 : Int) from by omega) (show a2 ≤ 0 ∨ 0 ≤ (s29.1 17 a1) from by omega) (fun s30 hI24 fr23 => ?_)
        have fr26 : lf_fq [16, 17, 18, 22, 23, 24] 1000000 true s.1 s.2.2 s30.1 s30.2.2 := lf_fq_tr fr19 (lf_fq_wk fr23 rfl (by decide) (by decide))
        exact hQ r27 s30 hI24 fr26 (show (-1 : Int) ≤ r27 ∧ r27 ≤ (3 : Int) from by omega)
    · skip
      have dc5 := q4.2 c5
      exact hQ (-1) s hI (lf_fq_rf) (show (-1 : Int) ≤ (-1) ∧ (-1) ≤ (3 : Int) from by omega)
-- fm_254 Model.isBunch 95 i
theorem sm_254 {a1 : Int} {Q : Bool → lf_Z → Prop} {s : lf_Z} (hI : iv_A s.1 s.2.2) (ba1 : (-2147483648) ≤ a1 ∧ a1 ≤ 2147483647) (hQ : ∀ (z : Bool), ((z = true → (0 ≤ a1 ∧ a1 ≤ 3)) ∧ (z = false → True)) → Q z s) : fm_254 a1 Q s := by
  unfold fm_254
  refine sm_183 hI (show (-2147483648 : Int) ≤ a1 ∧ a1 ≤ (2147483647 : Int) from by omega) (show (-1 : Int) ≤ 0 ∧ 0 ≤ (97 : Int) from by omega) (show (-2147483648 : Int) ≤ 3 ∧ 3 ≤ (2147483647 : Int) from by omega) (fun z22 q1 => ?_)
  refine ⟨fun c2 => ?_, fun c2 => ?_⟩
  · skip
    have dc2 := q1.2 c2
    exact hQ false ⟨fun h => (by cases h), fun _ => trivial⟩
  · skip
    have dc2 := q1.1 c2
    refine sm_242 hI (show (0 : Int) ≤ a1 ∧ a1 ≤ (3 : Int) from by omega) (fun r24 q3 => ?_)
    refine ⟨(show lf_R r24 from lf_Rof (by omega)), ?_⟩
    refine ⟨fun c4 => ?_, fun c4 => ?_⟩
    · skip
      have c4 : r24 ≤ 0 := c4
      exact hQ false ⟨fun h => (by cases h), fun _ => trivial⟩
    · skip
      have c4 : ¬ (r24 ≤ 0) := c4
      exact hQ true ⟨fun _ => by omega, fun _ => trivial⟩
-- fm_253 Model.split 95 i i
theorem sm_253 {a1 : Int} {a2 : Int} {Q : Int → lf_Z → Prop} {s : lf_Z} (hI : iv_A s.1 s.2.2) (ba1 : (-2147483648) ≤ a1 ∧ a1 ≤ 2147483647) (ba2 : (-2147483648) ≤ a2 ∧ a2 ≤ 2147483647) (hQ : ∀ (r : Int) (s' : lf_Z), iv_A s'.1 s'.2.2 → lf_fq [96] 9 true s.1 s.2.2 s'.1 s'.2.2 → ((-1) ≤ r ∧ r ≤ 3) → Q r s') : fm_253 a1 a2 Q s := by
  unfold fm_253
  refine sm_241 hI (fun r22 q1 => ?_)
  refine sm_254 hI (show (-2147483648 : Int) ≤ a1 ∧ a1 ≤ (2147483647 : Int) from by omega) (fun z24 q2 => ?_)
  refine ⟨fun c3 => ?_, fun c3 => ?_⟩
  · skip
    have dc3 := q2.2 c3
    exact hQ (-1) s hI (lf_fq_rf) (show (-1 : Int) ≤ (-1) ∧ (-1) ≤ (3 : Int) from by omega)
  · skip
    have dc3 := q2.1 c3
    refine sm_242 hI (show (0 : Int) ≤ a1 ∧ a1 ≤ (3 : Int) from by omega) (fun r26 q4 => ?_)
    have b5 : (-2147483648) ≤ lf_w (r26 - 1) ∧ lf_w (r26 - 1) ≤ 2147483647 := lf_wB
    refine sm_183 hI (show (-2147483648 : Int) ≤ a2 ∧ a2 ≤ (2147483647 : Int) from by omega) (show (-1 : Int) ≤ 1 ∧ 1 ≤ (97 : Int) from by omega) (show (-2147483648 : Int) ≤ lf_w (r26 - 1) ∧ lf_w (r26 - 1) ≤ (2147483647 : Int) from by omega) (fun z28 q6 => ?_)
    refine ⟨fun c7 => ?_, fun c7 => ?_⟩
    · skip
      have dc7 := q6.2 c7
      exact hQ (-1) s hI (lf_fq_rf) (show (-1 : Int) ≤ (-1) ∧ (-1) ≤ (3 : Int) from by omega)
    · skip
      have dc7 := q6.1 c7
      refine ⟨(show lf_R r22 from lf_Rof (by omega)), ?_⟩
      refine ⟨fun c8 => ?_, fun c8 => ?_⟩
      · skip
        have c8 : 0 ≤ r22 := c8
        refine sm_244 hI (fun s30 hI10 fr9 => ?_)
        have fr12 : lf_fq [96] 9 true s.1 s.2.2 s30.1 s30.2.2 := lf_fq_tr (lf_fq_rf) (lf_fq_wk fr9 rfl (by decide) (by decide))
        refine ⟨(show (0 : Int) ≤ 114 + (3 * a1) ∧ 114 + (3 * a1) < (1538 : Int) from by omega), ?_⟩
        have b13 : (-2147483648) ≤ s30.1 96 (114 + (3 * a1)) ∧ s30.1 96 (114 + (3 * a1)) ≤ 2147483647 := iv_full hI10
        have b14 : (-2147483648) ≤ lf_w ((s30.1 96 (114 + (3 * a1))) - a2) ∧ lf_w ((s30.1 96 (114 + (3 * a1))) - a2) ≤ 2147483647 := lf_wB
        have hI15 : iv_A (lf_up s30.1 96 (114 + (3 * a1)) (lf_w ((s30.1 96 (114 + (3 * a1))) - a2))) s30.2.2 := iv_wd96 hI10 (lf_le2 (iv_f57aadde8 (a1) (by omega) (by omega)) (by omega)) (fun h => absurd h (by omega))
        have fr16 : lf_fq [96] 9 true s.1 s.2.2 (lf_up s30.1 96 (114 + (3 * a1)) (lf_w ((s30.1 96 (114 + (3 * a1))) - a2))) s30.2.2 := lf_fq_up fr12 rfl (fun _ => by omega)
        refine sm_255 hI15 (show (0 : Int) ≤ a1 ∧ a1 ≤ (3 : Int) from by omega) (fun r33 q17 => ?_)
        refine sm_256 hI15 (show (0 : Int) ≤ a1 ∧ a1 ≤ (3 : Int) from by omega) (fun r35 q18 => ?_)
        refine sm_247 hI15 (show (0 : Int) ≤ r22 ∧ r22 ≤ (3 : Int) from by omega) (show (-2147483648 : Int) ≤ a2 ∧ a2 ≤ (2147483647 : Int) from by omega) (show (-1 : Int) ≤ r33 ∧ r33 ≤ (11 : Int) from by omega) (show (-1 : Int) ≤ r35 ∧ r35 ≤ (11 : Int) from by omega) (fun s36 hI20 fr19 => ?_)
        have fr22 : lf_fq [96] 9 true s.1 s.2.2 s36.1 s36.2.2 := lf_fq_tr fr16 (lf_fq_wk fr19 rfl (by decide) (by decide))
        exact hQ r22 s36 hI20 fr22 (show (-1 : Int) ≤ r22 ∧ r22 ≤ (3 : Int) from by omega)
      · skip
        have c8 : ¬ (0 ≤ r22) := c8
        exact hQ (-1) s hI (lf_fq_rf) (show (-1 : Int) ≤ (-1) ∧ (-1) ≤ (3 : Int) from by omega)
