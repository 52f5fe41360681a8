-- fm_260 Model.pass 95
theorem sm_260_p163 {X115 : Int → lf_Z → Prop} {Q : lf_Z → Prop} {x1 : Int} {s : lf_Z} (hQ : ∀  (s' : lf_Z), iv_A s'.1 s'.2.2 → lf_fq [96, 104, 107, 108, 1006] 3 true s.1 s.2.2 s'.1 s'.2.2 → Q  s') {M115 : Nat} (hX115 : ∀ (x1 : Int) (s' : lf_Z), iv_A s'.1 s'.2.2 → lf_fq [96, 104, 107, 108, 1006] 3 true s.1 s.2.2 s'.1 s'.2.2 → 0 ≤ x1 ∧ x1 ≤ 4 → (4 - x1).toNat < M115 → X115 x1 s') (hM115 : (4 - x1).toNat ≤ M115) (hI : iv_A s.1 s.2.2) (bx1 : 0 ≤ x1 ∧ x1 ≤ 3) : fm_260_p163 X115 Q x1 s := by
  unfold fm_260_p163
  exact hX115 (x1 + 1) s hI (lf_fq_rf) (show (0 : Int) ≤ x1 + 1 ∧ x1 + 1 ≤ (4 : Int) from by omega) (show (4 - (x1 + 1)).toNat < M115 from by omega)
theorem sm_260_p115 {X115 : Int → lf_Z → Prop} {Q : lf_Z → Prop} {x1 : Int} {s : lf_Z} (hQ : ∀  (s' : lf_Z), iv_A s'.1 s'.2.2 → lf_fq [96, 104, 107, 108, 1006] 3 true s.1 s.2.2 s'.1 s'.2.2 → Q  s') {M115 : Nat} (hX115 : ∀ (x1 : Int) (s' : lf_Z), iv_A s'.1 s'.2.2 → lf_fq [96, 104, 107, 108, 1006] 3 true s.1 s.2.2 s'.1 s'.2.2 → 0 ≤ x1 ∧ x1 ≤ 4 → (4 - x1).toNat < M115 → X115 x1 s') (hM115 : (4 - x1).toNat ≤ M115) (hI : iv_A s.1 s.2.2) (bx1 : 0 ≤ x1 ∧ x1 ≤ 4) : fm_260_p115 Q X115 x1 s := by
  unfold fm_260_p115
  refine ⟨(show lf_R x1 from lf_Rof (by omega)), ?_⟩
  refine ⟨fun c5 => ?_, fun c5 => ?_⟩
  · skip
    replace c5 : 4 ≤ x1 := c5
    refine sm_278 hI (fun s25 hI7 fr6 => ?_)
    have fr9 : lf_fq [96, 104, 107, 108, 1006] 3 true s.1 s.2.2 s25.1 s25.2.2 := lf_fq_tr (lf_fq_rf) (lf_fq_wk fr6 rfl (by decide) (by decide))
    have b10 : (-2147483648) ≤ s25.1 96 3 ∧ s25.1 96 3 ≤ 2147483647 := iv_full hI7
    have b11 : s25.1 96 3 = s.1 96 3 := fr6.2.1 3 (by decide)
    have b12 : (-2147483648) ≤ lf_w ((s25.1 96 3) + 1) ∧ lf_w ((s25.1 96 3) + 1) ≤ 2147483647 := lf_wB
    have hI13 : iv_A (lf_up s25.1 96 3 (lf_w ((s25.1 96 3) + 1))) s25.2.2 := iv_wd96 hI7 (lf_le2 (iv_f0d376a7e (by omega)) (by omega)) (fun h => absurd h (by omega))
    have fr14 : lf_fq [96, 104, 107, 108, 1006] 3 true s.1 s.2.2 (lf_up s25.1 96 3 (lf_w ((s25.1 96 3) + 1))) s25.2.2 := lf_fq_up fr9 rfl (fun _ => ⟨by omega, fr_o (Or.inr (fr_n0 (by omega))) (Or.inr (fr_n1 (by omega))) (Or.inr (fr_n2 (by omega))) (Or.inr (fr_n3 (by omega))) (Or.inr (fr_n4 (by omega))) (Or.inr (fr_n5 (by omega))) (Or.inl rfl)⟩)
    exact hQ (lf_up s25.1 96 3 (lf_w ((s25.1 96 3) + 1)), s25.2.1, s25.2.2) hI13 fr14
  · skip
    replace c5 : ¬ (4 ≤ x1) := c5
    refine sm_242 hI (show (0 : Int) ≤ x1 ∧ x1 ≤ (3 : Int) from by omega) (fun r27 q15 => ?_)
    obtain ⟨q15, q15x⟩ := q15
    replace q15x : r27 = s.1 96 (114 + 3 * x1) := q15x
    refine ⟨(show lf_R r27 from lf_Rof (by omega)), ?_⟩
    refine ⟨fun c16 => ?_, fun c16 => ?_⟩
    · skip
      replace c16 : r27 ≤ 0 := c16
      exact sm_260_p163 hQ hX115 (show (4 - x1).toNat ≤ M115 from by omega) hI (show (0 : Int) ≤ x1 ∧ x1 ≤ (3 : Int) from by omega)
    · skip
      replace c16 : ¬ (r27 ≤ 0) := c16
      refine sm_255 hI (show (0 : Int) ≤ x1 ∧ x1 ≤ (3 : Int) from by omega) (fun r30 q17 => ?_)
      refine ⟨(show (0 : Int) ≤ (14 + (3 * r30)) + 2 ∧ (14 + (3 * r30)) + 2 < (1538 : Int) from by omega), ?_⟩
      have b18 : (-2147483648) ≤ s.1 96 ((14 + (3 * r30)) + 2) ∧ s.1 96 ((14 + (3 * r30)) + 2) ≤ 2147483647 := iv_full hI
      refine sm_242 hI (show (0 : Int) ≤ x1 ∧ x1 ≤ (3 : Int) from by omega) (fun r33 q19 => ?_)
      obtain ⟨q19, q19x⟩ := q19
      replace q19x : r33 = s.1 96 (114 + 3 * x1) := q19x
      refine sm_255 hI (show (0 : Int) ≤ x1 ∧ x1 ≤ (3 : Int) from by omega) (fun r35 q20 => ?_)
      refine sm_277 hI (show (0 : Int) ≤ r35 ∧ r35 ≤ (11 : Int) from by omega) (fun r37 q21 => ?_)
      have b22 : 0 ≤ r33 * r37 ∧ r33 * r37 ≤ 2376 := lf_mulB (a := r33) (b := r37) (p := 0) (q := 24) (r := 0) (u := 99) (by omega) (by omega) (by decide) (by decide) (by decide) (by decide) (by decide) (by decide) (by decide) (by decide)
      have b23 : (-2147483648) ≤ lf_w ((s.1 96 ((14 + (3 * r30)) + 2)) + (r33 * r37)) ∧ lf_w ((s.1 96 ((14 + (3 * r30)) + 2)) + (r33 * r37)) ≤ 2147483647 := lf_wB
      have hI24 : iv_A (lf_up s.1 96 ((14 + (3 * r30)) + 2) (lf_w ((s.1 96 ((14 + (3 * r30)) + 2)) + (r33 * r37)))) s.2.2 := iv_wd96 hI (lf_le2 (iv_f06618364 (r30) (by omega) (by omega)) (by omega)) (fun h => absurd h (by omega))
      have fr25 : lf_fq [96, 104, 107, 108, 1006] 3 true s.1 s.2.2 (lf_up s.1 96 ((14 + (3 * r30)) + 2) (lf_w ((s.1 96 ((14 + (3 * r30)) + 2)) + (r33 * r37)))) s.2.2 := lf_fq_up (lf_fq_rf) rfl (fun _ => ⟨by omega, fr_o (Or.inr (fr_n0 (by omega))) (Or.inr (fr_n1 (by omega))) (Or.inr (fr_n2 (by omega))) (Or.inr (fr_n3 (by omega))) (Or.inr (fr_n4 (by omega))) (Or.inr (fr_n5 (by omega))) (Or.inl rfl)⟩)
      exact sm_260_p163 (fun t9 i9 f9 => hQ t9 i9 (lf_fq_tr fr25 f9)) (fun p0 t9 i9 f9 => hX115 p0 t9 i9 (lf_fq_tr fr25 f9)) (show (4 - x1).toNat ≤ M115 from by omega) hI24 (show (0 : Int) ≤ x1 ∧ x1 ≤ (3 : Int) from by omega)
theorem sm_260_p115L {Q : lf_Z → Prop} {x1 : Int} {s : lf_Z} (hQ : ∀  (s' : lf_Z), iv_A s'.1 s'.2.2 → lf_fq [96, 104, 107, 108, 1006] 3 true s.1 s.2.2 s'.1 s'.2.2 → Q  s') (hI : iv_A s.1 s.2.2) (bx1 : 0 ≤ x1 ∧ x1 ≤ 4) : fm_260_p115L Q x1 s := by
  intro X115 hX
  have key : ∀ (m9 : Nat) (x1 : Int) (s' : lf_Z), iv_A s'.1 s'.2.2 → lf_fq [96, 104, 107, 108, 1006] 3 true s.1 s.2.2 s'.1 s'.2.2 → 0 ≤ x1 ∧ x1 ≤ 4 → (4 - x1).toNat < m9 → X115 x1 s' := by
    intro m9
    induction m9 with
    | zero => intro x1 s' _ _ bx1 h9; exact absurd h9 (Nat.not_lt_zero _)
    | succ m9 ih => intro x1 s' i7 f7 bx1 h9; exact hX _ _ (sm_260_p115 (fun t9 i9 f9 => hQ t9 i9 (lf_fq_tr f7 f9))   (fun x1' t8 i8 f8 bx1' h8 => ih x1' t8 i8 (lf_fq_tr f7 f8) bx1' (by omega)) (Nat.le_refl _)  i7  bx1  )
  exact key _ _ s hI lf_fq_rf bx1 (Nat.lt_succ_self _)
theorem sm_260_p107 {X67 : Int → lf_Z → Prop} {Q : lf_Z → Prop} {x1 : Int} {s : lf_Z} (hQ : ∀  (s' : lf_Z), iv_A s'.1 s'.2.2 → lf_fq [96, 104, 107, 108, 1006] 3 true s.1 s.2.2 s'.1 s'.2.2 → Q  s') {M67 : Nat} (hX67 : ∀ (x1 : Int) (s' : lf_Z), iv_A s'.1 s'.2.2 → lf_fq [96, 104, 107, 108, 1006] 3 true s.1 s.2.2 s'.1 s'.2.2 → 0 ≤ x1 ∧ x1 ≤ 4 → (4 - x1).toNat < M67 → X67 x1 s') (hM67 : (4 - x1).toNat ≤ M67) (hI : iv_A s.1 s.2.2) (bx1 : 0 ≤ x1 ∧ x1 ≤ 3) : fm_260_p107 X67 Q x1 s := by
  unfold fm_260_p107
  exact hX67 (x1 + 1) s hI (lf_fq_rf) (show (0 : Int) ≤ x1 + 1 ∧ x1 + 1 ≤ (4 : Int) from by omega) (show (4 - (x1 + 1)).toNat < M67 from by omega)
theorem sm_260_p91 {X67 : Int → lf_Z → Prop} {X91 : Int → lf_Z → Prop} {Q : lf_Z → Prop} {x1 : Int} {x2 : Int} {x3 : Int} {s : lf_Z} (hQ : ∀  (s' : lf_Z), iv_A s'.1 s'.2.2 → lf_fq [96, 104, 107, 108, 1006] 3 true s.1 s.2.2 s'.1 s'.2.2 → Q  s') {M67 : Nat} (hX67 : ∀ (x1 : Int) (s' : lf_Z), iv_A s'.1 s'.2.2 → lf_fq [96, 104, 107, 108, 1006] 3 true s.1 s.2.2 s'.1 s'.2.2 → 0 ≤ x1 ∧ x1 ≤ 4 → (4 - x1).toNat < M67 → X67 x1 s') (hM67 : (4 - x1).toNat ≤ M67) {M91 : Nat} (hX91 : ∀ (x3 : Int) (s' : lf_Z), iv_A s'.1 s'.2.2 → lf_fq [96, 104, 107, 108, 1006] 3 true s.1 s.2.2 s'.1 s'.2.2 → 0 ≤ x3 ∧ x3 ≤ 2147483646 → (2147483646 - x3).toNat < M91 → X91 x3 s') (hM91 : (2147483646 - x3).toNat ≤ M91) (hI : iv_A s.1 s.2.2) (bx1 : 0 ≤ x1 ∧ x1 ≤ 3) (bx2 : 0 ≤ x2 ∧ x2 ≤ 100) (bx3 : 0 ≤ x3 ∧ x3 ≤ 2147483646) : fm_260_p91 X67 Q x1 x2 X91 x3 s := by
  unfold fm_260_p91
  refine ⟨(show lf_R x3 from lf_Rof (by omega)), ?_⟩
  refine ⟨(show lf_R x2 from lf_Rof (by omega)), ?_⟩
  refine ⟨fun c32 => ?_, fun c32 => ?_⟩
  · skip
    replace c32 : x2 ≤ x3 := c32
    exact sm_260_p107 hQ hX67 (show (4 - x1).toNat ≤ M67 from by omega) hI (show (0 : Int) ≤ x1 ∧ x1 ≤ (3 : Int) from by omega)
  · skip
    replace c32 : ¬ (x2 ≤ x3) := c32
    refine sm_272 hI (show (0 : Int) ≤ x1 ∧ x1 ≤ (3 : Int) from by omega) (fun s45 hI34 fr33 => ?_)
    have fr36 : lf_fq [96, 104, 107, 108, 1006] 3 true s.1 s.2.2 s45.1 s45.2.2 := lf_fq_tr (lf_fq_rf) (lf_fq_wk fr33 rfl (by decide) (by decide))
    exact hX91 (x3 + 1) s45 hI34 fr36 (show (0 : Int) ≤ x3 + 1 ∧ x3 + 1 ≤ (2147483646 : Int) from by omega) (show (2147483646 - (x3 + 1)).toNat < M91 from by omega)
theorem sm_260_p91L {X67 : Int → lf_Z → Prop} {Q : lf_Z → Prop} {x1 : Int} {x2 : Int} {x3 : Int} {s : lf_Z} (hQ : ∀  (s' : lf_Z), iv_A s'.1 s'.2.2 → lf_fq [96, 104, 107, 108, 1006] 3 true s.1 s.2.2 s'.1 s'.2.2 → Q  s') {M67 : Nat} (hX67 : ∀ (x1 : Int) (s' : lf_Z), iv_A s'.1 s'.2.2 → lf_fq [96, 104, 107, 108, 1006] 3 true s.1 s.2.2 s'.1 s'.2.2 → 0 ≤ x1 ∧ x1 ≤ 4 → (4 - x1).toNat < M67 → X67 x1 s') (hM67 : (4 - x1).toNat ≤ M67) (hI : iv_A s.1 s.2.2) (bx1 : 0 ≤ x1 ∧ x1 ≤ 3) (bx2 : 0 ≤ x2 ∧ x2 ≤ 100) (bx3 : 0 ≤ x3 ∧ x3 ≤ 2147483646) : fm_260_p91L X67 Q x1 x2 x3 s := by
  intro X91 hX
  have key : ∀ (m9 : Nat) (x3 : Int) (s' : lf_Z), iv_A s'.1 s'.2.2 → lf_fq [96, 104, 107, 108, 1006] 3 true s.1 s.2.2 s'.1 s'.2.2 → 0 ≤ x3 ∧ x3 ≤ 2147483646 → (2147483646 - x3).toNat < m9 → X91 x3 s' := by
    intro m9
    induction m9 with
    | zero => intro x3 s' _ _ bx3 h9; exact absurd h9 (Nat.not_lt_zero _)
    | succ m9 ih => intro x3 s' i7 f7 bx3 h9; exact hX _ _ (sm_260_p91 (fun t9 i9 f9 => hQ t9 i9 (lf_fq_tr f7 f9))  (fun p0 t9 i9 f9 => hX67 p0 t9 i9 (lf_fq_tr f7 f9)) hM67 (fun x3' t8 i8 f8 bx3' h8 => ih x3' t8 i8 (lf_fq_tr f7 f8) bx3' (by omega)) (Nat.le_refl _)  i7  bx1 bx2 bx3  )
  exact key _ _ s hI lf_fq_rf bx3 (Nat.lt_succ_self _)
theorem sm_260_p67 {X67 : Int → lf_Z → Prop} {Q : lf_Z → Prop} {x1 : Int} {s : lf_Z} (hQ : ∀  (s' : lf_Z), iv_A s'.1 s'.2.2 → lf_fq [96, 104, 107, 108, 1006] 3 true s.1 s.2.2 s'.1 s'.2.2 → Q  s') {M67 : Nat} (hX67 : ∀ (x1 : Int) (s' : lf_Z), iv_A s'.1 s'.2.2 → lf_fq [96, 104, 107, 108, 1006] 3 true s.1 s.2.2 s'.1 s'.2.2 → 0 ≤ x1 ∧ x1 ≤ 4 → (4 - x1).toNat < M67 → X67 x1 s') (hM67 : (4 - x1).toNat ≤ M67) (hI : iv_A s.1 s.2.2) (bx1 : 0 ≤ x1 ∧ x1 ≤ 4) : fm_260_p67 Q X67 x1 s := by
  unfold fm_260_p67
  refine ⟨(show lf_R x1 from lf_Rof (by omega)), ?_⟩
  refine ⟨fun c4 => ?_, fun c4 => ?_⟩
  · skip
    replace c4 : 4 ≤ x1 := c4
    exact sm_260_p115L hQ hI (show (0 : Int) ≤ 0 ∧ 0 ≤ (4 : Int) from by omega)
  · skip
    replace c4 : ¬ (4 ≤ x1) := c4
    refine sm_242 hI (show (0 : Int) ≤ x1 ∧ x1 ≤ (3 : Int) from by omega) (fun r39 q26 => ?_)
    obtain ⟨q26, q26x⟩ := q26
    replace q26x : r39 = s.1 96 (114 + 3 * x1) := q26x
    refine ⟨(show lf_R r39 from lf_Rof (by omega)), ?_⟩
    refine ⟨fun c27 => ?_, fun c27 => ?_⟩
    · skip
      replace c27 : r39 ≠ 0 := c27
      refine sm_263 hI (show (0 : Int) ≤ x1 ∧ x1 ≤ (3 : Int) from by omega) (fun r42 s41 hI29 fr28 q30 => ?_)
      have fr31 : lf_fq [96, 104, 107, 108, 1006] 3 true s.1 s.2.2 s41.1 s41.2.2 := lf_fq_tr (lf_fq_rf) (lf_fq_wk fr28 rfl (by decide) (by decide))
      exact sm_260_p91L (fun t9 i9 f9 => hQ t9 i9 (lf_fq_tr fr31 f9)) (fun p0 t9 i9 f9 => hX67 p0 t9 i9 (lf_fq_tr fr31 f9)) (show (4 - x1).toNat ≤ M67 from by omega) hI29 (show (0 : Int) ≤ x1 ∧ x1 ≤ (3 : Int) from by omega) (show (0 : Int) ≤ r42 ∧ r42 ≤ (100 : Int) from by omega) (show (0 : Int) ≤ 0 ∧ 0 ≤ (2147483646 : Int) from by omega)
    · skip
      replace c27 : ¬ (r39 ≠ 0) := c27
      exact sm_260_p107 hQ hX67 (show (4 - x1).toNat ≤ M67 from by omega) hI (show (0 : Int) ≤ x1 ∧ x1 ≤ (3 : Int) from by omega)
theorem sm_260_p67L {Q : lf_Z → Prop} {x1 : Int} {s : lf_Z} (hQ : ∀  (s' : lf_Z), iv_A s'.1 s'.2.2 → lf_fq [96, 104, 107, 108, 1006] 3 true s.1 s.2.2 s'.1 s'.2.2 → Q  s') (hI : iv_A s.1 s.2.2) (bx1 : 0 ≤ x1 ∧ x1 ≤ 4) : fm_260_p67L Q x1 s := by
  intro X67 hX
  have key : ∀ (m9 : Nat) (x1 : Int) (s' : lf_Z), iv_A s'.1 s'.2.2 → lf_fq [96, 104, 107, 108, 1006] 3 true s.1 s.2.2 s'.1 s'.2.2 → 0 ≤ x1 ∧ x1 ≤ 4 → (4 - x1).toNat < m9 → X67 x1 s' := by
    intro m9
    induction m9 with
    | zero => intro x1 s' _ _ bx1 h9; exact absurd h9 (Nat.not_lt_zero _)
    | succ m9 ih => intro x1 s' i7 f7 bx1 h9; exact hX _ _ (sm_260_p67 (fun t9 i9 f9 => hQ t9 i9 (lf_fq_tr f7 f9))   (fun x1' t8 i8 f8 bx1' h8 => ih x1' t8 i8 (lf_fq_tr f7 f8) bx1' (by omega)) (Nat.le_refl _)  i7  bx1  )
  exact key _ _ s hI lf_fq_rf bx1 (Nat.lt_succ_self _)
theorem sm_260_p59 {X2 : Int → lf_Z → Prop} {Q : lf_Z → Prop} {x1 : Int} {s : lf_Z} (hQ : ∀  (s' : lf_Z), iv_A s'.1 s'.2.2 → lf_fq [96, 104, 107, 108, 1006] 3 true s.1 s.2.2 s'.1 s'.2.2 → Q  s') {M2 : Nat} (hX2 : ∀ (x1 : Int) (s' : lf_Z), iv_A s'.1 s'.2.2 → lf_fq [96, 104, 107, 108, 1006] 3 true s.1 s.2.2 s'.1 s'.2.2 → 0 ≤ x1 ∧ x1 ≤ 6 → (6 - x1).toNat < M2 → X2 x1 s') (hM2 : (6 - x1).toNat ≤ M2) (hI : iv_A s.1 s.2.2) (bx1 : 0 ≤ x1 ∧ x1 ≤ 5) : fm_260_p59 X2 Q x1 s := by
  unfold fm_260_p59
  exact hX2 (x1 + 1) s hI (lf_fq_rf) (show (0 : Int) ≤ x1 + 1 ∧ x1 + 1 ≤ (6 : Int) from by omega) (show (6 - (x1 + 1)).toNat < M2 from by omega)
theorem sm_260_p38 {X2 : Int → lf_Z → Prop} {X38 : Int → lf_Z → Prop} {Q : lf_Z → Prop} {x1 : Int} {x2 : Int} {s : lf_Z} (hQ : ∀  (s' : lf_Z), iv_A s'.1 s'.2.2 → lf_fq [96, 104, 107, 108, 1006] 3 true s.1 s.2.2 s'.1 s'.2.2 → Q  s') {M2 : Nat} (hX2 : ∀ (x1 : Int) (s' : lf_Z), iv_A s'.1 s'.2.2 → lf_fq [96, 104, 107, 108, 1006] 3 true s.1 s.2.2 s'.1 s'.2.2 → 0 ≤ x1 ∧ x1 ≤ 6 → (6 - x1).toNat < M2 → X2 x1 s') (hM2 : (6 - x1).toNat ≤ M2) {M38 : Nat} (hX38 : ∀ (x2 : Int) (s' : lf_Z), iv_A s'.1 s'.2.2 → lf_fq [96, 104, 107, 108, 1006] 3 true s.1 s.2.2 s'.1 s'.2.2 → 0 ≤ x2 ∧ x2 ≤ 2 → (bf_G (s'.1 96) (s'.1 108) (s'.1 96 (126 + 6 * x1 + 4))) → (2 - x2).toNat < M38 → X38 x2 s') (hM38 : (2 - x2).toNat ≤ M38) (hI : iv_A s.1 s.2.2) (bx1 : 0 ≤ x1 ∧ x1 ≤ 5) (bx2 : 0 ≤ x2 ∧ x2 ≤ 2) (kv0 : bf_G (s.1 96) (s.1 108) (s.1 96 (126 + 6 * x1 + 4))) : fm_260_p38 X2 Q x1 X38 x2 s := by
  unfold fm_260_p38
  refine sm_239d hI (show (0 : Int) ≤ x1 ∧ x1 ≤ (5 : Int) from by omega) (fun r53 q46 => ?_)
  obtain ⟨q46, q46x⟩ := q46
  replace q46x : r53 = s.1 96 (126 + 6 * x1 + 1) := q46x
  refine ⟨(show lf_R x2 from lf_Rof (by omega)), ?_⟩
  refine ⟨(show lf_R r53 from lf_Rof (by omega)), ?_⟩
  refine ⟨fun c47 => ?_, fun c47 => ?_⟩
  · skip
    replace c47 : r53 < x2 := c47
    exact sm_260_p59 hQ hX2 (show (6 - x1).toNat ≤ M2 from by omega) hI (show (0 : Int) ≤ x1 ∧ x1 ≤ (5 : Int) from by omega)
  · skip
    replace c47 : ¬ (r53 < x2) := c47
    refine sm_262 hI (show (0 : Int) ≤ x1 ∧ x1 ≤ (5 : Int) from by omega) (show bf_G ((s.1 96)) ((s.1 108)) ((s.1 96) (126 + 6 * x1 + 4)) from by first | with_reducible assumption | assumption) (fun s56 hI49 fr48 ps51 => ?_)
    replace ps51 : ∀ i, i ≠ 126 + 6 * x1 + 3 → s56.1 96 i = (s.1 96) i := ps51
    have fr52 : lf_fq [96, 104, 107, 108, 1006] 3 true s.1 s.2.2 s56.1 s56.2.2 := lf_fq_tr (lf_fq_rf) (lf_fq_wk fr48 rfl (by decide) (by decide))
    have b53 : bf_G ((s56.1 96)) ((s56.1 108)) ((s56.1 96) (126 + 6 * x1 + 4)) := by first | exact bf_Gt (ps51 rfl) ((congrFun (fr48.1 96 rfl) _).trans (by omega)) | exact bf_Gt (bf_Gc kv0 (fr48.1 108 rfl) (fun i hi => ps51 i (by omega)) (bf_m16 hI)) (ps51 _ (by omega))
    exact hX38 (x2 + 1) s56 hI49 fr52 (show (0 : Int) ≤ x2 + 1 ∧ x2 + 1 ≤ (2 : Int) from by omega) (show bf_G ((s56.1 96)) ((s56.1 108)) ((s56.1 96) (126 + 6 * x1 + 4)) from by first | with_reducible assumption | assumption) (show (2 - (x2 + 1)).toNat < M38 from by omega)
theorem sm_260_p38L {X2 : Int → lf_Z → Prop} {Q : lf_Z → Prop} {x1 : Int} {x2 : Int} {s : lf_Z} (hQ : ∀  (s' : lf_Z), iv_A s'.1 s'.2.2 → lf_fq [96, 104, 107, 108, 1006] 3 true s.1 s.2.2 s'.1 s'.2.2 → Q  s') {M2 : Nat} (hX2 : ∀ (x1 : Int) (s' : lf_Z), iv_A s'.1 s'.2.2 → lf_fq [96, 104, 107, 108, 1006] 3 true s.1 s.2.2 s'.1 s'.2.2 → 0 ≤ x1 ∧ x1 ≤ 6 → (6 - x1).toNat < M2 → X2 x1 s') (hM2 : (6 - x1).toNat ≤ M2) (hI : iv_A s.1 s.2.2) (bx1 : 0 ≤ x1 ∧ x1 ≤ 5) (bx2 : 0 ≤ x2 ∧ x2 ≤ 2) (kv0 : bf_G (s.1 96) (s.1 108) (s.1 96 (126 + 6 * x1 + 4))) : fm_260_p38L X2 Q x1 x2 s := by
  intro X38 hX
  have key : ∀ (m9 : Nat) (x2 : Int) (s' : lf_Z), iv_A s'.1 s'.2.2 → lf_fq [96, 104, 107, 108, 1006] 3 true s.1 s.2.2 s'.1 s'.2.2 → 0 ≤ x2 ∧ x2 ≤ 2 → (bf_G (s'.1 96) (s'.1 108) (s'.1 96 (126 + 6 * x1 + 4))) → (2 - x2).toNat < m9 → X38 x2 s' := by
    intro m9
    induction m9 with
    | zero => intro x2 s' _ _ bx2 kv0 h9; exact absurd h9 (Nat.not_lt_zero _)
    | succ m9 ih => intro x2 s' i7 f7 bx2 kv0 h9; exact hX _ _ (sm_260_p38 (fun t9 i9 f9 => hQ t9 i9 (lf_fq_tr f7 f9))  (fun p0 t9 i9 f9 => hX2 p0 t9 i9 (lf_fq_tr f7 f9)) hM2 (fun x2' t8 i8 f8 bx2' kv0' h8 => ih x2' t8 i8 (lf_fq_tr f7 f8) bx2' kv0' (by omega)) (Nat.le_refl _)  i7  bx1 bx2  kv0)
  exact key _ _ s hI lf_fq_rf bx2 kv0 (Nat.lt_succ_self _)
theorem sm_260_p2 {X2 : Int → lf_Z → Prop} {Q : lf_Z → Prop} {x1 : Int} {s : lf_Z} (hQ : ∀  (s' : lf_Z), iv_A s'.1 s'.2.2 → lf_fq [96, 104, 107, 108, 1006] 3 true s.1 s.2.2 s'.1 s'.2.2 → Q  s') {M2 : Nat} (hX2 : ∀ (x1 : Int) (s' : lf_Z), iv_A s'.1 s'.2.2 → lf_fq [96, 104, 107, 108, 1006] 3 true s.1 s.2.2 s'.1 s'.2.2 → 0 ≤ x1 ∧ x1 ≤ 6 → (6 - x1).toNat < M2 → X2 x1 s') (hM2 : (6 - x1).toNat ≤ M2) (hI : iv_A s.1 s.2.2) (bx1 : 0 ≤ x1 ∧ x1 ≤ 6) : fm_260_p2 Q X2 x1 s := by
  unfold fm_260_p2
  have b1 : 0 ≤ s.1 96 2 ∧ s.1 96 2 ≤ 6 := iv_rd96 hI (iv_f2103129b (by omega))
  have b2 : s.1 96 2 ≤ 0 ∨ 0 < s.1 96 0 := (show s.1 96 2 ≤ 0 ∨ 0 < s.1 96 0 from iv_l96_2 hI)
  refine ⟨(show lf_R x1 from lf_Rof (by omega)), ?_⟩
  refine ⟨(show lf_R (s.1 96 2) from lf_Rof (by omega)), ?_⟩
  refine ⟨fun c3 => ?_, fun c3 => ?_⟩
  · skip
    replace c3 : s.1 96 2 ≤ x1 := c3
    exact sm_260_p67L hQ hI (show (0 : Int) ≤ 0 ∧ 0 ≤ (4 : Int) from by omega)
  · skip
    replace c3 : ¬ (s.1 96 2 ≤ x1) := c3
    refine sm_239b hI (show (0 : Int) ≤ x1 ∧ x1 ≤ (5 : Int) from by omega) (fun r47 q37 => ?_)
    obtain ⟨q37, q37x⟩ := q37
    replace q37x : r47 = s.1 96 (126 + 6 * x1 + 4) := q37x
    refine ⟨(show lf_R r47 from lf_Rof (by omega)), ?_⟩
    refine ⟨fun c38 => ?_, fun c38 => ?_⟩
    · skip
      replace c38 : r47 ≠ (-1) := c38
      refine sm_239b hI (show (0 : Int) ≤ x1 ∧ x1 ≤ (5 : Int) from by omega) (fun r50 q39 => ?_)
      obtain ⟨q39, q39x⟩ := q39
      replace q39x : r50 = s.1 96 (126 + 6 * x1 + 4) := q39x
      refine sm_261 hI (show (-1 : Int) ≤ r50 ∧ r50 ≤ (11 : Int) from by omega) (show (0 : Int) ≤ 1 ∧ 1 ≤ (1 : Int) from by omega) (fun s51 hI41 fr40 ps43 => ?_)
      replace ps43 : (1 : Int) = 1 → bf_G (s51.1 96) (s51.1 108) (r50) := ps43
      have fr44 : lf_fq [96, 104, 107, 108, 1006] 3 true s.1 s.2.2 s51.1 s51.2.2 := lf_fq_tr (lf_fq_rf) (lf_fq_wk fr40 rfl (by decide) (by decide))
      have b45 : bf_G ((s51.1 96)) ((s51.1 108)) ((s51.1 96) (126 + 6 * x1 + 4)) := by first | exact bf_Gt (ps43 rfl) ((congrFun (fr40.1 96 rfl) _).trans (by omega)) | exact bf_Gt (bf_Gc kv0 (fr40.1 108 rfl) (fun i hi => ps43 i (by omega)) (bf_m16 hI)) (ps43 _ (by omega))
      exact sm_260_p38L (fun t9 i9 f9 => hQ t9 i9 (lf_fq_tr fr44 f9)) (fun p0 t9 i9 f9 => hX2 p0 t9 i9 (lf_fq_tr fr44 f9)) (show (6 - x1).toNat ≤ M2 from by omega) hI41 (show (0 : Int) ≤ x1 ∧ x1 ≤ (5 : Int) from by omega) (show (0 : Int) ≤ 0 ∧ 0 ≤ (2 : Int) from by omega) (show bf_G ((s51.1 96)) ((s51.1 108)) ((s51.1 96) (126 + 6 * x1 + 4)) from by first | with_reducible assumption | assumption)
    · skip
      replace c38 : ¬ (r47 ≠ (-1)) := c38
      exact sm_260_p59 hQ hX2 (show (6 - x1).toNat ≤ M2 from by omega) hI (show (0 : Int) ≤ x1 ∧ x1 ≤ (5 : Int) from by omega)
theorem sm_260_p2L {Q : lf_Z → Prop} {x1 : Int} {s : lf_Z} (hQ : ∀  (s' : lf_Z), iv_A s'.1 s'.2.2 → lf_fq [96, 104, 107, 108, 1006] 3 true s.1 s.2.2 s'.1 s'.2.2 → Q  s') (hI : iv_A s.1 s.2.2) (bx1 : 0 ≤ x1 ∧ x1 ≤ 6) : fm_260_p2L Q x1 s := by
  intro X2 hX
  have key : ∀ (m9 : Nat) (x1 : Int) (s' : lf_Z), iv_A s'.1 s'.2.2 → lf_fq [96, 104, 107, 108, 1006] 3 true s.1 s.2.2 s'.1 s'.2.2 → 0 ≤ x1 ∧ x1 ≤ 6 → (6 - x1).toNat < m9 → X2 x1 s' := by
    intro m9
    induction m9 with
    | zero => intro x1 s' _ _ bx1 h9; exact absurd h9 (Nat.not_lt_zero _)
    | succ m9 ih => intro x1 s' i7 f7 bx1 h9; exact hX _ _ (sm_260_p2 (fun t9 i9 f9 => hQ t9 i9 (lf_fq_tr f7 f9))   (fun x1' t8 i8 f8 bx1' h8 => ih x1' t8 i8 (lf_fq_tr f7 f8) bx1' (by omega)) (Nat.le_refl _)  i7  bx1  )
  exact key _ _ s hI lf_fq_rf bx1 (Nat.lt_succ_self _)
theorem sm_260 {Q : lf_Z → Prop} {s : lf_Z} (hI : iv_A s.1 s.2.2) (hQ : ∀  (s' : lf_Z), iv_A s'.1 s'.2.2 → lf_fq [96, 104, 107, 108, 1006] 3 true s.1 s.2.2 s'.1 s'.2.2 → Q  s') : fm_260 Q s := by
  unfold fm_260
  exact sm_260_p2L hQ hI (show (0 : Int) ≤ 0 ∧ 0 ≤ (6 : Int) from by omega)
-- fm_259 Model.passStep 95
theorem sm_259 {Q : Bool → lf_Z → Prop} {s : lf_Z} (hI : iv_A s.1 s.2.2) (hQ : ∀ (z : Bool) (s' : lf_Z), iv_A s'.1 s'.2.2 → lf_fq [96, 104, 107, 108, 1005, 1006] 3 true s.1 s.2.2 s'.1 s'.2.2 → Q z s') : fm_259 Q s := by
  unfold fm_259
  have b1 : (-2147483648) ≤ s.1 96 3 ∧ s.1 96 3 ≤ 2147483647 := iv_full hI
  refine ⟨(show lf_R (s.1 96 3) from lf_Rof (by omega)), ?_⟩
  refine ⟨fun c2 => ?_, fun c2 => ?_⟩
  · skip
    replace c2 : s.1 96 3 ≠ 999 := c2
    refine sm_244 hI (fun s22 hI4 fr3 ps6 => ?_)
    replace ps6 : kp_F ((s.1 96)) (s22.1 96) := ps6
    have fr7 : lf_fq [96, 104, 107, 108, 1005, 1006] 3 true s.1 s.2.2 s22.1 s22.2.2 := lf_fq_tr (lf_fq_rf) (lf_fq_wk fr3 rfl (by decide) (by decide))
    refine sm_260 hI4 (fun s23 hI9 fr8 => ?_)
    have fr11 : lf_fq [96, 104, 107, 108, 1005, 1006] 3 true s.1 s.2.2 s23.1 s23.2.2 := lf_fq_tr fr7 (lf_fq_wk fr8 rfl (by decide) (by decide))
    exact hQ true s23 hI9 fr11
  · skip
    replace c2 : ¬ (s.1 96 3 ≠ 999) := c2
    exact hQ false s hI (lf_fq_rf)
-- fm_258 Model.areMinutes 95 i
theorem sm_258_p2 {X2 : Int → lf_Z → Prop} {Q : Bool → lf_Z → Prop} {x1 : Int} {x2 : Int} {s : lf_Z} (hQ : ∀ (z : Bool) (s' : lf_Z), iv_A s'.1 s'.2.2 → lf_fq [96, 104, 107, 108, 1005, 1006] 3 true s.1 s.2.2 s'.1 s'.2.2 → Q z s') {M2 : Nat} (hX2 : ∀ (x2 : Int) (s' : lf_Z), iv_A s'.1 s'.2.2 → lf_fq [96, 104, 107, 108, 1005, 1006] 3 true s.1 s.2.2 s'.1 s'.2.2 → 0 ≤ x2 ∧ x2 ≤ 2147483647 → (2147483647 - x2).toNat < M2 → X2 x2 s') (hM2 : (2147483647 - x2).toNat ≤ M2) (hI : iv_A s.1 s.2.2) (bx1 : (-2147483648) ≤ x1 ∧ x1 ≤ 2147483647) (bx2 : 0 ≤ x2 ∧ x2 ≤ 2147483647) : fm_258_p2 Q x1 X2 x2 s := by
  unfold fm_258_p2
  refine ⟨(show lf_R x2 from lf_Rof (by omega)), ?_⟩
  refine ⟨(show lf_R x1 from lf_Rof (by omega)), ?_⟩
  refine ⟨fun c1 => ?_, fun c1 => ?_⟩
  · skip
    replace c1 : x1 ≤ x2 := c1
    exact hQ true s hI (lf_fq_rf)
  · skip
    replace c1 : ¬ (x1 ≤ x2) := c1
    refine sm_259 hI (fun z24 s23 hI3 fr2 => ?_)
    have fr5 : lf_fq [96, 104, 107, 108, 1005, 1006] 3 true s.1 s.2.2 s23.1 s23.2.2 := lf_fq_tr (lf_fq_rf) (lf_fq_wk fr2 rfl (by decide) (by decide))
    refine ⟨fun c6 => ?_, fun c6 => ?_⟩
    · skip
      exact hX2 (x2 + 1) s23 hI3 fr5 (show (0 : Int) ≤ x2 + 1 ∧ x2 + 1 ≤ (2147483647 : Int) from by omega) (show (2147483647 - (x2 + 1)).toNat < M2 from by omega)
    · skip
      exact hQ false s23 hI3 fr5
theorem sm_258_p2L {Q : Bool → lf_Z → Prop} {x1 : Int} {x2 : Int} {s : lf_Z} (hQ : ∀ (z : Bool) (s' : lf_Z), iv_A s'.1 s'.2.2 → lf_fq [96, 104, 107, 108, 1005, 1006] 3 true s.1 s.2.2 s'.1 s'.2.2 → Q z s') (hI : iv_A s.1 s.2.2) (bx1 : (-2147483648) ≤ x1 ∧ x1 ≤ 2147483647) (bx2 : 0 ≤ x2 ∧ x2 ≤ 2147483647) : fm_258_p2L Q x1 x2 s := by
  intro X2 hX
  have key : ∀ (m9 : Nat) (x2 : Int) (s' : lf_Z), iv_A s'.1 s'.2.2 → lf_fq [96, 104, 107, 108, 1005, 1006] 3 true s.1 s.2.2 s'.1 s'.2.2 → 0 ≤ x2 ∧ x2 ≤ 2147483647 → (2147483647 - x2).toNat < m9 → X2 x2 s' := by
    intro m9
    induction m9 with
    | zero => intro x2 s' _ _ bx2 h9; exact absurd h9 (Nat.not_lt_zero _)
    | succ m9 ih => intro x2 s' i7 f7 bx2 h9; exact hX _ _ (sm_258_p2 (fun r9 t9 i9 f9 => hQ r9 t9 i9 (lf_fq_tr f7 f9))   (fun x2' t8 i8 f8 bx2' h8 => ih x2' t8 i8 (lf_fq_tr f7 f8) bx2' (by omega)) (Nat.le_refl _)  i7  bx1 bx2  )
  exact key _ _ s hI lf_fq_rf bx2 (Nat.lt_succ_self _)
theorem sm_258 {a1 : Int} {Q : Bool → lf_Z → Prop} {s : lf_Z} (hI : iv_A s.1 s.2.2) (ba1 : (-2147483648) ≤ a1 ∧ a1 ≤ 2147483647) (hQ : ∀ (z : Bool) (s' : lf_Z), iv_A s'.1 s'.2.2 → lf_fq [96, 104, 107, 108, 1005, 1006] 3 true s.1 s.2.2 s'.1 s'.2.2 → Q z s') : fm_258 a1 Q s := by
  unfold fm_258
  exact sm_258_p2L hQ hI (show (-2147483648 : Int) ≤ a1 ∧ a1 ≤ (2147483647 : Int) from by omega) (show (0 : Int) ≤ 0 ∧ 0 ≤ (2147483647 : Int) from by omega)
-- fm_279 Model.allDone 95
theorem sm_279_p4 {X4 : Int → Int → lf_Z → Prop} {Q : Int → lf_Z → Prop} {x1 : Int} {x2 : Int} {s : lf_Z} (hQ : ∀ (r : Int), ((-2147483648) ≤ r ∧ r ≤ 2147483647) → Q r s) {M4 : Nat} (hX4 : ∀ (x1 : Int) (x2 : Int), (-2147483648) ≤ x1 ∧ x1 ≤ 2147483647 → 0 ≤ x2 ∧ x2 ≤ 12 → (12 - x2).toNat < M4 → X4 x1 x2 s) (hM4 : (12 - x2).toNat ≤ M4) (hI : iv_A s.1 s.2.2) (bx1 : (-2147483648) ≤ x1 ∧ x1 ≤ 2147483647) (bx2 : 0 ≤ x2 ∧ x2 ≤ 12) : fm_279_p4 Q X4 x1 x2 s := by
  unfold fm_279_p4
  have b1 : 0 ≤ s.1 96 0 ∧ s.1 96 0 ≤ 12 := iv_rd96 hI (iv_f3e1fa21c (by omega))
  refine ⟨(show lf_R x2 from lf_Rof (by omega)), ?_⟩
  refine ⟨(show lf_R (s.1 96 0) from lf_Rof (by omega)), ?_⟩
  refine ⟨fun c2 => ?_, fun c2 => ?_⟩
  · skip
    replace c2 : s.1 96 0 ≤ x2 := c2
    exact hQ x1 (show (-2147483648 : Int) ≤ x1 ∧ x1 ≤ (2147483647 : Int) from by omega)
  · skip
    replace c2 : ¬ (s.1 96 0 ≤ x2) := c2
    refine sm_246 hI (show (0 : Int) ≤ x2 ∧ x2 ≤ (11 : Int) from by omega) (fun r24 q3 => ?_)
    have b4 : (-2147483648) ≤ lf_w (x1 + r24) ∧ lf_w (x1 + r24) ≤ 2147483647 := lf_wB
    exact hX4 (lf_w (x1 + r24)) (x2 + 1) (show (-2147483648 : Int) ≤ lf_w (x1 + r24) ∧ lf_w (x1 + r24) ≤ (2147483647 : Int) from by omega) (show (0 : Int) ≤ x2 + 1 ∧ x2 + 1 ≤ (12 : Int) from by omega) (show (12 - (x2 + 1)).toNat < M4 from by omega)
theorem sm_279_p4L {Q : Int → lf_Z → Prop} {x1 : Int} {x2 : Int} {s : lf_Z} (hQ : ∀ (r : Int), ((-2147483648) ≤ r ∧ r ≤ 2147483647) → Q r s) (hI : iv_A s.1 s.2.2) (bx1 : (-2147483648) ≤ x1 ∧ x1 ≤ 2147483647) (bx2 : 0 ≤ x2 ∧ x2 ≤ 12) : fm_279_p4L Q x1 x2 s := by
  intro X4 hX
  have key : ∀ (m9 : Nat) (x1 : Int) (x2 : Int), (-2147483648) ≤ x1 ∧ x1 ≤ 2147483647 → 0 ≤ x2 ∧ x2 ≤ 12 → (12 - x2).toNat < m9 → X4 x1 x2 s := by
    intro m9
    induction m9 with
    | zero => intro x1 x2 bx1 bx2 h9; exact absurd h9 (Nat.not_lt_zero _)
    | succ m9 ih => intro x1 x2 bx1 bx2 h9; exact hX _ _ _ (sm_279_p4 hQ   (fun x1' x2' bx1' bx2' h8 => ih x1' x2' bx1' bx2' (by omega)) (Nat.le_refl _)  hI  bx1 bx2  )
  exact key _ _ _ bx1 bx2   (Nat.lt_succ_self _)
theorem sm_279 {Q : Int → lf_Z → Prop} {s : lf_Z} (hI : iv_A s.1 s.2.2) (hQ : ∀ (r : Int), ((-2147483648) ≤ r ∧ r ≤ 2147483647) → Q r s) : fm_279 Q s := by
  unfold fm_279
  exact sm_279_p4L hQ hI (show (-2147483648 : Int) ≤ 0 ∧ 0 ≤ (2147483647 : Int) from by omega) (show (0 : Int) ≤ 0 ∧ 0 ≤ (12 : Int) from by omega)
-- fm_257 Model.minute 95 i
theorem sm_257 {a1 : Int} {Q : Int → lf_Z → Prop} {s : lf_Z} (hI : iv_A s.1 s.2.2) (ba1 : (-2147483648) ≤ a1 ∧ a1 ≤ 2147483647) (hQ : ∀ (r : Int) (s' : lf_Z), iv_A s'.1 s'.2.2 → lf_fq [96, 104, 107, 108, 1005, 1006] 3 true s.1 s.2.2 s'.1 s'.2.2 → ((-2147483648) ≤ r ∧ r ≤ 2147483647) → Q r s') : fm_257 a1 Q s := by
  unfold fm_257
  refine sm_183 hI (show (-2147483648 : Int) ≤ a1 ∧ a1 ≤ (2147483647 : Int) from by omega) (show (-1 : Int) ≤ 1 ∧ 1 ≤ (97 : Int) from by omega) (show (-1 : Int) ≤ 60 ∧ 60 ≤ (9999 : Int) from by omega) (fun z22 q1 => ?_)
  refine ⟨fun c2 => ?_, fun c2 => ?_⟩
  · skip
    have dc2 := q1.2 c2
    exact hQ (-1) s hI (lf_fq_rf) (show (-2147483648 : Int) ≤ (-1) ∧ (-1) ≤ (2147483647 : Int) from by omega)
  · skip
    have dc2 := q1.1 c2
    have b3 : (-2147483648) ≤ s.1 96 3 ∧ s.1 96 3 ≤ 2147483647 := iv_full hI
    have b4 : (-2147483648) ≤ lf_w ((s.1 96 3) + a1) ∧ lf_w ((s.1 96 3) + a1) ≤ 2147483647 := lf_wB
    refine ⟨fun c5 => ?_, fun c5 => ?_⟩
    · skip
      replace c5 : 999 < lf_w ((s.1 96 3) + a1) := c5
      exact hQ (-1) s hI (lf_fq_rf) (show (-2147483648 : Int) ≤ (-1) ∧ (-1) ≤ (2147483647 : Int) from by omega)
    · skip
      replace c5 : ¬ (999 < lf_w ((s.1 96 3) + a1)) := c5
      refine sm_258 hI (show (-2147483648 : Int) ≤ a1 ∧ a1 ≤ (2147483647 : Int) from by omega) (fun z24 s23 hI7 fr6 => ?_)
      have fr9 : lf_fq [96, 104, 107, 108, 1005, 1006] 3 true s.1 s.2.2 s23.1 s23.2.2 := lf_fq_tr (lf_fq_rf) (lf_fq_wk fr6 rfl (by decide) (by decide))
      refine ⟨fun c10 => ?_, fun c10 => ?_⟩
      · skip
        exact hQ (-1) s23 hI7 fr9 (show (-2147483648 : Int) ≤ (-1) ∧ (-1) ≤ (2147483647 : Int) from by omega)
      · skip
        refine sm_279 hI7 (fun r26 q11 => ?_)
        exact hQ r26 s23 hI7 fr9 (show (-2147483648 : Int) ≤ r26 ∧ r26 ≤ (2147483647 : Int) from by omega)
-- fm_99 Land.hasPerson 1 i
theorem sm_99 {a1 : Int} {Q : Bool → lf_Z → Prop} {s : lf_Z} (hI : iv_A s.1 s.2.2) (ba1 : (-2147483648) ≤ a1 ∧ a1 ≤ 2147483647) (hQ : ∀ (z : Bool), ((z = true → (0 ≤ a1 ∧ a1 < s.1 1 2)) ∧ (z = false → ¬ (0 ≤ a1 ∧ a1 < s.1 1 2))) → Q z s) : fm_99 a1 Q s := by
  unfold fm_99
  refine ⟨(show lf_R a1 from lf_Rof (by omega)), ?_⟩
  refine ⟨fun c1 => ?_, fun c1 => ?_⟩
  · skip
    replace c1 : a1 < 0 := c1
    exact hQ false (lf_pf (by omega))
  · skip
    replace c1 : ¬ (a1 < 0) := c1
    have b2 : 0 ≤ s.1 1 2 ∧ s.1 1 2 ≤ 6 := iv_r1_2 hI
    refine ⟨(show lf_R (s.1 1 2) from lf_Rof (by omega)), ?_⟩
    refine ⟨fun c3 => ?_, fun c3 => ?_⟩
    · skip
      replace c3 : s.1 1 2 ≤ a1 := c3
      exact hQ false (lf_pf (by omega))
    · skip
      replace c3 : ¬ (s.1 1 2 ≤ a1) := c3
      exact hQ true (lf_pt (by omega))
-- fm_98 ElevenBullocks.send 0 i i
theorem sm_98 {a1 : Int} {a2 : Int} {Q : Bool → lf_Z → Prop} {s : lf_Z} (hI : iv_A s.1 s.2.2) (ba1 : (-2147483648) ≤ a1 ∧ a1 ≤ 2147483647) (ba2 : (-2147483648) ≤ a2 ∧ a2 ≤ 2147483647) (hQ : ∀ (z : Bool) (s' : lf_Z), iv_A s'.1 s'.2.2 → lf_fq [20, 22, 23, 24] 1000000 true s.1 s.2.2 s'.1 s'.2.2 → Q z s') : fm_98 a1 a2 Q s := by
  unfold fm_98
  refine sm_99 hI (show (-2147483648 : Int) ≤ a1 ∧ a1 ≤ (2147483647 : Int) from by omega) (fun z22 q1 => ?_)
  have b2 : 0 ≤ s.1 1 2 ∧ s.1 1 2 ≤ 6 := iv_r1_2 hI
  refine ⟨fun c3 => ?_, fun c3 => ?_⟩
  · skip
    have dc3 := q1.2 c3
    exact hQ false s hI (lf_fq_rf)
  · skip
    have dc3 := q1.1 c3
    have b4 : 0 ≤ s.1 1 0 ∧ s.1 1 0 ≤ 12 := iv_r1_0 hI
    refine sm_15 hI (show (-2147483648 : Int) ≤ a2 ∧ a2 ≤ (2147483647 : Int) from by omega) (show (-1 : Int) ≤ (-1) ∧ (-1) ≤ (99 : Int) from by omega) (show (-2147483648 : Int) ≤ (s.1 1 0) - 1 ∧ (s.1 1 0) - 1 ≤ (2147483647 : Int) from by omega) (fun z24 q5 => ?_)
    refine ⟨fun c6 => ?_, fun c6 => ?_⟩
    · skip
      have dc6 := q5.2 c6
      exact hQ false s hI (lf_fq_rf)
    · skip
      have dc6 := q5.1 c6
      refine ⟨(show (0 : Int) ≤ a1 ∧ a1 < (6 : Int) from by omega), ?_⟩
      have b7 : (-2147483648) ≤ s.1 20 a1 ∧ s.1 20 a1 ≤ 2147483647 := iv_full hI
      refine ⟨(show lf_R (s.1 20 a1) from lf_Rof (by omega)), ?_⟩
      refine ⟨(show lf_R a2 from lf_Rof (by omega)), ?_⟩
      refine ⟨fun c8 => ?_, fun c8 => ?_⟩
      · skip
        replace c8 : s.1 20 a1 ≠ a2 := c8
        refine sm_67 hI (show (0 : Int) ≤ s.1 1 2 ∧ s.1 1 2 ≤ (6 : Int) from by omega) (fun s28 hI10 fr9 => ?_)
        have fr12 : lf_fq [20, 22, 23, 24] 1000000 true s.1 s.2.2 s28.1 s28.2.2 := lf_fq_tr (lf_fq_rf) (lf_fq_wk fr9 rfl (by decide) (by decide))
        have hI13 : iv_A (lf_up s28.1 20 a1 a2) s28.2.2 := iv_w20 hI10 (by omega)
        have fr14 : lf_fq [20, 22, 23, 24] 1000000 true s.1 s.2.2 (lf_up s28.1 20 a1 a2) s28.2.2 := lf_fq_up fr12 rfl (fun h => absurd h (by decide))
        exact hQ true (lf_up s28.1 20 a1 a2, s28.2.1, s28.2.2) hI13 fr14
      · skip
        replace c8 : ¬ (s.1 20 a1 ≠ a2) := c8
        exact hQ false s hI (lf_fq_rf)
-- fm_249 Model.isPerson 95 i
theorem sm_249 {a1 : Int} {Q : Bool → lf_Z → Prop} {s : lf_Z} (hI : iv_A s.1 s.2.2) (ba1 : (-2147483648) ≤ a1 ∧ a1 ≤ 2147483647) (hQ : ∀ (z : Bool), ((z = true → (0 ≤ a1 ∧ a1 < s.1 96 2)) ∧ (z = false → ¬ (0 ≤ a1 ∧ a1 < s.1 96 2))) → Q z s) : fm_249 a1 Q s := by
  unfold fm_249
  have b1 : 0 ≤ s.1 96 2 ∧ s.1 96 2 ≤ 6 := iv_rd96 hI (iv_f2103129b (by omega))
  have b2 : s.1 96 2 ≤ 0 ∨ 0 < s.1 96 0 := (show s.1 96 2 ≤ 0 ∨ 0 < s.1 96 0 from iv_l96_2 hI)
  refine sm_183 hI (show (-2147483648 : Int) ≤ a1 ∧ a1 ≤ (2147483647 : Int) from by omega) (show (-1 : Int) ≤ 0 ∧ 0 ≤ (97 : Int) from by omega) (show (-1 : Int) ≤ (s.1 96 2) - 1 ∧ (s.1 96 2) - 1 ≤ (9999 : Int) from by omega) (fun z22 q3 => ?_)
  exact hQ z22 ⟨fun h9 => by have h8 := q3.1 h9; omega, fun h9 => by have h8 := q3.2 h9; omega⟩
-- fm_248 Model.send 95 i i
theorem sm_248_p21 {Q : Bool → lf_Z → Prop} {x1 : Int} {x2 : Int} {s : lf_Z} (hQ : ∀ (z : Bool) (s' : lf_Z), iv_A s'.1 s'.2.2 → lf_fq [96, 1005, 1006] 9 true s.1 s.2.2 s'.1 s'.2.2 → Q z s') (hI : iv_A s.1 s.2.2) (bx1 : 0 ≤ x1 ∧ x1 ≤ 5) (bx2 : (-1) ≤ x2 ∧ x2 ≤ 11) : fm_248_p21 Q x1 x2 s := by
  unfold fm_248_p21
  refine sm_239b hI (show (0 : Int) ≤ x1 ∧ x1 ≤ (5 : Int) from by omega) (fun r25 q6 => ?_)
  obtain ⟨q6, q6x⟩ := q6
  replace q6x : r25 = s.1 96 (126 + 6 * x1 + 4) := q6x
  refine ⟨(show lf_R r25 from lf_Rof (by omega)), ?_⟩
  refine ⟨(show lf_R x2 from lf_Rof (by omega)), ?_⟩
  refine ⟨fun c7 => ?_, fun c7 => ?_⟩
  · skip
    replace c7 : r25 ≠ x2 := c7
    refine sm_244 hI (fun s28 hI9 fr8 ps11 => ?_)
    replace ps11 : kp_F ((s.1 96)) (s28.1 96) := ps11
    have fr12 : lf_fq [96, 1005, 1006] 9 true s.1 s.2.2 s28.1 s28.2.2 := lf_fq_tr (lf_fq_rf) (lf_fq_wk fr8 rfl (by decide) (by decide))
    refine sm_191e hI9 (show (0 : Int) ≤ x1 ∧ x1 ≤ (5 : Int) from by omega) (show (-1 : Int) ≤ x2 ∧ x2 ≤ (11 : Int) from by omega) (fun s29 hI14 fr13 ps16 => ?_)
    replace ps16 : ∀ i, i ≠ 126 + 6 * x1 + 4 → s29.1 96 i = (s28.1 96) i := ps16
    have fr17 : lf_fq [96, 1005, 1006] 9 true s.1 s.2.2 s29.1 s29.2.2 := lf_fq_tr fr12 (lf_fq_wk fr13 rfl (by decide) (by decide))
    exact hQ true s29 hI14 fr17
  · skip
    replace c7 : ¬ (r25 ≠ x2) := c7
    exact hQ false s hI (lf_fq_rf)
theorem sm_248 {a1 : Int} {a2 : Int} {Q : Bool → lf_Z → Prop} {s : lf_Z} (hI : iv_A s.1 s.2.2) (ba1 : (-2147483648) ≤ a1 ∧ a1 ≤ 2147483647) (ba2 : (-2147483648) ≤ a2 ∧ a2 ≤ 2147483647) (hQ : ∀ (z : Bool) (s' : lf_Z), iv_A s'.1 s'.2.2 → lf_fq [96, 1005, 1006] 9 true s.1 s.2.2 s'.1 s'.2.2 → Q z s') : fm_248 a1 a2 Q s := by
  unfold fm_248
  refine sm_249 hI (show (-2147483648 : Int) ≤ a1 ∧ a1 ≤ (2147483647 : Int) from by omega) (fun z22 q1 => ?_)
  have b2 : 0 ≤ s.1 96 2 ∧ s.1 96 2 ≤ 6 := iv_rd96 hI (iv_f2103129b (by omega))
  have b3 : s.1 96 2 ≤ 0 ∨ 0 < s.1 96 0 := (show s.1 96 2 ≤ 0 ∨ 0 < s.1 96 0 from iv_l96_2 hI)
  refine ⟨fun c4 => ?_, fun c4 => ?_⟩
  · skip
    have dc4 := q1.2 c4
    exact hQ false s hI (lf_fq_rf)
  · skip
    have dc4 := q1.1 c4
    refine ⟨(show lf_R a2 from lf_Rof (by omega)), ?_⟩
    refine ⟨fun c5 => ?_, fun c5 => ?_⟩
    · skip
      replace c5 : a2 = (-1) := c5
      exact sm_248_p21 hQ hI (show (0 : Int) ≤ a1 ∧ a1 ≤ (5 : Int) from by omega) (show (-1 : Int) ≤ a2 ∧ a2 ≤ (11 : Int) from by omega)
    · skip
      replace c5 : ¬ (a2 = (-1)) := c5
      refine sm_185 hI (show (-2147483648 : Int) ≤ a2 ∧ a2 ≤ (2147483647 : Int) from by omega) (fun z31 q18 => ?_)
      have b19 : 0 ≤ s.1 96 0 ∧ s.1 96 0 ≤ 12 := iv_rd96 hI (iv_f3e1fa21c (by omega))
      refine ⟨fun c20 => ?_, fun c20 => ?_⟩
      · skip
        have dc20 := q18.2 c20
        exact hQ false s hI (lf_fq_rf)
      · skip
        have dc20 := q18.1 c20
        exact sm_248_p21 hQ hI (show (0 : Int) ≤ a1 ∧ a1 ≤ (5 : Int) from by omega) (show (-1 : Int) ≤ a2 ∧ a2 ≤ (11 : Int) from by omega)
-- fm_101 Stand.turn 15 i
theorem sm_101 {a1 : Int} {Q : lf_Z → Prop} {s : lf_Z} (hI : iv_A s.1 s.2.2) (ba1 : 0 ≤ a1 ∧ a1 ≤ 15) (hQ : ∀  (s' : lf_Z), iv_A s'.1 s'.2.2 → lf_fq [15] 1000000 true s.1 s.2.2 s'.1 s'.2.2 → Q  s') : fm_101 a1 Q s := by
  unfold fm_101
  have b1 : (-2147483648) ≤ s.1 15 6 ∧ s.1 15 6 ≤ 2147483647 := iv_full hI
  have b2 : 1 ≤ lf_shl 1 a1 ∧ lf_shl 1 a1 ≤ 32768 := lf_shl1 (m := 15) (by omega) (by omega) (by decide)
  have b3 : (-2147483648) ≤ lf_xor (s.1 15 6) (lf_shl 1 a1) ∧ lf_xor (s.1 15 6) (lf_shl 1 a1) ≤ 2147483647 := lf_xorB
  have hI4 : iv_A (lf_up s.1 15 6 (lf_xor (s.1 15 6) (lf_shl 1 a1))) s.2.2 := iv_w15_6 hI (by omega)
  have fr5 : lf_fq [15] 1000000 true s.1 s.2.2 (lf_up s.1 15 6 (lf_xor (s.1 15 6) (lf_shl 1 a1))) s.2.2 := lf_fq_up (lf_fq_rf) rfl (fun h => absurd h (by decide))
  exact hQ (lf_up s.1 15 6 (lf_xor (s.1 15 6) (lf_shl 1 a1)), s.2.1, s.2.2) hI4 fr5
-- fm_100 ElevenBullocks.gate 0 i i
theorem sm_100 {a1 : Int} {a2 : Int} {Q : Bool → lf_Z → Prop} {s : lf_Z} (hI : iv_A s.1 s.2.2) (ba1 : (-2147483648) ≤ a1 ∧ a1 ≤ 2147483647) (ba2 : 0 ≤ a2 ∧ a2 ≤ 1) (hQ : ∀ (z : Bool) (s' : lf_Z), iv_A s'.1 s'.2.2 → lf_fq [15, 22, 23, 24] 1000000 true s.1 s.2.2 s'.1 s'.2.2 → Q z s') : fm_100 a1 a2 Q s := by
  unfold fm_100
  refine sm_89 hI (show (-2147483648 : Int) ≤ a1 ∧ a1 ≤ (2147483647 : Int) from by omega) (fun z22 q1 => ?_)
  have b2 : 0 ≤ s.1 1 1 ∧ s.1 1 1 ≤ 16 := iv_r1_1 hI
  have b3 : 0 ≤ s.1 6 a1 ∧ s.1 6 a1 ≤ 1 := iv_r6 hI _
  refine ⟨fun c4 => ?_, fun c4 => ?_⟩
  · skip
    have dc4 := q1.2 c4
    exact hQ false s hI (lf_fq_rf)
  · skip
    have dc4 := q1.1 c4
    refine sm_90 hI (show (0 : Int) ≤ a1 ∧ a1 ≤ (15 : Int) from by omega) (fun z24 => ?_)
    have b7 : 0 ≤ lf_b z24 ∧ lf_b z24 ≤ 1 := lf_b01
    refine ⟨(show lf_R a2 from lf_Rof (by omega)), ?_⟩
    refine ⟨fun c6 => ?_, fun c6 => ?_⟩
    · skip
      replace c6 : lf_b z24 ≠ a2 := c6
      have b8 : 0 ≤ s.1 1 2 ∧ s.1 1 2 ≤ 6 := iv_r1_2 hI
      refine sm_67 hI (show (0 : Int) ≤ s.1 1 2 ∧ s.1 1 2 ≤ (6 : Int) from by omega) (fun s26 hI10 fr9 => ?_)
      have fr12 : lf_fq [15, 22, 23, 24] 1000000 true s.1 s.2.2 s26.1 s26.2.2 := lf_fq_tr (lf_fq_rf) (lf_fq_wk fr9 rfl (by decide) (by decide))
      refine sm_101 hI10 (show (0 : Int) ≤ a1 ∧ a1 ≤ (15 : Int) from by omega) (fun s27 hI14 fr13 => ?_)
      have fr16 : lf_fq [15, 22, 23, 24] 1000000 true s.1 s.2.2 s27.1 s27.2.2 := lf_fq_tr fr12 (lf_fq_wk fr13 rfl (by decide) (by decide))
      exact hQ true s27 hI14 fr16
    · skip
      replace c6 : ¬ (lf_b z24 ≠ a2) := c6
      exact hQ false s hI (lf_fq_rf)
-- fm_251 Model.isWay 95 i
theorem sm_251 {a1 : Int} {Q : Bool → lf_Z → Prop} {s : lf_Z} (hI : iv_A s.1 s.2.2) (ba1 : (-2147483648) ≤ a1 ∧ a1 ≤ 2147483647) (hQ : ∀ (z : Bool), ((z = true → (0 ≤ a1 ∧ a1 < s.1 96 1)) ∧ (z = false → ¬ (0 ≤ a1 ∧ a1 < s.1 96 1))) → Q z s) : fm_251 a1 Q s := by
  unfold fm_251
  have b1 : 0 ≤ s.1 96 1 ∧ s.1 96 1 ≤ 16 := iv_rd96 hI (iv_fd6ad3e54 (by omega))
  have b2 : s.1 96 1 ≤ 0 ∨ 0 < s.1 96 0 := (show s.1 96 1 ≤ 0 ∨ 0 < s.1 96 0 from iv_l96_1 hI)
  refine sm_183 hI (show (-2147483648 : Int) ≤ a1 ∧ a1 ≤ (2147483647 : Int) from by omega) (show (-1 : Int) ≤ 0 ∧ 0 ≤ (97 : Int) from by omega) (show (-1 : Int) ≤ (s.1 96 1) - 1 ∧ (s.1 96 1) - 1 ≤ (9999 : Int) from by omega) (fun z22 q3 => ?_)
  exact hQ z22 ⟨fun h9 => by have h8 := q3.1 h9; omega, fun h9 => by have h8 := q3.2 h9; omega⟩
-- fm_250 Model.gate 95 i i
theorem sm_250_p52 {Q : Bool → lf_Z → Prop} {y1 : Int} {y2 : Int} {s : lf_Z} (hQ : ∀ (z : Bool) (s' : lf_Z), iv_A s'.1 s'.2.2 → lf_fq [96, 1004, 1005, 1006] 9 true s.1 s.2.2 s'.1 s'.2.2 → Q z s') (hI : iv_A s.1 s.2.2) (by1 : 53 ≤ y1 ∧ y1 ≤ 113) (by2 : 0 ≤ y2 ∧ y2 ≤ 1) (kv0 : (y1 - 50) % 4 = 3) : fm_250_p52 Q y1 y2 s := by
  unfold fm_250_p52
  refine ⟨(show (0 : Int) ≤ y1 ∧ y1 < (1538 : Int) from by omega), ?_⟩
  have hI16 : iv_A (lf_up s.1 96 y1 y2) s.2.2 := iv_wd96 hI (lf_le2 (iv_f2c6f65e5 (y1) (by omega) (by omega)) (by omega)) (fun h => absurd h (by omega))
  have fr17 : lf_fq [96, 1004, 1005, 1006] 9 true s.1 s.2.2 (lf_up s.1 96 y1 y2) s.2.2 := lf_fq_up (lf_fq_rf) rfl (fun _ => ⟨by omega, fr_o (Or.inr (fr_n0 (by omega))) (Or.inr (fr_n1 (by omega))) (Or.inr (fr_n2 (by omega))) (Or.inr (fr_n3 (by omega))) (Or.inl rfl) (Or.inl rfl) (Or.inl rfl)⟩)
  exact hQ true (lf_up s.1 96 y1 y2, s.2.1, s.2.2) hI16 fr17
theorem sm_250 {a1 : Int} {a2 : Int} {Q : Bool → lf_Z → Prop} {s : lf_Z} (hI : iv_A s.1 s.2.2) (ba1 : (-2147483648) ≤ a1 ∧ a1 ≤ 2147483647) (ba2 : 0 ≤ a2 ∧ a2 ≤ 1) (hQ : ∀ (z : Bool) (s' : lf_Z), iv_A s'.1 s'.2.2 → lf_fq [96, 1004, 1005, 1006] 9 true s.1 s.2.2 s'.1 s'.2.2 → Q z s') : fm_250 a1 a2 Q s := by
  unfold fm_250
  refine sm_251 hI (show (-2147483648 : Int) ≤ a1 ∧ a1 ≤ (2147483647 : Int) from by omega) (fun z22 q1 => ?_)
  have b2 : 0 ≤ s.1 96 1 ∧ s.1 96 1 ≤ 16 := iv_rd96 hI (iv_fd6ad3e54 (by omega))
  have b3 : s.1 96 1 ≤ 0 ∨ 0 < s.1 96 0 := (show s.1 96 1 ≤ 0 ∨ 0 < s.1 96 0 from iv_l96_1 hI)
  refine ⟨fun c4 => ?_, fun c4 => ?_⟩
  · skip
    have dc4 := q1.2 c4
    exact hQ false s hI (lf_fq_rf)
  · skip
    have dc4 := q1.1 c4
    refine sm_252 hI (show (0 : Int) ≤ a1 ∧ a1 ≤ (15 : Int) from by omega) (fun z24 => ?_)
    refine ⟨fun c6 => ?_, fun c6 => ?_⟩
    · skip
      exact hQ false s hI (lf_fq_rf)
    · skip
      refine sm_245 hI (show (0 : Int) ≤ a1 ∧ a1 ≤ (15 : Int) from by omega) (fun z26 => ?_)
      have b9 : 0 ≤ lf_b z26 ∧ lf_b z26 ≤ 1 := lf_b01
      refine ⟨(show lf_R a2 from lf_Rof (by omega)), ?_⟩
      refine ⟨fun c8 => ?_, fun c8 => ?_⟩
      · skip
        replace c8 : lf_b z26 ≠ a2 := c8
        refine sm_244 hI (fun s28 hI11 fr10 ps13 => ?_)
        replace ps13 : kp_F ((s.1 96)) (s28.1 96) := ps13
        have fr14 : lf_fq [96, 1004, 1005, 1006] 9 true s.1 s.2.2 s28.1 s28.2.2 := lf_fq_tr (lf_fq_rf) (lf_fq_wk fr10 rfl (by decide) (by decide))
        refine ⟨fun c15 => ?_, fun c15 => ?_⟩
        · skip
          replace c15 : a2 = 0 := c15
          exact sm_250_p52 (fun r9 t9 i9 f9 => hQ r9 t9 i9 (lf_fq_tr fr14 f9)) hI11 (show (53 : Int) ≤ (50 + (4 * a1)) + 3 ∧ (50 + (4 * a1)) + 3 ≤ (113 : Int) from by omega) (show (0 : Int) ≤ 0 ∧ 0 ≤ (1 : Int) from by omega) (show (((50 + (4 * a1)) + 3) - 50) % 4 = 3 from by omega)
        · skip
          replace c15 : ¬ (a2 = 0) := c15
          exact sm_250_p52 (fun r9 t9 i9 f9 => hQ r9 t9 i9 (lf_fq_tr fr14 f9)) hI11 (show (53 : Int) ≤ (50 + (4 * a1)) + 3 ∧ (50 + (4 * a1)) + 3 ≤ (113 : Int) from by omega) (show (0 : Int) ≤ 1 ∧ 1 ≤ (1 : Int) from by omega) (show (((50 + (4 * a1)) + 3) - 50) % 4 = 3 from by omega)
      · skip
        replace c8 : ¬ (lf_b z26 ≠ a2) := c8
        exact hQ false s hI (lf_fq_rf)
-- fm_102 ElevenBullocks.split 0 i i
theorem sm_102 {a1 : Int} {a2 : Int} {Q : Int → lf_Z → Prop} {s : lf_Z} (hI : iv_A s.1 s.2.2) (ba1 : (-2147483648) ≤ a1 ∧ a1 ≤ 2147483647) (ba2 : (-2147483648) ≤ a2 ∧ a2 ≤ 2147483647) (hQ : ∀ (r : Int) (s' : lf_Z), iv_A s'.1 s'.2.2 → lf_fq [16, 17, 18, 22, 23, 24] 1000000 true s.1 s.2.2 s'.1 s'.2.2 → ((-1) ≤ r ∧ r ≤ 3) → Q r s') : fm_102 a1 a2 Q s := by
  unfold fm_102
  refine sm_80 hI (show (-2147483648 : Int) ≤ a1 ∧ a1 ≤ (2147483647 : Int) from by omega) (fun z22 q1 => ?_)
  have b2 : (-2147483648) ≤ s.1 16 a1 ∧ s.1 16 a1 ≤ 2147483647 := iv_full hI
  refine ⟨fun c3 => ?_, fun c3 => ?_⟩
  · skip
    have dc3 := q1.2 c3
    exact hQ (-1) s hI (lf_fq_rf) (show (-1 : Int) ≤ (-1) ∧ (-1) ≤ (3 : Int) from by omega)
  · skip
    have dc3 := q1.1 c3
    refine ⟨(show (0 : Int) ≤ a1 ∧ a1 < (4 : Int) from by omega), ?_⟩
    refine sm_15 hI (show (-2147483648 : Int) ≤ a2 ∧ a2 ≤ (2147483647 : Int) from by omega) (show (-1 : Int) ≤ 1 ∧ 1 ≤ (99 : Int) from by omega) (show (-2147483648 : Int) ≤ (s.1 16 a1) - 1 ∧ (s.1 16 a1) - 1 ≤ (2147483647 : Int) from by omega) (fun z25 q4 => ?_)
    refine ⟨fun c5 => ?_, fun c5 => ?_⟩
    · skip
      have dc5 := q4.1 c5
      refine sm_66 hI (fun r27 q6 => ?_)
      refine ⟨(show lf_R r27 from lf_Rof (by omega)), ?_⟩
      refine ⟨fun c7 => ?_, fun c7 => ?_⟩
      · skip
        replace c7 : r27 = (-1) := c7
        exact hQ r27 s hI (lf_fq_rf) (show (-1 : Int) ≤ r27 ∧ r27 ≤ (3 : Int) from by omega)
      · skip
        replace c7 : ¬ (r27 = (-1)) := c7
        have b8 : 0 ≤ s.1 1 2 ∧ s.1 1 2 ≤ 6 := iv_r1_2 hI
        refine sm_67 hI (show (0 : Int) ≤ s.1 1 2 ∧ s.1 1 2 ≤ (6 : Int) from by omega) (fun s29 hI10 fr9 => ?_)
        have fr12 : lf_fq [16, 17, 18, 22, 23, 24] 1000000 true s.1 s.2.2 s29.1 s29.2.2 := lf_fq_tr (lf_fq_rf) (lf_fq_wk fr9 rfl (by decide) (by decide))
        have b13 : (-2147483648) ≤ s29.1 16 a1 ∧ s29.1 16 a1 ≤ 2147483647 := iv_full hI10
        have b14 : s29.1 16 a1 = s.1 16 a1 := congrFun (fr9.1 16 rfl) _
        have b15 : (-1) ≤ s29.1 17 a1 ∧ s29.1 17 a1 ≤ 11 := iv_r17 hI10 _
        have b16 : s29.1 17 a1 = s.1 17 a1 := congrFun (fr9.1 17 rfl) _
        have b17 : s29.1 16 a1 ≤ 0 ∨ 0 ≤ s29.1 17 a1 := (by first | exact (show s29.1 16 a1 ≤ 0 ∨ 0 ≤ s29.1 17 a1 from iv_sp hI10 (by omega) (by omega)) | exact iv_sp hI10 (by omega) (by omega))
        have hI18 : iv_A (lf_up s29.1 16 a1 ((s29.1 16 a1) - a2)) s29.2.2 := iv_w16 hI10 (by omega) (by omega)
        have fr19 : lf_fq [16, 17, 18, 22, 23, 24] 1000000 true s.1 s.2.2 (lf_up s29.1 16 a1 ((s29.1 16 a1) - a2)) s29.2.2 := lf_fq_up fr12 rfl (fun h => absurd h (by decide))
        have b20 : (lf_up s29.1 16 a1 ((s29.1 16 a1) - a2)) 16 a1 ≤ 0 ∨ 0 ≤ s29.1 17 a1 := (by first | exact (show (lf_up s29.1 16 a1 ((s29.1 16 a1) - a2)) 16 a1 ≤ 0 ∨ 0 ≤ (lf_up s29.1 16 a1 ((s29.1 16 a1) - a2)) 17 a1 from iv_sp hI18 (by omega) (by omega)) | exact iv_sp hI18 (by omega) (by omega))
        have b21 : (-1) ≤ s29.1 18 a1 ∧ s29.1 18 a1 ≤ 11 := (show (-1) ≤ (lf_up s29.1 16 a1 ((s29.1 16 a1) - a2)) 18 a1 ∧ (lf_up s29.1 16 a1 ((s29.1 16 a1) - a2)) 18 a1 ≤ 11 from iv_r18 hI18 _)
        have b22 : s29.1 18 a1 = s.1 18 a1 := congrFun (fr9.1 18 rfl) _
        refine sm_69 hI18 (show (0 : Int) ≤ r27 ∧ r27 ≤ (3 : Int) from by omega) (show (-2147483648 : Int) ≤ a2 ∧ a2 ≤ (2147483647 : Int) from by omega) (show (-1 : Int) ≤ s29.1 17 a1 ∧ s29.1 17 a1 ≤ (11 : Int) from by omega) (show (-1 : Int) ≤ s29.1 18 a1 ∧ s29.1 18 a1 ≤ (11 : Int) from by omega) (show a2 ≤ 0 ∨ 0 ≤ (s29.1 17 a1) from by omega) (fun s30 hI24 fr23 => ?_)
        have fr26 : lf_fq [16, 17, 18, 22, 23, 24] 1000000 true s.1 s.2.2 s30.1 s30.2.2 := lf_fq_tr fr19 (lf_fq_wk fr23 rfl (by decide) (by decide))
        exact hQ r27 s30 hI24 fr26 (show (-1 : Int) ≤ r27 ∧ r27 ≤ (3 : Int) from by omega)
    · skip
      have dc5 := q4.2 c5
      exact hQ (-1) s hI (lf_fq_rf) (show (-1 : Int) ≤ (-1) ∧ (-1) ≤ (3 : Int) from by omega)
-- fm_254 Model.isBunch 95 i
theorem sm_254 {a1 : Int} {Q : Bool → lf_Z → Prop} {s : lf_Z} (hI : iv_A s.1 s.2.2) (ba1 : (-2147483648) ≤ a1 ∧ a1 ≤ 2147483647) (hQ : ∀ (z : Bool), ((z = true → (0 ≤ a1 ∧ a1 ≤ 3)) ∧ (z = false → True)) → Q z s) : fm_254 a1 Q s := by
  unfold fm_254
  refine sm_183 hI (show (-2147483648 : Int) ≤ a1 ∧ a1 ≤ (2147483647 : Int) from by omega) (show (-1 : Int) ≤ 0 ∧ 0 ≤ (97 : Int) from by omega) (show (-1 : Int) ≤ 3 ∧ 3 ≤ (9999 : Int) from by omega) (fun z22 q1 => ?_)
  refine ⟨fun c2 => ?_, fun c2 => ?_⟩
  · skip
    have dc2 := q1.2 c2
    exact hQ false ⟨fun h => (by cases h), fun _ => trivial⟩
  · skip
    have dc2 := q1.1 c2
    refine sm_242 hI (show (0 : Int) ≤ a1 ∧ a1 ≤ (3 : Int) from by omega) (fun r24 q3 => ?_)
    obtain ⟨q3, q3x⟩ := q3
    replace q3x : r24 = s.1 96 (114 + 3 * a1) := q3x
    refine ⟨(show lf_R r24 from lf_Rof (by omega)), ?_⟩
    refine ⟨fun c4 => ?_, fun c4 => ?_⟩
    · skip
      replace c4 : r24 ≤ 0 := c4
      exact hQ false ⟨fun h => (by cases h), fun _ => trivial⟩
    · skip
      replace c4 : ¬ (r24 ≤ 0) := c4
      exact hQ true ⟨fun _ => by omega, fun _ => trivial⟩
-- fm_253 Model.split 95 i i
theorem sm_253 {a1 : Int} {a2 : Int} {Q : Int → lf_Z → Prop} {s : lf_Z} (hI : iv_A s.1 s.2.2) (ba1 : (-2147483648) ≤ a1 ∧ a1 ≤ 2147483647) (ba2 : (-2147483648) ≤ a2 ∧ a2 ≤ 2147483647) (hQ : ∀ (r : Int) (s' : lf_Z), iv_A s'.1 s'.2.2 → lf_fq [96, 1005, 1006] 9 true s.1 s.2.2 s'.1 s'.2.2 → ((-1) ≤ r ∧ r ≤ 3) → Q r s') : fm_253 a1 a2 Q s := by
  unfold fm_253
  refine sm_241 hI (fun r22 ps2 q1 => ?_)
  replace ps2 : r22 = -1 ∨ (s.1 96) (114 + 3 * r22) = 0 := ps2
  refine sm_254 hI (show (-2147483648 : Int) ≤ a1 ∧ a1 ≤ (2147483647 : Int) from by omega) (fun z24 q3 => ?_)
  refine ⟨fun c4 => ?_, fun c4 => ?_⟩
  · skip
    have dc4 := q3.2 c4
    exact hQ (-1) s hI (lf_fq_rf) (show (-1 : Int) ≤ (-1) ∧ (-1) ≤ (3 : Int) from by omega)
  · skip
    have dc4 := q3.1 c4
    refine sm_242 hI (show (0 : Int) ≤ a1 ∧ a1 ≤ (3 : Int) from by omega) (fun r26 q5 => ?_)
    obtain ⟨q5, q5x⟩ := q5
    replace q5x : r26 = s.1 96 (114 + 3 * a1) := q5x
    refine sm_183 hI (show (-2147483648 : Int) ≤ a2 ∧ a2 ≤ (2147483647 : Int) from by omega) (show (-1 : Int) ≤ 1 ∧ 1 ≤ (97 : Int) from by omega) (show (-1 : Int) ≤ r26 - 1 ∧ r26 - 1 ≤ (9999 : Int) from by omega) (fun z28 q6 => ?_)
    refine ⟨fun c7 => ?_, fun c7 => ?_⟩
    · skip
      have dc7 := q6.2 c7
      exact hQ (-1) s hI (lf_fq_rf) (show (-1 : Int) ≤ (-1) ∧ (-1) ≤ (3 : Int) from by omega)
    · skip
      have dc7 := q6.1 c7
      refine ⟨(show lf_R r22 from lf_Rof (by omega)), ?_⟩
      refine ⟨fun c8 => ?_, fun c8 => ?_⟩
      · skip
        replace c8 : 0 ≤ r22 := c8
        refine sm_244 hI (fun s30 hI10 fr9 ps12 => ?_)
        replace ps12 : kp_F ((s.1 96)) (s30.1 96) := ps12
        have fr13 : lf_fq [96, 1005, 1006] 9 true s.1 s.2.2 s30.1 s30.2.2 := lf_fq_tr (lf_fq_rf) (lf_fq_wk fr9 rfl (by decide) (by decide))
        have b14 : (s30.1 96) (114 + 3 * a1) = s.1 96 (114 + 3 * a1) := ps12 _ (by omega) (by omega)
        have b15 : (s30.1 96) (114 + 3 * r22) = s.1 96 (114 + 3 * r22) := ps12 _ (by omega) (by omega)
        have b16 : 0 ≤ s30.1 96 114 ∧ s30.1 96 114 ≤ 24 := iv_rd96 hI10 (iv_fda037f3c (by omega))
        have b17 : 0 ≤ s30.1 96 117 ∧ s30.1 96 117 ≤ 24 := iv_rd96 hI10 (iv_f168d6e22 (by omega))
        have b18 : 0 ≤ s30.1 96 120 ∧ s30.1 96 120 ≤ 24 := iv_rd96 hI10 (iv_f5f96ec92 (by omega))
        have b19 : 0 ≤ s30.1 96 123 ∧ s30.1 96 123 ≤ 24 := iv_rd96 hI10 (iv_fe4a5d80e (by omega))
        have b20 : (s30.1 96 114) + (s30.1 96 117) + (s30.1 96 120) + (s30.1 96 123) ≤ 24 := iv_szA hI10
        have b21 : r22 ≠ a1 := lf_ne4 (f := s.1 96) (by omega)
        refine ⟨(show (0 : Int) ≤ 114 + (3 * a1) ∧ 114 + (3 * a1) < (1538 : Int) from by omega), ?_⟩
        have b22 : 0 ≤ s30.1 96 (114 + (3 * a1)) ∧ s30.1 96 (114 + (3 * a1)) ≤ 24 := iv_rd96 hI10 (iv_f3318a158 (a1) (by omega) (by omega))
        have hI23 : iv_A (lf_up s30.1 96 (114 + (3 * a1)) ((s30.1 96 (114 + (3 * a1))) - a2)) s30.2.2 := iv_wd96 hI10 (lf_le2 (iv_fad4315e5 (a1) (by omega) (by omega)) (by omega)) (fun _ => iv_rels hI10 (by omega) (by omega))
        have fr24 : lf_fq [96, 1005, 1006] 9 true s.1 s.2.2 (lf_up s30.1 96 (114 + (3 * a1)) ((s30.1 96 (114 + (3 * a1))) - a2)) s30.2.2 := lf_fq_up fr13 rfl (fun _ => ⟨by omega, fr_o (Or.inr (fr_n0 (by omega))) (Or.inr (fr_n1 (by omega))) (Or.inr (fr_n2 (by omega))) (Or.inr (fr_n3 (by omega))) (Or.inr (fr_n4 (by omega))) (Or.inl rfl) (Or.inl rfl)⟩)
        refine sm_255 hI23 (show (0 : Int) ≤ a1 ∧ a1 ≤ (3 : Int) from by omega) (fun r33 q25 => ?_)
        refine sm_256 hI23 (show (0 : Int) ≤ a1 ∧ a1 ≤ (3 : Int) from by omega) (fun r35 q26 => ?_)
        have b27 : (lf_up s30.1 96 (114 + (3 * a1)) ((s30.1 96 (114 + (3 * a1))) - a2)) 96 114 + (lf_up s30.1 96 (114 + (3 * a1)) ((s30.1 96 (114 + (3 * a1))) - a2)) 96 117 + (lf_up s30.1 96 (114 + (3 * a1)) ((s30.1 96 (114 + (3 * a1))) - a2)) 96 120 + (lf_up s30.1 96 (114 + (3 * a1)) ((s30.1 96 (114 + (3 * a1))) - a2)) 96 123 = s30.1 96 114 + s30.1 96 117 + s30.1 96 120 + s30.1 96 123 - s30.1 96 (114 + 3 * a1) + (s30.1 96 (114 + 3 * a1) - a2) := iv_sumU (by omega)
        have b28 : (lf_up s30.1 96 (114 + (3 * a1)) ((s30.1 96 (114 + (3 * a1))) - a2)) 96 (114 + 3 * r22) = s30.1 96 (114 + 3 * r22) := lf_up_i (by omega)
        have b31 : 0 ≤ (lf_up s30.1 96 (114 + (3 * a1)) ((s30.1 96 (114 + (3 * a1))) - a2)) 96 114 ∧ (lf_up s30.1 96 (114 + (3 * a1)) ((s30.1 96 (114 + (3 * a1))) - a2)) 96 114 ≤ 24 := iv_rd96 hI23 (iv_fda037f3c (by omega))
        have b32 : 0 ≤ (lf_up s30.1 96 (114 + (3 * a1)) ((s30.1 96 (114 + (3 * a1))) - a2)) 96 117 ∧ (lf_up s30.1 96 (114 + (3 * a1)) ((s30.1 96 (114 + (3 * a1))) - a2)) 96 117 ≤ 24 := iv_rd96 hI23 (iv_f168d6e22 (by omega))
        have b33 : 0 ≤ (lf_up s30.1 96 (114 + (3 * a1)) ((s30.1 96 (114 + (3 * a1))) - a2)) 96 120 ∧ (lf_up s30.1 96 (114 + (3 * a1)) ((s30.1 96 (114 + (3 * a1))) - a2)) 96 120 ≤ 24 := iv_rd96 hI23 (iv_f5f96ec92 (by omega))
        have b34 : 0 ≤ (lf_up s30.1 96 (114 + (3 * a1)) ((s30.1 96 (114 + (3 * a1))) - a2)) 96 123 ∧ (lf_up s30.1 96 (114 + (3 * a1)) ((s30.1 96 (114 + (3 * a1))) - a2)) 96 123 ≤ 24 := iv_rd96 hI23 (iv_fe4a5d80e (by omega))
        refine sm_247 hI23 (show (0 : Int) ≤ r22 ∧ r22 ≤ (3 : Int) from by omega) (show (0 : Int) ≤ a2 ∧ a2 ≤ (24 : Int) from by omega) (show (0 : Int) ≤ r33 ∧ r33 ≤ (11 : Int) from by omega) (show (-1 : Int) ≤ r35 ∧ r35 ≤ (11 : Int) from by omega) (show ((lf_up s30.1 96 (114 + (3 * a1)) ((s30.1 96 (114 + (3 * a1))) - a2)) 96 114) + ((lf_up s30.1 96 (114 + (3 * a1)) ((s30.1 96 (114 + (3 * a1))) - a2)) 96 117) + ((lf_up s30.1 96 (114 + (3 * a1)) ((s30.1 96 (114 + (3 * a1))) - a2)) 96 120) + ((lf_up s30.1 96 (114 + (3 * a1)) ((s30.1 96 (114 + (3 * a1))) - a2)) 96 123) - ((lf_up s30.1 96 (114 + (3 * a1)) ((s30.1 96 (114 + (3 * a1))) - a2)) 96) (114 + 3 * r22) + a2 ≤ 24 from by omega) (fun s36 hI30 fr29 => ?_)
        have fr36 : lf_fq [96, 1005, 1006] 9 true s.1 s.2.2 s36.1 s36.2.2 := lf_fq_tr fr24 (lf_fq_wk fr29 rfl (by decide) (by decide))
        exact hQ r22 s36 hI30 fr36 (show (-1 : Int) ≤ r22 ∧ r22 ≤ (3 : Int) from by omega)
      · skip
        replace c8 : ¬ (0 ≤ r22) := c8
        exact hQ (-1) s hI (lf_fq_rf) (show (-1 : Int) ≤ (-1) ∧ (-1) ≤ (3 : Int) from by omega)
-- fm_104 ElevenBullocks.carryOut 0 i i i
theorem sm_104 {a1 : Int} {a2 : Int} {a3 : Int} {Q : Bool → lf_Z → Prop} {s : lf_Z} (hI : iv_A s.1 s.2.2) (ba1 : (-2147483648) ≤ a1 ∧ a1 ≤ 2147483647) (ba2 : (-2147483648) ≤ a2 ∧ a2 ≤ 2147483647) (ba3 : (-2147483648) ≤ a3 ∧ a3 ≤ 2147483647) (hQ : ∀ (z : Bool) (s' : lf_Z), iv_A s'.1 s'.2.2 → lf_fq [1, 2, 3, 4, 5, 6, 7, 8, 9, 10, 11, 12, 13, 15, 16, 17, 18, 19, 20, 21, 22, 23, 24, 63, 64, 65, 66] 1000000 true s.1 s.2.2 s'.1 s'.2.2 → Q z s') : fm_104 a1 a2 a3 Q s := by
  unfold fm_104
  refine ⟨(show lf_R a1 from lf_Rof (by omega)), ?_⟩
  refine ⟨fun c1 => ?_, fun c1 => ?_, fun c1 => ?_, fun c1 => ?_, fun c1 => ?_, fun c1 => ?_, fun c1 => ?_, fun c1 => ?_, fun c1 => ?_, fun c1 => ?_, fun c1 => ?_⟩
  · replace c1 : a1 < 23 ∨ 32 < a1 := c1
    exact hQ true s hI (lf_fq_rf)
  · replace c1 : a1 = 23 := c1
    refine sm_14 hI (show (-2147483648 : Int) ≤ a2 ∧ a2 ≤ (2147483647 : Int) from by omega) (show (-2147483648 : Int) ≤ a3 ∧ a3 ≤ (2147483647 : Int) from by omega) (fun r23 s22 hI3 fr2 q4 => ?_)
    have fr5 : lf_fq [1, 2, 3, 4, 5, 6, 7, 8, 9, 10, 11, 12, 13, 15, 16, 17, 18, 19, 20, 21, 22, 23, 24, 63, 64, 65, 66] 1000000 true s.1 s.2.2 s22.1 s22.2.2 := lf_fq_tr (lf_fq_rf) (lf_fq_wk fr2 rfl (by decide) (by decide))
    refine ⟨(show lf_R r23 from lf_Rof (by omega)), ?_⟩
    refine ⟨fun c6 => ?_, fun c6 => ?_⟩
    · skip
      replace c6 : r23 = (-1) := c6
      exact hQ false s22 hI3 fr5
    · skip
      replace c6 : ¬ (r23 = (-1)) := c6
      exact hQ true s22 hI3 fr5
  · replace c1 : a1 = 24 := c1
    refine sm_17 hI (show (-2147483648 : Int) ≤ a2 ∧ a2 ≤ (2147483647 : Int) from by omega) (show (-2147483648 : Int) ≤ a3 ∧ a3 ≤ (2147483647 : Int) from by omega) (show (0 : Int) ≤ 0 ∧ 0 ≤ (1 : Int) from by omega) (fun r26 s25 hI8 fr7 q9 => ?_)
    have fr10 : lf_fq [1, 2, 3, 4, 5, 6, 7, 8, 9, 10, 11, 12, 13, 15, 16, 17, 18, 19, 20, 21, 22, 23, 24, 63, 64, 65, 66] 1000000 true s.1 s.2.2 s25.1 s25.2.2 := lf_fq_tr (lf_fq_rf) (lf_fq_wk fr7 rfl (by decide) (by decide))
    refine ⟨(show lf_R r26 from lf_Rof (by omega)), ?_⟩
    refine ⟨fun c11 => ?_, fun c11 => ?_⟩
    · skip
      replace c11 : r26 = (-1) := c11
      exact hQ false s25 hI8 fr10
    · skip
      replace c11 : ¬ (r26 = (-1)) := c11
      exact hQ true s25 hI8 fr10
  · replace c1 : a1 = 25 := c1
    refine sm_17 hI (show (-2147483648 : Int) ≤ a2 ∧ a2 ≤ (2147483647 : Int) from by omega) (show (-2147483648 : Int) ≤ a3 ∧ a3 ≤ (2147483647 : Int) from by omega) (show (0 : Int) ≤ 1 ∧ 1 ≤ (1 : Int) from by omega) (fun r29 s28 hI13 fr12 q14 => ?_)
    have fr15 : lf_fq [1, 2, 3, 4, 5, 6, 7, 8, 9, 10, 11, 12, 13, 15, 16, 17, 18, 19, 20, 21, 22, 23, 24, 63, 64, 65, 66] 1000000 true s.1 s.2.2 s28.1 s28.2.2 := lf_fq_tr (lf_fq_rf) (lf_fq_wk fr12 rfl (by decide) (by decide))
    refine ⟨(show lf_R r29 from lf_Rof (by omega)), ?_⟩
    refine ⟨fun c16 => ?_, fun c16 => ?_⟩
    · skip
      replace c16 : r29 = (-1) := c16
      exact hQ false s28 hI13 fr15
    · skip
      replace c16 : ¬ (r29 = (-1)) := c16
      exact hQ true s28 hI13 fr15
  · replace c1 : a1 = 26 := c1
    refine sm_23 hI (show (-2147483648 : Int) ≤ a2 ∧ a2 ≤ (2147483647 : Int) from by omega) (show (0 : Int) ≤ 0 ∧ 0 ≤ (1 : Int) from by omega) (show (0 : Int) ≤ 0 ∧ 0 ≤ (1 : Int) from by omega) (show (-2147483648 : Int) ≤ a3 ∧ a3 ≤ (2147483647 : Int) from by omega) (fun r32 s31 hI18 fr17 q19 => ?_)
    have fr20 : lf_fq [1, 2, 3, 4, 5, 6, 7, 8, 9, 10, 11, 12, 13, 15, 16, 17, 18, 19, 20, 21, 22, 23, 24, 63, 64, 65, 66] 1000000 true s.1 s.2.2 s31.1 s31.2.2 := lf_fq_tr (lf_fq_rf) (lf_fq_wk fr17 rfl (by decide) (by decide))
    refine ⟨(show lf_R r32 from lf_Rof (by omega)), ?_⟩
    refine ⟨fun c21 => ?_, fun c21 => ?_⟩
    · skip
      replace c21 : r32 = (-1) := c21
      exact hQ false s31 hI18 fr20
    · skip
      replace c21 : ¬ (r32 = (-1)) := c21
      exact hQ true s31 hI18 fr20
  · replace c1 : a1 = 27 := c1
    refine sm_63 hI (show (-2147483648 : Int) ≤ a2 ∧ a2 ≤ (2147483647 : Int) from by omega) (show (-2147483648 : Int) ≤ a3 ∧ a3 ≤ (2147483647 : Int) from by omega) (fun r35 s34 hI23 fr22 q24 => ?_)
    have fr25 : lf_fq [1, 2, 3, 4, 5, 6, 7, 8, 9, 10, 11, 12, 13, 15, 16, 17, 18, 19, 20, 21, 22, 23, 24, 63, 64, 65, 66] 1000000 true s.1 s.2.2 s34.1 s34.2.2 := lf_fq_tr (lf_fq_rf) (lf_fq_wk fr22 rfl (by decide) (by decide))
    refine ⟨(show lf_R r35 from lf_Rof (by omega)), ?_⟩
    refine ⟨fun c26 => ?_, fun c26 => ?_⟩
    · skip
      replace c26 : r35 = (-1) := c26
      exact hQ false s34 hI23 fr25
    · skip
      replace c26 : ¬ (r35 = (-1)) := c26
      exact hQ true s34 hI23 fr25
  · replace c1 : a1 = 28 := c1
    refine sm_98 hI (show (-2147483648 : Int) ≤ a2 ∧ a2 ≤ (2147483647 : Int) from by omega) (show (-2147483648 : Int) ≤ a3 ∧ a3 ≤ (2147483647 : Int) from by omega) (fun z38 s37 hI28 fr27 => ?_)
    have fr30 : lf_fq [1, 2, 3, 4, 5, 6, 7, 8, 9, 10, 11, 12, 13, 15, 16, 17, 18, 19, 20, 21, 22, 23, 24, 63, 64, 65, 66] 1000000 true s.1 s.2.2 s37.1 s37.2.2 := lf_fq_tr (lf_fq_rf) (lf_fq_wk fr27 rfl (by decide) (by decide))
    exact hQ z38 s37 hI28 fr30
  · replace c1 : a1 = 29 := c1
    refine sm_100 hI (show (-2147483648 : Int) ≤ a2 ∧ a2 ≤ (2147483647 : Int) from by omega) (show (0 : Int) ≤ 0 ∧ 0 ≤ (1 : Int) from by omega) (fun z40 s39 hI32 fr31 => ?_)
    have fr34 : lf_fq [1, 2, 3, 4, 5, 6, 7, 8, 9, 10, 11, 12, 13, 15, 16, 17, 18, 19, 20, 21, 22, 23, 24, 63, 64, 65, 66] 1000000 true s.1 s.2.2 s39.1 s39.2.2 := lf_fq_tr (lf_fq_rf) (lf_fq_wk fr31 rfl (by decide) (by decide))
    exact hQ z40 s39 hI32 fr34
  · replace c1 : a1 = 30 := c1
    refine sm_100 hI (show (-2147483648 : Int) ≤ a2 ∧ a2 ≤ (2147483647 : Int) from by omega) (show (0 : Int) ≤ 1 ∧ 1 ≤ (1 : Int) from by omega) (fun z42 s41 hI36 fr35 => ?_)
    have fr38 : lf_fq [1, 2, 3, 4, 5, 6, 7, 8, 9, 10, 11, 12, 13, 15, 16, 17, 18, 19, 20, 21, 22, 23, 24, 63, 64, 65, 66] 1000000 true s.1 s.2.2 s41.1 s41.2.2 := lf_fq_tr (lf_fq_rf) (lf_fq_wk fr35 rfl (by decide) (by decide))
    exact hQ z42 s41 hI36 fr38
  · replace c1 : a1 = 31 := c1
    refine sm_102 hI (show (-2147483648 : Int) ≤ a2 ∧ a2 ≤ (2147483647 : Int) from by omega) (show (-2147483648 : Int) ≤ a3 ∧ a3 ≤ (2147483647 : Int) from by omega) (fun r44 s43 hI40 fr39 q41 => ?_)
    have fr42 : lf_fq [1, 2, 3, 4, 5, 6, 7, 8, 9, 10, 11, 12, 13, 15, 16, 17, 18, 19, 20, 21, 22, 23, 24, 63, 64, 65, 66] 1000000 true s.1 s.2.2 s43.1 s43.2.2 := lf_fq_tr (lf_fq_rf) (lf_fq_wk fr39 rfl (by decide) (by decide))
    refine ⟨(show lf_R r44 from lf_Rof (by omega)), ?_⟩
    refine ⟨fun c43 => ?_, fun c43 => ?_⟩
    · skip
      replace c43 : r44 = (-1) := c43
      exact hQ false s43 hI40 fr42
    · skip
      replace c43 : ¬ (r44 = (-1)) := c43
      exact hQ true s43 hI40 fr42
  · replace c1 : a1 = 32 := c1
    refine sm_71 hI (show (-2147483648 : Int) ≤ a2 ∧ a2 ≤ (2147483647 : Int) from by omega) (fun z47 s46 hI45 fr44 => ?_)
    have fr47 : lf_fq [1, 2, 3, 4, 5, 6, 7, 8, 9, 10, 11, 12, 13, 15, 16, 17, 18, 19, 20, 21, 22, 23, 24, 63, 64, 65, 66] 1000000 true s.1 s.2.2 s46.1 s46.2.2 := lf_fq_tr (lf_fq_rf) (lf_fq_wk fr44 rfl (by decide) (by decide))
    exact hQ z47 s46 hI45 fr47
-- fm_103 ElevenBullocks.played 0 i
theorem sm_103_p15 {X15 : Int → lf_Z → Prop} {Q : Int → lf_Z → Prop} {u2 : Nat} {x3 : Int} {s : lf_Z} (hQ : ∀ (r : Int) (s' : lf_Z), iv_A s'.1 s'.2.2 → lf_fq [1, 2, 3, 4, 5, 6, 7, 8, 9, 10, 11, 12, 13, 15, 16, 17, 18, 19, 20, 21, 22, 23, 24, 63, 64, 65, 66] 1000000 true s.1 s.2.2 s'.1 s'.2.2 → ((-2) ≤ r ∧ r ≤ 23) → Q r s') {M15 : Nat} (hX15 : ∀ (x3 : Int) (s' : lf_Z), iv_A s'.1 s'.2.2 → lf_fq [1, 2, 3, 4, 5, 6, 7, 8, 9, 10, 11, 12, 13, 15, 16, 17, 18, 19, 20, 21, 22, 23, 24, 63, 64, 65, 66] 1000000 true s.1 s.2.2 s'.1 s'.2.2 → 0 ≤ x3 ∧ x3 ≤ 24 → (24 - x3).toNat < M15 → X15 x3 s') (hM15 : (24 - x3).toNat ≤ M15) (hI : iv_A s.1 s.2.2) (bx3 : 0 ≤ x3 ∧ x3 ≤ 24) (htu2 : u2 < 4) : fm_103_p15 Q u2 X15 x3 s := by
  unfold fm_103_p15
  have b2 : 0 ≤ s.1 (35 + 7 * u2) 7 ∧ s.1 (35 + 7 * u2) 7 ≤ 24 := iv_rT_7 hI htu2
  refine ⟨(show lf_R x3 from lf_Rof (by omega)), ?_⟩
  refine ⟨(show lf_R (s.1 (35 + 7 * u2) 7) from lf_Rof (by omega)), ?_⟩
  refine ⟨fun c3 => ?_, fun c3 => ?_⟩
  · skip
    replace c3 : s.1 (35 + 7 * u2) 7 ≤ x3 := c3
    exact hQ (-1) s hI (lf_fq_rf) (show (-2 : Int) ≤ (-1) ∧ (-1) ≤ (23 : Int) from by omega)
  · skip
    replace c3 : ¬ (s.1 (35 + 7 * u2) 7 ≤ x3) := c3
    refine ⟨fun c4 => ?_, fun c4 => ?_⟩
    · skip
      replace c4 : 24 ≤ x3 := c4
      exfalso
      omega
    · skip
      replace c4 : ¬ (24 ≤ x3) := c4
      refine ⟨(show (0 : Int) ≤ x3 ∧ x3 < (24 : Int) from by omega), ?_⟩
      have b5 : (-2147483648) ≤ s.1 (39 + 7 * u2) x3 ∧ s.1 (39 + 7 * u2) x3 ≤ 2147483647 := iv_full hI
      have b6 : (-2147483648) ≤ s.1 (40 + 7 * u2) x3 ∧ s.1 (40 + 7 * u2) x3 ≤ 2147483647 := iv_full hI
      have b7 : (-2147483648) ≤ s.1 (41 + 7 * u2) x3 ∧ s.1 (41 + 7 * u2) x3 ≤ 2147483647 := iv_full hI
      refine sm_104 hI (show (-2147483648 : Int) ≤ s.1 (39 + 7 * u2) x3 ∧ s.1 (39 + 7 * u2) x3 ≤ (2147483647 : Int) from by omega) (show (-2147483648 : Int) ≤ s.1 (40 + 7 * u2) x3 ∧ s.1 (40 + 7 * u2) x3 ≤ (2147483647 : Int) from by omega) (show (-2147483648 : Int) ≤ s.1 (41 + 7 * u2) x3 ∧ s.1 (41 + 7 * u2) x3 ≤ (2147483647 : Int) from by omega) (fun z28 s27 hI9 fr8 => ?_)
      have fr11 : lf_fq [1, 2, 3, 4, 5, 6, 7, 8, 9, 10, 11, 12, 13, 15, 16, 17, 18, 19, 20, 21, 22, 23, 24, 63, 64, 65, 66] 1000000 true s.1 s.2.2 s27.1 s27.2.2 := lf_fq_tr (lf_fq_rf) (lf_fq_wk fr8 rfl (by decide) (by decide))
      refine ⟨fun c12 => ?_, fun c12 => ?_⟩
      · skip
        exact hX15 (x3 + 1) s27 hI9 fr11 (show (0 : Int) ≤ x3 + 1 ∧ x3 + 1 ≤ (24 : Int) from by omega) (show (24 - (x3 + 1)).toNat < M15 from by omega)
      · skip
        exact hQ x3 s27 hI9 fr11 (show (-2 : Int) ≤ x3 ∧ x3 ≤ (23 : Int) from by omega)
theorem sm_103_p15L {Q : Int → lf_Z → Prop} {u2 : Nat} {x3 : Int} {s : lf_Z} (hQ : ∀ (r : Int) (s' : lf_Z), iv_A s'.1 s'.2.2 → lf_fq [1, 2, 3, 4, 5, 6, 7, 8, 9, 10, 11, 12, 13, 15, 16, 17, 18, 19, 20, 21, 22, 23, 24, 63, 64, 65, 66] 1000000 true s.1 s.2.2 s'.1 s'.2.2 → ((-2) ≤ r ∧ r ≤ 23) → Q r s') (hI : iv_A s.1 s.2.2) (bx3 : 0 ≤ x3 ∧ x3 ≤ 24) (htu2 : u2 < 4) : fm_103_p15L Q u2 x3 s := by
  intro X15 hX
  have key : ∀ (m9 : Nat) (x3 : Int) (s' : lf_Z), iv_A s'.1 s'.2.2 → lf_fq [1, 2, 3, 4, 5, 6, 7, 8, 9, 10, 11, 12, 13, 15, 16, 17, 18, 19, 20, 21, 22, 23, 24, 63, 64, 65, 66] 1000000 true s.1 s.2.2 s'.1 s'.2.2 → 0 ≤ x3 ∧ x3 ≤ 24 → (24 - x3).toNat < m9 → X15 x3 s' := by
    intro m9
    induction m9 with
    | zero => intro x3 s' _ _ bx3 h9; exact absurd h9 (Nat.not_lt_zero _)
    | succ m9 ih => intro x3 s' i7 f7 bx3 h9; exact hX _ _ (sm_103_p15 (fun r9 t9 i9 f9 => hQ r9 t9 i9 (lf_fq_tr f7 f9))   (fun x3' t8 i8 f8 bx3' h8 => ih x3' t8 i8 (lf_fq_tr f7 f8) bx3' (by omega)) (Nat.le_refl _)  i7  bx3 htu2 )
  exact key _ _ s hI lf_fq_rf bx3 (Nat.lt_succ_self _)
theorem sm_103 {a1 : Int} {Q : Int → lf_Z → Prop} {s : lf_Z} (hI : iv_A s.1 s.2.2) (ba1 : (-2147483648) ≤ a1 ∧ a1 ≤ 2147483647) (hQ : ∀ (r : Int) (s' : lf_Z), iv_A s'.1 s'.2.2 → lf_fq [1, 2, 3, 4, 5, 6, 7, 8, 9, 10, 11, 12, 13, 15, 16, 17, 18, 19, 20, 21, 22, 23, 24, 63, 64, 65, 66] 1000000 true s.1 s.2.2 s'.1 s'.2.2 → ((-2) ≤ r ∧ r ≤ 23) → Q r s') : fm_103 a1 Q s := by
  unfold fm_103
  refine sm_62 hI (show (-2147483648 : Int) ≤ a1 ∧ a1 ≤ (2147483647 : Int) from by omega) (fun r23 q1 => ?_)
  refine ⟨fun et22 => ?_, fun t22 et22 => ?_⟩
  · skip
    exact hQ (-2) s hI (lf_fq_rf) (show (-2 : Int) ≤ (-2) ∧ (-2) ≤ (23 : Int) from by omega)
  · have htt22 : t22 < 4 := q1 t22 et22
    refine ⟨htt22, ?_⟩
    exact sm_103_p15L hQ hI (show (0 : Int) ≤ 0 ∧ 0 ≤ (24 : Int) from by omega) htt22
-- fm_281 Model.isPlayed 95 i
theorem sm_281 {a1 : Int} {Q : Bool → lf_Z → Prop} {s : lf_Z} (hI : iv_A s.1 s.2.2) (ba1 : 1 ≤ a1 ∧ a1 ≤ 2208) (hQ : ∀ (z : Bool) (s' : lf_Z), iv_A s'.1 s'.2.2 → lf_fq [96, 104, 107, 108, 1002, 1004, 1005, 1006] 0 true s.1 s.2.2 s'.1 s'.2.2 → Q z s') : fm_281 a1 Q s := by
  unfold fm_281
  refine ⟨(show (0 : Int) ≤ a1 + 1 ∧ a1 + 1 < (2820 : Int) from by omega), ?_⟩
  have b1 : (-2147483648) ≤ s.1 98 (a1 + 1) ∧ s.1 98 (a1 + 1) ≤ 2147483647 := iv_full hI
  refine ⟨(show (0 : Int) ≤ a1 + 2 ∧ a1 + 2 < (2820 : Int) from by omega), ?_⟩
  have b2 : (-2147483648) ≤ s.1 98 (a1 + 2) ∧ s.1 98 (a1 + 2) ≤ 2147483647 := iv_full hI
  refine ⟨(show (0 : Int) ≤ a1 ∧ a1 < (2820 : Int) from by omega), ?_⟩
  have b3 : (-2147483648) ≤ s.1 98 a1 ∧ s.1 98 a1 ≤ 2147483647 := iv_full hI
  refine ⟨(show lf_R (s.1 98 a1) from lf_Rof (by omega)), ?_⟩
  refine ⟨fun c4 => ?_, fun c4 => ?_, fun c4 => ?_, fun c4 => ?_, fun c4 => ?_, fun c4 => ?_, fun c4 => ?_, fun c4 => ?_, fun c4 => ?_, fun c4 => ?_, fun c4 => ?_⟩
  · replace c4 : s.1 98 a1 < 3 ∨ 12 < s.1 98 a1 := c4
    exact hQ true s hI (lf_fq_rf)
  · replace c4 : s.1 98 a1 = 3 := c4
    refine sm_182 hI (show (-2147483648 : Int) ≤ s.1 98 (a1 + 1) ∧ s.1 98 (a1 + 1) ≤ (2147483647 : Int) from by omega) (show (-2147483648 : Int) ≤ s.1 98 (a1 + 2) ∧ s.1 98 (a1 + 2) ≤ (2147483647 : Int) from by omega) (fun r26 s25 hI6 fr5 q7 => ?_)
    have fr8 : lf_fq [96, 104, 107, 108, 1002, 1004, 1005, 1006] 0 true s.1 s.2.2 s25.1 s25.2.2 := lf_fq_tr (lf_fq_rf) (lf_fq_wk fr5 rfl (by decide) (by decide))
    refine ⟨(show lf_R r26 from lf_Rof (by omega)), ?_⟩
    refine ⟨fun c9 => ?_, fun c9 => ?_⟩
    · skip
      replace c9 : r26 < 0 := c9
      exact hQ false s25 hI6 fr8
    · skip
      replace c9 : ¬ (r26 < 0) := c9
      exact hQ true s25 hI6 fr8
  · replace c4 : s.1 98 a1 = 4 := c4
    refine sm_184 hI (show (-2147483648 : Int) ≤ s.1 98 (a1 + 1) ∧ s.1 98 (a1 + 1) ≤ (2147483647 : Int) from by omega) (show (-2147483648 : Int) ≤ s.1 98 (a1 + 2) ∧ s.1 98 (a1 + 2) ≤ (2147483647 : Int) from by omega) (show (0 : Int) ≤ 0 ∧ 0 ≤ (1 : Int) from by omega) (fun r29 s28 hI11 fr10 q12 => ?_)
    have fr13 : lf_fq [96, 104, 107, 108, 1002, 1004, 1005, 1006] 0 true s.1 s.2.2 s28.1 s28.2.2 := lf_fq_tr (lf_fq_rf) (lf_fq_wk fr10 rfl (by decide) (by decide))
    refine ⟨(show lf_R r29 from lf_Rof (by omega)), ?_⟩
    refine ⟨fun c14 => ?_, fun c14 => ?_⟩
    · skip
      replace c14 : r29 < 0 := c14
      exact hQ false s28 hI11 fr13
    · skip
      replace c14 : ¬ (r29 < 0) := c14
      exact hQ true s28 hI11 fr13
  · replace c4 : s.1 98 a1 = 5 := c4
    refine sm_184 hI (show (-2147483648 : Int) ≤ s.1 98 (a1 + 1) ∧ s.1 98 (a1 + 1) ≤ (2147483647 : Int) from by omega) (show (-2147483648 : Int) ≤ s.1 98 (a1 + 2) ∧ s.1 98 (a1 + 2) ≤ (2147483647 : Int) from by omega) (show (0 : Int) ≤ 1 ∧ 1 ≤ (1 : Int) from by omega) (fun r32 s31 hI16 fr15 q17 => ?_)
    have fr18 : lf_fq [96, 104, 107, 108, 1002, 1004, 1005, 1006] 0 true s.1 s.2.2 s31.1 s31.2.2 := lf_fq_tr (lf_fq_rf) (lf_fq_wk fr15 rfl (by decide) (by decide))
    refine ⟨(show lf_R r32 from lf_Rof (by omega)), ?_⟩
    refine ⟨fun c19 => ?_, fun c19 => ?_⟩
    · skip
      replace c19 : r32 < 0 := c19
      exact hQ false s31 hI16 fr18
    · skip
      replace c19 : ¬ (r32 < 0) := c19
      exact hQ true s31 hI16 fr18
  · replace c4 : s.1 98 a1 = 6 := c4
    refine sm_190 hI (show (-2147483648 : Int) ≤ s.1 98 (a1 + 1) ∧ s.1 98 (a1 + 1) ≤ (2147483647 : Int) from by omega) (show (0 : Int) ≤ 0 ∧ 0 ≤ (1 : Int) from by omega) (show (0 : Int) ≤ 0 ∧ 0 ≤ (1 : Int) from by omega) (show (-2147483648 : Int) ≤ s.1 98 (a1 + 2) ∧ s.1 98 (a1 + 2) ≤ (2147483647 : Int) from by omega) (fun r35 s34 hI21 fr20 q22 => ?_)
    have fr23 : lf_fq [96, 104, 107, 108, 1002, 1004, 1005, 1006] 0 true s.1 s.2.2 s34.1 s34.2.2 := lf_fq_tr (lf_fq_rf) (lf_fq_wk fr20 rfl (by decide) (by decide))
    refine ⟨(show lf_R r35 from lf_Rof (by omega)), ?_⟩
    refine ⟨fun c24 => ?_, fun c24 => ?_⟩
    · skip
      replace c24 : r35 < 0 := c24
      exact hQ false s34 hI21 fr23
    · skip
      replace c24 : ¬ (r35 < 0) := c24
      exact hQ true s34 hI21 fr23
  · replace c4 : s.1 98 a1 = 7 := c4
    refine sm_240 hI (show (-2147483648 : Int) ≤ s.1 98 (a1 + 1) ∧ s.1 98 (a1 + 1) ≤ (2147483647 : Int) from by omega) (show (-2147483648 : Int) ≤ s.1 98 (a1 + 2) ∧ s.1 98 (a1 + 2) ≤ (2147483647 : Int) from by omega) (fun r38 s37 hI26 fr25 q27 => ?_)
    have fr28 : lf_fq [96, 104, 107, 108, 1002, 1004, 1005, 1006] 0 true s.1 s.2.2 s37.1 s37.2.2 := lf_fq_tr (lf_fq_rf) (lf_fq_wk fr25 rfl (by decide) (by decide))
    refine ⟨(show lf_R r38 from lf_Rof (by omega)), ?_⟩
    refine ⟨fun c29 => ?_, fun c29 => ?_⟩
    · skip
      replace c29 : r38 < 0 := c29
      exact hQ false s37 hI26 fr28
    · skip
      replace c29 : ¬ (r38 < 0) := c29
      exact hQ true s37 hI26 fr28
  · replace c4 : s.1 98 a1 = 8 := c4
    refine sm_248 hI (show (-2147483648 : Int) ≤ s.1 98 (a1 + 1) ∧ s.1 98 (a1 + 1) ≤ (2147483647 : Int) from by omega) (show (-2147483648 : Int) ≤ s.1 98 (a1 + 2) ∧ s.1 98 (a1 + 2) ≤ (2147483647 : Int) from by omega) (fun z41 s40 hI31 fr30 => ?_)
    have fr33 : lf_fq [96, 104, 107, 108, 1002, 1004, 1005, 1006] 0 true s.1 s.2.2 s40.1 s40.2.2 := lf_fq_tr (lf_fq_rf) (lf_fq_wk fr30 rfl (by decide) (by decide))
    exact hQ z41 s40 hI31 fr33
  · replace c4 : s.1 98 a1 = 9 := c4
    refine sm_250 hI (show (-2147483648 : Int) ≤ s.1 98 (a1 + 1) ∧ s.1 98 (a1 + 1) ≤ (2147483647 : Int) from by omega) (show (0 : Int) ≤ 0 ∧ 0 ≤ (1 : Int) from by omega) (fun z43 s42 hI35 fr34 => ?_)
    have fr37 : lf_fq [96, 104, 107, 108, 1002, 1004, 1005, 1006] 0 true s.1 s.2.2 s42.1 s42.2.2 := lf_fq_tr (lf_fq_rf) (lf_fq_wk fr34 rfl (by decide) (by decide))
    exact hQ z43 s42 hI35 fr37
  · replace c4 : s.1 98 a1 = 10 := c4
    refine sm_250 hI (show (-2147483648 : Int) ≤ s.1 98 (a1 + 1) ∧ s.1 98 (a1 + 1) ≤ (2147483647 : Int) from by omega) (show (0 : Int) ≤ 1 ∧ 1 ≤ (1 : Int) from by omega) (fun z45 s44 hI39 fr38 => ?_)
    have fr41 : lf_fq [96, 104, 107, 108, 1002, 1004, 1005, 1006] 0 true s.1 s.2.2 s44.1 s44.2.2 := lf_fq_tr (lf_fq_rf) (lf_fq_wk fr38 rfl (by decide) (by decide))
    exact hQ z45 s44 hI39 fr41
  · replace c4 : s.1 98 a1 = 11 := c4
    refine sm_253 hI (show (-2147483648 : Int) ≤ s.1 98 (a1 + 1) ∧ s.1 98 (a1 + 1) ≤ (2147483647 : Int) from by omega) (show (-2147483648 : Int) ≤ s.1 98 (a1 + 2) ∧ s.1 98 (a1 + 2) ≤ (2147483647 : Int) from by omega) (fun r47 s46 hI43 fr42 q44 => ?_)
    have fr45 : lf_fq [96, 104, 107, 108, 1002, 1004, 1005, 1006] 0 true s.1 s.2.2 s46.1 s46.2.2 := lf_fq_tr (lf_fq_rf) (lf_fq_wk fr42 rfl (by decide) (by decide))
    refine ⟨(show lf_R r47 from lf_Rof (by omega)), ?_⟩
    refine ⟨fun c46 => ?_, fun c46 => ?_⟩
    · skip
      replace c46 : r47 < 0 := c46
      exact hQ false s46 hI43 fr45
    · skip
      replace c46 : ¬ (r47 < 0) := c46
      exact hQ true s46 hI43 fr45
  · replace c4 : s.1 98 a1 = 12 := c4
    refine sm_258 hI (show (-2147483648 : Int) ≤ s.1 98 (a1 + 1) ∧ s.1 98 (a1 + 1) ≤ (2147483647 : Int) from by omega) (fun z50 s49 hI48 fr47 => ?_)
    have fr50 : lf_fq [96, 104, 107, 108, 1002, 1004, 1005, 1006] 0 true s.1 s.2.2 s49.1 s49.2.2 := lf_fq_tr (lf_fq_rf) (lf_fq_wk fr47 rfl (by decide) (by decide))
    exact hQ z50 s49 hI48 fr50
