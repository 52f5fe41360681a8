-- fm_161 ElevenBullocks.cheapest 0
theorem sm_161_p36 {X10 : Int → Int → Int → lf_Z → Prop} {Q : Int → lf_Z → Prop} {x1 : Int} {x2 : Int} {x3 : Int} {s : lf_Z} (hQ : ∀ (r : Int) (s' : lf_Z), iv_A s'.1 s'.2.2 → lf_fq [63, 64, 65, 66] 1000000 true s.1 s.2.2 s'.1 s'.2.2 → ((-1) ≤ r ∧ r ≤ 3) → Q r s') {M10 : Nat} (hX10 : ∀ (x1 : Int) (x2 : Int) (x3 : Int) (s' : lf_Z), iv_A s'.1 s'.2.2 → lf_fq [63, 64, 65, 66] 1000000 true s.1 s.2.2 s'.1 s'.2.2 → (-1) ≤ x1 ∧ x1 ≤ 3 → (-2147483648) ≤ x2 ∧ x2 ≤ 2147483647 → 0 ≤ x3 ∧ x3 ≤ 4 → (4 - x3).toNat < M10 → X10 x1 x2 x3 s') (hM10 : (4 - x3).toNat ≤ M10) (hI : iv_A s.1 s.2.2) (bx1 : (-1) ≤ x1 ∧ x1 ≤ 3) (bx2 : (-2147483648) ≤ x2 ∧ x2 ≤ 2147483647) (bx3 : 0 ≤ x3 ∧ x3 ≤ 3) : fm_161_p36 X10 Q x1 x2 x3 s := by
  unfold fm_161_p36
  exact hX10 (x1) (x2) (x3 + 1) s hI (lf_fq_rf) (show (-1 : Int) ≤ x1 ∧ x1 ≤ (3 : Int) from by omega) (show (-2147483648 : Int) ≤ x2 ∧ x2 ≤ (2147483647 : Int) from by omega) (show (0 : Int) ≤ x3 + 1 ∧ x3 + 1 ≤ (4 : Int) from by omega) (show (4 - (x3 + 1)).toNat < M10 from by omega)
theorem sm_161_p10 {X10 : Int → Int → Int → lf_Z → Prop} {Q : Int → lf_Z → Prop} {x1 : Int} {x2 : Int} {x3 : Int} {s : lf_Z} (hQ : ∀ (r : Int) (s' : lf_Z), iv_A s'.1 s'.2.2 → lf_fq [63, 64, 65, 66] 1000000 true s.1 s.2.2 s'.1 s'.2.2 → ((-1) ≤ r ∧ r ≤ 3) → Q r s') {M10 : Nat} (hX10 : ∀ (x1 : Int) (x2 : Int) (x3 : Int) (s' : lf_Z), iv_A s'.1 s'.2.2 → lf_fq [63, 64, 65, 66] 1000000 true s.1 s.2.2 s'.1 s'.2.2 → (-1) ≤ x1 ∧ x1 ≤ 3 → (-2147483648) ≤ x2 ∧ x2 ≤ 2147483647 → 0 ≤ x3 ∧ x3 ≤ 4 → (4 - x3).toNat < M10 → X10 x1 x2 x3 s') (hM10 : (4 - x3).toNat ≤ M10) (hI : iv_A s.1 s.2.2) (bx1 : (-1) ≤ x1 ∧ x1 ≤ 3) (bx2 : (-2147483648) ≤ x2 ∧ x2 ≤ 2147483647) (bx3 : 0 ≤ x3 ∧ x3 ≤ 4) : fm_161_p10 Q X10 x1 x2 x3 s := by
  unfold fm_161_p10
  have b5 : 0 ≤ s.1 0 11 ∧ s.1 0 11 ≤ 4 := iv_r0_11 hI
  refine ⟨(show lf_R x3 from lf_Rof (by omega)), ?_⟩
  refine ⟨(show lf_R (s.1 0 11) from lf_Rof (by omega)), ?_⟩
  refine ⟨fun c6 => ?_, fun c6 => ?_⟩
  · skip
    replace c6 : s.1 0 11 ≤ x3 := c6
    exact hQ x1 s hI (lf_fq_rf) (show (-1 : Int) ≤ x1 ∧ x1 ≤ (3 : Int) from by omega)
  · skip
    replace c6 : ¬ (s.1 0 11 ≤ x3) := c6
    refine sm_162 hI (show (-1 : Int) ≤ x3 ∧ x3 ≤ (3 : Int) from by omega) (fun r26 s25 hI8 fr7 q9 => ?_)
    have fr10 : lf_fq [63, 64, 65, 66] 1000000 true s.1 s.2.2 s25.1 s25.2.2 := lf_fq_tr (lf_fq_rf) (lf_fq_wk fr7 rfl (by decide) (by decide))
    refine ⟨(show lf_R r26 from lf_Rof (by omega)), ?_⟩
    refine ⟨(show lf_R x2 from lf_Rof (by omega)), ?_⟩
    refine ⟨fun c11 => ?_, fun c11 => ?_⟩
    · skip
      replace c11 : x2 ≤ r26 := c11
      exact sm_161_p36 (fun r9 t9 i9 f9 => hQ r9 t9 i9 (lf_fq_tr fr10 f9)) (fun p0 p1 p2 t9 i9 f9 => hX10 p0 p1 p2 t9 i9 (lf_fq_tr fr10 f9)) (show (4 - x3).toNat ≤ M10 from by omega) hI8 (show (-1 : Int) ≤ x1 ∧ x1 ≤ (3 : Int) from by omega) (show (-2147483648 : Int) ≤ x2 ∧ x2 ≤ (2147483647 : Int) from by omega) (show (0 : Int) ≤ x3 ∧ x3 ≤ (3 : Int) from by omega)
    · skip
      replace c11 : ¬ (x2 ≤ r26) := c11
      exact sm_161_p36 (fun r9 t9 i9 f9 => hQ r9 t9 i9 (lf_fq_tr fr10 f9)) (fun p0 p1 p2 t9 i9 f9 => hX10 p0 p1 p2 t9 i9 (lf_fq_tr fr10 f9)) (show (4 - x3).toNat ≤ M10 from by omega) hI8 (show (-1 : Int) ≤ x3 ∧ x3 ≤ (3 : Int) from by omega) (show (-2147483648 : Int) ≤ r26 ∧ r26 ≤ (2147483647 : Int) from by omega) (show (0 : Int) ≤ x3 ∧ x3 ≤ (3 : Int) from by omega)
theorem sm_161_p10L {Q : Int → lf_Z → Prop} {x1 : Int} {x2 : Int} {x3 : Int} {s : lf_Z} (hQ : ∀ (r : Int) (s' : lf_Z), iv_A s'.1 s'.2.2 → lf_fq [63, 64, 65, 66] 1000000 true s.1 s.2.2 s'.1 s'.2.2 → ((-1) ≤ r ∧ r ≤ 3) → Q r s') (hI : iv_A s.1 s.2.2) (bx1 : (-1) ≤ x1 ∧ x1 ≤ 3) (bx2 : (-2147483648) ≤ x2 ∧ x2 ≤ 2147483647) (bx3 : 0 ≤ x3 ∧ x3 ≤ 4) : fm_161_p10L Q x1 x2 x3 s := by
  intro X10 hX
  have key : ∀ (m9 : Nat) (x1 : Int) (x2 : Int) (x3 : Int) (s' : lf_Z), iv_A s'.1 s'.2.2 → lf_fq [63, 64, 65, 66] 1000000 true s.1 s.2.2 s'.1 s'.2.2 → (-1) ≤ x1 ∧ x1 ≤ 3 → (-2147483648) ≤ x2 ∧ x2 ≤ 2147483647 → 0 ≤ x3 ∧ x3 ≤ 4 → (4 - x3).toNat < m9 → X10 x1 x2 x3 s' := by
    intro m9
    induction m9 with
    | zero => intro x1 x2 x3 s' _ _ bx1 bx2 bx3 h9; exact absurd h9 (Nat.not_lt_zero _)
    | succ m9 ih => intro x1 x2 x3 s' i7 f7 bx1 bx2 bx3 h9; exact hX _ _ _ _ (sm_161_p10 (fun r9 t9 i9 f9 => hQ r9 t9 i9 (lf_fq_tr f7 f9))   (fun x1' x2' x3' t8 i8 f8 bx1' bx2' bx3' h8 => ih x1' x2' x3' t8 i8 (lf_fq_tr f7 f8) bx1' bx2' bx3' (by omega)) (Nat.le_refl _)  i7  bx1 bx2 bx3  )
  exact key _ _ _ _ s hI lf_fq_rf bx1 bx2 bx3 (Nat.lt_succ_self _)
theorem sm_161 {Q : Int → lf_Z → Prop} {s : lf_Z} (hI : iv_A s.1 s.2.2) (hQ : ∀ (r : Int) (s' : lf_Z), iv_A s'.1 s'.2.2 → lf_fq [63, 64, 65, 66] 1000000 true s.1 s.2.2 s'.1 s'.2.2 → ((-1) ≤ r ∧ r ≤ 3) → Q r s') : fm_161 Q s := by
  unfold fm_161
  refine sm_162 hI (show (-1 : Int) ≤ (-1) ∧ (-1) ≤ (3 : Int) from by omega) (fun r22 s21 hI2 fr1 q3 => ?_)
  have fr4 : lf_fq [63, 64, 65, 66] 1000000 true s.1 s.2.2 s21.1 s21.2.2 := lf_fq_tr (lf_fq_rf) (lf_fq_wk fr1 rfl (by decide) (by decide))
  exact sm_161_p10L (fun r9 t9 i9 f9 => hQ r9 t9 i9 (lf_fq_tr fr4 f9)) hI2 (show (-1 : Int) ≤ (-1) ∧ (-1) ≤ (3 : Int) from by omega) (show (-2147483648 : Int) ≤ r22 ∧ r22 ≤ (2147483647 : Int) from by omega) (show (0 : Int) ≤ 0 ∧ 0 ≤ (4 : Int) from by omega)
-- fm_317 Model.costBy 95 i
theorem sm_317_p34 {X4 : Int → Int → lf_Z → Prop} {Q : Int → lf_Z → Prop} {x1 : Int} {x3 : Int} {y0 : Int} {y1 : Int} {s : lf_Z} (hQ : ∀ (r : Int) (s' : lf_Z), iv_A s'.1 s'.2.2 → lf_fq [104, 107] 1000000 true s.1 s.2.2 s'.1 s'.2.2 → ((-2147483648) ≤ r ∧ r ≤ 2147483647) → Q r s') {M4 : Nat} (hX4 : ∀ (x2 : Int) (x3 : Int) (s' : lf_Z), iv_A s'.1 s'.2.2 → lf_fq [104, 107] 1000000 true s.1 s.2.2 s'.1 s'.2.2 → (-2147483648) ≤ x2 ∧ x2 ≤ 2147483647 → 0 ≤ x3 ∧ x3 ≤ 12 → (12 - x3).toNat < M4 → X4 x2 x3 s') (hM4 : (12 - x3).toNat ≤ M4) (hI : iv_A s.1 s.2.2) (bx1 : (-1) ≤ x1 ∧ x1 ≤ 3) (bx3 : 0 ≤ x3 ∧ x3 ≤ 11) (by0 : (-2147483648) ≤ y0 ∧ y0 ≤ 2147483647) (by1 : (-2147483648) ≤ y1 ∧ y1 ≤ 2147483647) : fm_317_p34 X4 Q x1 x3 y0 y1 s := by
  unfold fm_317_p34
  have b5 : (-2147483648) ≤ lf_w (y0 + y1) ∧ lf_w (y0 + y1) ≤ 2147483647 := lf_wB
  exact hX4 (lf_w (y0 + y1)) (x3 + 1) s hI (lf_fq_rf) (show (-2147483648 : Int) ≤ lf_w (y0 + y1) ∧ lf_w (y0 + y1) ≤ (2147483647 : Int) from by omega) (show (0 : Int) ≤ x3 + 1 ∧ x3 + 1 ≤ (12 : Int) from by omega) (show (12 - (x3 + 1)).toNat < M4 from by omega)
theorem sm_317_p4 {X4 : Int → Int → lf_Z → Prop} {Q : Int → lf_Z → Prop} {x1 : Int} {x2 : Int} {x3 : Int} {s : lf_Z} (hQ : ∀ (r : Int) (s' : lf_Z), iv_A s'.1 s'.2.2 → lf_fq [104, 107] 1000000 true s.1 s.2.2 s'.1 s'.2.2 → ((-2147483648) ≤ r ∧ r ≤ 2147483647) → Q r s') {M4 : Nat} (hX4 : ∀ (x2 : Int) (x3 : Int) (s' : lf_Z), iv_A s'.1 s'.2.2 → lf_fq [104, 107] 1000000 true s.1 s.2.2 s'.1 s'.2.2 → (-2147483648) ≤ x2 ∧ x2 ≤ 2147483647 → 0 ≤ x3 ∧ x3 ≤ 12 → (12 - x3).toNat < M4 → X4 x2 x3 s') (hM4 : (12 - x3).toNat ≤ M4) (hI : iv_A s.1 s.2.2) (bx1 : (-1) ≤ x1 ∧ x1 ≤ 3) (bx2 : (-2147483648) ≤ x2 ∧ x2 ≤ 2147483647) (bx3 : 0 ≤ x3 ∧ x3 ≤ 12) : fm_317_p4 Q x1 X4 x2 x3 s := by
  unfold fm_317_p4
  have b1 : 0 ≤ s.1 96 0 ∧ s.1 96 0 ≤ 12 := iv_rd96 hI (iv_f3e1fa21c (by omega))
  refine ⟨(show lf_R x3 from lf_Rof (by omega)), ?_⟩
  refine ⟨(show lf_R (s.1 96 0) from lf_Rof (by omega)), ?_⟩
  refine ⟨fun c2 => ?_, fun c2 => ?_⟩
  · skip
    replace c2 : s.1 96 0 ≤ x3 := c2
    exact hQ x2 s hI (lf_fq_rf) (show (-2147483648 : Int) ≤ x2 ∧ x2 ≤ (2147483647 : Int) from by omega)
  · skip
    replace c2 : ¬ (s.1 96 0 ≤ x3) := c2
    refine sm_265 hI (show (0 : Int) ≤ x3 ∧ x3 ≤ (11 : Int) from by omega) (fun r24 q3 => ?_)
    refine ⟨(show lf_R r24 from lf_Rof (by omega)), ?_⟩
    refine ⟨fun c4 => ?_, fun c4 => ?_⟩
    · skip
      replace c4 : r24 ≠ 1 := c4
      exact sm_317_p34 hQ hX4 (show (12 - x3).toNat ≤ M4 from by omega) hI (show (-1 : Int) ≤ x1 ∧ x1 ≤ (3 : Int) from by omega) (show (0 : Int) ≤ x3 ∧ x3 ≤ (11 : Int) from by omega) (show (-2147483648 : Int) ≤ x2 ∧ x2 ≤ (2147483647 : Int) from by omega) (show (-2147483648 : Int) ≤ 0 ∧ 0 ≤ (2147483647 : Int) from by omega)
    · skip
      replace c4 : ¬ (r24 ≠ 1) := c4
      refine sm_315 hI (show (0 : Int) ≤ x3 ∧ x3 ≤ (11 : Int) from by omega) (show (-1 : Int) ≤ x1 ∧ x1 ≤ (3 : Int) from by omega) (fun r27 s26 hI7 fr6 q8 => ?_)
      have fr9 : lf_fq [104, 107] 1000000 true s.1 s.2.2 s26.1 s26.2.2 := lf_fq_tr (lf_fq_rf) (lf_fq_wk fr6 rfl (by decide) (by decide))
      exact sm_317_p34 (fun r9 t9 i9 f9 => hQ r9 t9 i9 (lf_fq_tr fr9 f9)) (fun p0 p1 t9 i9 f9 => hX4 p0 p1 t9 i9 (lf_fq_tr fr9 f9)) (show (12 - x3).toNat ≤ M4 from by omega) hI7 (show (-1 : Int) ≤ x1 ∧ x1 ≤ (3 : Int) from by omega) (show (0 : Int) ≤ x3 ∧ x3 ≤ (11 : Int) from by omega) (show (-2147483648 : Int) ≤ x2 ∧ x2 ≤ (2147483647 : Int) from by omega) (show (-2147483648 : Int) ≤ r27 ∧ r27 ≤ (2147483647 : Int) from by omega)
theorem sm_317_p4L {Q : Int → lf_Z → Prop} {x1 : Int} {x2 : Int} {x3 : Int} {s : lf_Z} (hQ : ∀ (r : Int) (s' : lf_Z), iv_A s'.1 s'.2.2 → lf_fq [104, 107] 1000000 true s.1 s.2.2 s'.1 s'.2.2 → ((-2147483648) ≤ r ∧ r ≤ 2147483647) → Q r s') (hI : iv_A s.1 s.2.2) (bx1 : (-1) ≤ x1 ∧ x1 ≤ 3) (bx2 : (-2147483648) ≤ x2 ∧ x2 ≤ 2147483647) (bx3 : 0 ≤ x3 ∧ x3 ≤ 12) : fm_317_p4L Q x1 x2 x3 s := by
  intro X4 hX
  have key : ∀ (m9 : Nat) (x2 : Int) (x3 : Int) (s' : lf_Z), iv_A s'.1 s'.2.2 → lf_fq [104, 107] 1000000 true s.1 s.2.2 s'.1 s'.2.2 → (-2147483648) ≤ x2 ∧ x2 ≤ 2147483647 → 0 ≤ x3 ∧ x3 ≤ 12 → (12 - x3).toNat < m9 → X4 x2 x3 s' := by
    intro m9
    induction m9 with
    | zero => intro x2 x3 s' _ _ bx2 bx3 h9; exact absurd h9 (Nat.not_lt_zero _)
    | succ m9 ih => intro x2 x3 s' i7 f7 bx2 bx3 h9; exact hX _ _ _ (sm_317_p4 (fun r9 t9 i9 f9 => hQ r9 t9 i9 (lf_fq_tr f7 f9))   (fun x2' x3' t8 i8 f8 bx2' bx3' h8 => ih x2' x3' t8 i8 (lf_fq_tr f7 f8) bx2' bx3' (by omega)) (Nat.le_refl _)  i7  bx1 bx2 bx3  )
  exact key _ _ _ s hI lf_fq_rf bx2 bx3 (Nat.lt_succ_self _)
theorem sm_317 {a1 : Int} {Q : Int → lf_Z → Prop} {s : lf_Z} (hI : iv_A s.1 s.2.2) (ba1 : (-1) ≤ a1 ∧ a1 ≤ 3) (hQ : ∀ (r : Int) (s' : lf_Z), iv_A s'.1 s'.2.2 → lf_fq [104, 107] 1000000 true s.1 s.2.2 s'.1 s'.2.2 → ((-2147483648) ≤ r ∧ r ≤ 2147483647) → Q r s') : fm_317 a1 Q s := by
  unfold fm_317
  exact sm_317_p4L hQ hI (show (-1 : Int) ≤ a1 ∧ a1 ≤ (3 : Int) from by omega) (show (-2147483648 : Int) ≤ 0 ∧ 0 ≤ (2147483647 : Int) from by omega) (show (0 : Int) ≤ 0 ∧ 0 ≤ (12 : Int) from by omega)
-- fm_316 Model.cheapest 95
theorem sm_316_p30 {X4 : Int → Int → lf_Z → Prop} {Q : Int → lf_Z → Prop} {x1 : Int} {x2 : Int} {s : lf_Z} (hQ : ∀ (r : Int) (s' : lf_Z), iv_A s'.1 s'.2.2 → lf_fq [104, 107] 1000000 true s.1 s.2.2 s'.1 s'.2.2 → ((-1) ≤ r ∧ r ≤ 3) → Q r s') {M4 : Nat} (hX4 : ∀ (x1 : Int) (x2 : Int) (s' : lf_Z), iv_A s'.1 s'.2.2 → lf_fq [104, 107] 1000000 true s.1 s.2.2 s'.1 s'.2.2 → (-1) ≤ x1 ∧ x1 ≤ 3 → 0 ≤ x2 ∧ x2 ≤ 4 → (4 - x2).toNat < M4 → X4 x1 x2 s') (hM4 : (4 - x2).toNat ≤ M4) (hI : iv_A s.1 s.2.2) (bx1 : (-1) ≤ x1 ∧ x1 ≤ 3) (bx2 : 0 ≤ x2 ∧ x2 ≤ 3) : fm_316_p30 X4 Q x1 x2 s := by
  unfold fm_316_p30
  exact hX4 (x1) (x2 + 1) s hI (lf_fq_rf) (show (-1 : Int) ≤ x1 ∧ x1 ≤ (3 : Int) from by omega) (show (0 : Int) ≤ x2 + 1 ∧ x2 + 1 ≤ (4 : Int) from by omega) (show (4 - (x2 + 1)).toNat < M4 from by omega)
theorem sm_316_p4 {X4 : Int → Int → lf_Z → Prop} {Q : Int → lf_Z → Prop} {x1 : Int} {x2 : Int} {s : lf_Z} (hQ : ∀ (r : Int) (s' : lf_Z), iv_A s'.1 s'.2.2 → lf_fq [104, 107] 1000000 true s.1 s.2.2 s'.1 s'.2.2 → ((-1) ≤ r ∧ r ≤ 3) → Q r s') {M4 : Nat} (hX4 : ∀ (x1 : Int) (x2 : Int) (s' : lf_Z), iv_A s'.1 s'.2.2 → lf_fq [104, 107] 1000000 true s.1 s.2.2 s'.1 s'.2.2 → (-1) ≤ x1 ∧ x1 ≤ 3 → 0 ≤ x2 ∧ x2 ≤ 4 → (4 - x2).toNat < M4 → X4 x1 x2 s') (hM4 : (4 - x2).toNat ≤ M4) (hI : iv_A s.1 s.2.2) (bx1 : (-1) ≤ x1 ∧ x1 ≤ 3) (bx2 : 0 ≤ x2 ∧ x2 ≤ 4) : fm_316_p4 Q X4 x1 x2 s := by
  unfold fm_316_p4
  have b1 : 0 ≤ s.1 96 7 ∧ s.1 96 7 ≤ 4 := iv_rd96 hI (iv_ffb272d5f (by omega))
  refine ⟨(show lf_R x2 from lf_Rof (by omega)), ?_⟩
  refine ⟨(show lf_R (s.1 96 7) from lf_Rof (by omega)), ?_⟩
  refine ⟨fun c2 => ?_, fun c2 => ?_⟩
  · skip
    replace c2 : s.1 96 7 ≤ x2 := c2
    exact hQ x1 s hI (lf_fq_rf) (show (-1 : Int) ≤ x1 ∧ x1 ≤ (3 : Int) from by omega)
  · skip
    replace c2 : ¬ (s.1 96 7 ≤ x2) := c2
    refine sm_317 hI (show (-1 : Int) ≤ x2 ∧ x2 ≤ (3 : Int) from by omega) (fun r24 s23 hI4 fr3 q5 => ?_)
    have fr6 : lf_fq [104, 107] 1000000 true s.1 s.2.2 s23.1 s23.2.2 := lf_fq_tr (lf_fq_rf) (lf_fq_wk fr3 rfl (by decide) (by decide))
    refine sm_317 hI4 (show (-1 : Int) ≤ x1 ∧ x1 ≤ (3 : Int) from by omega) (fun r26 s25 hI8 fr7 q9 => ?_)
    have fr10 : lf_fq [104, 107] 1000000 true s.1 s.2.2 s25.1 s25.2.2 := lf_fq_tr fr6 (lf_fq_wk fr7 rfl (by decide) (by decide))
    refine ⟨(show lf_R r24 from lf_Rof (by omega)), ?_⟩
    refine ⟨(show lf_R r26 from lf_Rof (by omega)), ?_⟩
    refine ⟨fun c11 => ?_, fun c11 => ?_⟩
    · skip
      replace c11 : r26 ≤ r24 := c11
      exact sm_316_p30 (fun r9 t9 i9 f9 => hQ r9 t9 i9 (lf_fq_tr fr10 f9)) (fun p0 p1 t9 i9 f9 => hX4 p0 p1 t9 i9 (lf_fq_tr fr10 f9)) (show (4 - x2).toNat ≤ M4 from by omega) hI8 (show (-1 : Int) ≤ x1 ∧ x1 ≤ (3 : Int) from by omega) (show (0 : Int) ≤ x2 ∧ x2 ≤ (3 : Int) from by omega)
    · skip
      replace c11 : ¬ (r26 ≤ r24) := c11
      exact sm_316_p30 (fun r9 t9 i9 f9 => hQ r9 t9 i9 (lf_fq_tr fr10 f9)) (fun p0 p1 t9 i9 f9 => hX4 p0 p1 t9 i9 (lf_fq_tr fr10 f9)) (show (4 - x2).toNat ≤ M4 from by omega) hI8 (show (-1 : Int) ≤ x2 ∧ x2 ≤ (3 : Int) from by omega) (show (0 : Int) ≤ x2 ∧ x2 ≤ (3 : Int) from by omega)
theorem sm_316_p4L {Q : Int → lf_Z → Prop} {x1 : Int} {x2 : Int} {s : lf_Z} (hQ : ∀ (r : Int) (s' : lf_Z), iv_A s'.1 s'.2.2 → lf_fq [104, 107] 1000000 true s.1 s.2.2 s'.1 s'.2.2 → ((-1) ≤ r ∧ r ≤ 3) → Q r s') (hI : iv_A s.1 s.2.2) (bx1 : (-1) ≤ x1 ∧ x1 ≤ 3) (bx2 : 0 ≤ x2 ∧ x2 ≤ 4) : fm_316_p4L Q x1 x2 s := by
  intro X4 hX
  have key : ∀ (m9 : Nat) (x1 : Int) (x2 : Int) (s' : lf_Z), iv_A s'.1 s'.2.2 → lf_fq [104, 107] 1000000 true s.1 s.2.2 s'.1 s'.2.2 → (-1) ≤ x1 ∧ x1 ≤ 3 → 0 ≤ x2 ∧ x2 ≤ 4 → (4 - x2).toNat < m9 → X4 x1 x2 s' := by
    intro m9
    induction m9 with
    | zero => intro x1 x2 s' _ _ bx1 bx2 h9; exact absurd h9 (Nat.not_lt_zero _)
    | succ m9 ih => intro x1 x2 s' i7 f7 bx1 bx2 h9; exact hX _ _ _ (sm_316_p4 (fun r9 t9 i9 f9 => hQ r9 t9 i9 (lf_fq_tr f7 f9))   (fun x1' x2' t8 i8 f8 bx1' bx2' h8 => ih x1' x2' t8 i8 (lf_fq_tr f7 f8) bx1' bx2' (by omega)) (Nat.le_refl _)  i7  bx1 bx2  )
  exact key _ _ _ s hI lf_fq_rf bx1 bx2 (Nat.lt_succ_self _)
theorem sm_316 {Q : Int → lf_Z → Prop} {s : lf_Z} (hI : iv_A s.1 s.2.2) (hQ : ∀ (r : Int) (s' : lf_Z), iv_A s'.1 s'.2.2 → lf_fq [104, 107] 1000000 true s.1 s.2.2 s'.1 s'.2.2 → ((-1) ≤ r ∧ r ≤ 3) → Q r s') : fm_316 Q s := by
  unfold fm_316
  exact sm_316_p4L hQ hI (show (-1 : Int) ≤ (-1) ∧ (-1) ≤ (3 : Int) from by omega) (show (0 : Int) ≤ 0 ∧ 0 ≤ (4 : Int) from by omega)
-- fm_163 ElevenBullocks.mending 0 i i i i i
theorem sm_163_p72 {Q : Bool → lf_Z → Prop} {x1 : Int} {x2 : Int} {x3 : Int} {x4 : Int} {x5 : Int} {y0 : Int} {s : lf_Z} (hQ : ∀ (z : Bool) (s' : lf_Z), iv_A s'.1 s'.2.2 → lf_fq [28] 1000000 true s.1 s.2.2 s'.1 s'.2.2 → Q z s') (hI : iv_A s.1 s.2.2) (bx1 : (-2147483648) ≤ x1 ∧ x1 ≤ 2147483647) (bx2 : (-2147483648) ≤ x2 ∧ x2 ≤ 2147483647) (bx3 : (-2147483648) ≤ x3 ∧ x3 ≤ 2147483647) (bx4 : (-2147483648) ≤ x4 ∧ x4 ≤ 2147483647) (bx5 : (-2147483648) ≤ x5 ∧ x5 ≤ 2147483647) (by0 : 0 ≤ y0 ∧ y0 ≤ 1) (kv0 : y0 = 0 ∨ (0 ≤ x1 ∧ x1 < 16)) : fm_163_p72 Q x1 x2 x3 x4 x5 y0 s := by
  unfold fm_163_p72
  refine ⟨(show lf_R y0 from lf_Rof (by omega)), ?_⟩
  refine ⟨fun c6 => ?_, fun c6 => ?_⟩
  · skip
    replace c6 : y0 = 0 := c6
    refine ⟨(show y0 = 0 ∨ y0 = 1 from by omega), fun _ => ?_, fun _ => ?_⟩
    · skip
      exact hQ false s hI (lf_fq_rf)
    · skip
      exact hQ true s hI (lf_fq_rf)
  · skip
    replace c6 : ¬ (y0 = 0) := c6
    have b7 : (-2147483648) ≤ lf_w (x4 * x2) ∧ lf_w (x4 * x2) ≤ 2147483647 := lf_wB
    have b8 : (-2147483648) ≤ lf_w ((lf_w (x4 * x2)) * x5) ∧ lf_w ((lf_w (x4 * x2)) * x5) ≤ 2147483647 := lf_wB
    have b9 : (-214748364) ≤ (lf_w ((lf_w (x4 * x2)) * x5)).tdiv 10 ∧ (lf_w ((lf_w (x4 * x2)) * x5)).tdiv 10 ≤ 214748364 := lf_tdivB (p := -2147483648) (q := 2147483647) (by omega) (by omega) (by decide) (by decide) (by decide)
    have b10 : (-2147483648) ≤ lf_w (((lf_w ((lf_w (x4 * x2)) * x5)).tdiv 10) - x3) ∧ lf_w (((lf_w ((lf_w (x4 * x2)) * x5)).tdiv 10) - x3) ≤ 2147483647 := lf_wB
    refine ⟨(show (0 : Int) ≤ x1 ∧ x1 < (16 : Int) from by omega), ?_⟩
    have hI11 : iv_A (lf_up s.1 28 x1 (lf_w (((lf_w ((lf_w (x4 * x2)) * x5)).tdiv 10) - x3))) s.2.2 := iv_w28 hI (by omega)
    have fr12 : lf_fq [28] 1000000 true s.1 s.2.2 (lf_up s.1 28 x1 (lf_w (((lf_w ((lf_w (x4 * x2)) * x5)).tdiv 10) - x3))) s.2.2 := lf_fq_up (lf_fq_rf) rfl (fun h => absurd h (by decide))
    refine ⟨(show y0 = 0 ∨ y0 = 1 from by omega), fun _ => ?_, fun _ => ?_⟩
    · skip
      exact hQ false (lf_up s.1 28 x1 (lf_w (((lf_w ((lf_w (x4 * x2)) * x5)).tdiv 10) - x3)), s.2.1, s.2.2) hI11 fr12
    · skip
      exact hQ true (lf_up s.1 28 x1 (lf_w (((lf_w ((lf_w (x4 * x2)) * x5)).tdiv 10) - x3)), s.2.1, s.2.2) hI11 fr12
theorem sm_163_p71 {Q : Bool → lf_Z → Prop} {x1 : Int} {x2 : Int} {x3 : Int} {x4 : Int} {x5 : Int} {s : lf_Z} (hQ : ∀ (z : Bool) (s' : lf_Z), iv_A s'.1 s'.2.2 → lf_fq [28] 1000000 true s.1 s.2.2 s'.1 s'.2.2 → Q z s') (hI : iv_A s.1 s.2.2) (bx1 : (-2147483648) ≤ x1 ∧ x1 ≤ 2147483647) (bx2 : (-2147483648) ≤ x2 ∧ x2 ≤ 2147483647) (bx3 : (-2147483648) ≤ x3 ∧ x3 ≤ 2147483647) (bx4 : (-2147483648) ≤ x4 ∧ x4 ≤ 2147483647) (bx5 : (-2147483648) ≤ x5 ∧ x5 ≤ 2147483647) : fm_163_p71 Q x1 x2 x3 x4 x5 s := by
  unfold fm_163_p71
  exact sm_163_p72 hQ hI (show (-2147483648 : Int) ≤ x1 ∧ x1 ≤ (2147483647 : Int) from by omega) (show (-2147483648 : Int) ≤ x2 ∧ x2 ≤ (2147483647 : Int) from by omega) (show (-2147483648 : Int) ≤ x3 ∧ x3 ≤ (2147483647 : Int) from by omega) (show (-2147483648 : Int) ≤ x4 ∧ x4 ≤ (2147483647 : Int) from by omega) (show (-2147483648 : Int) ≤ x5 ∧ x5 ≤ (2147483647 : Int) from by omega) (show (0 : Int) ≤ 0 ∧ 0 ≤ (1 : Int) from by omega) (show 0 = 0 ∨ (0 ≤ x1 ∧ x1 < 16) from by omega)
theorem sm_163_p37 {Q : Bool → lf_Z → Prop} {x1 : Int} {x2 : Int} {x3 : Int} {x4 : Int} {x5 : Int} {y0 : Int} {s : lf_Z} (hQ : ∀ (z : Bool) (s' : lf_Z), iv_A s'.1 s'.2.2 → lf_fq [28] 1000000 true s.1 s.2.2 s'.1 s'.2.2 → Q z s') (hI : iv_A s.1 s.2.2) (bx1 : (-2147483648) ≤ x1 ∧ x1 ≤ 2147483647) (bx2 : (-2147483648) ≤ x2 ∧ x2 ≤ 2147483647) (bx3 : (-2147483648) ≤ x3 ∧ x3 ≤ 2147483647) (bx4 : (-2147483648) ≤ x4 ∧ x4 ≤ 2147483647) (bx5 : (-2147483648) ≤ x5 ∧ x5 ≤ 2147483647) (by0 : 0 ≤ y0 ∧ y0 ≤ 1) (kv0 : y0 = 0 ∨ (0 ≤ x1 ∧ x1 < 16)) : fm_163_p37 Q x1 x2 x3 x4 x5 y0 s := by
  unfold fm_163_p37
  refine ⟨(show lf_R y0 from lf_Rof (by omega)), ?_⟩
  refine ⟨fun c5 => ?_, fun c5 => ?_⟩
  · skip
    replace c5 : y0 = 0 := c5
    exact sm_163_p71 hQ hI (show (-2147483648 : Int) ≤ x1 ∧ x1 ≤ (2147483647 : Int) from by omega) (show (-2147483648 : Int) ≤ x2 ∧ x2 ≤ (2147483647 : Int) from by omega) (show (-2147483648 : Int) ≤ x3 ∧ x3 ≤ (2147483647 : Int) from by omega) (show (-2147483648 : Int) ≤ x4 ∧ x4 ≤ (2147483647 : Int) from by omega) (show (-2147483648 : Int) ≤ x5 ∧ x5 ≤ (2147483647 : Int) from by omega)
  · skip
    replace c5 : ¬ (y0 = 0) := c5
    refine sm_15 hI (show (-2147483648 : Int) ≤ x4 ∧ x4 ≤ (2147483647 : Int) from by omega) (show (-1 : Int) ≤ 0 ∧ 0 ≤ (99 : Int) from by omega) (show (-2147483648 : Int) ≤ 999 ∧ 999 ≤ (2147483647 : Int) from by omega) (fun z27 q13 => ?_)
    refine ⟨fun c14 => ?_, fun c14 => ?_⟩
    · skip
      have dc14 := q13.2 c14
      exact sm_163_p71 hQ hI (show (-2147483648 : Int) ≤ x1 ∧ x1 ≤ (2147483647 : Int) from by omega) (show (-2147483648 : Int) ≤ x2 ∧ x2 ≤ (2147483647 : Int) from by omega) (show (-2147483648 : Int) ≤ x3 ∧ x3 ≤ (2147483647 : Int) from by omega) (show (-2147483648 : Int) ≤ x4 ∧ x4 ≤ (2147483647 : Int) from by omega) (show (-2147483648 : Int) ≤ x5 ∧ x5 ≤ (2147483647 : Int) from by omega)
    · skip
      have dc14 := q13.1 c14
      refine sm_15 hI (show (-2147483648 : Int) ≤ x5 ∧ x5 ≤ (2147483647 : Int) from by omega) (show (-1 : Int) ≤ 1 ∧ 1 ≤ (99 : Int) from by omega) (show (-2147483648 : Int) ≤ 99 ∧ 99 ≤ (2147483647 : Int) from by omega) (fun z29 q15 => ?_)
      refine ⟨fun c16 => ?_, fun c16 => ?_⟩
      · skip
        have dc16 := q15.2 c16
        exact sm_163_p71 hQ hI (show (-2147483648 : Int) ≤ x1 ∧ x1 ≤ (2147483647 : Int) from by omega) (show (-2147483648 : Int) ≤ x2 ∧ x2 ≤ (2147483647 : Int) from by omega) (show (-2147483648 : Int) ≤ x3 ∧ x3 ≤ (2147483647 : Int) from by omega) (show (-2147483648 : Int) ≤ x4 ∧ x4 ≤ (2147483647 : Int) from by omega) (show (-2147483648 : Int) ≤ x5 ∧ x5 ≤ (2147483647 : Int) from by omega)
      · skip
        have dc16 := q15.1 c16
        exact sm_163_p72 hQ hI (show (-2147483648 : Int) ≤ x1 ∧ x1 ≤ (2147483647 : Int) from by omega) (show (-2147483648 : Int) ≤ x2 ∧ x2 ≤ (2147483647 : Int) from by omega) (show (-2147483648 : Int) ≤ x3 ∧ x3 ≤ (2147483647 : Int) from by omega) (show (-2147483648 : Int) ≤ x4 ∧ x4 ≤ (2147483647 : Int) from by omega) (show (-2147483648 : Int) ≤ x5 ∧ x5 ≤ (2147483647 : Int) from by omega) (show (0 : Int) ≤ 1 ∧ 1 ≤ (1 : Int) from by omega) (show 1 = 0 ∨ (0 ≤ x1 ∧ x1 < 16) from by omega)
theorem sm_163_p36 {Q : Bool → lf_Z → Prop} {x1 : Int} {x2 : Int} {x3 : Int} {x4 : Int} {x5 : Int} {s : lf_Z} (hQ : ∀ (z : Bool) (s' : lf_Z), iv_A s'.1 s'.2.2 → lf_fq [28] 1000000 true s.1 s.2.2 s'.1 s'.2.2 → Q z s') (hI : iv_A s.1 s.2.2) (bx1 : (-2147483648) ≤ x1 ∧ x1 ≤ 2147483647) (bx2 : (-2147483648) ≤ x2 ∧ x2 ≤ 2147483647) (bx3 : (-2147483648) ≤ x3 ∧ x3 ≤ 2147483647) (bx4 : (-2147483648) ≤ x4 ∧ x4 ≤ 2147483647) (bx5 : (-2147483648) ≤ x5 ∧ x5 ≤ 2147483647) : fm_163_p36 Q x1 x2 x3 x4 x5 s := by
  unfold fm_163_p36
  exact sm_163_p37 hQ hI (show (-2147483648 : Int) ≤ x1 ∧ x1 ≤ (2147483647 : Int) from by omega) (show (-2147483648 : Int) ≤ x2 ∧ x2 ≤ (2147483647 : Int) from by omega) (show (-2147483648 : Int) ≤ x3 ∧ x3 ≤ (2147483647 : Int) from by omega) (show (-2147483648 : Int) ≤ x4 ∧ x4 ≤ (2147483647 : Int) from by omega) (show (-2147483648 : Int) ≤ x5 ∧ x5 ≤ (2147483647 : Int) from by omega) (show (0 : Int) ≤ 0 ∧ 0 ≤ (1 : Int) from by omega) (show 0 = 0 ∨ (0 ≤ x1 ∧ x1 < 16) from by omega)
theorem sm_163 {a1 : Int} {a2 : Int} {a3 : Int} {a4 : Int} {a5 : Int} {Q : Bool → lf_Z → Prop} {s : lf_Z} (hI : iv_A s.1 s.2.2) (ba1 : (-2147483648) ≤ a1 ∧ a1 ≤ 2147483647) (ba2 : (-2147483648) ≤ a2 ∧ a2 ≤ 2147483647) (ba3 : (-2147483648) ≤ a3 ∧ a3 ≤ 2147483647) (ba4 : (-2147483648) ≤ a4 ∧ a4 ≤ 2147483647) (ba5 : (-2147483648) ≤ a5 ∧ a5 ≤ 2147483647) (hQ : ∀ (z : Bool) (s' : lf_Z), iv_A s'.1 s'.2.2 → lf_fq [28] 1000000 true s.1 s.2.2 s'.1 s'.2.2 → Q z s') : fm_163 a1 a2 a3 a4 a5 Q s := by
  unfold fm_163
  refine sm_89 hI (show (-2147483648 : Int) ≤ a1 ∧ a1 ≤ (2147483647 : Int) from by omega) (fun z22 q1 => ?_)
  have b2 : 0 ≤ s.1 1 1 ∧ s.1 1 1 ≤ 16 := iv_r1_1 hI
  have b3 : 0 ≤ s.1 6 a1 ∧ s.1 6 a1 ≤ 1 := iv_r6 hI _
  refine ⟨fun c4 => ?_, fun c4 => ?_⟩
  · skip
    have dc4 := q1.2 c4
    exact sm_163_p36 hQ hI (show (-2147483648 : Int) ≤ a1 ∧ a1 ≤ (2147483647 : Int) from by omega) (show (-2147483648 : Int) ≤ a2 ∧ a2 ≤ (2147483647 : Int) from by omega) (show (-2147483648 : Int) ≤ a3 ∧ a3 ≤ (2147483647 : Int) from by omega) (show (-2147483648 : Int) ≤ a4 ∧ a4 ≤ (2147483647 : Int) from by omega) (show (-2147483648 : Int) ≤ a5 ∧ a5 ≤ (2147483647 : Int) from by omega)
  · skip
    have dc4 := q1.1 c4
    refine sm_15 hI (show (-2147483648 : Int) ≤ a2 ∧ a2 ≤ (2147483647 : Int) from by omega) (show (-1 : Int) ≤ 0 ∧ 0 ≤ (99 : Int) from by omega) (show (-2147483648 : Int) ≤ 10 ∧ 10 ≤ (2147483647 : Int) from by omega) (fun z31 q17 => ?_)
    refine ⟨fun c18 => ?_, fun c18 => ?_⟩
    · skip
      have dc18 := q17.2 c18
      exact sm_163_p36 hQ hI (show (-2147483648 : Int) ≤ a1 ∧ a1 ≤ (2147483647 : Int) from by omega) (show (-2147483648 : Int) ≤ a2 ∧ a2 ≤ (2147483647 : Int) from by omega) (show (-2147483648 : Int) ≤ a3 ∧ a3 ≤ (2147483647 : Int) from by omega) (show (-2147483648 : Int) ≤ a4 ∧ a4 ≤ (2147483647 : Int) from by omega) (show (-2147483648 : Int) ≤ a5 ∧ a5 ≤ (2147483647 : Int) from by omega)
    · skip
      have dc18 := q17.1 c18
      refine sm_15 hI (show (-2147483648 : Int) ≤ a3 ∧ a3 ≤ (2147483647 : Int) from by omega) (show (-1 : Int) ≤ 0 ∧ 0 ≤ (99 : Int) from by omega) (show (-2147483648 : Int) ≤ 999 ∧ 999 ≤ (2147483647 : Int) from by omega) (fun z33 q19 => ?_)
      refine ⟨fun c20 => ?_, fun c20 => ?_⟩
      · skip
        have dc20 := q19.2 c20
        exact sm_163_p36 hQ hI (show (-2147483648 : Int) ≤ a1 ∧ a1 ≤ (2147483647 : Int) from by omega) (show (-2147483648 : Int) ≤ a2 ∧ a2 ≤ (2147483647 : Int) from by omega) (show (-2147483648 : Int) ≤ a3 ∧ a3 ≤ (2147483647 : Int) from by omega) (show (-2147483648 : Int) ≤ a4 ∧ a4 ≤ (2147483647 : Int) from by omega) (show (-2147483648 : Int) ≤ a5 ∧ a5 ≤ (2147483647 : Int) from by omega)
      · skip
        have dc20 := q19.1 c20
        exact sm_163_p37 hQ hI (show (-2147483648 : Int) ≤ a1 ∧ a1 ≤ (2147483647 : Int) from by omega) (show (-2147483648 : Int) ≤ a2 ∧ a2 ≤ (2147483647 : Int) from by omega) (show (-2147483648 : Int) ≤ a3 ∧ a3 ≤ (2147483647 : Int) from by omega) (show (-2147483648 : Int) ≤ a4 ∧ a4 ≤ (2147483647 : Int) from by omega) (show (-2147483648 : Int) ≤ a5 ∧ a5 ≤ (2147483647 : Int) from by omega) (show (0 : Int) ≤ 1 ∧ 1 ≤ (1 : Int) from by omega) (show 1 = 0 ∨ (0 ≤ a1 ∧ a1 < 16) from by omega)
-- fm_318 Model.mending 95 i i i i i
theorem sm_318 {a1 : Int} {a2 : Int} {a3 : Int} {a4 : Int} {a5 : Int} {Q : Bool → lf_Z → Prop} {s : lf_Z} (hI : iv_A s.1 s.2.2) (ba1 : (-2147483648) ≤ a1 ∧ a1 ≤ 2147483647) (ba2 : (-2147483648) ≤ a2 ∧ a2 ≤ 2147483647) (ba3 : (-2147483648) ≤ a3 ∧ a3 ≤ 2147483647) (ba4 : (-2147483648) ≤ a4 ∧ a4 ≤ 2147483647) (ba5 : (-2147483648) ≤ a5 ∧ a5 ≤ 2147483647) (hQ : ∀ (z : Bool) (s' : lf_Z), iv_A s'.1 s'.2.2 → lf_fq [96, 1002] 174 true s.1 s.2.2 s'.1 s'.2.2 → Q z s') : fm_318 a1 a2 a3 a4 a5 Q s := by
  unfold fm_318
  refine sm_251 hI (show (-2147483648 : Int) ≤ a1 ∧ a1 ≤ (2147483647 : Int) from by omega) (fun z22 q1 => ?_)
  have b2 : 0 ≤ s.1 96 1 ∧ s.1 96 1 ≤ 16 := iv_rd96 hI (iv_fd6ad3e54 (by omega))
  have b3 : s.1 96 1 ≤ 0 ∨ 0 < s.1 96 0 := (show s.1 96 1 ≤ 0 ∨ 0 < s.1 96 0 from iv_l96_1 hI)
  refine ⟨fun c4 => ?_, fun c4 => ?_⟩
  · skip
    have dc4 := q1.2 c4
    exact hQ false s hI (lf_fq_rf)
  · skip
    have dc4 := q1.1 c4
    refine sm_252 hI (show (0 : Int) ≤ a1 ∧ a1 ≤ (15 : Int) from by omega) (fun z24 => ?_)
    refine ⟨fun c6 => ?_, fun c6 => ?_⟩
    · skip
      exact hQ false s hI (lf_fq_rf)
    · skip
      refine sm_183 hI (show (-2147483648 : Int) ≤ a2 ∧ a2 ≤ (2147483647 : Int) from by omega) (show (-1 : Int) ≤ 0 ∧ 0 ≤ (97 : Int) from by omega) (show (-1 : Int) ≤ 10 ∧ 10 ≤ (9999 : Int) from by omega) (fun z26 q7 => ?_)
      refine ⟨fun c8 => ?_, fun c8 => ?_⟩
      · skip
        have dc8 := q7.2 c8
        exact hQ false s hI (lf_fq_rf)
      · skip
        have dc8 := q7.1 c8
        refine sm_183 hI (show (-2147483648 : Int) ≤ a3 ∧ a3 ≤ (2147483647 : Int) from by omega) (show (-1 : Int) ≤ 0 ∧ 0 ≤ (97 : Int) from by omega) (show (-1 : Int) ≤ 999 ∧ 999 ≤ (9999 : Int) from by omega) (fun z28 q9 => ?_)
        refine ⟨fun c10 => ?_, fun c10 => ?_⟩
        · skip
          have dc10 := q9.2 c10
          exact hQ false s hI (lf_fq_rf)
        · skip
          have dc10 := q9.1 c10
          refine sm_183 hI (show (-2147483648 : Int) ≤ a4 ∧ a4 ≤ (2147483647 : Int) from by omega) (show (-1 : Int) ≤ 0 ∧ 0 ≤ (97 : Int) from by omega) (show (-1 : Int) ≤ 999 ∧ 999 ≤ (9999 : Int) from by omega) (fun z30 q11 => ?_)
          refine ⟨fun c12 => ?_, fun c12 => ?_⟩
          · skip
            have dc12 := q11.2 c12
            exact hQ false s hI (lf_fq_rf)
          · skip
            have dc12 := q11.1 c12
            refine sm_183 hI (show (-2147483648 : Int) ≤ a5 ∧ a5 ≤ (2147483647 : Int) from by omega) (show (-1 : Int) ≤ 1 ∧ 1 ≤ (97 : Int) from by omega) (show (-1 : Int) ≤ 99 ∧ 99 ≤ (9999 : Int) from by omega) (fun z32 q13 => ?_)
            refine ⟨fun c14 => ?_, fun c14 => ?_⟩
            · skip
              have dc14 := q13.1 c14
              refine ⟨(show (0 : Int) ≤ 174 + (5 * a1) ∧ 174 + (5 * a1) < (1538 : Int) from by omega), ?_⟩
              have hI15 : iv_A (lf_up s.1 96 (174 + (5 * a1)) 1) s.2.2 := iv_wd96 hI (lf_le2 (iv_fff015721 (a1) (by omega) (by omega)) (by omega)) (fun h => absurd h (by omega))
              have fr16 : lf_fq [96, 1002] 174 true s.1 s.2.2 (lf_up s.1 96 (174 + (5 * a1)) 1) s.2.2 := lf_fq_up (lf_fq_rf) rfl (fun _ => ⟨by omega, fr_o (Or.inr (fr_n0 (by omega))) (Or.inr (fr_n1 (by omega))) (Or.inl rfl) (Or.inr (fr_n3 (by omega))) (Or.inr (fr_n4 (by omega))) (Or.inr (fr_n5 (by omega))) (Or.inr (fr_n6 (by omega)))⟩)
              refine ⟨(show (0 : Int) ≤ (174 + (5 * a1)) + 1 ∧ (174 + (5 * a1)) + 1 < (1538 : Int) from by omega), ?_⟩
              have hI17 : iv_A (lf_up (lf_up s.1 96 (174 + (5 * a1)) 1) 96 ((174 + (5 * a1)) + 1) a2) s.2.2 := iv_wd96 hI15 (lf_le2 (iv_f02d2919a (a1) (by omega) (by omega)) (by omega)) (fun h => absurd h (by omega))
              have fr18 : lf_fq [96, 1002] 174 true s.1 s.2.2 (lf_up (lf_up s.1 96 (174 + (5 * a1)) 1) 96 ((174 + (5 * a1)) + 1) a2) s.2.2 := lf_fq_up fr16 rfl (fun _ => ⟨by omega, fr_o (Or.inr (fr_n0 (by omega))) (Or.inr (fr_n1 (by omega))) (Or.inl rfl) (Or.inr (fr_n3 (by omega))) (Or.inr (fr_n4 (by omega))) (Or.inr (fr_n5 (by omega))) (Or.inr (fr_n6 (by omega)))⟩)
              refine ⟨(show (0 : Int) ≤ (174 + (5 * a1)) + 2 ∧ (174 + (5 * a1)) + 2 < (1538 : Int) from by omega), ?_⟩
              have hI19 : iv_A (lf_up (lf_up (lf_up s.1 96 (174 + (5 * a1)) 1) 96 ((174 + (5 * a1)) + 1) a2) 96 ((174 + (5 * a1)) + 2) a3) s.2.2 := iv_wd96 hI17 (lf_le2 (iv_f63ffe759 (a1) (by omega) (by omega)) (by omega)) (fun h => absurd h (by omega))
              have fr20 : lf_fq [96, 1002] 174 true s.1 s.2.2 (lf_up (lf_up (lf_up s.1 96 (174 + (5 * a1)) 1) 96 ((174 + (5 * a1)) + 1) a2) 96 ((174 + (5 * a1)) + 2) a3) s.2.2 := lf_fq_up fr18 rfl (fun _ => ⟨by omega, fr_o (Or.inr (fr_n0 (by omega))) (Or.inr (fr_n1 (by omega))) (Or.inl rfl) (Or.inr (fr_n3 (by omega))) (Or.inr (fr_n4 (by omega))) (Or.inr (fr_n5 (by omega))) (Or.inr (fr_n6 (by omega)))⟩)
              refine ⟨(show (0 : Int) ≤ (174 + (5 * a1)) + 3 ∧ (174 + (5 * a1)) + 3 < (1538 : Int) from by omega), ?_⟩
              have hI21 : iv_A (lf_up (lf_up (lf_up (lf_up s.1 96 (174 + (5 * a1)) 1) 96 ((174 + (5 * a1)) + 1) a2) 96 ((174 + (5 * a1)) + 2) a3) 96 ((174 + (5 * a1)) + 3) a4) s.2.2 := iv_wd96 hI19 (lf_le2 (iv_fa9f80a67 (a1) (by omega) (by omega)) (by omega)) (fun h => absurd h (by omega))
              have fr22 : lf_fq [96, 1002] 174 true s.1 s.2.2 (lf_up (lf_up (lf_up (lf_up s.1 96 (174 + (5 * a1)) 1) 96 ((174 + (5 * a1)) + 1) a2) 96 ((174 + (5 * a1)) + 2) a3) 96 ((174 + (5 * a1)) + 3) a4) s.2.2 := lf_fq_up fr20 rfl (fun _ => ⟨by omega, fr_o (Or.inr (fr_n0 (by omega))) (Or.inr (fr_n1 (by omega))) (Or.inl rfl) (Or.inr (fr_n3 (by omega))) (Or.inr (fr_n4 (by omega))) (Or.inr (fr_n5 (by omega))) (Or.inr (fr_n6 (by omega)))⟩)
              refine ⟨(show (0 : Int) ≤ (174 + (5 * a1)) + 4 ∧ (174 + (5 * a1)) + 4 < (1538 : Int) from by omega), ?_⟩
              have hI23 : iv_A (lf_up (lf_up (lf_up (lf_up (lf_up s.1 96 (174 + (5 * a1)) 1) 96 ((174 + (5 * a1)) + 1) a2) 96 ((174 + (5 * a1)) + 2) a3) 96 ((174 + (5 * a1)) + 3) a4) 96 ((174 + (5 * a1)) + 4) a5) s.2.2 := iv_wd96 hI21 (lf_le2 (iv_fa7b3c3a4 (a1) (by omega) (by omega)) (by omega)) (fun h => absurd h (by omega))
              have fr24 : lf_fq [96, 1002] 174 true s.1 s.2.2 (lf_up (lf_up (lf_up (lf_up (lf_up s.1 96 (174 + (5 * a1)) 1) 96 ((174 + (5 * a1)) + 1) a2) 96 ((174 + (5 * a1)) + 2) a3) 96 ((174 + (5 * a1)) + 3) a4) 96 ((174 + (5 * a1)) + 4) a5) s.2.2 := lf_fq_up fr22 rfl (fun _ => ⟨by omega, fr_o (Or.inr (fr_n0 (by omega))) (Or.inr (fr_n1 (by omega))) (Or.inl rfl) (Or.inr (fr_n3 (by omega))) (Or.inr (fr_n4 (by omega))) (Or.inr (fr_n5 (by omega))) (Or.inr (fr_n6 (by omega)))⟩)
              exact hQ true (lf_up (lf_up (lf_up (lf_up (lf_up s.1 96 (174 + (5 * a1)) 1) 96 ((174 + (5 * a1)) + 1) a2) 96 ((174 + (5 * a1)) + 2) a3) 96 ((174 + (5 * a1)) + 3) a4) 96 ((174 + (5 * a1)) + 4) a5, s.2.1, s.2.2) hI23 fr24
            · skip
              have dc14 := q13.2 c14
              exact hQ false s hI (lf_fq_rf)
-- fm_165 Notes.bestGate 25
theorem sm_165_p31 {X6 : Int → Int → Int → lf_Z → Prop} {Q : Int → lf_Z → Prop} {x1 : Int} {x2 : Int} {x3 : Int} {s : lf_Z} (hQ : ∀ (r : Int), ((-1) ≤ r ∧ r ≤ 15) → Q r s) {M6 : Nat} (hX6 : ∀ (x1 : Int) (x2 : Int) (x3 : Int), (-1) ≤ x1 ∧ x1 ≤ 15 → 0 ≤ x2 ∧ x2 ≤ 2147483647 → 0 ≤ x3 ∧ x3 ≤ 16 → (16 - x3).toNat < M6 → X6 x1 x2 x3 s) (hM6 : (16 - x3).toNat ≤ M6) (hI : iv_A s.1 s.2.2) (bx1 : (-1) ≤ x1 ∧ x1 ≤ 15) (bx2 : 0 ≤ x2 ∧ x2 ≤ 2147483647) (bx3 : 0 ≤ x3 ∧ x3 ≤ 15) : fm_165_p31 X6 Q x1 x2 x3 s := by
  unfold fm_165_p31
  exact hX6 (x1) (x2) (x3 + 1) (show (-1 : Int) ≤ x1 ∧ x1 ≤ (15 : Int) from by omega) (show (0 : Int) ≤ x2 ∧ x2 ≤ (2147483647 : Int) from by omega) (show (0 : Int) ≤ x3 + 1 ∧ x3 + 1 ≤ (16 : Int) from by omega) (show (16 - (x3 + 1)).toNat < M6 from by omega)
theorem sm_165_p6 {X6 : Int → Int → Int → lf_Z → Prop} {Q : Int → lf_Z → Prop} {x1 : Int} {x2 : Int} {x3 : Int} {s : lf_Z} (hQ : ∀ (r : Int), ((-1) ≤ r ∧ r ≤ 15) → Q r s) {M6 : Nat} (hX6 : ∀ (x1 : Int) (x2 : Int) (x3 : Int), (-1) ≤ x1 ∧ x1 ≤ 15 → 0 ≤ x2 ∧ x2 ≤ 2147483647 → 0 ≤ x3 ∧ x3 ≤ 16 → (16 - x3).toNat < M6 → X6 x1 x2 x3 s) (hM6 : (16 - x3).toNat ≤ M6) (hI : iv_A s.1 s.2.2) (bx1 : (-1) ≤ x1 ∧ x1 ≤ 15) (bx2 : 0 ≤ x2 ∧ x2 ≤ 2147483647) (bx3 : 0 ≤ x3 ∧ x3 ≤ 16) : fm_165_p6 Q X6 x1 x2 x3 s := by
  unfold fm_165_p6
  refine ⟨(show lf_R x3 from lf_Rof (by omega)), ?_⟩
  refine ⟨fun c1 => ?_, fun c1 => ?_⟩
  · skip
    replace c1 : 16 ≤ x3 := c1
    exact hQ x1 (show (-1 : Int) ≤ x1 ∧ x1 ≤ (15 : Int) from by omega)
  · skip
    replace c1 : ¬ (16 ≤ x3) := c1
    refine ⟨(show (0 : Int) ≤ x3 ∧ x3 < (16 : Int) from by omega), ?_⟩
    have b2 : (-2147483648) ≤ s.1 28 x3 ∧ s.1 28 x3 ≤ 2147483647 := iv_full hI
    refine ⟨(show lf_R (s.1 28 x3) from lf_Rof (by omega)), ?_⟩
    refine ⟨(show lf_R x2 from lf_Rof (by omega)), ?_⟩
    refine ⟨fun c3 => ?_, fun c3 => ?_⟩
    · skip
      replace c3 : s.1 28 x3 ≤ x2 := c3
      exact sm_165_p31 hQ hX6 (show (16 - x3).toNat ≤ M6 from by omega) hI (show (-1 : Int) ≤ x1 ∧ x1 ≤ (15 : Int) from by omega) (show (0 : Int) ≤ x2 ∧ x2 ≤ (2147483647 : Int) from by omega) (show (0 : Int) ≤ x3 ∧ x3 ≤ (15 : Int) from by omega)
    · skip
      replace c3 : ¬ (s.1 28 x3 ≤ x2) := c3
      exact sm_165_p31 hQ hX6 (show (16 - x3).toNat ≤ M6 from by omega) hI (show (-1 : Int) ≤ x3 ∧ x3 ≤ (15 : Int) from by omega) (show (0 : Int) ≤ s.1 28 x3 ∧ s.1 28 x3 ≤ (2147483647 : Int) from by omega) (show (0 : Int) ≤ x3 ∧ x3 ≤ (15 : Int) from by omega)
theorem sm_165_p6L {Q : Int → lf_Z → Prop} {x1 : Int} {x2 : Int} {x3 : Int} {s : lf_Z} (hQ : ∀ (r : Int), ((-1) ≤ r ∧ r ≤ 15) → Q r s) (hI : iv_A s.1 s.2.2) (bx1 : (-1) ≤ x1 ∧ x1 ≤ 15) (bx2 : 0 ≤ x2 ∧ x2 ≤ 2147483647) (bx3 : 0 ≤ x3 ∧ x3 ≤ 16) : fm_165_p6L Q x1 x2 x3 s := by
  intro X6 hX
  have key : ∀ (m9 : Nat) (x1 : Int) (x2 : Int) (x3 : Int), (-1) ≤ x1 ∧ x1 ≤ 15 → 0 ≤ x2 ∧ x2 ≤ 2147483647 → 0 ≤ x3 ∧ x3 ≤ 16 → (16 - x3).toNat < m9 → X6 x1 x2 x3 s := by
    intro m9
    induction m9 with
    | zero => intro x1 x2 x3 bx1 bx2 bx3 h9; exact absurd h9 (Nat.not_lt_zero _)
    | succ m9 ih => intro x1 x2 x3 bx1 bx2 bx3 h9; exact hX _ _ _ _ (sm_165_p6 hQ   (fun x1' x2' x3' bx1' bx2' bx3' h8 => ih x1' x2' x3' bx1' bx2' bx3' (by omega)) (Nat.le_refl _)  hI  bx1 bx2 bx3  )
  exact key _ _ _ _ bx1 bx2 bx3   (Nat.lt_succ_self _)
theorem sm_165 {Q : Int → lf_Z → Prop} {s : lf_Z} (hI : iv_A s.1 s.2.2) (hQ : ∀ (r : Int), ((-1) ≤ r ∧ r ≤ 15) → Q r s) : fm_165 Q s := by
  unfold fm_165
  exact sm_165_p6L hQ hI (show (-1 : Int) ≤ (-1) ∧ (-1) ≤ (15 : Int) from by omega) (show (0 : Int) ≤ 0 ∧ 0 ≤ (2147483647 : Int) from by omega) (show (0 : Int) ≤ 0 ∧ 0 ≤ (16 : Int) from by omega)
-- fm_164 ElevenBullocks.saved 0 i
theorem sm_164 {a1 : Int} {Q : Int → lf_Z → Prop} {s : lf_Z} (hI : iv_A s.1 s.2.2) (ba1 : (-2147483648) ≤ a1 ∧ a1 ≤ 2147483647) (hQ : ∀ (r : Int), ((-2147483648) ≤ r ∧ r ≤ 2147483647) → Q r s) : fm_164 a1 Q s := by
  unfold fm_164
  refine ⟨(show lf_R a1 from lf_Rof (by omega)), ?_⟩
  refine ⟨fun c1 => ?_, fun c1 => ?_⟩
  · skip
    replace c1 : a1 ≠ (-1) := c1
    refine sm_79 hI (show (-2147483648 : Int) ≤ a1 ∧ a1 ≤ (2147483647 : Int) from by omega) (fun z23 q2 => ?_)
    have b3 : 0 ≤ s.1 1 1 ∧ s.1 1 1 ≤ 16 := iv_r1_1 hI
    refine ⟨fun c4 => ?_, fun c4 => ?_⟩
    · skip
      have dc4 := q2.2 c4
      exact hQ (-10000) (show (-2147483648 : Int) ≤ (-10000) ∧ (-10000) ≤ (2147483647 : Int) from by omega)
    · skip
      have dc4 := q2.1 c4
      refine ⟨(show (0 : Int) ≤ a1 ∧ a1 < (16 : Int) from by omega), ?_⟩
      have b5 : (-2147483648) ≤ s.1 28 a1 ∧ s.1 28 a1 ≤ 2147483647 := iv_full hI
      exact hQ (s.1 28 a1) (show (-2147483648 : Int) ≤ s.1 28 a1 ∧ s.1 28 a1 ≤ (2147483647 : Int) from by omega)
  · skip
    replace c1 : ¬ (a1 ≠ (-1)) := c1
    refine sm_165 hI (fun r26 q6 => ?_)
    exact hQ r26 (show (-2147483648 : Int) ≤ r26 ∧ r26 ≤ (2147483647 : Int) from by omega)
-- fm_320 Model.savedBy 95 i
theorem sm_320 {a1 : Int} {Q : Int → lf_Z → Prop} {s : lf_Z} (hI : iv_A s.1 s.2.2) (ba1 : 0 ≤ a1 ∧ a1 ≤ 15) (hQ : ∀ (r : Int), ((-2147483648) ≤ r ∧ r ≤ 2147483647) → Q r s) : fm_320 a1 Q s := by
  unfold fm_320
  refine ⟨(show (0 : Int) ≤ (174 + (5 * a1)) + 3 ∧ (174 + (5 * a1)) + 3 < (1538 : Int) from by omega), ?_⟩
  have b1 : (-2147483648) ≤ s.1 96 ((174 + (5 * a1)) + 3) ∧ s.1 96 ((174 + (5 * a1)) + 3) ≤ 2147483647 := iv_full hI
  refine ⟨(show (0 : Int) ≤ (174 + (5 * a1)) + 1 ∧ (174 + (5 * a1)) + 1 < (1538 : Int) from by omega), ?_⟩
  have b2 : (-2147483648) ≤ s.1 96 ((174 + (5 * a1)) + 1) ∧ s.1 96 ((174 + (5 * a1)) + 1) ≤ 2147483647 := iv_full hI
  have b3 : (-2147483648) ≤ lf_w ((s.1 96 ((174 + (5 * a1)) + 3)) * (s.1 96 ((174 + (5 * a1)) + 1))) ∧ lf_w ((s.1 96 ((174 + (5 * a1)) + 3)) * (s.1 96 ((174 + (5 * a1)) + 1))) ≤ 2147483647 := lf_wB
  refine ⟨(show (0 : Int) ≤ (174 + (5 * a1)) + 4 ∧ (174 + (5 * a1)) + 4 < (1538 : Int) from by omega), ?_⟩
  have b4 : (-2147483648) ≤ s.1 96 ((174 + (5 * a1)) + 4) ∧ s.1 96 ((174 + (5 * a1)) + 4) ≤ 2147483647 := iv_full hI
  have b5 : (-2147483648) ≤ lf_w ((lf_w ((s.1 96 ((174 + (5 * a1)) + 3)) * (s.1 96 ((174 + (5 * a1)) + 1)))) * (s.1 96 ((174 + (5 * a1)) + 4))) ∧ lf_w ((lf_w ((s.1 96 ((174 + (5 * a1)) + 3)) * (s.1 96 ((174 + (5 * a1)) + 1)))) * (s.1 96 ((174 + (5 * a1)) + 4))) ≤ 2147483647 := lf_wB
  have b6 : (-214748364) ≤ (lf_w ((lf_w ((s.1 96 ((174 + (5 * a1)) + 3)) * (s.1 96 ((174 + (5 * a1)) + 1)))) * (s.1 96 ((174 + (5 * a1)) + 4)))).tdiv 10 ∧ (lf_w ((lf_w ((s.1 96 ((174 + (5 * a1)) + 3)) * (s.1 96 ((174 + (5 * a1)) + 1)))) * (s.1 96 ((174 + (5 * a1)) + 4)))).tdiv 10 ≤ 214748364 := lf_tdivB (p := -2147483648) (q := 2147483647) (by omega) (by omega) (by decide) (by decide) (by decide)
  refine ⟨(show (0 : Int) ≤ (174 + (5 * a1)) + 2 ∧ (174 + (5 * a1)) + 2 < (1538 : Int) from by omega), ?_⟩
  have b7 : (-2147483648) ≤ s.1 96 ((174 + (5 * a1)) + 2) ∧ s.1 96 ((174 + (5 * a1)) + 2) ≤ 2147483647 := iv_full hI
  have b8 : (-2147483648) ≤ lf_w (((lf_w ((lf_w ((s.1 96 ((174 + (5 * a1)) + 3)) * (s.1 96 ((174 + (5 * a1)) + 1)))) * (s.1 96 ((174 + (5 * a1)) + 4)))).tdiv 10) - (s.1 96 ((174 + (5 * a1)) + 2))) ∧ lf_w (((lf_w ((lf_w ((s.1 96 ((174 + (5 * a1)) + 3)) * (s.1 96 ((174 + (5 * a1)) + 1)))) * (s.1 96 ((174 + (5 * a1)) + 4)))).tdiv 10) - (s.1 96 ((174 + (5 * a1)) + 2))) ≤ 2147483647 := lf_wB
  exact hQ (lf_w (((lf_w ((lf_w ((s.1 96 ((174 + (5 * a1)) + 3)) * (s.1 96 ((174 + (5 * a1)) + 1)))) * (s.1 96 ((174 + (5 * a1)) + 4)))).tdiv 10) - (s.1 96 ((174 + (5 * a1)) + 2)))) (show (-2147483648 : Int) ≤ lf_w (((lf_w ((lf_w ((s.1 96 ((174 + (5 * a1)) + 3)) * (s.1 96 ((174 + (5 * a1)) + 1)))) * (s.1 96 ((174 + (5 * a1)) + 4)))).tdiv 10) - (s.1 96 ((174 + (5 * a1)) + 2))) ∧ lf_w (((lf_w ((lf_w ((s.1 96 ((174 + (5 * a1)) + 3)) * (s.1 96 ((174 + (5 * a1)) + 1)))) * (s.1 96 ((174 + (5 * a1)) + 4)))).tdiv 10) - (s.1 96 ((174 + (5 * a1)) + 2))) ≤ (2147483647 : Int) from by omega)
-- fm_319 Model.saved 95 i
theorem sm_319_p98 {X48 : Int → Int → Int → lf_Z → Prop} {Q : Int → lf_Z → Prop} {x2 : Int} {x3 : Int} {x4 : Int} {s : lf_Z} (hQ : ∀ (r : Int), ((-2147483648) ≤ r ∧ r ≤ 2147483647) → Q r s) {M48 : Nat} (hX48 : ∀ (x2 : Int) (x3 : Int) (x4 : Int), (-1) ≤ x2 ∧ x2 ≤ 15 → (-2147483648) ≤ x3 ∧ x3 ≤ 2147483647 → 0 ≤ x4 ∧ x4 ≤ 16 → (16 - x4).toNat < M48 → X48 x2 x3 x4 s) (hM48 : (16 - x4).toNat ≤ M48) (hI : iv_A s.1 s.2.2) (bx2 : (-1) ≤ x2 ∧ x2 ≤ 15) (bx3 : (-2147483648) ≤ x3 ∧ x3 ≤ 2147483647) (bx4 : 0 ≤ x4 ∧ x4 ≤ 15) : fm_319_p98 X48 Q x2 x3 x4 s := by
  unfold fm_319_p98
  exact hX48 (x2) (x3) (x4 + 1) (show (-1 : Int) ≤ x2 ∧ x2 ≤ (15 : Int) from by omega) (show (-2147483648 : Int) ≤ x3 ∧ x3 ≤ (2147483647 : Int) from by omega) (show (0 : Int) ≤ x4 + 1 ∧ x4 + 1 ≤ (16 : Int) from by omega) (show (16 - (x4 + 1)).toNat < M48 from by omega)
theorem sm_319_p48 {X48 : Int → Int → Int → lf_Z → Prop} {Q : Int → lf_Z → Prop} {x2 : Int} {x3 : Int} {x4 : Int} {s : lf_Z} (hQ : ∀ (r : Int), ((-2147483648) ≤ r ∧ r ≤ 2147483647) → Q r s) {M48 : Nat} (hX48 : ∀ (x2 : Int) (x3 : Int) (x4 : Int), (-1) ≤ x2 ∧ x2 ≤ 15 → (-2147483648) ≤ x3 ∧ x3 ≤ 2147483647 → 0 ≤ x4 ∧ x4 ≤ 16 → (16 - x4).toNat < M48 → X48 x2 x3 x4 s) (hM48 : (16 - x4).toNat ≤ M48) (hI : iv_A s.1 s.2.2) (bx2 : (-1) ≤ x2 ∧ x2 ≤ 15) (bx3 : (-2147483648) ≤ x3 ∧ x3 ≤ 2147483647) (bx4 : 0 ≤ x4 ∧ x4 ≤ 16) : fm_319_p48 Q X48 x2 x3 x4 s := by
  unfold fm_319_p48
  have b2 : 0 ≤ s.1 96 1 ∧ s.1 96 1 ≤ 16 := iv_rd96 hI (iv_fd6ad3e54 (by omega))
  have b3 : s.1 96 1 ≤ 0 ∨ 0 < s.1 96 0 := (show s.1 96 1 ≤ 0 ∨ 0 < s.1 96 0 from iv_l96_1 hI)
  refine ⟨(show lf_R x4 from lf_Rof (by omega)), ?_⟩
  refine ⟨(show lf_R (s.1 96 1) from lf_Rof (by omega)), ?_⟩
  refine ⟨fun c4 => ?_, fun c4 => ?_⟩
  · skip
    replace c4 : s.1 96 1 ≤ x4 := c4
    exact hQ x2 (show (-2147483648 : Int) ≤ x2 ∧ x2 ≤ (2147483647 : Int) from by omega)
  · skip
    replace c4 : ¬ (s.1 96 1 ≤ x4) := c4
    refine ⟨(show (0 : Int) ≤ 174 + (5 * x4) ∧ 174 + (5 * x4) < (1538 : Int) from by omega), ?_⟩
    have b5 : (-2147483648) ≤ s.1 96 (174 + (5 * x4)) ∧ s.1 96 (174 + (5 * x4)) ≤ 2147483647 := iv_full hI
    refine ⟨(show lf_R (s.1 96 (174 + (5 * x4))) from lf_Rof (by omega)), ?_⟩
    refine ⟨fun c6 => ?_, fun c6 => ?_⟩
    · skip
      replace c6 : s.1 96 (174 + (5 * x4)) = 0 := c6
      exact sm_319_p98 hQ hX48 (show (16 - x4).toNat ≤ M48 from by omega) hI (show (-1 : Int) ≤ x2 ∧ x2 ≤ (15 : Int) from by omega) (show (-2147483648 : Int) ≤ x3 ∧ x3 ≤ (2147483647 : Int) from by omega) (show (0 : Int) ≤ x4 ∧ x4 ≤ (15 : Int) from by omega)
    · skip
      replace c6 : ¬ (s.1 96 (174 + (5 * x4)) = 0) := c6
      refine sm_320 hI (show (0 : Int) ≤ x4 ∧ x4 ≤ (15 : Int) from by omega) (fun r27 q7 => ?_)
      refine ⟨(show lf_R r27 from lf_Rof (by omega)), ?_⟩
      refine ⟨(show lf_R x3 from lf_Rof (by omega)), ?_⟩
      refine ⟨fun c8 => ?_, fun c8 => ?_⟩
      · skip
        replace c8 : x3 < r27 := c8
        refine sm_320 hI (show (0 : Int) ≤ x4 ∧ x4 ≤ (15 : Int) from by omega) (fun r31 q9 => ?_)
        exact sm_319_p98 hQ hX48 (show (16 - x4).toNat ≤ M48 from by omega) hI (show (-1 : Int) ≤ x4 ∧ x4 ≤ (15 : Int) from by omega) (show (-2147483648 : Int) ≤ r31 ∧ r31 ≤ (2147483647 : Int) from by omega) (show (0 : Int) ≤ x4 ∧ x4 ≤ (15 : Int) from by omega)
      · skip
        replace c8 : ¬ (x3 < r27) := c8
        exact sm_319_p98 hQ hX48 (show (16 - x4).toNat ≤ M48 from by omega) hI (show (-1 : Int) ≤ x2 ∧ x2 ≤ (15 : Int) from by omega) (show (-2147483648 : Int) ≤ x3 ∧ x3 ≤ (2147483647 : Int) from by omega) (show (0 : Int) ≤ x4 ∧ x4 ≤ (15 : Int) from by omega)
theorem sm_319_p48L {Q : Int → lf_Z → Prop} {x2 : Int} {x3 : Int} {x4 : Int} {s : lf_Z} (hQ : ∀ (r : Int), ((-2147483648) ≤ r ∧ r ≤ 2147483647) → Q r s) (hI : iv_A s.1 s.2.2) (bx2 : (-1) ≤ x2 ∧ x2 ≤ 15) (bx3 : (-2147483648) ≤ x3 ∧ x3 ≤ 2147483647) (bx4 : 0 ≤ x4 ∧ x4 ≤ 16) : fm_319_p48L Q x2 x3 x4 s := by
  intro X48 hX
  have key : ∀ (m9 : Nat) (x2 : Int) (x3 : Int) (x4 : Int), (-1) ≤ x2 ∧ x2 ≤ 15 → (-2147483648) ≤ x3 ∧ x3 ≤ 2147483647 → 0 ≤ x4 ∧ x4 ≤ 16 → (16 - x4).toNat < m9 → X48 x2 x3 x4 s := by
    intro m9
    induction m9 with
    | zero => intro x2 x3 x4 bx2 bx3 bx4 h9; exact absurd h9 (Nat.not_lt_zero _)
    | succ m9 ih => intro x2 x3 x4 bx2 bx3 bx4 h9; exact hX _ _ _ _ (sm_319_p48 hQ   (fun x2' x3' x4' bx2' bx3' bx4' h8 => ih x2' x3' x4' bx2' bx3' bx4' (by omega)) (Nat.le_refl _)  hI  bx2 bx3 bx4  )
  exact key _ _ _ _ bx2 bx3 bx4   (Nat.lt_succ_self _)
theorem sm_319 {a1 : Int} {Q : Int → lf_Z → Prop} {s : lf_Z} (hI : iv_A s.1 s.2.2) (ba1 : (-2147483648) ≤ a1 ∧ a1 ≤ 2147483647) (hQ : ∀ (r : Int), ((-2147483648) ≤ r ∧ r ≤ 2147483647) → Q r s) : fm_319 a1 Q s := by
  unfold fm_319
  refine ⟨(show lf_R a1 from lf_Rof (by omega)), ?_⟩
  refine ⟨fun c1 => ?_, fun c1 => ?_⟩
  · skip
    replace c1 : a1 = (-1) := c1
    exact sm_319_p48L hQ hI (show (-1 : Int) ≤ (-1) ∧ (-1) ≤ (15 : Int) from by omega) (show (-2147483648 : Int) ≤ 0 ∧ 0 ≤ (2147483647 : Int) from by omega) (show (0 : Int) ≤ 0 ∧ 0 ≤ (16 : Int) from by omega)
  · skip
    replace c1 : ¬ (a1 = (-1)) := c1
    refine sm_251 hI (show (-2147483648 : Int) ≤ a1 ∧ a1 ≤ (2147483647 : Int) from by omega) (fun z33 q10 => ?_)
    have b11 : 0 ≤ s.1 96 1 ∧ s.1 96 1 ≤ 16 := iv_rd96 hI (iv_fd6ad3e54 (by omega))
    have b12 : s.1 96 1 ≤ 0 ∨ 0 < s.1 96 0 := (show s.1 96 1 ≤ 0 ∨ 0 < s.1 96 0 from iv_l96_1 hI)
    refine ⟨fun c13 => ?_, fun c13 => ?_⟩
    · skip
      have dc13 := q10.2 c13
      exact hQ (-10000) (show (-2147483648 : Int) ≤ (-10000) ∧ (-10000) ≤ (2147483647 : Int) from by omega)
    · skip
      have dc13 := q10.1 c13
      refine ⟨(show (0 : Int) ≤ 174 + (5 * a1) ∧ 174 + (5 * a1) < (1538 : Int) from by omega), ?_⟩
      have b14 : (-2147483648) ≤ s.1 96 (174 + (5 * a1)) ∧ s.1 96 (174 + (5 * a1)) ≤ 2147483647 := iv_full hI
      refine ⟨(show lf_R (s.1 96 (174 + (5 * a1))) from lf_Rof (by omega)), ?_⟩
      refine ⟨fun c15 => ?_, fun c15 => ?_⟩
      · skip
        replace c15 : s.1 96 (174 + (5 * a1)) ≠ 1 := c15
        exact hQ (-10000) (show (-2147483648 : Int) ≤ (-10000) ∧ (-10000) ≤ (2147483647 : Int) from by omega)
      · skip
        replace c15 : ¬ (s.1 96 (174 + (5 * a1)) ≠ 1) := c15
        refine sm_320 hI (show (0 : Int) ≤ a1 ∧ a1 ≤ (15 : Int) from by omega) (fun r37 q16 => ?_)
        exact hQ r37 (show (-2147483648 : Int) ≤ r37 ∧ r37 ≤ (2147483647 : Int) from by omega)
-- fm_65c Stand.sum 29
theorem sm_65c_p10 {X10 : Int → Int → lf_Z → Prop} {Q : Int → lf_Z → Prop} {x1 : Int} {x3 : Int} {x4 : Int} {s : lf_Z} (hQ : ∀ (r : Int), ((-2147483648) ≤ r ∧ r ≤ 2147483647) → Q r s) {M10 : Nat} (hX10 : ∀ (x1 : Int) (x4 : Int), (-2147483648) ≤ x1 ∧ x1 ≤ 2147483647 → 0 ≤ x4 ∧ x4 ≤ 4 → (4 - x4).toNat < M10 → X10 x1 x4 s) (hM10 : (4 - x4).toNat ≤ M10) (hI : iv_A s.1 s.2.2) (bx1 : (-2147483648) ≤ x1 ∧ x1 ≤ 2147483647) (bx3 : 4 ≤ x3 ∧ x3 ≤ 4) (bx4 : 0 ≤ x4 ∧ x4 ≤ 4) : fm_65c_p10 Q x3 X10 x1 x4 s := by
  unfold fm_65c_p10
  refine ⟨(show lf_R x4 from lf_Rof (by omega)), ?_⟩
  refine ⟨(show lf_R x3 from lf_Rof (by omega)), ?_⟩
  refine ⟨fun c1 => ?_, fun c1 => ?_⟩
  · skip
    replace c1 : x3 ≤ x4 := c1
    exact hQ x1 (show (-2147483648 : Int) ≤ x1 ∧ x1 ≤ (2147483647 : Int) from by omega)
  · skip
    replace c1 : ¬ (x3 ≤ x4) := c1
    refine ⟨(show (0 : Int) ≤ x4 ∧ x4 < (4 : Int) from by omega), ?_⟩
    have b2 : (-2147483648) ≤ s.1 29 x4 ∧ s.1 29 x4 ≤ 2147483647 := iv_full hI
    have b3 : (-2147483648) ≤ lf_w (x1 + (s.1 29 x4)) ∧ lf_w (x1 + (s.1 29 x4)) ≤ 2147483647 := lf_wB
    exact hX10 (lf_w (x1 + (s.1 29 x4))) (x4 + 1) (show (-2147483648 : Int) ≤ lf_w (x1 + (s.1 29 x4)) ∧ lf_w (x1 + (s.1 29 x4)) ≤ (2147483647 : Int) from by omega) (show (0 : Int) ≤ x4 + 1 ∧ x4 + 1 ≤ (4 : Int) from by omega) (show (4 - (x4 + 1)).toNat < M10 from by omega)
theorem sm_65c_p10L {Q : Int → lf_Z → Prop} {x1 : Int} {x3 : Int} {x4 : Int} {s : lf_Z} (hQ : ∀ (r : Int), ((-2147483648) ≤ r ∧ r ≤ 2147483647) → Q r s) (hI : iv_A s.1 s.2.2) (bx1 : (-2147483648) ≤ x1 ∧ x1 ≤ 2147483647) (bx3 : 4 ≤ x3 ∧ x3 ≤ 4) (bx4 : 0 ≤ x4 ∧ x4 ≤ 4) : fm_65c_p10L Q x1 x3 x4 s := by
  intro X10 hX
  have key : ∀ (m9 : Nat) (x1 : Int) (x4 : Int), (-2147483648) ≤ x1 ∧ x1 ≤ 2147483647 → 0 ≤ x4 ∧ x4 ≤ 4 → (4 - x4).toNat < m9 → X10 x1 x4 s := by
    intro m9
    induction m9 with
    | zero => intro x1 x4 bx1 bx4 h9; exact absurd h9 (Nat.not_lt_zero _)
    | succ m9 ih => intro x1 x4 bx1 bx4 h9; exact hX _ _ _ (sm_65c_p10 hQ   (fun x1' x4' bx1' bx4' h8 => ih x1' x4' bx1' bx4' (by omega)) (Nat.le_refl _)  hI  bx1 bx3 bx4  )
  exact key _ _ _ bx1 bx4   (Nat.lt_succ_self _)
theorem sm_65c {Q : Int → lf_Z → Prop} {s : lf_Z} (hI : iv_A s.1 s.2.2) (hQ : ∀ (r : Int), ((-2147483648) ≤ r ∧ r ≤ 2147483647) → Q r s) : fm_65c Q s := by
  unfold fm_65c
  exact sm_65c_p10L hQ hI (show (-2147483648 : Int) ≤ 0 ∧ 0 ≤ (2147483647 : Int) from by omega) (show (4 : Int) ≤ 4 ∧ 4 ≤ (4 : Int) from by omega) (show (0 : Int) ≤ 0 ∧ 0 ≤ (4 : Int) from by omega)
-- fm_168 Notes.allTries 25
theorem sm_168 {Q : Int → lf_Z → Prop} {s : lf_Z} (hI : iv_A s.1 s.2.2) (hQ : ∀ (r : Int), ((-2147483648) ≤ r ∧ r ≤ 2147483647) → Q r s) : fm_168 Q s := by
  unfold fm_168
  refine sm_65c hI (fun r22 q1 => ?_)
  exact hQ r22 (show (-2147483648 : Int) ≤ r22 ∧ r22 ≤ (2147483647 : Int) from by omega)
-- fm_167 Notes.forgetTries 25
theorem sm_167 {Q : lf_Z → Prop} {s : lf_Z} (hI : iv_A s.1 s.2.2) (hQ : ∀  (s' : lf_Z), iv_A s'.1 s'.2.2 → lf_fq [29, 30] 1000000 true s.1 s.2.2 s'.1 s'.2.2 → Q  s') : fm_167 Q s := by
  unfold fm_167
  have hI1 : iv_A (lf_fl s.1 29 4 0) s.2.2 := iv_fl29 hI (by omega)
  have fr2 : lf_fq [29, 30] 1000000 true s.1 s.2.2 (lf_fl s.1 29 4 0) s.2.2 := lf_fq_fl (lf_fq_rf) rfl (by decide)
  have hI3 : iv_A (lf_fl (lf_fl s.1 29 4 0) 30 4 0) s.2.2 := iv_fl30 hI1 (by omega)
  have fr4 : lf_fq [29, 30] 1000000 true s.1 s.2.2 (lf_fl (lf_fl s.1 29 4 0) 30 4 0) s.2.2 := lf_fq_fl fr2 rfl (by decide)
  exact hQ (lf_fl (lf_fl s.1 29 4 0) 30 4 0, s.2.1, s.2.2) hI3 fr4
-- fm_166 ElevenBullocks.tried 0 i i
theorem sm_166_p70 {Q : Int → lf_Z → Prop} {y1 : Int} {y2 : Int} {y3 : Int} {s : lf_Z} (hQ : ∀ (r : Int) (s' : lf_Z), iv_A s'.1 s'.2.2 → lf_fq [29, 30] 1000000 true s.1 s.2.2 s'.1 s'.2.2 → ((-2147483648) ≤ r ∧ r ≤ 2147483647) → Q r s') (hI : iv_A s.1 s.2.2) (by1 : 0 ≤ y1 ∧ y1 ≤ 3) (by2 : (-2147483648) ≤ y2 ∧ y2 ≤ 2147483647) (by3 : 0 ≤ y3 ∧ y3 ≤ 1) : fm_166_p70 Q y1 y2 y3 s := by
  unfold fm_166_p70
  have b12 : (-2147483648) ≤ lf_w (y2 + y3) ∧ lf_w (y2 + y3) ≤ 2147483647 := lf_wB
  refine ⟨(show (0 : Int) ≤ y1 ∧ y1 < (4 : Int) from by omega), ?_⟩
  have hI13 : iv_A (lf_up s.1 30 y1 (lf_w (y2 + y3))) s.2.2 := iv_w30 hI (by omega)
  have fr14 : lf_fq [29, 30] 1000000 true s.1 s.2.2 (lf_up s.1 30 y1 (lf_w (y2 + y3))) s.2.2 := lf_fq_up (lf_fq_rf) rfl (fun h => absurd h (by decide))
  refine sm_168 hI13 (fun r31 q15 => ?_)
  exact hQ r31 (lf_up s.1 30 y1 (lf_w (y2 + y3)), s.2.1, s.2.2) hI13 fr14 (show (-2147483648 : Int) ≤ r31 ∧ r31 ≤ (2147483647 : Int) from by omega)
theorem sm_166 {a1 : Int} {a2 : Int} {Q : Int → lf_Z → Prop} {s : lf_Z} (hI : iv_A s.1 s.2.2) (ba1 : (-2147483648) ≤ a1 ∧ a1 ≤ 2147483647) (ba2 : 0 ≤ a2 ∧ a2 ≤ 1) (hQ : ∀ (r : Int) (s' : lf_Z), iv_A s'.1 s'.2.2 → lf_fq [29, 30] 1000000 true s.1 s.2.2 s'.1 s'.2.2 → ((-2147483648) ≤ r ∧ r ≤ 2147483647) → Q r s') : fm_166 a1 a2 Q s := by
  unfold fm_166
  refine ⟨(show lf_R a1 from lf_Rof (by omega)), ?_⟩
  refine ⟨fun c1 => ?_, fun c1 => ?_⟩
  · skip
    replace c1 : a1 ≠ (-1) := c1
    refine sm_15 hI (show (-2147483648 : Int) ≤ a1 ∧ a1 ≤ (2147483647 : Int) from by omega) (show (-1 : Int) ≤ 0 ∧ 0 ≤ (99 : Int) from by omega) (show (-2147483648 : Int) ≤ 3 ∧ 3 ≤ (2147483647 : Int) from by omega) (fun z23 q2 => ?_)
    refine ⟨fun c3 => ?_, fun c3 => ?_⟩
    · skip
      have dc3 := q2.2 c3
      exact hQ (-2) s hI (lf_fq_rf) (show (-2147483648 : Int) ≤ (-2) ∧ (-2) ≤ (2147483647 : Int) from by omega)
    · skip
      have dc3 := q2.1 c3
      refine sm_168 hI (fun r25 q4 => ?_)
      refine ⟨(show lf_R r25 from lf_Rof (by omega)), ?_⟩
      refine ⟨fun c5 => ?_, fun c5 => ?_⟩
      · skip
        replace c5 : r25 < 12 := c5
        refine ⟨(show (0 : Int) ≤ a1 ∧ a1 < (4 : Int) from by omega), ?_⟩
        have b6 : (-2147483648) ≤ s.1 29 a1 ∧ s.1 29 a1 ≤ 2147483647 := iv_full hI
        have b7 : (-2147483648) ≤ lf_w ((s.1 29 a1) + 1) ∧ lf_w ((s.1 29 a1) + 1) ≤ 2147483647 := lf_wB
        have hI8 : iv_A (lf_up s.1 29 a1 (lf_w ((s.1 29 a1) + 1))) s.2.2 := iv_w29 hI (by omega)
        have fr9 : lf_fq [29, 30] 1000000 true s.1 s.2.2 (lf_up s.1 29 a1 (lf_w ((s.1 29 a1) + 1))) s.2.2 := lf_fq_up (lf_fq_rf) rfl (fun h => absurd h (by decide))
        have b10 : (-2147483648) ≤ s.1 30 a1 ∧ s.1 30 a1 ≤ 2147483647 := (show (-2147483648) ≤ (lf_up s.1 29 a1 (lf_w ((s.1 29 a1) + 1))) 30 a1 ∧ (lf_up s.1 29 a1 (lf_w ((s.1 29 a1) + 1))) 30 a1 ≤ 2147483647 from iv_full hI8)
        refine ⟨(show lf_R a2 from lf_Rof (by omega)), ?_⟩
        refine ⟨fun c11 => ?_, fun c11 => ?_⟩
        · skip
          replace c11 : a2 = 0 := c11
          exact sm_166_p70 (fun r9 t9 i9 f9 => hQ r9 t9 i9 (lf_fq_tr fr9 f9)) hI8 (show (0 : Int) ≤ a1 ∧ a1 ≤ (3 : Int) from by omega) (show (-2147483648 : Int) ≤ s.1 30 a1 ∧ s.1 30 a1 ≤ (2147483647 : Int) from by omega) (show (0 : Int) ≤ 0 ∧ 0 ≤ (1 : Int) from by omega)
        · skip
          replace c11 : ¬ (a2 = 0) := c11
          exact sm_166_p70 (fun r9 t9 i9 f9 => hQ r9 t9 i9 (lf_fq_tr fr9 f9)) hI8 (show (0 : Int) ≤ a1 ∧ a1 ≤ (3 : Int) from by omega) (show (-2147483648 : Int) ≤ s.1 30 a1 ∧ s.1 30 a1 ≤ (2147483647 : Int) from by omega) (show (0 : Int) ≤ 1 ∧ 1 ≤ (1 : Int) from by omega)
      · skip
        replace c5 : ¬ (r25 < 12) := c5
        exact hQ (-2) s hI (lf_fq_rf) (show (-2147483648 : Int) ≤ (-2) ∧ (-2) ≤ (2147483647 : Int) from by omega)
  · skip
    replace c1 : ¬ (a1 ≠ (-1)) := c1
    refine sm_167 hI (fun s32 hI17 fr16 => ?_)
    have fr19 : lf_fq [29, 30] 1000000 true s.1 s.2.2 s32.1 s32.2.2 := lf_fq_tr (lf_fq_rf) (lf_fq_wk fr16 rfl (by decide) (by decide))
    exact hQ 0 s32 hI17 fr19 (show (-2147483648 : Int) ≤ 0 ∧ 0 ≤ (2147483647 : Int) from by omega)
-- fm_321 Model.tried 95 i i
theorem sm_321_p86 {Q : Int → lf_Z → Prop} {y1 : Int} {y2 : Int} {s : lf_Z} (hQ : ∀ (r : Int) (s' : lf_Z), iv_A s'.1 s'.2.2 → lf_fq [96, 1000] 11 true s.1 s.2.2 s'.1 s'.2.2 → ((-2) ≤ r ∧ r ≤ 13) → Q r s') (hI : iv_A s.1 s.2.2) (by1 : 255 ≤ y1 ∧ y1 ≤ 277) (by2 : 0 ≤ y2 ∧ y2 ≤ 1) (kv0 : s.1 96 11 < 12) : fm_321_p86 Q y1 y2 s := by
  unfold fm_321_p86
  refine ⟨(show (0 : Int) ≤ y1 ∧ y1 < (1538 : Int) from by omega), ?_⟩
  have hI11 : iv_A (lf_up s.1 96 y1 y2) s.2.2 := iv_wd96 hI (lf_le2 (iv_f84ea52dc (y1) (by omega) (by omega)) (by omega)) (fun h => absurd h (by omega))
  have fr12 : lf_fq [96, 1000] 11 true s.1 s.2.2 (lf_up s.1 96 y1 y2) s.2.2 := lf_fq_up (lf_fq_rf) rfl (fun _ => ⟨by omega, fr_o (Or.inl rfl) (Or.inr (fr_n1 (by omega))) (Or.inr (fr_n2 (by omega))) (Or.inr (fr_n3 (by omega))) (Or.inr (fr_n4 (by omega))) (Or.inr (fr_n5 (by omega))) (Or.inr (fr_n6 (by omega)))⟩)
  have b13 : 0 ≤ (lf_up s.1 96 y1 y2) 96 11 ∧ (lf_up s.1 96 y1 y2) 96 11 ≤ 12 := iv_rd96 hI11 (iv_f6cd46d53 (by omega))
  have b14 : (lf_up s.1 96 y1 y2) 96 11 = s.1 96 11 := lf_up_i (by omega)
  have hI15 : iv_A (lf_up (lf_up s.1 96 y1 y2) 96 11 (((lf_up s.1 96 y1 y2) 96 11) + 1)) s.2.2 := iv_wd96 hI11 (lf_le2 (iv_f9442898f (by omega)) (by omega)) (fun h => absurd h (by omega))
  have fr16 : lf_fq [96, 1000] 11 true s.1 s.2.2 (lf_up (lf_up s.1 96 y1 y2) 96 11 (((lf_up s.1 96 y1 y2) 96 11) + 1)) s.2.2 := lf_fq_up fr12 rfl (fun _ => ⟨by omega, fr_o (Or.inl rfl) (Or.inr (fr_n1 (by omega))) (Or.inr (fr_n2 (by omega))) (Or.inr (fr_n3 (by omega))) (Or.inr (fr_n4 (by omega))) (Or.inr (fr_n5 (by omega))) (Or.inr (fr_n6 (by omega)))⟩)
  exact hQ (((lf_up s.1 96 y1 y2) 96 11) + 1) (lf_up (lf_up s.1 96 y1 y2) 96 11 (((lf_up s.1 96 y1 y2) 96 11) + 1), s.2.1, s.2.2) hI15 fr16 (show (-2 : Int) ≤ ((lf_up s.1 96 y1 y2) 96 11) + 1 ∧ ((lf_up s.1 96 y1 y2) 96 11) + 1 ≤ (13 : Int) from by omega)
theorem sm_321 {a1 : Int} {a2 : Int} {Q : Int → lf_Z → Prop} {s : lf_Z} (hI : iv_A s.1 s.2.2) (ba1 : (-2147483648) ≤ a1 ∧ a1 ≤ 2147483647) (ba2 : 0 ≤ a2 ∧ a2 ≤ 1) (hQ : ∀ (r : Int) (s' : lf_Z), iv_A s'.1 s'.2.2 → lf_fq [96, 1000] 11 true s.1 s.2.2 s'.1 s'.2.2 → ((-2) ≤ r ∧ r ≤ 13) → Q r s') : fm_321 a1 a2 Q s := by
  unfold fm_321
  refine ⟨(show lf_R a1 from lf_Rof (by omega)), ?_⟩
  refine ⟨fun c1 => ?_, fun c1 => ?_⟩
  · skip
    replace c1 : a1 ≠ (-1) := c1
    refine sm_183 hI (show (-2147483648 : Int) ≤ a1 ∧ a1 ≤ (2147483647 : Int) from by omega) (show (-1 : Int) ≤ 0 ∧ 0 ≤ (97 : Int) from by omega) (show (-1 : Int) ≤ 3 ∧ 3 ≤ (9999 : Int) from by omega) (fun z23 q2 => ?_)
    refine ⟨fun c3 => ?_, fun c3 => ?_⟩
    · skip
      have dc3 := q2.2 c3
      exact hQ (-2) s hI (lf_fq_rf) (show (-2 : Int) ≤ (-2) ∧ (-2) ≤ (13 : Int) from by omega)
    · skip
      have dc3 := q2.1 c3
      have b4 : 0 ≤ s.1 96 11 ∧ s.1 96 11 ≤ 12 := iv_rd96 hI (iv_f6cd46d53 (by omega))
      refine ⟨(show lf_R (s.1 96 11) from lf_Rof (by omega)), ?_⟩
      refine ⟨fun c5 => ?_, fun c5 => ?_⟩
      · skip
        replace c5 : s.1 96 11 ≠ 12 := c5
        refine ⟨(show (0 : Int) ≤ 254 + (2 * (s.1 96 11)) ∧ 254 + (2 * (s.1 96 11)) < (1538 : Int) from by omega), ?_⟩
        have hI6 : iv_A (lf_up s.1 96 (254 + (2 * (s.1 96 11))) a1) s.2.2 := iv_wd96 hI (lf_le2 (iv_fd5258eed (s.1 96 11) (by omega) (by omega)) (by omega)) (fun h => absurd h (by omega))
        have fr7 : lf_fq [96, 1000] 11 true s.1 s.2.2 (lf_up s.1 96 (254 + (2 * (s.1 96 11))) a1) s.2.2 := lf_fq_up (lf_fq_rf) rfl (fun _ => ⟨by omega, fr_o (Or.inl rfl) (Or.inr (fr_n1 (by omega))) (Or.inr (fr_n2 (by omega))) (Or.inr (fr_n3 (by omega))) (Or.inr (fr_n4 (by omega))) (Or.inr (fr_n5 (by omega))) (Or.inr (fr_n6 (by omega)))⟩)
        have b8 : 0 ≤ (lf_up s.1 96 (254 + (2 * (s.1 96 11))) a1) 96 11 ∧ (lf_up s.1 96 (254 + (2 * (s.1 96 11))) a1) 96 11 ≤ 12 := iv_rd96 hI6 (iv_f6cd46d53 (by omega))
        have b9 : (lf_up s.1 96 (254 + (2 * (s.1 96 11))) a1) 96 11 = s.1 96 11 := lf_up_i (by omega)
        refine ⟨(show lf_R a2 from lf_Rof (by omega)), ?_⟩
        refine ⟨fun c10 => ?_, fun c10 => ?_⟩
        · skip
          replace c10 : a2 = 0 := c10
          exact sm_321_p86 (fun r9 t9 i9 f9 => hQ r9 t9 i9 (lf_fq_tr fr7 f9)) hI6 (show (255 : Int) ≤ (254 + (2 * ((lf_up s.1 96 (254 + (2 * (s.1 96 11))) a1) 96 11))) + 1 ∧ (254 + (2 * ((lf_up s.1 96 (254 + (2 * (s.1 96 11))) a1) 96 11))) + 1 ≤ (277 : Int) from by omega) (show (0 : Int) ≤ 0 ∧ 0 ≤ (1 : Int) from by omega) (show ((lf_up s.1 96 (254 + (2 * (s.1 96 11))) a1) 96 11) < 12 from by omega)
        · skip
          replace c10 : ¬ (a2 = 0) := c10
          exact sm_321_p86 (fun r9 t9 i9 f9 => hQ r9 t9 i9 (lf_fq_tr fr7 f9)) hI6 (show (255 : Int) ≤ (254 + (2 * ((lf_up s.1 96 (254 + (2 * (s.1 96 11))) a1) 96 11))) + 1 ∧ (254 + (2 * ((lf_up s.1 96 (254 + (2 * (s.1 96 11))) a1) 96 11))) + 1 ≤ (277 : Int) from by omega) (show (0 : Int) ≤ 1 ∧ 1 ≤ (1 : Int) from by omega) (show ((lf_up s.1 96 (254 + (2 * (s.1 96 11))) a1) 96 11) < 12 from by omega)
      · skip
        replace c5 : ¬ (s.1 96 11 ≠ 12) := c5
        exact hQ (-2) s hI (lf_fq_rf) (show (-2 : Int) ≤ (-2) ∧ (-2) ≤ (13 : Int) from by omega)
  · skip
    replace c1 : ¬ (a1 ≠ (-1)) := c1
    have hI17 : iv_A (lf_up s.1 96 11 0) s.2.2 := iv_wd96 hI (lf_le2 (iv_f9442898f (by omega)) (by omega)) (fun h => absurd h (by omega))
    have fr18 : lf_fq [96, 1000] 11 true s.1 s.2.2 (lf_up s.1 96 11 0) s.2.2 := lf_fq_up (lf_fq_rf) rfl (fun _ => ⟨by omega, fr_o (Or.inl rfl) (Or.inr (fr_n1 (by omega))) (Or.inr (fr_n2 (by omega))) (Or.inr (fr_n3 (by omega))) (Or.inr (fr_n4 (by omega))) (Or.inr (fr_n5 (by omega))) (Or.inr (fr_n6 (by omega)))⟩)
    exact hQ 0 (lf_up s.1 96 11 0, s.2.1, s.2.2) hI17 fr18 (show (-2 : Int) ≤ 0 ∧ 0 ≤ (13 : Int) from by omega)
-- fm_169 ElevenBullocks.turned 0 i i
theorem sm_169 {a1 : Int} {a2 : Int} {Q : Int → lf_Z → Prop} {s : lf_Z} (hI : iv_A s.1 s.2.2) (ba1 : (-2147483648) ≤ a1 ∧ a1 ≤ 2147483647) (ba2 : 0 ≤ a2 ∧ a2 ≤ 1) (hQ : ∀ (r : Int), ((-2147483648) ≤ r ∧ r ≤ 2147483647) → Q r s) : fm_169 a1 a2 Q s := by
  unfold fm_169
  refine sm_15 hI (show (-2147483648 : Int) ≤ a1 ∧ a1 ≤ (2147483647 : Int) from by omega) (show (-1 : Int) ≤ 0 ∧ 0 ≤ (99 : Int) from by omega) (show (-2147483648 : Int) ≤ 3 ∧ 3 ≤ (2147483647 : Int) from by omega) (fun z22 q1 => ?_)
  refine ⟨fun c2 => ?_, fun c2 => ?_⟩
  · skip
    have dc2 := q1.2 c2
    exact hQ (-1) (show (-2147483648 : Int) ≤ (-1) ∧ (-1) ≤ (2147483647 : Int) from by omega)
  · skip
    have dc2 := q1.1 c2
    refine ⟨(show (0 : Int) ≤ a1 ∧ a1 < (4 : Int) from by omega), ?_⟩
    have b3 : (-2147483648) ≤ s.1 29 a1 ∧ s.1 29 a1 ≤ 2147483647 := iv_full hI
    refine ⟨(show lf_R (s.1 29 a1) from lf_Rof (by omega)), ?_⟩
    refine ⟨fun c4 => ?_, fun c4 => ?_⟩
    · skip
      replace c4 : s.1 29 a1 ≠ 0 := c4
      have b5 : (-2147483648) ≤ s.1 30 a1 ∧ s.1 30 a1 ≤ 2147483647 := iv_full hI
      refine ⟨(show lf_R (s.1 30 a1) from lf_Rof (by omega)), ?_⟩
      refine sm_125 hI (show (0 : Int) ≤ a2 ∧ a2 ≤ (1 : Int) from by omega) (fun r27 => ?_)
      have b7 : (-2147483648) ≤ lf_w (lf_wl r27) ∧ lf_w (lf_wl r27) ≤ 2147483647 := lf_wB
      exact hQ (lf_w (lf_wl r27)) (show (-2147483648 : Int) ≤ lf_w (lf_wl r27) ∧ lf_w (lf_wl r27) ≤ (2147483647 : Int) from by omega)
    · skip
      replace c4 : ¬ (s.1 29 a1 ≠ 0) := c4
      exact hQ (-1) (show (-2147483648 : Int) ≤ (-1) ∧ (-1) ≤ (2147483647 : Int) from by omega)
-- fm_323 Model.timesOf 95 i i
theorem sm_323_p63 {X5 : Int → Int → lf_Z → Prop} {Q : Int → lf_Z → Prop} {x1 : Int} {x2 : Int} {x4 : Int} {y0 : Int} {y1 : Int} {s : lf_Z} {s0 : lf_Z} (hQ : ∀ (r : Int), (r = lf_tm (s.1 96) (x1) (x2) (s.1 96 11)) → (0 ≤ r ∧ r ≤ 12) → Q r s) {M5 : Nat} (hX5 : ∀ (x3 : Int) (x4 : Int), 0 ≤ x3 ∧ x3 ≤ 12 → 0 ≤ x4 ∧ x4 ≤ 12 → (x3 = lf_tm (s.1 96) (x1) (x2) (x4)) → (0 ≤ x3 ∧ x3 ≤ x4 ∧ x4 ≤ s.1 96 11) → (12 - x4).toNat < M5 → X5 x3 x4 s) (hM5 : (12 - x4).toNat ≤ M5) (hI : iv_A s.1 s.2.2) (bx1 : (-1) ≤ x1 ∧ x1 ≤ 3) (bx2 : 0 ≤ x2 ∧ x2 ≤ 1) (bx4 : 0 ≤ x4 ∧ x4 ≤ 11) (by0 : 0 ≤ y0 ∧ y0 ≤ 11) (by1 : 0 ≤ y1 ∧ y1 ≤ 1) (kv0 : lf_tm (s.1 96) (x1) (x2) (x4 + 1) = y0 + y1) (kv1 : 0 ≤ y0 ∧ y0 ≤ x4 ∧ x4 < s.1 96 11) : fm_323_p63 X5 Q x1 x2 x4 y0 y1 s := by
  unfold fm_323_p63
  have b10 : 0 ≤ s.1 96 11 ∧ s.1 96 11 ≤ 12 := iv_rd96 hI (iv_f6cd46d53 (by omega))
  have b11 : lf_tm ((s.1 96)) (x1) (x2) 0 = 0 := rfl
  exact hX5 (y0 + y1) (x4 + 1) (show (0 : Int) ≤ y0 + y1 ∧ y0 + y1 ≤ (12 : Int) from by omega) (show (0 : Int) ≤ x4 + 1 ∧ x4 + 1 ≤ (12 : Int) from by omega) (show (y0 + y1) = lf_tm ((s.1 96)) (x1) (x2) ((x4 + 1)) from by omega) (show 0 ≤ (y0 + y1) ∧ (y0 + y1) ≤ (x4 + 1) ∧ (x4 + 1) ≤ (s.1 96 11) from by omega) (show (12 - (x4 + 1)).toNat < M5 from by omega)
theorem sm_323_p62 {X5 : Int → Int → lf_Z → Prop} {Q : Int → lf_Z → Prop} {x1 : Int} {x2 : Int} {x4 : Int} {y0 : Int} {s : lf_Z} {s0 : lf_Z} (hQ : ∀ (r : Int), (r = lf_tm (s.1 96) (x1) (x2) (s.1 96 11)) → (0 ≤ r ∧ r ≤ 12) → Q r s) {M5 : Nat} (hX5 : ∀ (x3 : Int) (x4 : Int), 0 ≤ x3 ∧ x3 ≤ 12 → 0 ≤ x4 ∧ x4 ≤ 12 → (x3 = lf_tm (s.1 96) (x1) (x2) (x4)) → (0 ≤ x3 ∧ x3 ≤ x4 ∧ x4 ≤ s.1 96 11) → (12 - x4).toNat < M5 → X5 x3 x4 s) (hM5 : (12 - x4).toNat ≤ M5) (hI : iv_A s.1 s.2.2) (bx1 : (-1) ≤ x1 ∧ x1 ≤ 3) (bx2 : 0 ≤ x2 ∧ x2 ≤ 1) (bx4 : 0 ≤ x4 ∧ x4 ≤ 11) (by0 : 0 ≤ y0 ∧ y0 ≤ 11) (kv0 : lf_tm (s.1 96) (x1) (x2) (x4 + 1) = y0 + 0) (kv1 : 0 ≤ y0 ∧ y0 ≤ x4 ∧ x4 < s.1 96 11) : fm_323_p62 X5 Q x1 x2 x4 y0 s := by
  unfold fm_323_p62
  have b9 : 0 ≤ s.1 96 11 ∧ s.1 96 11 ≤ 12 := iv_rd96 hI (iv_f6cd46d53 (by omega))
  exact sm_323_p63 (s0 := s0) hQ hX5 (show (12 - x4).toNat ≤ M5 from by omega) hI (show (-1 : Int) ≤ x1 ∧ x1 ≤ (3 : Int) from by omega) (show (0 : Int) ≤ x2 ∧ x2 ≤ (1 : Int) from by omega) (show (0 : Int) ≤ x4 ∧ x4 ≤ (11 : Int) from by omega) (show (0 : Int) ≤ y0 ∧ y0 ≤ (11 : Int) from by omega) (show (0 : Int) ≤ 0 ∧ 0 ≤ (1 : Int) from by omega) (show lf_tm ((s.1 96)) (x1) (x2) (x4 + 1) = y0 + 0 from by omega) (show 0 ≤ y0 ∧ y0 ≤ x4 ∧ x4 < (s.1 96 11) from by omega)
theorem sm_323_p58 {X5 : Int → Int → lf_Z → Prop} {Q : Int → lf_Z → Prop} {x1 : Int} {x2 : Int} {x4 : Int} {y0 : Int} {s : lf_Z} {s0 : lf_Z} (hQ : ∀ (r : Int), (r = lf_tm (s.1 96) (x1) (x2) (s.1 96 11)) → (0 ≤ r ∧ r ≤ 12) → Q r s) {M5 : Nat} (hX5 : ∀ (x3 : Int) (x4 : Int), 0 ≤ x3 ∧ x3 ≤ 12 → 0 ≤ x4 ∧ x4 ≤ 12 → (x3 = lf_tm (s.1 96) (x1) (x2) (x4)) → (0 ≤ x3 ∧ x3 ≤ x4 ∧ x4 ≤ s.1 96 11) → (12 - x4).toNat < M5 → X5 x3 x4 s) (hM5 : (12 - x4).toNat ≤ M5) (hI : iv_A s.1 s.2.2) (bx1 : (-1) ≤ x1 ∧ x1 ≤ 3) (bx2 : 0 ≤ x2 ∧ x2 ≤ 1) (bx4 : 0 ≤ x4 ∧ x4 ≤ 11) (by0 : 0 ≤ y0 ∧ y0 ≤ 11) (kv0 : lf_tm (s.1 96) (x1) (x2) (x4 + 1) = y0 + 1) (kv1 : 0 ≤ y0 ∧ y0 ≤ x4 ∧ x4 < s.1 96 11) : fm_323_p58 X5 Q x1 x2 x4 y0 s := by
  unfold fm_323_p58
  have b14 : 0 ≤ s.1 96 11 ∧ s.1 96 11 ≤ 12 := iv_rd96 hI (iv_f6cd46d53 (by omega))
  exact sm_323_p63 (s0 := s0) hQ hX5 (show (12 - x4).toNat ≤ M5 from by omega) hI (show (-1 : Int) ≤ x1 ∧ x1 ≤ (3 : Int) from by omega) (show (0 : Int) ≤ x2 ∧ x2 ≤ (1 : Int) from by omega) (show (0 : Int) ≤ x4 ∧ x4 ≤ (11 : Int) from by omega) (show (0 : Int) ≤ y0 ∧ y0 ≤ (11 : Int) from by omega) (show (0 : Int) ≤ 1 ∧ 1 ≤ (1 : Int) from by omega) (show lf_tm ((s.1 96)) (x1) (x2) (x4 + 1) = y0 + 1 from by omega) (show 0 ≤ y0 ∧ y0 ≤ x4 ∧ x4 < (s.1 96 11) from by omega)
theorem sm_323_p5 {X5 : Int → Int → lf_Z → Prop} {Q : Int → lf_Z → Prop} {x1 : Int} {x2 : Int} {x3 : Int} {x4 : Int} {s : lf_Z} {s0 : lf_Z} (hQ : ∀ (r : Int), (r = lf_tm (s.1 96) (x1) (x2) (s.1 96 11)) → (0 ≤ r ∧ r ≤ 12) → Q r s) {M5 : Nat} (hX5 : ∀ (x3 : Int) (x4 : Int), 0 ≤ x3 ∧ x3 ≤ 12 → 0 ≤ x4 ∧ x4 ≤ 12 → (x3 = lf_tm (s.1 96) (x1) (x2) (x4)) → (0 ≤ x3 ∧ x3 ≤ x4 ∧ x4 ≤ s.1 96 11) → (12 - x4).toNat < M5 → X5 x3 x4 s) (hM5 : (12 - x4).toNat ≤ M5) (hI : iv_A s.1 s.2.2) (bx1 : (-1) ≤ x1 ∧ x1 ≤ 3) (bx2 : 0 ≤ x2 ∧ x2 ≤ 1) (bx3 : 0 ≤ x3 ∧ x3 ≤ 12) (bx4 : 0 ≤ x4 ∧ x4 ≤ 12) (kv0 : x3 = lf_tm (s.1 96) (x1) (x2) (x4)) (kv1 : 0 ≤ x3 ∧ x3 ≤ x4 ∧ x4 ≤ s.1 96 11) : fm_323_p5 Q x1 x2 X5 x3 x4 s := by
  unfold fm_323_p5
  have b3 : 0 ≤ s.1 96 11 ∧ s.1 96 11 ≤ 12 := iv_rd96 hI (iv_f6cd46d53 (by omega))
  refine ⟨(show lf_R x4 from lf_Rof (by omega)), ?_⟩
  refine ⟨(show lf_R (s.1 96 11) from lf_Rof (by omega)), ?_⟩
  refine ⟨fun c4 => ?_, fun c4 => ?_⟩
  · skip
    replace c4 : s.1 96 11 ≤ x4 := c4
    have b5 : lf_tm ((s.1 96)) (x1) (x2) (x4) = lf_tm ((s.1 96)) (x1) (x2) ((s.1 96 11)) := congrArg (lf_tm ((s.1 96)) x1 x2) (by omega)
    exact hQ x3 (show x3 = lf_tm ((s.1 96)) (x1) (x2) ((s.1 96 11)) from by omega) (show (0 : Int) ≤ x3 ∧ x3 ≤ (12 : Int) from by omega)
  · skip
    replace c4 : ¬ (s.1 96 11 ≤ x4) := c4
    refine ⟨(show (0 : Int) ≤ 254 + (2 * x4) ∧ 254 + (2 * x4) < (1538 : Int) from by omega), ?_⟩
    have b6 : (-2147483648) ≤ s.1 96 (254 + (2 * x4)) ∧ s.1 96 (254 + (2 * x4)) ≤ 2147483647 := iv_full hI
    refine ⟨(show lf_R (s.1 96 (254 + (2 * x4))) from lf_Rof (by omega)), ?_⟩
    refine ⟨(show lf_R x1 from lf_Rof (by omega)), ?_⟩
    refine ⟨fun c7 => ?_, fun c7 => ?_⟩
    · skip
      replace c7 : s.1 96 (254 + (2 * x4)) ≠ x1 := c7
      have b8 : lf_tm ((s.1 96)) (x1) (x2) (x4 + 1) = lf_tm ((s.1 96)) (x1) (x2) (x4) + 0 := lf_tm2 (by omega) (by omega)
      exact sm_323_p62 (s0 := s0) hQ hX5 (show (12 - x4).toNat ≤ M5 from by omega) hI (show (-1 : Int) ≤ x1 ∧ x1 ≤ (3 : Int) from by omega) (show (0 : Int) ≤ x2 ∧ x2 ≤ (1 : Int) from by omega) (show (0 : Int) ≤ x4 ∧ x4 ≤ (11 : Int) from by omega) (show (0 : Int) ≤ x3 ∧ x3 ≤ (11 : Int) from by omega) (show lf_tm ((s.1 96)) (x1) (x2) (x4 + 1) = x3 + 0 from by omega) (show 0 ≤ x3 ∧ x3 ≤ x4 ∧ x4 < (s.1 96 11) from by omega)
    · skip
      replace c7 : ¬ (s.1 96 (254 + (2 * x4)) ≠ x1) := c7
      refine ⟨(show lf_R x2 from lf_Rof (by omega)), ?_⟩
      refine ⟨fun c12 => ?_, fun c12 => ?_⟩
      · skip
        replace c12 : x2 = 0 := c12
        have b13 : lf_tm ((s.1 96)) (x1) (x2) (x4 + 1) = lf_tm ((s.1 96)) (x1) (x2) (x4) + 1 := lf_tm1 (by omega) (by omega)
        exact sm_323_p58 (s0 := s0) hQ hX5 (show (12 - x4).toNat ≤ M5 from by omega) hI (show (-1 : Int) ≤ x1 ∧ x1 ≤ (3 : Int) from by omega) (show (0 : Int) ≤ x2 ∧ x2 ≤ (1 : Int) from by omega) (show (0 : Int) ≤ x4 ∧ x4 ≤ (11 : Int) from by omega) (show (0 : Int) ≤ x3 ∧ x3 ≤ (11 : Int) from by omega) (show lf_tm ((s.1 96)) (x1) (x2) (x4 + 1) = x3 + 1 from by omega) (show 0 ≤ x3 ∧ x3 ≤ x4 ∧ x4 < (s.1 96 11) from by omega)
      · skip
        replace c12 : ¬ (x2 = 0) := c12
        refine ⟨(show (0 : Int) ≤ (254 + (2 * x4)) + 1 ∧ (254 + (2 * x4)) + 1 < (1538 : Int) from by omega), ?_⟩
        have b15 : (-2147483648) ≤ s.1 96 ((254 + (2 * x4)) + 1) ∧ s.1 96 ((254 + (2 * x4)) + 1) ≤ 2147483647 := iv_full hI
        refine ⟨(show lf_R (s.1 96 ((254 + (2 * x4)) + 1)) from lf_Rof (by omega)), ?_⟩
        refine ⟨fun c16 => ?_, fun c16 => ?_⟩
        · skip
          replace c16 : s.1 96 ((254 + (2 * x4)) + 1) ≠ 1 := c16
          have b17 : lf_tm ((s.1 96)) (x1) (x2) (x4 + 1) = lf_tm ((s.1 96)) (x1) (x2) (x4) + 0 := lf_tm2 (by omega) (by omega)
          exact sm_323_p62 (s0 := s0) hQ hX5 (show (12 - x4).toNat ≤ M5 from by omega) hI (show (-1 : Int) ≤ x1 ∧ x1 ≤ (3 : Int) from by omega) (show (0 : Int) ≤ x2 ∧ x2 ≤ (1 : Int) from by omega) (show (0 : Int) ≤ x4 ∧ x4 ≤ (11 : Int) from by omega) (show (0 : Int) ≤ x3 ∧ x3 ≤ (11 : Int) from by omega) (show lf_tm ((s.1 96)) (x1) (x2) (x4 + 1) = x3 + 0 from by omega) (show 0 ≤ x3 ∧ x3 ≤ x4 ∧ x4 < (s.1 96 11) from by omega)
        · skip
          replace c16 : ¬ (s.1 96 ((254 + (2 * x4)) + 1) ≠ 1) := c16
          have b18 : lf_tm ((s.1 96)) (x1) (x2) (x4 + 1) = lf_tm ((s.1 96)) (x1) (x2) (x4) + 1 := lf_tm1 (by omega) (by omega)
          exact sm_323_p58 (s0 := s0) hQ hX5 (show (12 - x4).toNat ≤ M5 from by omega) hI (show (-1 : Int) ≤ x1 ∧ x1 ≤ (3 : Int) from by omega) (show (0 : Int) ≤ x2 ∧ x2 ≤ (1 : Int) from by omega) (show (0 : Int) ≤ x4 ∧ x4 ≤ (11 : Int) from by omega) (show (0 : Int) ≤ x3 ∧ x3 ≤ (11 : Int) from by omega) (show lf_tm ((s.1 96)) (x1) (x2) (x4 + 1) = x3 + 1 from by omega) (show 0 ≤ x3 ∧ x3 ≤ x4 ∧ x4 < (s.1 96 11) from by omega)
theorem sm_323_p5L {Q : Int → lf_Z → Prop} {x1 : Int} {x2 : Int} {x3 : Int} {x4 : Int} {s : lf_Z} {s0 : lf_Z} (hQ : ∀ (r : Int), (r = lf_tm (s.1 96) (x1) (x2) (s.1 96 11)) → (0 ≤ r ∧ r ≤ 12) → Q r s) (hI : iv_A s.1 s.2.2) (bx1 : (-1) ≤ x1 ∧ x1 ≤ 3) (bx2 : 0 ≤ x2 ∧ x2 ≤ 1) (bx3 : 0 ≤ x3 ∧ x3 ≤ 12) (bx4 : 0 ≤ x4 ∧ x4 ≤ 12) (kv0 : x3 = lf_tm (s.1 96) (x1) (x2) (x4)) (kv1 : 0 ≤ x3 ∧ x3 ≤ x4 ∧ x4 ≤ s.1 96 11) : fm_323_p5L Q x1 x2 x3 x4 s := by
  intro X5 hX
  have key : ∀ (m9 : Nat) (x3 : Int) (x4 : Int), 0 ≤ x3 ∧ x3 ≤ 12 → 0 ≤ x4 ∧ x4 ≤ 12 → (x3 = lf_tm (s.1 96) (x1) (x2) (x4)) → (0 ≤ x3 ∧ x3 ≤ x4 ∧ x4 ≤ s.1 96 11) → (12 - x4).toNat < m9 → X5 x3 x4 s := by
    intro m9
    induction m9 with
    | zero => intro x3 x4 bx3 bx4 kv0 kv1 h9; exact absurd h9 (Nat.not_lt_zero _)
    | succ m9 ih => intro x3 x4 bx3 bx4 kv0 kv1 h9; exact hX _ _ _ (sm_323_p5 (s0 := s0) hQ   (fun x3' x4' bx3' bx4' kv0' kv1' h8 => ih x3' x4' bx3' bx4' kv0' kv1' (by omega)) (Nat.le_refl _)  hI  bx1 bx2 bx3 bx4  kv0 kv1)
  exact key _ _ _ bx3 bx4  kv0 kv1 (Nat.lt_succ_self _)
theorem sm_323 {a1 : Int} {a2 : Int} {Q : Int → lf_Z → Prop} {s : lf_Z} (hI : iv_A s.1 s.2.2) (ba1 : (-1) ≤ a1 ∧ a1 ≤ 3) (ba2 : 0 ≤ a2 ∧ a2 ≤ 1) (hQ : ∀ (r : Int), (r = lf_tm (s.1 96) (a1) (a2) (s.1 96 11)) → (0 ≤ r ∧ r ≤ 12) → Q r s) : fm_323 a1 a2 Q s := by
  unfold fm_323
  have b1 : 0 ≤ s.1 96 11 ∧ s.1 96 11 ≤ 12 := iv_rd96 hI (iv_f6cd46d53 (by omega))
  have b2 : lf_tm ((s.1 96)) (a1) (a2) 0 = 0 := rfl
  exact sm_323_p5L (s0 := s) hQ hI (show (-1 : Int) ≤ a1 ∧ a1 ≤ (3 : Int) from by omega) (show (0 : Int) ≤ a2 ∧ a2 ≤ (1 : Int) from by omega) (show (0 : Int) ≤ 0 ∧ 0 ≤ (12 : Int) from by omega) (show (0 : Int) ≤ 0 ∧ 0 ≤ (12 : Int) from by omega) (show 0 = lf_tm ((s.1 96)) (a1) (a2) (0) from by omega) (show 0 ≤ 0 ∧ 0 ≤ 0 ∧ 0 ≤ (s.1 96 11) from by omega)
