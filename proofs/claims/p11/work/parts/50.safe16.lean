-- fm_291 Model.part l l i
theorem sm_291_p10 {Q : Int → lf_Z → Prop} {x0 : Int} {x2 : Int} {y0 : Int} {s : lf_Z} (hQ : ∀ (r : Int), Q r s) (hI : iv_A s.1 s.2.2) (kv0 : lf_wl x2 ≠ 0) : fm_291_p10 Q x0 x2 y0 s := by
  unfold fm_291_p10
  have b2 : lf_wl (lf_wl x0) = lf_wl x0 := lf_wlI
  have b3 : lf_wl (lf_wl x2) = lf_wl x2 := lf_wlI
  refine sm_292 hI (fun r23 q4 => ?_)
  have q4 : lf_wl (lf_wl x2) = 0 ∨ lf_wl r23 ≠ 0 := q4
  refine ⟨(show (lf_wl r23) ≠ 0 from by omega), ?_⟩
  exact hQ (lf_wl ((lf_wl y0).tdiv (lf_wl r23)))
theorem sm_291 {a0 : Int} {a1 : Int} {a2 : Int} {Q : Int → lf_Z → Prop} {s : lf_Z} (hI : iv_A s.1 s.2.2) (ba2 : 0 ≤ a2 ∧ a2 ≤ 1) (kp0 : lf_wl a1 ≠ 0) (hQ : ∀ (r : Int), Q r s) : fm_291 a0 a1 a2 Q s := by
  unfold fm_291
  refine ⟨(show lf_R a2 from lf_Rof (by omega)), ?_⟩
  refine ⟨fun c1 => ?_, fun c1 => ?_⟩
  · skip
    replace c1 : a2 = 0 := c1
    exact sm_291_p10 hQ hI (show lf_wl a1 ≠ 0 from by omega)
  · skip
    replace c1 : ¬ (a2 = 0) := c1
    exact sm_291_p10 hQ hI (show lf_wl a1 ≠ 0 from by omega)
-- fm_290 Model.spread 95 i i
theorem sm_290_p98 {X20 : Int → Int → lf_Z → Prop} {Q : lf_Z → Prop} {x1 : Int} {x2 : Int} {x3 : Int} {x4 : Int} {x6 : Int} {s : lf_Z} (hQ : ∀  (s' : lf_Z), iv_A s'.1 s'.2.2 → lf_fq [104, 107] 1000000 true s.1 s.2.2 s'.1 s'.2.2 → Q  s') {M20 : Nat} (hX20 : ∀ (x4 : Int) (x6 : Int) (s' : lf_Z), iv_A s'.1 s'.2.2 → lf_fq [104, 107] 1000000 true s.1 s.2.2 s'.1 s'.2.2 → 0 ≤ x6 ∧ x6 ≤ 16 → (16 - x6).toNat < M20 → X20 x4 x6 s') (hM20 : (16 - x6).toNat ≤ M20) (hI : iv_A s.1 s.2.2) (bx1 : 0 ≤ x1 ∧ x1 ≤ 24) (bx2 : 0 ≤ x2 ∧ x2 ≤ 155) (bx3 : 0 ≤ x3 ∧ x3 ≤ 11) (bx6 : 0 ≤ x6 ∧ x6 ≤ 15) : fm_290_p98 X20 Q x1 x2 x3 x4 x6 s := by
  unfold fm_290_p98
  exact hX20 (x4) (x6 + 1) s hI (lf_fq_rf) (show (0 : Int) ≤ x6 + 1 ∧ x6 + 1 ≤ (16 : Int) from by omega) (show (16 - (x6 + 1)).toNat < M20 from by omega)
theorem sm_290_p20 {X20 : Int → Int → lf_Z → Prop} {Q : lf_Z → Prop} {x1 : Int} {x2 : Int} {x3 : Int} {x4 : Int} {x6 : Int} {s : lf_Z} (hQ : ∀  (s' : lf_Z), iv_A s'.1 s'.2.2 → lf_fq [104, 107] 1000000 true s.1 s.2.2 s'.1 s'.2.2 → Q  s') {M20 : Nat} (hX20 : ∀ (x4 : Int) (x6 : Int) (s' : lf_Z), iv_A s'.1 s'.2.2 → lf_fq [104, 107] 1000000 true s.1 s.2.2 s'.1 s'.2.2 → 0 ≤ x6 ∧ x6 ≤ 16 → (16 - x6).toNat < M20 → X20 x4 x6 s') (hM20 : (16 - x6).toNat ≤ M20) (hI : iv_A s.1 s.2.2) (bx1 : 0 ≤ x1 ∧ x1 ≤ 24) (bx2 : 0 ≤ x2 ∧ x2 ≤ 155) (bx3 : 0 ≤ x3 ∧ x3 ≤ 11) (bx6 : 0 ≤ x6 ∧ x6 ≤ 16) : fm_290_p20 Q x1 x2 x3 X20 x4 x6 s := by
  unfold fm_290_p20
  have b2 : 0 ≤ s.1 96 1 ∧ s.1 96 1 ≤ 16 := iv_rd96 hI (iv_fd6ad3e54 (by omega))
  have b3 : s.1 96 1 ≤ 0 ∨ 0 < s.1 96 0 := (show s.1 96 1 ≤ 0 ∨ 0 < s.1 96 0 from iv_l96_1 hI)
  refine ⟨(show lf_R x6 from lf_Rof (by omega)), ?_⟩
  refine ⟨(show lf_R (s.1 96 1) from lf_Rof (by omega)), ?_⟩
  refine ⟨fun c4 => ?_, fun c4 => ?_⟩
  · skip
    replace c4 : s.1 96 1 ≤ x6 := c4
    refine ⟨(show (0 : Int) ≤ x2 ∧ x2 < (156 : Int) from by omega), ?_⟩
    exact hQ (s.1, lf_up s.2.1 110 x2 (lf_wl ((lf_wl (s.2.1 110 x2)) + (lf_wl x4))), s.2.2) hI (lf_fq_rf)
  · skip
    replace c4 : ¬ (s.1 96 1 ≤ x6) := c4
    refine ⟨(show lf_R x2 from lf_Rof (by omega)), ?_⟩
    have b5 : 0 ≤ x2.tmod 13 ∧ x2.tmod 13 ≤ 12 := lf_tmodP (by omega) (by omega) (by omega)
    refine sm_273 hI (show (0 : Int) ≤ x1 ∧ x1 ≤ (24 : Int) from by omega) (show (0 : Int) ≤ x3 ∧ x3 ≤ (11 : Int) from by omega) (show (-1 : Int) ≤ (x2.tmod 13) - 1 ∧ (x2.tmod 13) - 1 ≤ (11 : Int) from by omega) (show (0 : Int) ≤ x6 ∧ x6 ≤ (15 : Int) from by omega) (fun r28 s27 hI7 fr6 q8 => ?_)
    obtain ⟨q8, q8x⟩ := q8
    replace q8x : r28 ≤ 0 ∨ 0 ≤ iv_os (s.1 96) x6 x3 := q8x
    have fr9 : lf_fq [104, 107] 1000000 true s.1 s.2.2 s27.1 s27.2.2 := lf_fq_tr (lf_fq_rf) (lf_fq_wk fr6 rfl (by decide) (by decide))
    refine ⟨(show lf_R r28 from lf_Rof (by omega)), ?_⟩
    refine ⟨fun c10 => ?_, fun c10 => ?_⟩
    · skip
      replace c10 : r28 ≠ 0 := c10
      refine sm_187 hI7 (show (0 : Int) ≤ x6 ∧ x6 ≤ (15 : Int) from by omega) (show (0 : Int) ≤ x3 ∧ x3 ≤ (11 : Int) from by omega) (fun r31 q11 => ?_)
      obtain ⟨q11, q11x⟩ := q11
      replace q11x : r31 = iv_os (s27.1 96) x6 x3 := q11x
      have b12 : iv_os (s27.1 96) x6 x3 = iv_os (s.1 96) x6 x3 := by rw [fr6.1 96 rfl]
      refine ⟨(show (0 : Int) ≤ ((13 * r31) + x3) + 1 ∧ ((13 * r31) + x3) + 1 < (156 : Int) from by omega), ?_⟩
      exact sm_290_p98 (fun t9 i9 f9 => hQ t9 i9 (lf_fq_tr fr9 f9)) (fun p0 p1 t9 i9 f9 => hX20 p0 p1 t9 i9 (lf_fq_tr fr9 f9)) (show (16 - x6).toNat ≤ M20 from by omega) hI7 (show (0 : Int) ≤ x1 ∧ x1 ≤ (24 : Int) from by omega) (show (0 : Int) ≤ x2 ∧ x2 ≤ (155 : Int) from by omega) (show (0 : Int) ≤ x3 ∧ x3 ≤ (11 : Int) from by omega) (show (0 : Int) ≤ x6 ∧ x6 ≤ (15 : Int) from by omega)
    · skip
      replace c10 : ¬ (r28 ≠ 0) := c10
      exact sm_290_p98 (fun t9 i9 f9 => hQ t9 i9 (lf_fq_tr fr9 f9)) (fun p0 p1 t9 i9 f9 => hX20 p0 p1 t9 i9 (lf_fq_tr fr9 f9)) (show (16 - x6).toNat ≤ M20 from by omega) hI7 (show (0 : Int) ≤ x1 ∧ x1 ≤ (24 : Int) from by omega) (show (0 : Int) ≤ x2 ∧ x2 ≤ (155 : Int) from by omega) (show (0 : Int) ≤ x3 ∧ x3 ≤ (11 : Int) from by omega) (show (0 : Int) ≤ x6 ∧ x6 ≤ (15 : Int) from by omega)
theorem sm_290_p20L {Q : lf_Z → Prop} {x1 : Int} {x2 : Int} {x3 : Int} {x4 : Int} {x6 : Int} {s : lf_Z} (hQ : ∀  (s' : lf_Z), iv_A s'.1 s'.2.2 → lf_fq [104, 107] 1000000 true s.1 s.2.2 s'.1 s'.2.2 → Q  s') (hI : iv_A s.1 s.2.2) (bx1 : 0 ≤ x1 ∧ x1 ≤ 24) (bx2 : 0 ≤ x2 ∧ x2 ≤ 155) (bx3 : 0 ≤ x3 ∧ x3 ≤ 11) (bx6 : 0 ≤ x6 ∧ x6 ≤ 16) : fm_290_p20L Q x1 x2 x3 x4 x6 s := by
  intro X20 hX
  have key : ∀ (m9 : Nat) (x4 : Int) (x6 : Int) (s' : lf_Z), iv_A s'.1 s'.2.2 → lf_fq [104, 107] 1000000 true s.1 s.2.2 s'.1 s'.2.2 → 0 ≤ x6 ∧ x6 ≤ 16 → (16 - x6).toNat < m9 → X20 x4 x6 s' := by
    intro m9
    induction m9 with
    | zero => intro x4 x6 s' _ _ bx6 h9; exact absurd h9 (Nat.not_lt_zero _)
    | succ m9 ih => intro x4 x6 s' i7 f7 bx6 h9; exact hX _ _ _ (sm_290_p20 (fun t9 i9 f9 => hQ t9 i9 (lf_fq_tr f7 f9))   (fun x4' x6' t8 i8 f8 bx6' h8 => ih x4' x6' t8 i8 (lf_fq_tr f7 f8) bx6' (by omega)) (Nat.le_refl _)  i7  bx1 bx2 bx3 bx6  )
  exact key _ _ _ s hI lf_fq_rf bx6 (Nat.lt_succ_self _)
theorem sm_290 {a1 : Int} {a2 : Int} {Q : lf_Z → Prop} {s : lf_Z} (hI : iv_A s.1 s.2.2) (ba1 : 0 ≤ a1 ∧ a1 ≤ 24) (ba2 : 0 ≤ a2 ∧ a2 ≤ 155) (hQ : ∀  (s' : lf_Z), iv_A s'.1 s'.2.2 → lf_fq [104, 107] 1000000 true s.1 s.2.2 s'.1 s'.2.2 → Q  s') : fm_290 a1 a2 Q s := by
  unfold fm_290
  refine ⟨(show lf_R a2 from lf_Rof (by omega)), ?_⟩
  have b1 : 0 ≤ a2.tdiv 13 ∧ a2.tdiv 13 ≤ 11 := lf_tdivB (p := 0) (q := 155) (by omega) (by omega) (by decide) (by decide) (by decide)
  refine ⟨(show (0 : Int) ≤ a2 ∧ a2 < (156 : Int) from by omega), ?_⟩
  exact sm_290_p20L hQ hI (show (0 : Int) ≤ a1 ∧ a1 ≤ (24 : Int) from by omega) (show (0 : Int) ≤ a2 ∧ a2 ≤ (155 : Int) from by omega) (show (0 : Int) ≤ a2.tdiv 13 ∧ a2.tdiv 13 ≤ (11 : Int) from by omega) (show (0 : Int) ≤ 0 ∧ 0 ≤ (16 : Int) from by omega)
-- fm_289 Model.where 95 i i i i
theorem sm_289_p25 {Q : Int → lf_Z → Prop} {s : lf_Z} (hQ : ∀ (r : Int) (s' : lf_Z), iv_A s'.1 s'.2.2 → lf_fq [104, 107] 1000000 true s.1 s.2.2 s'.1 s'.2.2 → Q r s') (hI : iv_A s.1 s.2.2) : fm_289_p25 Q s := by
  unfold fm_289_p25
  exact hQ (-1) s hI (lf_fq_rf)
theorem sm_289_p204 {X204 : Int → Int → lf_Z → Prop} {Q : Int → lf_Z → Prop} {x3 : Int} {x4 : Int} {x5 : Int} {x7 : Int} {x9 : Int} {s : lf_Z} (hQ : ∀ (r : Int) (s' : lf_Z), iv_A s'.1 s'.2.2 → lf_fq [104, 107] 1000000 true s.1 s.2.2 s'.1 s'.2.2 → Q r s') {M204 : Nat} (hX204 : ∀ (x7 : Int) (x9 : Int) (s' : lf_Z), iv_A s'.1 s'.2.2 → lf_fq [104, 107] 1000000 true s.1 s.2.2 s'.1 s'.2.2 → 0 ≤ x9 ∧ x9 ≤ 13 → (lf_wl x5 ≠ 0) → (13 - x9).toNat < M204 → X204 x7 x9 s') (hM204 : (13 - x9).toNat ≤ M204) (hI : iv_A s.1 s.2.2) (bx3 : 0 ≤ x3 ∧ x3 ≤ 11) (bx4 : 0 ≤ x4 ∧ x4 ≤ 1) (bx9 : 0 ≤ x9 ∧ x9 ≤ 13) (kv0 : lf_wl x5 ≠ 0) : fm_289_p204 Q x3 x4 x5 X204 x7 x9 s := by
  unfold fm_289_p204
  refine ⟨(show lf_R x9 from lf_Rof (by omega)), ?_⟩
  refine ⟨fun c13 => ?_, fun c13 => ?_⟩
  · skip
    replace c13 : 13 ≤ x9 := c13
    have b14 : lf_wl (lf_wl x7) = lf_wl x7 := lf_wlI
    have b15 : lf_wl (lf_wl x5) = lf_wl x5 := lf_wlI
    refine sm_291 hI (show (0 : Int) ≤ x4 ∧ x4 ≤ (1 : Int) from by omega) (show lf_wl (lf_wl x5) ≠ 0 from by omega) (fun r37 => ?_)
    exact hQ (lf_wl r37) s hI (lf_fq_rf)
  · skip
    replace c13 : ¬ (13 ≤ x9) := c13
    refine ⟨(show (0 : Int) ≤ (13 * x3) + x9 ∧ (13 * x3) + x9 < (156 : Int) from by omega), ?_⟩
    exact hX204 (lf_wl ((lf_wl x7) + (lf_wl (s.2.1 109 ((13 * x3) + x9))))) (x9 + 1) s hI (lf_fq_rf) (show (0 : Int) ≤ x9 + 1 ∧ x9 + 1 ≤ (13 : Int) from by omega) (show lf_wl x5 ≠ 0 from by omega) (show (13 - (x9 + 1)).toNat < M204 from by omega)
theorem sm_289_p204L {Q : Int → lf_Z → Prop} {x3 : Int} {x4 : Int} {x5 : Int} {x7 : Int} {x9 : Int} {s : lf_Z} (hQ : ∀ (r : Int) (s' : lf_Z), iv_A s'.1 s'.2.2 → lf_fq [104, 107] 1000000 true s.1 s.2.2 s'.1 s'.2.2 → Q r s') (hI : iv_A s.1 s.2.2) (bx3 : 0 ≤ x3 ∧ x3 ≤ 11) (bx4 : 0 ≤ x4 ∧ x4 ≤ 1) (bx9 : 0 ≤ x9 ∧ x9 ≤ 13) (kv0 : lf_wl x5 ≠ 0) : fm_289_p204L Q x3 x4 x5 x7 x9 s := by
  intro X204 hX
  have key : ∀ (m9 : Nat) (x7 : Int) (x9 : Int) (s' : lf_Z), iv_A s'.1 s'.2.2 → lf_fq [104, 107] 1000000 true s.1 s.2.2 s'.1 s'.2.2 → 0 ≤ x9 ∧ x9 ≤ 13 → (lf_wl x5 ≠ 0) → (13 - x9).toNat < m9 → X204 x7 x9 s' := by
    intro m9
    induction m9 with
    | zero => intro x7 x9 s' _ _ bx9 kv0 h9; exact absurd h9 (Nat.not_lt_zero _)
    | succ m9 ih => intro x7 x9 s' i7 f7 bx9 kv0 h9; exact hX _ _ _ (sm_289_p204 (fun r9 t9 i9 f9 => hQ r9 t9 i9 (lf_fq_tr f7 f9))   (fun x7' x9' t8 i8 f8 bx9' kv0' h8 => ih x7' x9' t8 i8 (lf_fq_tr f7 f8) bx9' kv0' (by omega)) (Nat.le_refl _)  i7  bx3 bx4 bx9  kv0)
  exact key _ _ _ s hI lf_fq_rf bx9 kv0 (Nat.lt_succ_self _)
theorem sm_289_p156 {X82 : Int → Int → lf_Z → Prop} {X156 : Int → lf_Z → Prop} {Q : Int → lf_Z → Prop} {x1 : Int} {x2 : Int} {x3 : Int} {x4 : Int} {x5 : Int} {x7 : Int} {x8 : Int} {s : lf_Z} (hQ : ∀ (r : Int) (s' : lf_Z), iv_A s'.1 s'.2.2 → lf_fq [104, 107] 1000000 true s.1 s.2.2 s'.1 s'.2.2 → Q r s') {M82 : Nat} (hX82 : ∀ (x5 : Int) (x7 : Int) (s' : lf_Z), iv_A s'.1 s'.2.2 → lf_fq [104, 107] 1000000 true s.1 s.2.2 s'.1 s'.2.2 → 0 ≤ x7 ∧ x7 ≤ 4 → ((x7 = 0 ∧ lf_wl x5 = 1) ∨ (x7 = 1 ∧ lf_wl x5 = 10000) ∨ (x7 = 2 ∧ lf_wl x5 = 100000000) ∨ (x7 = 3 ∧ lf_wl x5 = 1000000000000) ∨ (x7 = 4 ∧ lf_wl x5 = 10000000000000000)) → (4 - x7).toNat < M82 → X82 x5 x7 s') (hM82 : (4 - x7).toNat ≤ M82) {M156 : Nat} (hX156 : ∀ (x8 : Int) (s' : lf_Z), iv_A s'.1 s'.2.2 → lf_fq [104, 107] 1000000 true s.1 s.2.2 s'.1 s'.2.2 → 0 ≤ x8 ∧ x8 ≤ 156 → ((x7 = 0 ∧ lf_wl x5 = 1) ∨ (x7 = 1 ∧ lf_wl x5 = 10000) ∨ (x7 = 2 ∧ lf_wl x5 = 100000000) ∨ (x7 = 3 ∧ lf_wl x5 = 1000000000000) ∨ (x7 = 4 ∧ lf_wl x5 = 10000000000000000)) → (156 - x8).toNat < M156 → X156 x8 s') (hM156 : (156 - x8).toNat ≤ M156) (hI : iv_A s.1 s.2.2) (bx1 : 0 ≤ x1 ∧ x1 ≤ 3) (bx2 : 1 ≤ x2 ∧ x2 ≤ 4) (bx3 : 0 ≤ x3 ∧ x3 ≤ 11) (bx4 : 0 ≤ x4 ∧ x4 ≤ 1) (bx7 : 0 ≤ x7 ∧ x7 ≤ 3) (bx8 : 0 ≤ x8 ∧ x8 ≤ 156) (kv0 : (x7 = 0 ∧ lf_wl x5 = 1) ∨ (x7 = 1 ∧ lf_wl x5 = 10000) ∨ (x7 = 2 ∧ lf_wl x5 = 100000000) ∨ (x7 = 3 ∧ lf_wl x5 = 1000000000000) ∨ (x7 = 4 ∧ lf_wl x5 = 10000000000000000)) : fm_289_p156 X82 Q x1 x2 x3 x4 x5 x7 X156 x8 s := by
  unfold fm_289_p156
  refine ⟨(show lf_R x8 from lf_Rof (by omega)), ?_⟩
  refine ⟨fun c19 => ?_, fun c19 => ?_⟩
  · skip
    replace c19 : 156 ≤ x8 := c19
    have b20 : lf_wl ((lf_wl x5) * 10000) = (lf_wl x5) * 10000 := lf_wlR (by omega)
    have b21 : lf_wl (lf_wl ((lf_wl x5) * 10000)) = lf_wl ((lf_wl x5) * 10000) := lf_wlI
    exact hX82 (lf_wl ((lf_wl x5) * 10000)) (x7 + 1) s hI (lf_fq_rf) (show (0 : Int) ≤ x7 + 1 ∧ x7 + 1 ≤ (4 : Int) from by omega) (show ((x7 + 1) = 0 ∧ lf_wl (lf_wl ((lf_wl x5) * 10000)) = 1) ∨ ((x7 + 1) = 1 ∧ lf_wl (lf_wl ((lf_wl x5) * 10000)) = 10000) ∨ ((x7 + 1) = 2 ∧ lf_wl (lf_wl ((lf_wl x5) * 10000)) = 100000000) ∨ ((x7 + 1) = 3 ∧ lf_wl (lf_wl ((lf_wl x5) * 10000)) = 1000000000000) ∨ ((x7 + 1) = 4 ∧ lf_wl (lf_wl ((lf_wl x5) * 10000)) = 10000000000000000) from by omega) (show (4 - (x7 + 1)).toNat < M82 from by omega)
  · skip
    replace c19 : ¬ (156 ≤ x8) := c19
    refine ⟨(show (0 : Int) ≤ x8 ∧ x8 < (156 : Int) from by omega), ?_⟩
    exact hX156 (x8 + 1) (s.1, lf_up s.2.1 109 x8 (lf_wl (s.2.1 110 x8)), s.2.2) hI (lf_fq_rf) (show (0 : Int) ≤ x8 + 1 ∧ x8 + 1 ≤ (156 : Int) from by omega) (show (x7 = 0 ∧ lf_wl x5 = 1) ∨ (x7 = 1 ∧ lf_wl x5 = 10000) ∨ (x7 = 2 ∧ lf_wl x5 = 100000000) ∨ (x7 = 3 ∧ lf_wl x5 = 1000000000000) ∨ (x7 = 4 ∧ lf_wl x5 = 10000000000000000) from by omega) (show (156 - (x8 + 1)).toNat < M156 from by omega)
theorem sm_289_p156L {X82 : Int → Int → lf_Z → Prop} {Q : Int → lf_Z → Prop} {x1 : Int} {x2 : Int} {x3 : Int} {x4 : Int} {x5 : Int} {x7 : Int} {x8 : Int} {s : lf_Z} (hQ : ∀ (r : Int) (s' : lf_Z), iv_A s'.1 s'.2.2 → lf_fq [104, 107] 1000000 true s.1 s.2.2 s'.1 s'.2.2 → Q r s') {M82 : Nat} (hX82 : ∀ (x5 : Int) (x7 : Int) (s' : lf_Z), iv_A s'.1 s'.2.2 → lf_fq [104, 107] 1000000 true s.1 s.2.2 s'.1 s'.2.2 → 0 ≤ x7 ∧ x7 ≤ 4 → ((x7 = 0 ∧ lf_wl x5 = 1) ∨ (x7 = 1 ∧ lf_wl x5 = 10000) ∨ (x7 = 2 ∧ lf_wl x5 = 100000000) ∨ (x7 = 3 ∧ lf_wl x5 = 1000000000000) ∨ (x7 = 4 ∧ lf_wl x5 = 10000000000000000)) → (4 - x7).toNat < M82 → X82 x5 x7 s') (hM82 : (4 - x7).toNat ≤ M82) (hI : iv_A s.1 s.2.2) (bx1 : 0 ≤ x1 ∧ x1 ≤ 3) (bx2 : 1 ≤ x2 ∧ x2 ≤ 4) (bx3 : 0 ≤ x3 ∧ x3 ≤ 11) (bx4 : 0 ≤ x4 ∧ x4 ≤ 1) (bx7 : 0 ≤ x7 ∧ x7 ≤ 3) (bx8 : 0 ≤ x8 ∧ x8 ≤ 156) (kv0 : (x7 = 0 ∧ lf_wl x5 = 1) ∨ (x7 = 1 ∧ lf_wl x5 = 10000) ∨ (x7 = 2 ∧ lf_wl x5 = 100000000) ∨ (x7 = 3 ∧ lf_wl x5 = 1000000000000) ∨ (x7 = 4 ∧ lf_wl x5 = 10000000000000000)) : fm_289_p156L X82 Q x1 x2 x3 x4 x5 x7 x8 s := by
  intro X156 hX
  have key : ∀ (m9 : Nat) (x8 : Int) (s' : lf_Z), iv_A s'.1 s'.2.2 → lf_fq [104, 107] 1000000 true s.1 s.2.2 s'.1 s'.2.2 → 0 ≤ x8 ∧ x8 ≤ 156 → ((x7 = 0 ∧ lf_wl x5 = 1) ∨ (x7 = 1 ∧ lf_wl x5 = 10000) ∨ (x7 = 2 ∧ lf_wl x5 = 100000000) ∨ (x7 = 3 ∧ lf_wl x5 = 1000000000000) ∨ (x7 = 4 ∧ lf_wl x5 = 10000000000000000)) → (156 - x8).toNat < m9 → X156 x8 s' := by
    intro m9
    induction m9 with
    | zero => intro x8 s' _ _ bx8 kv0 h9; exact absurd h9 (Nat.not_lt_zero _)
    | succ m9 ih => intro x8 s' i7 f7 bx8 kv0 h9; exact hX _ _ (sm_289_p156 (fun r9 t9 i9 f9 => hQ r9 t9 i9 (lf_fq_tr f7 f9))  (fun p0 p1 t9 i9 f9 => hX82 p0 p1 t9 i9 (lf_fq_tr f7 f9)) hM82 (fun x8' t8 i8 f8 bx8' kv0' h8 => ih x8' t8 i8 (lf_fq_tr f7 f8) bx8' kv0' (by omega)) (Nat.le_refl _)  i7  bx1 bx2 bx3 bx4 bx7 bx8  kv0)
  exact key _ _ s hI lf_fq_rf bx8 kv0 (Nat.lt_succ_self _)
theorem sm_289_p147 {X82 : Int → Int → lf_Z → Prop} {X116 : Int → lf_Z → Prop} {Q : Int → lf_Z → Prop} {x1 : Int} {x2 : Int} {x3 : Int} {x4 : Int} {x5 : Int} {x7 : Int} {x8 : Int} {s : lf_Z} (hQ : ∀ (r : Int) (s' : lf_Z), iv_A s'.1 s'.2.2 → lf_fq [104, 107] 1000000 true s.1 s.2.2 s'.1 s'.2.2 → Q r s') {M82 : Nat} (hX82 : ∀ (x5 : Int) (x7 : Int) (s' : lf_Z), iv_A s'.1 s'.2.2 → lf_fq [104, 107] 1000000 true s.1 s.2.2 s'.1 s'.2.2 → 0 ≤ x7 ∧ x7 ≤ 4 → ((x7 = 0 ∧ lf_wl x5 = 1) ∨ (x7 = 1 ∧ lf_wl x5 = 10000) ∨ (x7 = 2 ∧ lf_wl x5 = 100000000) ∨ (x7 = 3 ∧ lf_wl x5 = 1000000000000) ∨ (x7 = 4 ∧ lf_wl x5 = 10000000000000000)) → (4 - x7).toNat < M82 → X82 x5 x7 s') (hM82 : (4 - x7).toNat ≤ M82) {M116 : Nat} (hX116 : ∀ (x8 : Int) (s' : lf_Z), iv_A s'.1 s'.2.2 → lf_fq [104, 107] 1000000 true s.1 s.2.2 s'.1 s'.2.2 → 0 ≤ x8 ∧ x8 ≤ 156 → ((x7 = 0 ∧ lf_wl x5 = 1) ∨ (x7 = 1 ∧ lf_wl x5 = 10000) ∨ (x7 = 2 ∧ lf_wl x5 = 100000000) ∨ (x7 = 3 ∧ lf_wl x5 = 1000000000000) ∨ (x7 = 4 ∧ lf_wl x5 = 10000000000000000)) → (156 - x8).toNat < M116 → X116 x8 s') (hM116 : (156 - x8).toNat ≤ M116) (hI : iv_A s.1 s.2.2) (bx1 : 0 ≤ x1 ∧ x1 ≤ 3) (bx2 : 1 ≤ x2 ∧ x2 ≤ 4) (bx3 : 0 ≤ x3 ∧ x3 ≤ 11) (bx4 : 0 ≤ x4 ∧ x4 ≤ 1) (bx7 : 0 ≤ x7 ∧ x7 ≤ 3) (bx8 : 0 ≤ x8 ∧ x8 ≤ 155) (kv0 : (x7 = 0 ∧ lf_wl x5 = 1) ∨ (x7 = 1 ∧ lf_wl x5 = 10000) ∨ (x7 = 2 ∧ lf_wl x5 = 100000000) ∨ (x7 = 3 ∧ lf_wl x5 = 1000000000000) ∨ (x7 = 4 ∧ lf_wl x5 = 10000000000000000)) : fm_289_p147 X82 X116 Q x1 x2 x3 x4 x5 x7 x8 s := by
  unfold fm_289_p147
  exact hX116 (x8 + 1) s hI (lf_fq_rf) (show (0 : Int) ≤ x8 + 1 ∧ x8 + 1 ≤ (156 : Int) from by omega) (show (x7 = 0 ∧ lf_wl x5 = 1) ∨ (x7 = 1 ∧ lf_wl x5 = 10000) ∨ (x7 = 2 ∧ lf_wl x5 = 100000000) ∨ (x7 = 3 ∧ lf_wl x5 = 1000000000000) ∨ (x7 = 4 ∧ lf_wl x5 = 10000000000000000) from by omega) (show (156 - (x8 + 1)).toNat < M116 from by omega)
theorem sm_289_p116 {X82 : Int → Int → lf_Z → Prop} {X116 : Int → lf_Z → Prop} {Q : Int → lf_Z → Prop} {x1 : Int} {x2 : Int} {x3 : Int} {x4 : Int} {x5 : Int} {x7 : Int} {x8 : Int} {s : lf_Z} (hQ : ∀ (r : Int) (s' : lf_Z), iv_A s'.1 s'.2.2 → lf_fq [104, 107] 1000000 true s.1 s.2.2 s'.1 s'.2.2 → Q r s') {M82 : Nat} (hX82 : ∀ (x5 : Int) (x7 : Int) (s' : lf_Z), iv_A s'.1 s'.2.2 → lf_fq [104, 107] 1000000 true s.1 s.2.2 s'.1 s'.2.2 → 0 ≤ x7 ∧ x7 ≤ 4 → ((x7 = 0 ∧ lf_wl x5 = 1) ∨ (x7 = 1 ∧ lf_wl x5 = 10000) ∨ (x7 = 2 ∧ lf_wl x5 = 100000000) ∨ (x7 = 3 ∧ lf_wl x5 = 1000000000000) ∨ (x7 = 4 ∧ lf_wl x5 = 10000000000000000)) → (4 - x7).toNat < M82 → X82 x5 x7 s') (hM82 : (4 - x7).toNat ≤ M82) {M116 : Nat} (hX116 : ∀ (x8 : Int) (s' : lf_Z), iv_A s'.1 s'.2.2 → lf_fq [104, 107] 1000000 true s.1 s.2.2 s'.1 s'.2.2 → 0 ≤ x8 ∧ x8 ≤ 156 → ((x7 = 0 ∧ lf_wl x5 = 1) ∨ (x7 = 1 ∧ lf_wl x5 = 10000) ∨ (x7 = 2 ∧ lf_wl x5 = 100000000) ∨ (x7 = 3 ∧ lf_wl x5 = 1000000000000) ∨ (x7 = 4 ∧ lf_wl x5 = 10000000000000000)) → (156 - x8).toNat < M116 → X116 x8 s') (hM116 : (156 - x8).toNat ≤ M116) (hI : iv_A s.1 s.2.2) (bx1 : 0 ≤ x1 ∧ x1 ≤ 3) (bx2 : 1 ≤ x2 ∧ x2 ≤ 4) (bx3 : 0 ≤ x3 ∧ x3 ≤ 11) (bx4 : 0 ≤ x4 ∧ x4 ≤ 1) (bx7 : 0 ≤ x7 ∧ x7 ≤ 3) (bx8 : 0 ≤ x8 ∧ x8 ≤ 156) (kv0 : (x7 = 0 ∧ lf_wl x5 = 1) ∨ (x7 = 1 ∧ lf_wl x5 = 10000) ∨ (x7 = 2 ∧ lf_wl x5 = 100000000) ∨ (x7 = 3 ∧ lf_wl x5 = 1000000000000) ∨ (x7 = 4 ∧ lf_wl x5 = 10000000000000000)) : fm_289_p116 X82 Q x1 x2 x3 x4 x5 x7 X116 x8 s := by
  unfold fm_289_p116
  refine ⟨(show lf_R x8 from lf_Rof (by omega)), ?_⟩
  refine ⟨fun c18 => ?_, fun c18 => ?_⟩
  · skip
    replace c18 : 156 ≤ x8 := c18
    exact sm_289_p156L hQ hX82 (show (4 - x7).toNat ≤ M82 from by omega) hI (show (0 : Int) ≤ x1 ∧ x1 ≤ (3 : Int) from by omega) (show (1 : Int) ≤ x2 ∧ x2 ≤ (4 : Int) from by omega) (show (0 : Int) ≤ x3 ∧ x3 ≤ (11 : Int) from by omega) (show (0 : Int) ≤ x4 ∧ x4 ≤ (1 : Int) from by omega) (show (0 : Int) ≤ x7 ∧ x7 ≤ (3 : Int) from by omega) (show (0 : Int) ≤ 0 ∧ 0 ≤ (156 : Int) from by omega) (show (x7 = 0 ∧ lf_wl x5 = 1) ∨ (x7 = 1 ∧ lf_wl x5 = 10000) ∨ (x7 = 2 ∧ lf_wl x5 = 100000000) ∨ (x7 = 3 ∧ lf_wl x5 = 1000000000000) ∨ (x7 = 4 ∧ lf_wl x5 = 10000000000000000) from by omega)
  · skip
    replace c18 : ¬ (156 ≤ x8) := c18
    refine ⟨(show (0 : Int) ≤ x8 ∧ x8 < (156 : Int) from by omega), ?_⟩
    refine ⟨fun c22 => ?_, fun c22 => ?_⟩
    · replace c22 : lf_wl (s.2.1 109 x8) ≤ 0 := c22
      exact sm_289_p147 hQ hX82 (show (4 - x7).toNat ≤ M82 from by omega) hX116 (show (156 - x8).toNat ≤ M116 from by omega) hI (show (0 : Int) ≤ x1 ∧ x1 ≤ (3 : Int) from by omega) (show (1 : Int) ≤ x2 ∧ x2 ≤ (4 : Int) from by omega) (show (0 : Int) ≤ x3 ∧ x3 ≤ (11 : Int) from by omega) (show (0 : Int) ≤ x4 ∧ x4 ≤ (1 : Int) from by omega) (show (0 : Int) ≤ x7 ∧ x7 ≤ (3 : Int) from by omega) (show (0 : Int) ≤ x8 ∧ x8 ≤ (155 : Int) from by omega) (show (x7 = 0 ∧ lf_wl x5 = 1) ∨ (x7 = 1 ∧ lf_wl x5 = 10000) ∨ (x7 = 2 ∧ lf_wl x5 = 100000000) ∨ (x7 = 3 ∧ lf_wl x5 = 1000000000000) ∨ (x7 = 4 ∧ lf_wl x5 = 10000000000000000) from by omega)
    · replace c22 : ¬ (lf_wl (s.2.1 109 x8) ≤ 0) := c22
      refine sm_242 hI (show (0 : Int) ≤ x1 ∧ x1 ≤ (3 : Int) from by omega) (fun r45 q23 => ?_)
      obtain ⟨q23, q23x⟩ := q23
      replace q23x : r45 = s.1 96 (114 + 3 * x1) := q23x
      refine sm_290 hI (show (0 : Int) ≤ r45 ∧ r45 ≤ (24 : Int) from by omega) (show (0 : Int) ≤ x8 ∧ x8 ≤ (155 : Int) from by omega) (fun s46 hI25 fr24 => ?_)
      have fr27 : lf_fq [104, 107] 1000000 true s.1 s.2.2 s46.1 s46.2.2 := lf_fq_tr (lf_fq_rf) (lf_fq_wk fr24 rfl (by decide) (by decide))
      exact sm_289_p147 (fun r9 t9 i9 f9 => hQ r9 t9 i9 (lf_fq_tr fr27 f9)) (fun p0 p1 t9 i9 f9 => hX82 p0 p1 t9 i9 (lf_fq_tr fr27 f9)) (show (4 - x7).toNat ≤ M82 from by omega) (fun p0 t9 i9 f9 => hX116 p0 t9 i9 (lf_fq_tr fr27 f9)) (show (156 - x8).toNat ≤ M116 from by omega) hI25 (show (0 : Int) ≤ x1 ∧ x1 ≤ (3 : Int) from by omega) (show (1 : Int) ≤ x2 ∧ x2 ≤ (4 : Int) from by omega) (show (0 : Int) ≤ x3 ∧ x3 ≤ (11 : Int) from by omega) (show (0 : Int) ≤ x4 ∧ x4 ≤ (1 : Int) from by omega) (show (0 : Int) ≤ x7 ∧ x7 ≤ (3 : Int) from by omega) (show (0 : Int) ≤ x8 ∧ x8 ≤ (155 : Int) from by omega) (show (x7 = 0 ∧ lf_wl x5 = 1) ∨ (x7 = 1 ∧ lf_wl x5 = 10000) ∨ (x7 = 2 ∧ lf_wl x5 = 100000000) ∨ (x7 = 3 ∧ lf_wl x5 = 1000000000000) ∨ (x7 = 4 ∧ lf_wl x5 = 10000000000000000) from by omega)
theorem sm_289_p116L {X82 : Int → Int → lf_Z → Prop} {Q : Int → lf_Z → Prop} {x1 : Int} {x2 : Int} {x3 : Int} {x4 : Int} {x5 : Int} {x7 : Int} {x8 : Int} {s : lf_Z} (hQ : ∀ (r : Int) (s' : lf_Z), iv_A s'.1 s'.2.2 → lf_fq [104, 107] 1000000 true s.1 s.2.2 s'.1 s'.2.2 → Q r s') {M82 : Nat} (hX82 : ∀ (x5 : Int) (x7 : Int) (s' : lf_Z), iv_A s'.1 s'.2.2 → lf_fq [104, 107] 1000000 true s.1 s.2.2 s'.1 s'.2.2 → 0 ≤ x7 ∧ x7 ≤ 4 → ((x7 = 0 ∧ lf_wl x5 = 1) ∨ (x7 = 1 ∧ lf_wl x5 = 10000) ∨ (x7 = 2 ∧ lf_wl x5 = 100000000) ∨ (x7 = 3 ∧ lf_wl x5 = 1000000000000) ∨ (x7 = 4 ∧ lf_wl x5 = 10000000000000000)) → (4 - x7).toNat < M82 → X82 x5 x7 s') (hM82 : (4 - x7).toNat ≤ M82) (hI : iv_A s.1 s.2.2) (bx1 : 0 ≤ x1 ∧ x1 ≤ 3) (bx2 : 1 ≤ x2 ∧ x2 ≤ 4) (bx3 : 0 ≤ x3 ∧ x3 ≤ 11) (bx4 : 0 ≤ x4 ∧ x4 ≤ 1) (bx7 : 0 ≤ x7 ∧ x7 ≤ 3) (bx8 : 0 ≤ x8 ∧ x8 ≤ 156) (kv0 : (x7 = 0 ∧ lf_wl x5 = 1) ∨ (x7 = 1 ∧ lf_wl x5 = 10000) ∨ (x7 = 2 ∧ lf_wl x5 = 100000000) ∨ (x7 = 3 ∧ lf_wl x5 = 1000000000000) ∨ (x7 = 4 ∧ lf_wl x5 = 10000000000000000)) : fm_289_p116L X82 Q x1 x2 x3 x4 x5 x7 x8 s := by
  intro X116 hX
  have key : ∀ (m9 : Nat) (x8 : Int) (s' : lf_Z), iv_A s'.1 s'.2.2 → lf_fq [104, 107] 1000000 true s.1 s.2.2 s'.1 s'.2.2 → 0 ≤ x8 ∧ x8 ≤ 156 → ((x7 = 0 ∧ lf_wl x5 = 1) ∨ (x7 = 1 ∧ lf_wl x5 = 10000) ∨ (x7 = 2 ∧ lf_wl x5 = 100000000) ∨ (x7 = 3 ∧ lf_wl x5 = 1000000000000) ∨ (x7 = 4 ∧ lf_wl x5 = 10000000000000000)) → (156 - x8).toNat < m9 → X116 x8 s' := by
    intro m9
    induction m9 with
    | zero => intro x8 s' _ _ bx8 kv0 h9; exact absurd h9 (Nat.not_lt_zero _)
    | succ m9 ih => intro x8 s' i7 f7 bx8 kv0 h9; exact hX _ _ (sm_289_p116 (fun r9 t9 i9 f9 => hQ r9 t9 i9 (lf_fq_tr f7 f9))  (fun p0 p1 t9 i9 f9 => hX82 p0 p1 t9 i9 (lf_fq_tr f7 f9)) hM82 (fun x8' t8 i8 f8 bx8' kv0' h8 => ih x8' t8 i8 (lf_fq_tr f7 f8) bx8' kv0' (by omega)) (Nat.le_refl _)  i7  bx1 bx2 bx3 bx4 bx7 bx8  kv0)
  exact key _ _ s hI lf_fq_rf bx8 kv0 (Nat.lt_succ_self _)
theorem sm_289_p91 {X82 : Int → Int → lf_Z → Prop} {X91 : Int → lf_Z → Prop} {Q : Int → lf_Z → Prop} {x1 : Int} {x2 : Int} {x3 : Int} {x4 : Int} {x5 : Int} {x7 : Int} {x8 : Int} {s : lf_Z} (hQ : ∀ (r : Int) (s' : lf_Z), iv_A s'.1 s'.2.2 → lf_fq [104, 107] 1000000 true s.1 s.2.2 s'.1 s'.2.2 → Q r s') {M82 : Nat} (hX82 : ∀ (x5 : Int) (x7 : Int) (s' : lf_Z), iv_A s'.1 s'.2.2 → lf_fq [104, 107] 1000000 true s.1 s.2.2 s'.1 s'.2.2 → 0 ≤ x7 ∧ x7 ≤ 4 → ((x7 = 0 ∧ lf_wl x5 = 1) ∨ (x7 = 1 ∧ lf_wl x5 = 10000) ∨ (x7 = 2 ∧ lf_wl x5 = 100000000) ∨ (x7 = 3 ∧ lf_wl x5 = 1000000000000) ∨ (x7 = 4 ∧ lf_wl x5 = 10000000000000000)) → (4 - x7).toNat < M82 → X82 x5 x7 s') (hM82 : (4 - x7).toNat ≤ M82) {M91 : Nat} (hX91 : ∀ (x8 : Int) (s' : lf_Z), iv_A s'.1 s'.2.2 → lf_fq [104, 107] 1000000 true s.1 s.2.2 s'.1 s'.2.2 → 0 ≤ x8 ∧ x8 ≤ 156 → ((x7 = 0 ∧ lf_wl x5 = 1) ∨ (x7 = 1 ∧ lf_wl x5 = 10000) ∨ (x7 = 2 ∧ lf_wl x5 = 100000000) ∨ (x7 = 3 ∧ lf_wl x5 = 1000000000000) ∨ (x7 = 4 ∧ lf_wl x5 = 10000000000000000)) → (156 - x8).toNat < M91 → X91 x8 s') (hM91 : (156 - x8).toNat ≤ M91) (hI : iv_A s.1 s.2.2) (bx1 : 0 ≤ x1 ∧ x1 ≤ 3) (bx2 : 1 ≤ x2 ∧ x2 ≤ 4) (bx3 : 0 ≤ x3 ∧ x3 ≤ 11) (bx4 : 0 ≤ x4 ∧ x4 ≤ 1) (bx7 : 0 ≤ x7 ∧ x7 ≤ 3) (bx8 : 0 ≤ x8 ∧ x8 ≤ 156) (kv0 : (x7 = 0 ∧ lf_wl x5 = 1) ∨ (x7 = 1 ∧ lf_wl x5 = 10000) ∨ (x7 = 2 ∧ lf_wl x5 = 100000000) ∨ (x7 = 3 ∧ lf_wl x5 = 1000000000000) ∨ (x7 = 4 ∧ lf_wl x5 = 10000000000000000)) : fm_289_p91 X82 Q x1 x2 x3 x4 x5 x7 X91 x8 s := by
  unfold fm_289_p91
  refine ⟨(show lf_R x8 from lf_Rof (by omega)), ?_⟩
  refine ⟨fun c17 => ?_, fun c17 => ?_⟩
  · skip
    replace c17 : 156 ≤ x8 := c17
    exact sm_289_p116L hQ hX82 (show (4 - x7).toNat ≤ M82 from by omega) hI (show (0 : Int) ≤ x1 ∧ x1 ≤ (3 : Int) from by omega) (show (1 : Int) ≤ x2 ∧ x2 ≤ (4 : Int) from by omega) (show (0 : Int) ≤ x3 ∧ x3 ≤ (11 : Int) from by omega) (show (0 : Int) ≤ x4 ∧ x4 ≤ (1 : Int) from by omega) (show (0 : Int) ≤ x7 ∧ x7 ≤ (3 : Int) from by omega) (show (0 : Int) ≤ 0 ∧ 0 ≤ (156 : Int) from by omega) (show (x7 = 0 ∧ lf_wl x5 = 1) ∨ (x7 = 1 ∧ lf_wl x5 = 10000) ∨ (x7 = 2 ∧ lf_wl x5 = 100000000) ∨ (x7 = 3 ∧ lf_wl x5 = 1000000000000) ∨ (x7 = 4 ∧ lf_wl x5 = 10000000000000000) from by omega)
  · skip
    replace c17 : ¬ (156 ≤ x8) := c17
    refine ⟨(show (0 : Int) ≤ x8 ∧ x8 < (156 : Int) from by omega), ?_⟩
    exact hX91 (x8 + 1) (s.1, lf_up s.2.1 110 x8 0, s.2.2) hI (lf_fq_rf) (show (0 : Int) ≤ x8 + 1 ∧ x8 + 1 ≤ (156 : Int) from by omega) (show (x7 = 0 ∧ lf_wl x5 = 1) ∨ (x7 = 1 ∧ lf_wl x5 = 10000) ∨ (x7 = 2 ∧ lf_wl x5 = 100000000) ∨ (x7 = 3 ∧ lf_wl x5 = 1000000000000) ∨ (x7 = 4 ∧ lf_wl x5 = 10000000000000000) from by omega) (show (156 - (x8 + 1)).toNat < M91 from by omega)
theorem sm_289_p91L {X82 : Int → Int → lf_Z → Prop} {Q : Int → lf_Z → Prop} {x1 : Int} {x2 : Int} {x3 : Int} {x4 : Int} {x5 : Int} {x7 : Int} {x8 : Int} {s : lf_Z} (hQ : ∀ (r : Int) (s' : lf_Z), iv_A s'.1 s'.2.2 → lf_fq [104, 107] 1000000 true s.1 s.2.2 s'.1 s'.2.2 → Q r s') {M82 : Nat} (hX82 : ∀ (x5 : Int) (x7 : Int) (s' : lf_Z), iv_A s'.1 s'.2.2 → lf_fq [104, 107] 1000000 true s.1 s.2.2 s'.1 s'.2.2 → 0 ≤ x7 ∧ x7 ≤ 4 → ((x7 = 0 ∧ lf_wl x5 = 1) ∨ (x7 = 1 ∧ lf_wl x5 = 10000) ∨ (x7 = 2 ∧ lf_wl x5 = 100000000) ∨ (x7 = 3 ∧ lf_wl x5 = 1000000000000) ∨ (x7 = 4 ∧ lf_wl x5 = 10000000000000000)) → (4 - x7).toNat < M82 → X82 x5 x7 s') (hM82 : (4 - x7).toNat ≤ M82) (hI : iv_A s.1 s.2.2) (bx1 : 0 ≤ x1 ∧ x1 ≤ 3) (bx2 : 1 ≤ x2 ∧ x2 ≤ 4) (bx3 : 0 ≤ x3 ∧ x3 ≤ 11) (bx4 : 0 ≤ x4 ∧ x4 ≤ 1) (bx7 : 0 ≤ x7 ∧ x7 ≤ 3) (bx8 : 0 ≤ x8 ∧ x8 ≤ 156) (kv0 : (x7 = 0 ∧ lf_wl x5 = 1) ∨ (x7 = 1 ∧ lf_wl x5 = 10000) ∨ (x7 = 2 ∧ lf_wl x5 = 100000000) ∨ (x7 = 3 ∧ lf_wl x5 = 1000000000000) ∨ (x7 = 4 ∧ lf_wl x5 = 10000000000000000)) : fm_289_p91L X82 Q x1 x2 x3 x4 x5 x7 x8 s := by
  intro X91 hX
  have key : ∀ (m9 : Nat) (x8 : Int) (s' : lf_Z), iv_A s'.1 s'.2.2 → lf_fq [104, 107] 1000000 true s.1 s.2.2 s'.1 s'.2.2 → 0 ≤ x8 ∧ x8 ≤ 156 → ((x7 = 0 ∧ lf_wl x5 = 1) ∨ (x7 = 1 ∧ lf_wl x5 = 10000) ∨ (x7 = 2 ∧ lf_wl x5 = 100000000) ∨ (x7 = 3 ∧ lf_wl x5 = 1000000000000) ∨ (x7 = 4 ∧ lf_wl x5 = 10000000000000000)) → (156 - x8).toNat < m9 → X91 x8 s' := by
    intro m9
    induction m9 with
    | zero => intro x8 s' _ _ bx8 kv0 h9; exact absurd h9 (Nat.not_lt_zero _)
    | succ m9 ih => intro x8 s' i7 f7 bx8 kv0 h9; exact hX _ _ (sm_289_p91 (fun r9 t9 i9 f9 => hQ r9 t9 i9 (lf_fq_tr f7 f9))  (fun p0 p1 t9 i9 f9 => hX82 p0 p1 t9 i9 (lf_fq_tr f7 f9)) hM82 (fun x8' t8 i8 f8 bx8' kv0' h8 => ih x8' t8 i8 (lf_fq_tr f7 f8) bx8' kv0' (by omega)) (Nat.le_refl _)  i7  bx1 bx2 bx3 bx4 bx7 bx8  kv0)
  exact key _ _ s hI lf_fq_rf bx8 kv0 (Nat.lt_succ_self _)
theorem sm_289_p82 {X82 : Int → Int → lf_Z → Prop} {Q : Int → lf_Z → Prop} {x1 : Int} {x2 : Int} {x3 : Int} {x4 : Int} {x5 : Int} {x7 : Int} {s : lf_Z} (hQ : ∀ (r : Int) (s' : lf_Z), iv_A s'.1 s'.2.2 → lf_fq [104, 107] 1000000 true s.1 s.2.2 s'.1 s'.2.2 → Q r s') {M82 : Nat} (hX82 : ∀ (x5 : Int) (x7 : Int) (s' : lf_Z), iv_A s'.1 s'.2.2 → lf_fq [104, 107] 1000000 true s.1 s.2.2 s'.1 s'.2.2 → 0 ≤ x7 ∧ x7 ≤ 4 → ((x7 = 0 ∧ lf_wl x5 = 1) ∨ (x7 = 1 ∧ lf_wl x5 = 10000) ∨ (x7 = 2 ∧ lf_wl x5 = 100000000) ∨ (x7 = 3 ∧ lf_wl x5 = 1000000000000) ∨ (x7 = 4 ∧ lf_wl x5 = 10000000000000000)) → (4 - x7).toNat < M82 → X82 x5 x7 s') (hM82 : (4 - x7).toNat ≤ M82) (hI : iv_A s.1 s.2.2) (bx1 : 0 ≤ x1 ∧ x1 ≤ 3) (bx2 : 0 ≤ x2 ∧ x2 ≤ 4) (bx3 : 0 ≤ x3 ∧ x3 ≤ 11) (bx4 : 0 ≤ x4 ∧ x4 ≤ 1) (bx7 : 0 ≤ x7 ∧ x7 ≤ 4) (kv0 : (x7 = 0 ∧ lf_wl x5 = 1) ∨ (x7 = 1 ∧ lf_wl x5 = 10000) ∨ (x7 = 2 ∧ lf_wl x5 = 100000000) ∨ (x7 = 3 ∧ lf_wl x5 = 1000000000000) ∨ (x7 = 4 ∧ lf_wl x5 = 10000000000000000)) : fm_289_p82 Q x1 x2 x3 x4 X82 x5 x7 s := by
  unfold fm_289_p82
  refine ⟨(show lf_R x7 from lf_Rof (by omega)), ?_⟩
  refine ⟨(show lf_R x2 from lf_Rof (by omega)), ?_⟩
  refine ⟨fun c12 => ?_, fun c12 => ?_⟩
  · skip
    replace c12 : x2 ≤ x7 := c12
    exact sm_289_p204L hQ hI (show (0 : Int) ≤ x3 ∧ x3 ≤ (11 : Int) from by omega) (show (0 : Int) ≤ x4 ∧ x4 ≤ (1 : Int) from by omega) (show (0 : Int) ≤ 0 ∧ 0 ≤ (13 : Int) from by omega) (show lf_wl x5 ≠ 0 from by omega)
  · skip
    replace c12 : ¬ (x2 ≤ x7) := c12
    exact sm_289_p91L hQ hX82 (show (4 - x7).toNat ≤ M82 from by omega) hI (show (0 : Int) ≤ x1 ∧ x1 ≤ (3 : Int) from by omega) (show (1 : Int) ≤ x2 ∧ x2 ≤ (4 : Int) from by omega) (show (0 : Int) ≤ x3 ∧ x3 ≤ (11 : Int) from by omega) (show (0 : Int) ≤ x4 ∧ x4 ≤ (1 : Int) from by omega) (show (0 : Int) ≤ x7 ∧ x7 ≤ (3 : Int) from by omega) (show (0 : Int) ≤ 0 ∧ 0 ≤ (156 : Int) from by omega) (show (x7 = 0 ∧ lf_wl x5 = 1) ∨ (x7 = 1 ∧ lf_wl x5 = 10000) ∨ (x7 = 2 ∧ lf_wl x5 = 100000000) ∨ (x7 = 3 ∧ lf_wl x5 = 1000000000000) ∨ (x7 = 4 ∧ lf_wl x5 = 10000000000000000) from by omega)
theorem sm_289_p82L {Q : Int → lf_Z → Prop} {x1 : Int} {x2 : Int} {x3 : Int} {x4 : Int} {x5 : Int} {x7 : Int} {s : lf_Z} (hQ : ∀ (r : Int) (s' : lf_Z), iv_A s'.1 s'.2.2 → lf_fq [104, 107] 1000000 true s.1 s.2.2 s'.1 s'.2.2 → Q r s') (hI : iv_A s.1 s.2.2) (bx1 : 0 ≤ x1 ∧ x1 ≤ 3) (bx2 : 0 ≤ x2 ∧ x2 ≤ 4) (bx3 : 0 ≤ x3 ∧ x3 ≤ 11) (bx4 : 0 ≤ x4 ∧ x4 ≤ 1) (bx7 : 0 ≤ x7 ∧ x7 ≤ 4) (kv0 : (x7 = 0 ∧ lf_wl x5 = 1) ∨ (x7 = 1 ∧ lf_wl x5 = 10000) ∨ (x7 = 2 ∧ lf_wl x5 = 100000000) ∨ (x7 = 3 ∧ lf_wl x5 = 1000000000000) ∨ (x7 = 4 ∧ lf_wl x5 = 10000000000000000)) : fm_289_p82L Q x1 x2 x3 x4 x5 x7 s := by
  intro X82 hX
  have key : ∀ (m9 : Nat) (x5 : Int) (x7 : Int) (s' : lf_Z), iv_A s'.1 s'.2.2 → lf_fq [104, 107] 1000000 true s.1 s.2.2 s'.1 s'.2.2 → 0 ≤ x7 ∧ x7 ≤ 4 → ((x7 = 0 ∧ lf_wl x5 = 1) ∨ (x7 = 1 ∧ lf_wl x5 = 10000) ∨ (x7 = 2 ∧ lf_wl x5 = 100000000) ∨ (x7 = 3 ∧ lf_wl x5 = 1000000000000) ∨ (x7 = 4 ∧ lf_wl x5 = 10000000000000000)) → (4 - x7).toNat < m9 → X82 x5 x7 s' := by
    intro m9
    induction m9 with
    | zero => intro x5 x7 s' _ _ bx7 kv0 h9; exact absurd h9 (Nat.not_lt_zero _)
    | succ m9 ih => intro x5 x7 s' i7 f7 bx7 kv0 h9; exact hX _ _ _ (sm_289_p82 (fun r9 t9 i9 f9 => hQ r9 t9 i9 (lf_fq_tr f7 f9))   (fun x5' x7' t8 i8 f8 bx7' kv0' h8 => ih x5' x7' t8 i8 (lf_fq_tr f7 f8) bx7' kv0' (by omega)) (Nat.le_refl _)  i7  bx1 bx2 bx3 bx4 bx7  kv0)
  exact key _ _ _ s hI lf_fq_rf bx7 kv0 (Nat.lt_succ_self _)
theorem sm_289_p32 {X32 : Int → lf_Z → Prop} {Q : Int → lf_Z → Prop} {x1 : Int} {x2 : Int} {x3 : Int} {x4 : Int} {x5 : Int} {s : lf_Z} (hQ : ∀ (r : Int) (s' : lf_Z), iv_A s'.1 s'.2.2 → lf_fq [104, 107] 1000000 true s.1 s.2.2 s'.1 s'.2.2 → Q r s') {M32 : Nat} (hX32 : ∀ (x5 : Int) (s' : lf_Z), iv_A s'.1 s'.2.2 → lf_fq [104, 107] 1000000 true s.1 s.2.2 s'.1 s'.2.2 → 0 ≤ x5 ∧ x5 ≤ 156 → (156 - x5).toNat < M32 → X32 x5 s') (hM32 : (156 - x5).toNat ≤ M32) (hI : iv_A s.1 s.2.2) (bx1 : 0 ≤ x1 ∧ x1 ≤ 3) (bx2 : 0 ≤ x2 ∧ x2 ≤ 4) (bx3 : 0 ≤ x3 ∧ x3 ≤ 11) (bx4 : 0 ≤ x4 ∧ x4 ≤ 1) (bx5 : 0 ≤ x5 ∧ x5 ≤ 156) : fm_289_p32 Q x1 x2 x3 x4 X32 x5 s := by
  unfold fm_289_p32
  refine ⟨(show lf_R x5 from lf_Rof (by omega)), ?_⟩
  refine ⟨fun c8 => ?_, fun c8 => ?_⟩
  · skip
    replace c8 : 156 ≤ x5 := c8
    refine sm_255 hI (show (0 : Int) ≤ x1 ∧ x1 ≤ (3 : Int) from by omega) (fun r29 q9 => ?_)
    refine sm_256 hI (show (0 : Int) ≤ x1 ∧ x1 ≤ (3 : Int) from by omega) (fun r31 q10 => ?_)
    refine ⟨(show (0 : Int) ≤ ((13 * r29) + r31) + 1 ∧ ((13 * r29) + r31) + 1 < (156 : Int) from by omega), ?_⟩
    have b11 : lf_wl 1 = 1 := lf_wlR (by decide)
    exact sm_289_p82L hQ hI (show (0 : Int) ≤ x1 ∧ x1 ≤ (3 : Int) from by omega) (show (0 : Int) ≤ x2 ∧ x2 ≤ (4 : Int) from by omega) (show (0 : Int) ≤ x3 ∧ x3 ≤ (11 : Int) from by omega) (show (0 : Int) ≤ x4 ∧ x4 ≤ (1 : Int) from by omega) (show (0 : Int) ≤ 0 ∧ 0 ≤ (4 : Int) from by omega) (show (0 = 0 ∧ lf_wl 1 = 1) ∨ (0 = 1 ∧ lf_wl 1 = 10000) ∨ (0 = 2 ∧ lf_wl 1 = 100000000) ∨ (0 = 3 ∧ lf_wl 1 = 1000000000000) ∨ (0 = 4 ∧ lf_wl 1 = 10000000000000000) from by omega)
  · skip
    replace c8 : ¬ (156 ≤ x5) := c8
    refine ⟨(show (0 : Int) ≤ x5 ∧ x5 < (156 : Int) from by omega), ?_⟩
    exact hX32 (x5 + 1) (s.1, lf_up s.2.1 109 x5 0, s.2.2) hI (lf_fq_rf) (show (0 : Int) ≤ x5 + 1 ∧ x5 + 1 ≤ (156 : Int) from by omega) (show (156 - (x5 + 1)).toNat < M32 from by omega)
theorem sm_289_p32L {Q : Int → lf_Z → Prop} {x1 : Int} {x2 : Int} {x3 : Int} {x4 : Int} {x5 : Int} {s : lf_Z} (hQ : ∀ (r : Int) (s' : lf_Z), iv_A s'.1 s'.2.2 → lf_fq [104, 107] 1000000 true s.1 s.2.2 s'.1 s'.2.2 → Q r s') (hI : iv_A s.1 s.2.2) (bx1 : 0 ≤ x1 ∧ x1 ≤ 3) (bx2 : 0 ≤ x2 ∧ x2 ≤ 4) (bx3 : 0 ≤ x3 ∧ x3 ≤ 11) (bx4 : 0 ≤ x4 ∧ x4 ≤ 1) (bx5 : 0 ≤ x5 ∧ x5 ≤ 156) : fm_289_p32L Q x1 x2 x3 x4 x5 s := by
  intro X32 hX
  have key : ∀ (m9 : Nat) (x5 : Int) (s' : lf_Z), iv_A s'.1 s'.2.2 → lf_fq [104, 107] 1000000 true s.1 s.2.2 s'.1 s'.2.2 → 0 ≤ x5 ∧ x5 ≤ 156 → (156 - x5).toNat < m9 → X32 x5 s' := by
    intro m9
    induction m9 with
    | zero => intro x5 s' _ _ bx5 h9; exact absurd h9 (Nat.not_lt_zero _)
    | succ m9 ih => intro x5 s' i7 f7 bx5 h9; exact hX _ _ (sm_289_p32 (fun r9 t9 i9 f9 => hQ r9 t9 i9 (lf_fq_tr f7 f9))   (fun x5' t8 i8 f8 bx5' h8 => ih x5' t8 i8 (lf_fq_tr f7 f8) bx5' (by omega)) (Nat.le_refl _)  i7  bx1 bx2 bx3 bx4 bx5  )
  exact key _ _ s hI lf_fq_rf bx5 (Nat.lt_succ_self _)
theorem sm_289 {a1 : Int} {a2 : Int} {a3 : Int} {a4 : Int} {Q : Int → lf_Z → Prop} {s : lf_Z} (hI : iv_A s.1 s.2.2) (ba1 : (-2147483648) ≤ a1 ∧ a1 ≤ 2147483647) (ba2 : (-2147483648) ≤ a2 ∧ a2 ≤ 2147483647) (ba3 : (-2147483648) ≤ a3 ∧ a3 ≤ 2147483647) (ba4 : 0 ≤ a4 ∧ a4 ≤ 1) (hQ : ∀ (r : Int) (s' : lf_Z), iv_A s'.1 s'.2.2 → lf_fq [104, 107] 1000000 true s.1 s.2.2 s'.1 s'.2.2 → Q r s') : fm_289 a1 a2 a3 a4 Q s := by
  unfold fm_289
  refine sm_254 hI (show (-2147483648 : Int) ≤ a1 ∧ a1 ≤ (2147483647 : Int) from by omega) (fun z22 q1 => ?_)
  refine ⟨fun c2 => ?_, fun c2 => ?_⟩
  · skip
    have dc2 := q1.2 c2
    exact sm_289_p25 hQ hI
  · skip
    have dc2 := q1.1 c2
    refine sm_183 hI (show (-2147483648 : Int) ≤ a2 ∧ a2 ≤ (2147483647 : Int) from by omega) (show (-1 : Int) ≤ 0 ∧ 0 ≤ (97 : Int) from by omega) (show (-1 : Int) ≤ 4 ∧ 4 ≤ (9999 : Int) from by omega) (fun z24 q3 => ?_)
    refine ⟨fun c4 => ?_, fun c4 => ?_⟩
    · skip
      have dc4 := q3.2 c4
      exact sm_289_p25 hQ hI
    · skip
      have dc4 := q3.1 c4
      refine sm_185 hI (show (-2147483648 : Int) ≤ a3 ∧ a3 ≤ (2147483647 : Int) from by omega) (fun z26 q5 => ?_)
      have b6 : 0 ≤ s.1 96 0 ∧ s.1 96 0 ≤ 12 := iv_rd96 hI (iv_f3e1fa21c (by omega))
      refine ⟨fun c7 => ?_, fun c7 => ?_⟩
      · skip
        have dc7 := q5.1 c7
        exact sm_289_p32L hQ hI (show (0 : Int) ≤ a1 ∧ a1 ≤ (3 : Int) from by omega) (show (0 : Int) ≤ a2 ∧ a2 ≤ (4 : Int) from by omega) (show (0 : Int) ≤ a3 ∧ a3 ≤ (11 : Int) from by omega) (show (0 : Int) ≤ a4 ∧ a4 ≤ (1 : Int) from by omega) (show (0 : Int) ≤ 0 ∧ 0 ≤ (156 : Int) from by omega)
      · skip
        have dc7 := q5.2 c7
        exact sm_289_p25 hQ hI
-- fm_129 Walk.goFrom 68 i i
theorem sm_129_p113 {X11 : Int → Int → lf_Z → Prop} {Q : Int → lf_Z → Prop} {x1 : Int} {x3 : Int} {x4 : Int} {x5 : Int} {x7 : Int} {s : lf_Z} (hQ : ∀ (r : Int) (s' : lf_Z), iv_A s'.1 s'.2.2 → lf_fq [63, 64, 65, 66, 69, 70, 71] 1000000 true s.1 s.2.2 s'.1 s'.2.2 → (1 ≤ r ∧ r ≤ 156) → Q r s') {M11 : Nat} (hX11 : ∀ (x4 : Int) (x5 : Int) (s' : lf_Z), iv_A s'.1 s'.2.2 → lf_fq [63, 64, 65, 66, 69, 70, 71] 1000000 true s.1 s.2.2 s'.1 s'.2.2 → 1 ≤ x4 ∧ x4 ≤ 156 → 0 ≤ x5 ∧ x5 ≤ 4 → (4 - x5).toNat < M11 → X11 x4 x5 s') (hM11 : (4 - x5).toNat ≤ M11) (hI : iv_A s.1 s.2.2) (bx1 : 0 ≤ x1 ∧ x1 ≤ 155) (bx3 : 0 ≤ x3 ∧ x3 ≤ 11) (bx4 : 1 ≤ x4 ∧ x4 ≤ 156) (bx5 : 0 ≤ x5 ∧ x5 ≤ 3) (bx7 : (-2147483648) ≤ x7 ∧ x7 ≤ 2147483647) : fm_129_p113 X11 Q x1 x3 x4 x5 x7 s := by
  unfold fm_129_p113
  refine ⟨(show lf_R x7 from lf_Rof (by omega)), ?_⟩
  refine ⟨fun c16 => ?_, fun c16 => ?_⟩
  · skip
    replace c16 : x7 ≠ 10 := c16
    exact hX11 (x4) (x5 + 1) s hI (lf_fq_rf) (show (1 : Int) ≤ x4 ∧ x4 ≤ (156 : Int) from by omega) (show (0 : Int) ≤ x5 + 1 ∧ x5 + 1 ≤ (4 : Int) from by omega) (show (4 - (x5 + 1)).toNat < M11 from by omega)
  · skip
    replace c16 : ¬ (x7 ≠ 10) := c16
    exact hQ x4 s hI (lf_fq_rf) (show (1 : Int) ≤ x4 ∧ x4 ≤ (156 : Int) from by omega)
theorem sm_129_p11 {X11 : Int → Int → lf_Z → Prop} {Q : Int → lf_Z → Prop} {x1 : Int} {x3 : Int} {x4 : Int} {x5 : Int} {s : lf_Z} (hQ : ∀ (r : Int) (s' : lf_Z), iv_A s'.1 s'.2.2 → lf_fq [63, 64, 65, 66, 69, 70, 71] 1000000 true s.1 s.2.2 s'.1 s'.2.2 → (1 ≤ r ∧ r ≤ 156) → Q r s') {M11 : Nat} (hX11 : ∀ (x4 : Int) (x5 : Int) (s' : lf_Z), iv_A s'.1 s'.2.2 → lf_fq [63, 64, 65, 66, 69, 70, 71] 1000000 true s.1 s.2.2 s'.1 s'.2.2 → 1 ≤ x4 ∧ x4 ≤ 156 → 0 ≤ x5 ∧ x5 ≤ 4 → (4 - x5).toNat < M11 → X11 x4 x5 s') (hM11 : (4 - x5).toNat ≤ M11) (hI : iv_A s.1 s.2.2) (bx1 : 0 ≤ x1 ∧ x1 ≤ 155) (bx3 : 0 ≤ x3 ∧ x3 ≤ 11) (bx4 : 1 ≤ x4 ∧ x4 ≤ 156) (bx5 : 0 ≤ x5 ∧ x5 ≤ 4) : fm_129_p11 Q x1 x3 X11 x4 x5 s := by
  unfold fm_129_p11
  refine sm_76 hI (show (-2147483648 : Int) ≤ x3 ∧ x3 ≤ (2147483647 : Int) from by omega) (fun r23 q2 => ?_)
  refine ⟨(show lf_R x5 from lf_Rof (by omega)), ?_⟩
  refine ⟨(show lf_R r23 from lf_Rof (by omega)), ?_⟩
  refine ⟨fun c3 => ?_, fun c3 => ?_⟩
  · skip
    replace c3 : r23 ≤ x5 := c3
    exact hQ x4 s hI (lf_fq_rf) (show (1 : Int) ≤ x4 ∧ x4 ≤ (156 : Int) from by omega)
  · skip
    replace c3 : ¬ (r23 ≤ x5) := c3
    refine sm_77 hI (show (-2147483648 : Int) ≤ x3 ∧ x3 ≤ (2147483647 : Int) from by omega) (show (0 : Int) ≤ x5 ∧ x5 ≤ (3 : Int) from by omega) (fun r27 q4 => ?_)
    refine ⟨(show lf_R x1 from lf_Rof (by omega)), ?_⟩
    have b5 : 0 ≤ x1.tmod 13 ∧ x1.tmod 13 ≤ 12 := lf_tmodP (by omega) (by omega) (by omega)
    refine sm_123 hI (show (-1 : Int) ≤ r27 ∧ r27 ≤ (15 : Int) from by omega) (show (0 : Int) ≤ x3 ∧ x3 ≤ (11 : Int) from by omega) (show (-1 : Int) ≤ (x1.tmod 13) - 1 ∧ (x1.tmod 13) - 1 ≤ (11 : Int) from by omega) (fun r30 s29 hI7 fr6 q8 => ?_)
    obtain ⟨q8, q8x⟩ := q8
    have b9 : 0 ≤ s.1 1 1 ∧ s.1 1 1 ≤ 16 := iv_r1_1 hI
    replace q8x : r30 ≤ 0 ∨ 0 ≤ iv_od (s.1 1 1) (s.1 4) (s.1 5) r27 x3 := q8x
    have fr10 : lf_fq [63, 64, 65, 66, 69, 70, 71] 1000000 true s.1 s.2.2 s29.1 s29.2.2 := lf_fq_tr (lf_fq_rf) (lf_fq_wk fr6 rfl (by decide) (by decide))
    refine sm_78 hI7 (show (-1 : Int) ≤ r27 ∧ r27 ≤ (15 : Int) from by omega) (show (-2147483648 : Int) ≤ x3 ∧ x3 ≤ (2147483647 : Int) from by omega) (fun r32 q11 => ?_)
    obtain ⟨q11, q11x⟩ := q11
    have b12 : 0 ≤ s29.1 1 1 ∧ s29.1 1 1 ≤ 16 := iv_r1_1 hI7
    have b13 : s29.1 1 1 = s.1 1 1 := congrFun (fr6.1 1 rfl) _
    replace q11x : r32 = iv_od (s29.1 1 1) (s29.1 4) (s29.1 5) r27 x3 := q11x
    have b14 : iv_od (s29.1 1 1) (s29.1 4) (s29.1 5) r27 x3 = iv_od (s.1 1 1) (s.1 4) (s.1 5) r27 x3 := by rw [fr6.1 1 rfl, fr6.1 4 rfl, fr6.1 5 rfl]
    refine ⟨(show lf_R r30 from lf_Rof (by omega)), ?_⟩
    refine ⟨fun c15 => ?_, fun c15 => ?_⟩
    · skip
      replace c15 : r30 ≤ 0 := c15
      exact sm_129_p113 (fun r9 t9 i9 f9 => hQ r9 t9 i9 (lf_fq_tr fr10 f9)) (fun p0 p1 t9 i9 f9 => hX11 p0 p1 t9 i9 (lf_fq_tr fr10 f9)) (show (4 - x5).toNat ≤ M11 from by omega) hI7 (show (0 : Int) ≤ x1 ∧ x1 ≤ (155 : Int) from by omega) (show (0 : Int) ≤ x3 ∧ x3 ≤ (11 : Int) from by omega) (show (1 : Int) ≤ x4 ∧ x4 ≤ (156 : Int) from by omega) (show (0 : Int) ≤ x5 ∧ x5 ≤ (3 : Int) from by omega) (show (-2147483648 : Int) ≤ r30 ∧ r30 ≤ (2147483647 : Int) from by omega)
    · skip
      replace c15 : ¬ (r30 ≤ 0) := c15
      refine ⟨(show (0 : Int) ≤ ((r32 * 13) + x3) + 1 ∧ ((r32 * 13) + x3) + 1 < (156 : Int) from by omega), ?_⟩
      have b17 : (-2147483648) ≤ s29.1 71 (((r32 * 13) + x3) + 1) ∧ s29.1 71 (((r32 * 13) + x3) + 1) ≤ 2147483647 := iv_full hI7
      have b18 : s29.1 71 (((r32 * 13) + x3) + 1) = s.1 71 (((r32 * 13) + x3) + 1) := congrFun (fr6.1 71 rfl) _
      refine ⟨(show lf_R (s29.1 71 (((r32 * 13) + x3) + 1)) from lf_Rof (by omega)), ?_⟩
      refine ⟨fun c19 => ?_, fun c19 => ?_⟩
      · skip
        replace c19 : s29.1 71 (((r32 * 13) + x3) + 1) ≠ 0 := c19
        exact sm_129_p113 (fun r9 t9 i9 f9 => hQ r9 t9 i9 (lf_fq_tr fr10 f9)) (fun p0 p1 t9 i9 f9 => hX11 p0 p1 t9 i9 (lf_fq_tr fr10 f9)) (show (4 - x5).toNat ≤ M11 from by omega) hI7 (show (0 : Int) ≤ x1 ∧ x1 ≤ (155 : Int) from by omega) (show (0 : Int) ≤ x3 ∧ x3 ≤ (11 : Int) from by omega) (show (1 : Int) ≤ x4 ∧ x4 ≤ (156 : Int) from by omega) (show (0 : Int) ≤ x5 ∧ x5 ≤ (3 : Int) from by omega) (show (-2147483648 : Int) ≤ r30 ∧ r30 ≤ (2147483647 : Int) from by omega)
      · skip
        replace c19 : ¬ (s29.1 71 (((r32 * 13) + x3) + 1) ≠ 0) := c19
        refine ⟨(show lf_R x4 from lf_Rof (by omega)), ?_⟩
        refine ⟨fun c20 => ?_, fun c20 => ?_⟩
        · skip
          replace c20 : 156 ≤ x4 := c20
          exact sm_129_p113 (fun r9 t9 i9 f9 => hQ r9 t9 i9 (lf_fq_tr fr10 f9)) (fun p0 p1 t9 i9 f9 => hX11 p0 p1 t9 i9 (lf_fq_tr fr10 f9)) (show (4 - x5).toNat ≤ M11 from by omega) hI7 (show (0 : Int) ≤ x1 ∧ x1 ≤ (155 : Int) from by omega) (show (0 : Int) ≤ x3 ∧ x3 ≤ (11 : Int) from by omega) (show (1 : Int) ≤ x4 ∧ x4 ≤ (156 : Int) from by omega) (show (0 : Int) ≤ x5 ∧ x5 ≤ (3 : Int) from by omega) (show (-2147483648 : Int) ≤ r30 ∧ r30 ≤ (2147483647 : Int) from by omega)
        · skip
          replace c20 : ¬ (156 ≤ x4) := c20
          have hI21 : iv_A (lf_up s29.1 71 (((r32 * 13) + x3) + 1) 1) s29.2.2 := iv_w71 hI7 (by omega)
          have fr22 : lf_fq [63, 64, 65, 66, 69, 70, 71] 1000000 true s.1 s.2.2 (lf_up s29.1 71 (((r32 * 13) + x3) + 1) 1) s29.2.2 := lf_fq_up fr10 rfl (fun h => absurd h (by decide))
          refine ⟨(show (0 : Int) ≤ x4 ∧ x4 < (156 : Int) from by omega), ?_⟩
          have hI23 : iv_A (lf_up (lf_up s29.1 71 (((r32 * 13) + x3) + 1) 1) 70 x4 (((r32 * 13) + x3) + 1)) s29.2.2 := iv_w70 hI21 (by omega)
          have fr24 : lf_fq [63, 64, 65, 66, 69, 70, 71] 1000000 true s.1 s.2.2 (lf_up (lf_up s29.1 71 (((r32 * 13) + x3) + 1) 1) 70 x4 (((r32 * 13) + x3) + 1)) s29.2.2 := lf_fq_up fr22 rfl (fun h => absurd h (by decide))
          exact sm_129_p113 (fun r9 t9 i9 f9 => hQ r9 t9 i9 (lf_fq_tr fr24 f9)) (fun p0 p1 t9 i9 f9 => hX11 p0 p1 t9 i9 (lf_fq_tr fr24 f9)) (show (4 - x5).toNat ≤ M11 from by omega) hI23 (show (0 : Int) ≤ x1 ∧ x1 ≤ (155 : Int) from by omega) (show (0 : Int) ≤ x3 ∧ x3 ≤ (11 : Int) from by omega) (show (1 : Int) ≤ x4 + 1 ∧ x4 + 1 ≤ (156 : Int) from by omega) (show (0 : Int) ≤ x5 ∧ x5 ≤ (3 : Int) from by omega) (show (-2147483648 : Int) ≤ r30 ∧ r30 ≤ (2147483647 : Int) from by omega)
theorem sm_129_p11L {Q : Int → lf_Z → Prop} {x1 : Int} {x3 : Int} {x4 : Int} {x5 : Int} {s : lf_Z} (hQ : ∀ (r : Int) (s' : lf_Z), iv_A s'.1 s'.2.2 → lf_fq [63, 64, 65, 66, 69, 70, 71] 1000000 true s.1 s.2.2 s'.1 s'.2.2 → (1 ≤ r ∧ r ≤ 156) → Q r s') (hI : iv_A s.1 s.2.2) (bx1 : 0 ≤ x1 ∧ x1 ≤ 155) (bx3 : 0 ≤ x3 ∧ x3 ≤ 11) (bx4 : 1 ≤ x4 ∧ x4 ≤ 156) (bx5 : 0 ≤ x5 ∧ x5 ≤ 4) : fm_129_p11L Q x1 x3 x4 x5 s := by
  intro X11 hX
  have key : ∀ (m9 : Nat) (x4 : Int) (x5 : Int) (s' : lf_Z), iv_A s'.1 s'.2.2 → lf_fq [63, 64, 65, 66, 69, 70, 71] 1000000 true s.1 s.2.2 s'.1 s'.2.2 → 1 ≤ x4 ∧ x4 ≤ 156 → 0 ≤ x5 ∧ x5 ≤ 4 → (4 - x5).toNat < m9 → X11 x4 x5 s' := by
    intro m9
    induction m9 with
    | zero => intro x4 x5 s' _ _ bx4 bx5 h9; exact absurd h9 (Nat.not_lt_zero _)
    | succ m9 ih => intro x4 x5 s' i7 f7 bx4 bx5 h9; exact hX _ _ _ (sm_129_p11 (fun r9 t9 i9 f9 => hQ r9 t9 i9 (lf_fq_tr f7 f9))   (fun x4' x5' t8 i8 f8 bx4' bx5' h8 => ih x4' x5' t8 i8 (lf_fq_tr f7 f8) bx4' bx5' (by omega)) (Nat.le_refl _)  i7  bx1 bx3 bx4 bx5  )
  exact key _ _ _ s hI lf_fq_rf bx4 bx5 (Nat.lt_succ_self _)
theorem sm_129 {a1 : Int} {a2 : Int} {Q : Int → lf_Z → Prop} {s : lf_Z} (hI : iv_A s.1 s.2.2) (ba1 : 0 ≤ a1 ∧ a1 ≤ 155) (ba2 : 1 ≤ a2 ∧ a2 ≤ 156) (hQ : ∀ (r : Int) (s' : lf_Z), iv_A s'.1 s'.2.2 → lf_fq [63, 64, 65, 66, 69, 70, 71] 1000000 true s.1 s.2.2 s'.1 s'.2.2 → (1 ≤ r ∧ r ≤ 156) → Q r s') : fm_129 a1 a2 Q s := by
  unfold fm_129
  refine ⟨(show lf_R a1 from lf_Rof (by omega)), ?_⟩
  have b1 : 0 ≤ a1.tdiv 13 ∧ a1.tdiv 13 ≤ 11 := lf_tdivB (p := 0) (q := 155) (by omega) (by omega) (by decide) (by decide) (by decide)
  exact sm_129_p11L hQ hI (show (0 : Int) ≤ a1 ∧ a1 ≤ (155 : Int) from by omega) (show (0 : Int) ≤ a1.tdiv 13 ∧ a1.tdiv 13 ≤ (11 : Int) from by omega) (show (1 : Int) ≤ a2 ∧ a2 ≤ (156 : Int) from by omega) (show (0 : Int) ≤ 0 ∧ 0 ≤ (4 : Int) from by omega)
-- fm_128 Walk.spread 68 i
theorem sm_128_p38 {X38 : Int → Int → Int → lf_Z → Prop} {Q : Int → lf_Z → Prop} {x2 : Int} {x3 : Int} {x4 : Int} {s : lf_Z} (hQ : ∀ (r : Int) (s' : lf_Z), iv_A s'.1 s'.2.2 → lf_fq [63, 64, 65, 66, 69, 70, 71] 1000000 true s.1 s.2.2 s'.1 s'.2.2 → ((-2147483648) ≤ r ∧ r ≤ 2147483647) → Q r s') {M38 : Nat} (hX38 : ∀ (x2 : Int) (x3 : Int) (x4 : Int) (s' : lf_Z), iv_A s'.1 s'.2.2 → lf_fq [63, 64, 65, 66, 69, 70, 71] 1000000 true s.1 s.2.2 s'.1 s'.2.2 → 1 ≤ x2 ∧ x2 ≤ 156 → (-2147483648) ≤ x3 ∧ x3 ≤ 2147483647 → 0 ≤ x4 ∧ x4 ≤ 156 → (156 - x4).toNat < M38 → X38 x2 x3 x4 s') (hM38 : (156 - x4).toNat ≤ M38) (hI : iv_A s.1 s.2.2) (bx2 : 1 ≤ x2 ∧ x2 ≤ 156) (bx3 : (-2147483648) ≤ x3 ∧ x3 ≤ 2147483647) (bx4 : 0 ≤ x4 ∧ x4 ≤ 156) : fm_128_p38 Q X38 x2 x3 x4 s := by
  unfold fm_128_p38
  refine ⟨(show lf_R x4 from lf_Rof (by omega)), ?_⟩
  refine ⟨(show lf_R x2 from lf_Rof (by omega)), ?_⟩
  refine ⟨fun c10 => ?_, fun c10 => ?_⟩
  · skip
    replace c10 : x2 ≤ x4 := c10
    exact hQ x3 s hI (lf_fq_rf) (show (-2147483648 : Int) ≤ x3 ∧ x3 ≤ (2147483647 : Int) from by omega)
  · skip
    replace c10 : ¬ (x2 ≤ x4) := c10
    refine ⟨fun c11 => ?_, fun c11 => ?_⟩
    · skip
      replace c11 : 156 ≤ x4 := c11
      exfalso
      omega
    · skip
      replace c11 : ¬ (156 ≤ x4) := c11
      refine ⟨(show (0 : Int) ≤ x4 ∧ x4 < (156 : Int) from by omega), ?_⟩
      have b12 : 0 ≤ s.1 70 x4 ∧ s.1 70 x4 ≤ 155 := iv_r70 hI _
      refine ⟨(show lf_R (s.1 70 x4) from lf_Rof (by omega)), ?_⟩
      have b13 : 0 ≤ (s.1 70 x4).tdiv 13 ∧ (s.1 70 x4).tdiv 13 ≤ 11 := lf_tdivB (p := 0) (q := 155) (by omega) (by omega) (by decide) (by decide) (by decide)
      have b14 : 1 ≤ lf_shl 1 ((s.1 70 x4).tdiv 13) ∧ lf_shl 1 ((s.1 70 x4).tdiv 13) ≤ 2048 := lf_shl1 (m := 11) (by omega) (by omega) (by decide)
      have b15 : (-2147483648) ≤ lf_or x3 (lf_shl 1 ((s.1 70 x4).tdiv 13)) ∧ lf_or x3 (lf_shl 1 ((s.1 70 x4).tdiv 13)) ≤ 2147483647 := lf_orB
      refine sm_129 hI (show (0 : Int) ≤ s.1 70 x4 ∧ s.1 70 x4 ≤ (155 : Int) from by omega) (show (1 : Int) ≤ x2 ∧ x2 ≤ (156 : Int) from by omega) (fun r29 s28 hI17 fr16 q18 => ?_)
      have fr19 : lf_fq [63, 64, 65, 66, 69, 70, 71] 1000000 true s.1 s.2.2 s28.1 s28.2.2 := lf_fq_tr (lf_fq_rf) (lf_fq_wk fr16 rfl (by decide) (by decide))
      exact hX38 (r29) (lf_or x3 (lf_shl 1 ((s.1 70 x4).tdiv 13))) (x4 + 1) s28 hI17 fr19 (show (1 : Int) ≤ r29 ∧ r29 ≤ (156 : Int) from by omega) (show (-2147483648 : Int) ≤ lf_or x3 (lf_shl 1 ((s.1 70 x4).tdiv 13)) ∧ lf_or x3 (lf_shl 1 ((s.1 70 x4).tdiv 13)) ≤ (2147483647 : Int) from by omega) (show (0 : Int) ≤ x4 + 1 ∧ x4 + 1 ≤ (156 : Int) from by omega) (show (156 - (x4 + 1)).toNat < M38 from by omega)
theorem sm_128_p38L {Q : Int → lf_Z → Prop} {x2 : Int} {x3 : Int} {x4 : Int} {s : lf_Z} (hQ : ∀ (r : Int) (s' : lf_Z), iv_A s'.1 s'.2.2 → lf_fq [63, 64, 65, 66, 69, 70, 71] 1000000 true s.1 s.2.2 s'.1 s'.2.2 → ((-2147483648) ≤ r ∧ r ≤ 2147483647) → Q r s') (hI : iv_A s.1 s.2.2) (bx2 : 1 ≤ x2 ∧ x2 ≤ 156) (bx3 : (-2147483648) ≤ x3 ∧ x3 ≤ 2147483647) (bx4 : 0 ≤ x4 ∧ x4 ≤ 156) : fm_128_p38L Q x2 x3 x4 s := by
  intro X38 hX
  have key : ∀ (m9 : Nat) (x2 : Int) (x3 : Int) (x4 : Int) (s' : lf_Z), iv_A s'.1 s'.2.2 → lf_fq [63, 64, 65, 66, 69, 70, 71] 1000000 true s.1 s.2.2 s'.1 s'.2.2 → 1 ≤ x2 ∧ x2 ≤ 156 → (-2147483648) ≤ x3 ∧ x3 ≤ 2147483647 → 0 ≤ x4 ∧ x4 ≤ 156 → (156 - x4).toNat < m9 → X38 x2 x3 x4 s' := by
    intro m9
    induction m9 with
    | zero => intro x2 x3 x4 s' _ _ bx2 bx3 bx4 h9; exact absurd h9 (Nat.not_lt_zero _)
    | succ m9 ih => intro x2 x3 x4 s' i7 f7 bx2 bx3 bx4 h9; exact hX _ _ _ _ (sm_128_p38 (fun r9 t9 i9 f9 => hQ r9 t9 i9 (lf_fq_tr f7 f9))   (fun x2' x3' x4' t8 i8 f8 bx2' bx3' bx4' h8 => ih x2' x3' x4' t8 i8 (lf_fq_tr f7 f8) bx2' bx3' bx4' (by omega)) (Nat.le_refl _)  i7  bx2 bx3 bx4  )
  exact key _ _ _ _ s hI lf_fq_rf bx2 bx3 bx4 (Nat.lt_succ_self _)
theorem sm_128 {a1 : Int} {Q : Int → lf_Z → Prop} {s : lf_Z} (hI : iv_A s.1 s.2.2) (ba1 : 0 ≤ a1 ∧ a1 ≤ 3) (kp0 : 0 < s.1 16 a1) (hQ : ∀ (r : Int) (s' : lf_Z), iv_A s'.1 s'.2.2 → lf_fq [63, 64, 65, 66, 69, 70, 71] 1000000 true s.1 s.2.2 s'.1 s'.2.2 → ((-2147483648) ≤ r ∧ r ≤ 2147483647) → Q r s') : fm_128 a1 Q s := by
  unfold fm_128
  have hI1 : iv_A (lf_fl s.1 71 156 0) s.2.2 := iv_fl71 hI (by omega)
  have fr2 : lf_fq [63, 64, 65, 66, 69, 70, 71] 1000000 true s.1 s.2.2 (lf_fl s.1 71 156 0) s.2.2 := lf_fq_fl (lf_fq_rf) rfl (by decide)
  have b3 : (-2147483648) ≤ (lf_fl s.1 71 156 0) 16 a1 ∧ (lf_fl s.1 71 156 0) 16 a1 ≤ 2147483647 := iv_full hI1
  have b4 : (lf_fl s.1 71 156 0) 16 a1 = s.1 16 a1 := lf_fl_c (by omega)
  refine sm_120 hI1 (show (0 : Int) ≤ a1 ∧ a1 ≤ (3 : Int) from by omega) (show 0 < ((lf_fl s.1 71 156 0) 16 a1) from by omega) (fun r22 q5 => ?_)
  have hI6 : iv_A (lf_up (lf_fl s.1 71 156 0) 70 0 r22) s.2.2 := iv_w70 hI1 (by omega)
  have fr7 : lf_fq [63, 64, 65, 66, 69, 70, 71] 1000000 true s.1 s.2.2 (lf_up (lf_fl s.1 71 156 0) 70 0 r22) s.2.2 := lf_fq_up fr2 rfl (fun h => absurd h (by decide))
  refine ⟨(show (0 : Int) ≤ r22 ∧ r22 < (156 : Int) from by omega), ?_⟩
  have hI8 : iv_A (lf_up (lf_up (lf_fl s.1 71 156 0) 70 0 r22) 71 r22 1) s.2.2 := iv_w71 hI6 (by omega)
  have fr9 : lf_fq [63, 64, 65, 66, 69, 70, 71] 1000000 true s.1 s.2.2 (lf_up (lf_up (lf_fl s.1 71 156 0) 70 0 r22) 71 r22 1) s.2.2 := lf_fq_up fr7 rfl (fun h => absurd h (by decide))
  exact sm_128_p38L (fun r9 t9 i9 f9 => hQ r9 t9 i9 (lf_fq_tr fr9 f9)) hI8 (show (1 : Int) ≤ 1 ∧ 1 ≤ (156 : Int) from by omega) (show (-2147483648 : Int) ≤ 0 ∧ 0 ≤ (2147483647 : Int) from by omega) (show (0 : Int) ≤ 0 ∧ 0 ≤ (156 : Int) from by omega)
-- fm_127 Walk.reached 68 i
theorem sm_127 {a1 : Int} {Q : Int → lf_Z → Prop} {s : lf_Z} (hI : iv_A s.1 s.2.2) (ba1 : 0 ≤ a1 ∧ a1 ≤ 3) (kp0 : 0 < s.1 16 a1) (hQ : ∀ (r : Int) (s' : lf_Z), iv_A s'.1 s'.2.2 → lf_fq [63, 64, 65, 66, 68, 69, 70, 71] 1000000 true s.1 s.2.2 s'.1 s'.2.2 → ((-2147483648) ≤ r ∧ r ≤ 2147483647) → Q r s') : fm_127 a1 Q s := by
  unfold fm_127
  refine sm_118 hI (show (0 : Int) ≤ a1 ∧ a1 ≤ (3 : Int) from by omega) (show (0 : Int) ≤ 0 ∧ 0 ≤ (9 : Int) from by omega) (fun s21 hI2 fr1 => ?_)
  have fr4 : lf_fq [63, 64, 65, 66, 68, 69, 70, 71] 1000000 true s.1 s.2.2 s21.1 s21.2.2 := lf_fq_tr (lf_fq_rf) (lf_fq_wk fr1 rfl (by decide) (by decide))
  have b7 : (-2147483648) ≤ s21.1 16 a1 ∧ s21.1 16 a1 ≤ 2147483647 := iv_full hI2
  have b8 : s21.1 16 a1 = s.1 16 a1 := congrFun (fr1.1 16 rfl) _
  refine sm_128 hI2 (show (0 : Int) ≤ a1 ∧ a1 ≤ (3 : Int) from by omega) (show 0 < (s21.1 16 a1) from by omega) (fun r23 s22 hI6 fr5 q9 => ?_)
  have fr10 : lf_fq [63, 64, 65, 66, 68, 69, 70, 71] 1000000 true s.1 s.2.2 s22.1 s22.2.2 := lf_fq_tr fr4 (lf_fq_wk fr5 rfl (by decide) (by decide))
  exact hQ r23 s22 hI6 fr10 (show (-2147483648 : Int) ≤ r23 ∧ r23 ≤ (2147483647 : Int) from by omega)
-- fm_126 ElevenBullocks.canCome 0 i
theorem sm_126 {a1 : Int} {Q : Int → lf_Z → Prop} {s : lf_Z} (hI : iv_A s.1 s.2.2) (ba1 : (-2147483648) ≤ a1 ∧ a1 ≤ 2147483647) (hQ : ∀ (r : Int) (s' : lf_Z), iv_A s'.1 s'.2.2 → lf_fq [63, 64, 65, 66, 68, 69, 70, 71] 1000000 true s.1 s.2.2 s'.1 s'.2.2 → ((-2147483648) ≤ r ∧ r ≤ 2147483647) → Q r s') : fm_126 a1 Q s := by
  unfold fm_126
  refine sm_80 hI (show (-2147483648 : Int) ≤ a1 ∧ a1 ≤ (2147483647 : Int) from by omega) (fun z22 q1 => ?_)
  have b2 : (-2147483648) ≤ s.1 16 a1 ∧ s.1 16 a1 ≤ 2147483647 := iv_full hI
  refine ⟨fun c3 => ?_, fun c3 => ?_⟩
  · skip
    have dc3 := q1.2 c3
    exact hQ (-1) s hI (lf_fq_rf) (show (-2147483648 : Int) ≤ (-1) ∧ (-1) ≤ (2147483647 : Int) from by omega)
  · skip
    have dc3 := q1.1 c3
    refine sm_127 hI (show (0 : Int) ≤ a1 ∧ a1 ≤ (3 : Int) from by omega) (show 0 < (s.1 16 a1) from by omega) (fun r24 s23 hI5 fr4 q6 => ?_)
    have fr7 : lf_fq [63, 64, 65, 66, 68, 69, 70, 71] 1000000 true s.1 s.2.2 s23.1 s23.2.2 := lf_fq_tr (lf_fq_rf) (lf_fq_wk fr4 rfl (by decide) (by decide))
    exact hQ r24 s23 hI5 fr7 (show (-2147483648 : Int) ≤ r24 ∧ r24 ≤ (2147483647 : Int) from by omega)
-- fm_294 Model.comesTo 95 i
theorem sm_294_p203 {X63 : Int → Int → Int → lf_Z → Prop} {Q : Int → lf_Z → Prop} {x1 : Int} {x2 : Int} {x3 : Int} {x4 : Int} {s : lf_Z} (hQ : ∀ (r : Int) (s' : lf_Z), iv_A s'.1 s'.2.2 → lf_fq [104, 107, 111, 112] 1000000 true s.1 s.2.2 s'.1 s'.2.2 → ((-2147483648) ≤ r ∧ r ≤ 2147483647) → Q r s') {M63 : Nat} (hX63 : ∀ (x2 : Int) (x3 : Int) (x4 : Int) (s' : lf_Z), iv_A s'.1 s'.2.2 → lf_fq [104, 107, 111, 112] 1000000 true s.1 s.2.2 s'.1 s'.2.2 → 1 ≤ x2 ∧ x2 ≤ 156 → (-2147483648) ≤ x3 ∧ x3 ≤ 2147483647 → 0 ≤ x4 ∧ x4 ≤ 156 → (x2 = lf_ct (s'.1 111) 156) → (156 - x4).toNat < M63 → X63 x2 x3 x4 s') (hM63 : (156 - x4).toNat ≤ M63) (hI : iv_A s.1 s.2.2) (bx1 : 0 ≤ x1 ∧ x1 ≤ 3) (bx2 : 1 ≤ x2 ∧ x2 ≤ 156) (bx3 : (-2147483648) ≤ x3 ∧ x3 ≤ 2147483647) (bx4 : 0 ≤ x4 ∧ x4 ≤ 155) (kv0 : x2 = lf_ct (s.1 111) 156) : fm_294_p203 X63 Q x1 x2 x3 x4 s := by
  unfold fm_294_p203
  have b18 : x2 = lf_ct ((s.1 111)) 156 := by first | omega | exact (lf_zr1 kv0 (by omega) (by omega) (by omega) lf_up_s (fun j hj => lf_up_i hj)).symm
  exact hX63 (x2) (x3) (x4 + 1) s hI (lf_fq_rf) (show (1 : Int) ≤ x2 ∧ x2 ≤ (156 : Int) from by omega) (show (-2147483648 : Int) ≤ x3 ∧ x3 ≤ (2147483647 : Int) from by omega) (show (0 : Int) ≤ x4 + 1 ∧ x4 + 1 ≤ (156 : Int) from by omega) (show x2 = lf_ct ((s.1 111)) 156 from by omega) (show (156 - (x4 + 1)).toNat < M63 from by omega)
theorem sm_294_p197 {X63 : Int → Int → Int → lf_Z → Prop} {X94 : Int → Int → Int → lf_Z → Prop} {Q : Int → lf_Z → Prop} {x1 : Int} {x2 : Int} {x3 : Int} {x4 : Int} {x5 : Int} {x6 : Int} {x7 : Int} {s : lf_Z} (hQ : ∀ (r : Int) (s' : lf_Z), iv_A s'.1 s'.2.2 → lf_fq [104, 107, 111, 112] 1000000 true s.1 s.2.2 s'.1 s'.2.2 → ((-2147483648) ≤ r ∧ r ≤ 2147483647) → Q r s') {M63 : Nat} (hX63 : ∀ (x2 : Int) (x3 : Int) (x4 : Int) (s' : lf_Z), iv_A s'.1 s'.2.2 → lf_fq [104, 107, 111, 112] 1000000 true s.1 s.2.2 s'.1 s'.2.2 → 1 ≤ x2 ∧ x2 ≤ 156 → (-2147483648) ≤ x3 ∧ x3 ≤ 2147483647 → 0 ≤ x4 ∧ x4 ≤ 156 → (x2 = lf_ct (s'.1 111) 156) → (156 - x4).toNat < M63 → X63 x2 x3 x4 s') (hM63 : (156 - x4).toNat ≤ M63) {M94 : Nat} (hX94 : ∀ (x2 : Int) (x6 : Int) (x7 : Int) (s' : lf_Z), iv_A s'.1 s'.2.2 → lf_fq [104, 107, 111, 112] 1000000 true s.1 s.2.2 s'.1 s'.2.2 → 1 ≤ x2 ∧ x2 ≤ 156 → 0 ≤ x6 ∧ x6 ≤ 100 → 0 ≤ x7 ∧ x7 ≤ 16 → (x2 = lf_ct (s'.1 111) 156) → (16 - x7).toNat < M94 → X94 x2 x6 x7 s') (hM94 : (16 - x7).toNat ≤ M94) (hI : iv_A s.1 s.2.2) (bx1 : 0 ≤ x1 ∧ x1 ≤ 3) (bx2 : 1 ≤ x2 ∧ x2 ≤ 156) (bx3 : (-2147483648) ≤ x3 ∧ x3 ≤ 2147483647) (bx4 : 0 ≤ x4 ∧ x4 ≤ 155) (bx5 : 0 ≤ x5 ∧ x5 ≤ 11) (bx6 : 0 ≤ x6 ∧ x6 ≤ 100) (bx7 : 0 ≤ x7 ∧ x7 ≤ 15) (kv0 : x2 = lf_ct (s.1 111) 156) : fm_294_p197 X63 X94 Q x1 x2 x3 x4 x5 x6 x7 s := by
  unfold fm_294_p197
  exact hX94 (x2) (x6) (x7 + 1) s hI (lf_fq_rf) (show (1 : Int) ≤ x2 ∧ x2 ≤ (156 : Int) from by omega) (show (0 : Int) ≤ x6 ∧ x6 ≤ (100 : Int) from by omega) (show (0 : Int) ≤ x7 + 1 ∧ x7 + 1 ≤ (16 : Int) from by omega) (show x2 = lf_ct ((s.1 111)) 156 from by omega) (show (16 - (x7 + 1)).toNat < M94 from by omega)
theorem sm_294_p94 {X63 : Int → Int → Int → lf_Z → Prop} {X94 : Int → Int → Int → lf_Z → Prop} {Q : Int → lf_Z → Prop} {x1 : Int} {x2 : Int} {x3 : Int} {x4 : Int} {x5 : Int} {x6 : Int} {x7 : Int} {s : lf_Z} (hQ : ∀ (r : Int) (s' : lf_Z), iv_A s'.1 s'.2.2 → lf_fq [104, 107, 111, 112] 1000000 true s.1 s.2.2 s'.1 s'.2.2 → ((-2147483648) ≤ r ∧ r ≤ 2147483647) → Q r s') {M63 : Nat} (hX63 : ∀ (x2 : Int) (x3 : Int) (x4 : Int) (s' : lf_Z), iv_A s'.1 s'.2.2 → lf_fq [104, 107, 111, 112] 1000000 true s.1 s.2.2 s'.1 s'.2.2 → 1 ≤ x2 ∧ x2 ≤ 156 → (-2147483648) ≤ x3 ∧ x3 ≤ 2147483647 → 0 ≤ x4 ∧ x4 ≤ 156 → (x2 = lf_ct (s'.1 111) 156) → (156 - x4).toNat < M63 → X63 x2 x3 x4 s') (hM63 : (156 - x4).toNat ≤ M63) {M94 : Nat} (hX94 : ∀ (x2 : Int) (x6 : Int) (x7 : Int) (s' : lf_Z), iv_A s'.1 s'.2.2 → lf_fq [104, 107, 111, 112] 1000000 true s.1 s.2.2 s'.1 s'.2.2 → 1 ≤ x2 ∧ x2 ≤ 156 → 0 ≤ x6 ∧ x6 ≤ 100 → 0 ≤ x7 ∧ x7 ≤ 16 → (x2 = lf_ct (s'.1 111) 156) → (16 - x7).toNat < M94 → X94 x2 x6 x7 s') (hM94 : (16 - x7).toNat ≤ M94) (hI : iv_A s.1 s.2.2) (bx1 : 0 ≤ x1 ∧ x1 ≤ 3) (bx2 : 1 ≤ x2 ∧ x2 ≤ 156) (bx3 : (-2147483648) ≤ x3 ∧ x3 ≤ 2147483647) (bx4 : 0 ≤ x4 ∧ x4 ≤ 155) (bx5 : 0 ≤ x5 ∧ x5 ≤ 11) (bx6 : 0 ≤ x6 ∧ x6 ≤ 100) (bx7 : 0 ≤ x7 ∧ x7 ≤ 16) (kv0 : x2 = lf_ct (s.1 111) 156) : fm_294_p94 X63 Q x1 x3 x4 x5 X94 x2 x6 x7 s := by
  unfold fm_294_p94
  have b15 : 0 ≤ s.1 96 1 ∧ s.1 96 1 ≤ 16 := iv_rd96 hI (iv_fd6ad3e54 (by omega))
  have b16 : s.1 96 1 ≤ 0 ∨ 0 < s.1 96 0 := (show s.1 96 1 ≤ 0 ∨ 0 < s.1 96 0 from iv_l96_1 hI)
  refine ⟨(show lf_R x7 from lf_Rof (by omega)), ?_⟩
  refine ⟨(show lf_R (s.1 96 1) from lf_Rof (by omega)), ?_⟩
  refine ⟨fun c17 => ?_, fun c17 => ?_⟩
  · skip
    replace c17 : s.1 96 1 ≤ x7 := c17
    exact sm_294_p203 hQ hX63 (show (156 - x4).toNat ≤ M63 from by omega) hI (show (0 : Int) ≤ x1 ∧ x1 ≤ (3 : Int) from by omega) (show (1 : Int) ≤ x2 ∧ x2 ≤ (156 : Int) from by omega) (show (-2147483648 : Int) ≤ x3 ∧ x3 ≤ (2147483647 : Int) from by omega) (show (0 : Int) ≤ x4 ∧ x4 ≤ (155 : Int) from by omega) (show x2 = lf_ct ((s.1 111)) 156 from by omega)
  · skip
    replace c17 : ¬ (s.1 96 1 ≤ x7) := c17
    refine ⟨(show lf_R x6 from lf_Rof (by omega)), ?_⟩
    refine ⟨fun c19 => ?_, fun c19 => ?_⟩
    · skip
      replace c19 : 10 ≤ x6 := c19
      exact sm_294_p203 hQ hX63 (show (156 - x4).toNat ≤ M63 from by omega) hI (show (0 : Int) ≤ x1 ∧ x1 ≤ (3 : Int) from by omega) (show (1 : Int) ≤ x2 ∧ x2 ≤ (156 : Int) from by omega) (show (-2147483648 : Int) ≤ x3 ∧ x3 ≤ (2147483647 : Int) from by omega) (show (0 : Int) ≤ x4 ∧ x4 ≤ (155 : Int) from by omega) (show x2 = lf_ct ((s.1 111)) 156 from by omega)
    · skip
      replace c19 : ¬ (10 ≤ x6) := c19
      refine sm_242 hI (show (0 : Int) ≤ x1 ∧ x1 ≤ (3 : Int) from by omega) (fun r35 q20 => ?_)
      obtain ⟨q20, q20x⟩ := q20
      replace q20x : r35 = s.1 96 (114 + 3 * x1) := q20x
      refine ⟨(show (0 : Int) ≤ x4 ∧ x4 < (156 : Int) from by omega), ?_⟩
      have b21 : 0 ≤ s.1 112 x4 ∧ s.1 112 x4 ≤ 155 := iv_r112 hI _
      refine ⟨(show lf_R (s.1 112 x4) from lf_Rof (by omega)), ?_⟩
      have b22 : 0 ≤ (s.1 112 x4).tmod 13 ∧ (s.1 112 x4).tmod 13 ≤ 12 := lf_tmodP (by omega) (by omega) (by omega)
      refine sm_273 hI (show (0 : Int) ≤ r35 ∧ r35 ≤ (24 : Int) from by omega) (show (0 : Int) ≤ x5 ∧ x5 ≤ (11 : Int) from by omega) (show (-1 : Int) ≤ ((s.1 112 x4).tmod 13) - 1 ∧ ((s.1 112 x4).tmod 13) - 1 ≤ (11 : Int) from by omega) (show (0 : Int) ≤ x7 ∧ x7 ≤ (15 : Int) from by omega) (fun r39 s38 hI24 fr23 q25 => ?_)
      obtain ⟨q25, q25x⟩ := q25
      replace q25x : r39 ≤ 0 ∨ 0 ≤ iv_os (s.1 96) x7 x5 := q25x
      have fr26 : lf_fq [104, 107, 111, 112] 1000000 true s.1 s.2.2 s38.1 s38.2.2 := lf_fq_tr (lf_fq_rf) (lf_fq_wk fr23 rfl (by decide) (by decide))
      have b27 : lf_ct ((s38.1 111)) 156 = lf_ct (s.1 111) 156 := lf_c2 lf_ct (fr23.1 111 rfl) rfl
      refine ⟨(show lf_R r39 from lf_Rof (by omega)), ?_⟩
      refine ⟨fun c28 => ?_, fun c28 => ?_⟩
      · skip
        replace c28 : r39 ≠ 0 := c28
        refine sm_187 hI24 (show (0 : Int) ≤ x7 ∧ x7 ≤ (15 : Int) from by omega) (show (0 : Int) ≤ x5 ∧ x5 ≤ (11 : Int) from by omega) (fun r42 q29 => ?_)
        obtain ⟨q29, q29x⟩ := q29
        replace q29x : r42 = iv_os (s38.1 96) x7 x5 := q29x
        have b30 : iv_os (s38.1 96) x7 x5 = iv_os (s.1 96) x7 x5 := by rw [fr23.1 96 rfl]
        refine ⟨(show (0 : Int) ≤ ((13 * r42) + x5) + 1 ∧ ((13 * r42) + x5) + 1 < (156 : Int) from by omega), ?_⟩
        have b31 : 0 ≤ s38.1 111 (((13 * r42) + x5) + 1) ∧ s38.1 111 (((13 * r42) + x5) + 1) ≤ 1 := iv_r111 hI24 _
        have b32 : s38.1 111 (((13 * r42) + x5) + 1) = s.1 111 (((13 * r42) + x5) + 1) := congrFun (fr23.1 111 rfl) _
        refine ⟨(show lf_R (s38.1 111 (((13 * r42) + x5) + 1)) from lf_Rof (by omega)), ?_⟩
        refine ⟨fun c33 => ?_, fun c33 => ?_⟩
        · skip
          replace c33 : s38.1 111 (((13 * r42) + x5) + 1) = 0 := c33
          have b34 : lf_ct ((s38.1 111)) 156 + 1 ≤ 156 := lf_cts (i := (((13 * r42) + x5) + 1)) (fun j => (iv_r111 hI24 j).2) (by omega) (by omega) (by omega)
          have hI35 : iv_A (lf_up s38.1 111 (((13 * r42) + x5) + 1) 1) s38.2.2 := iv_w111 hI24 (by omega)
          have fr36 : lf_fq [104, 107, 111, 112] 1000000 true s.1 s.2.2 (lf_up s38.1 111 (((13 * r42) + x5) + 1) 1) s38.2.2 := lf_fq_up fr26 rfl (fun h => absurd h (by decide))
          refine ⟨(show (0 : Int) ≤ x2 ∧ x2 < (156 : Int) from by omega), ?_⟩
          have hI37 : iv_A (lf_up (lf_up s38.1 111 (((13 * r42) + x5) + 1) 1) 112 x2 (((13 * r42) + x5) + 1)) s38.2.2 := iv_w112 hI35 (by omega)
          have fr38 : lf_fq [104, 107, 111, 112] 1000000 true s.1 s.2.2 (lf_up (lf_up s38.1 111 (((13 * r42) + x5) + 1) 1) 112 x2 (((13 * r42) + x5) + 1)) s38.2.2 := lf_fq_up fr36 rfl (fun h => absurd h (by decide))
          have b39 : lf_ct (((lf_up s38.1 111 (((13 * r42) + x5) + 1) 1) 111)) 156 = lf_ct (s38.1 111) 156 + 1 := lf_ctu (i := (((13 * r42) + x5) + 1)) (by omega) (by omega) (by rw [lf_up_s]; omega) (fun j hj => lf_up_i hj)
          exact sm_294_p197 (fun r9 t9 i9 f9 => hQ r9 t9 i9 (lf_fq_tr fr38 f9)) (fun p0 p1 p2 t9 i9 f9 => hX63 p0 p1 p2 t9 i9 (lf_fq_tr fr38 f9)) (show (156 - x4).toNat ≤ M63 from by omega) (fun p0 p1 p2 t9 i9 f9 => hX94 p0 p1 p2 t9 i9 (lf_fq_tr fr38 f9)) (show (16 - x7).toNat ≤ M94 from by omega) hI37 (show (0 : Int) ≤ x1 ∧ x1 ≤ (3 : Int) from by omega) (show (1 : Int) ≤ x2 + 1 ∧ x2 + 1 ≤ (156 : Int) from by omega) (show (-2147483648 : Int) ≤ x3 ∧ x3 ≤ (2147483647 : Int) from by omega) (show (0 : Int) ≤ x4 ∧ x4 ≤ (155 : Int) from by omega) (show (0 : Int) ≤ x5 ∧ x5 ≤ (11 : Int) from by omega) (show (0 : Int) ≤ r39 ∧ r39 ≤ (100 : Int) from by omega) (show (0 : Int) ≤ x7 ∧ x7 ≤ (15 : Int) from by omega) (show (x2 + 1) = lf_ct (((lf_up s38.1 111 (((13 * r42) + x5) + 1) 1) 111)) 156 from by omega)
        · skip
          replace c33 : ¬ (s38.1 111 (((13 * r42) + x5) + 1) = 0) := c33
          exact sm_294_p197 (fun r9 t9 i9 f9 => hQ r9 t9 i9 (lf_fq_tr fr26 f9)) (fun p0 p1 p2 t9 i9 f9 => hX63 p0 p1 p2 t9 i9 (lf_fq_tr fr26 f9)) (show (156 - x4).toNat ≤ M63 from by omega) (fun p0 p1 p2 t9 i9 f9 => hX94 p0 p1 p2 t9 i9 (lf_fq_tr fr26 f9)) (show (16 - x7).toNat ≤ M94 from by omega) hI24 (show (0 : Int) ≤ x1 ∧ x1 ≤ (3 : Int) from by omega) (show (1 : Int) ≤ x2 ∧ x2 ≤ (156 : Int) from by omega) (show (-2147483648 : Int) ≤ x3 ∧ x3 ≤ (2147483647 : Int) from by omega) (show (0 : Int) ≤ x4 ∧ x4 ≤ (155 : Int) from by omega) (show (0 : Int) ≤ x5 ∧ x5 ≤ (11 : Int) from by omega) (show (0 : Int) ≤ r39 ∧ r39 ≤ (100 : Int) from by omega) (show (0 : Int) ≤ x7 ∧ x7 ≤ (15 : Int) from by omega) (show x2 = lf_ct ((s38.1 111)) 156 from by omega)
      · skip
        replace c28 : ¬ (r39 ≠ 0) := c28
        exact sm_294_p197 (fun r9 t9 i9 f9 => hQ r9 t9 i9 (lf_fq_tr fr26 f9)) (fun p0 p1 p2 t9 i9 f9 => hX63 p0 p1 p2 t9 i9 (lf_fq_tr fr26 f9)) (show (156 - x4).toNat ≤ M63 from by omega) (fun p0 p1 p2 t9 i9 f9 => hX94 p0 p1 p2 t9 i9 (lf_fq_tr fr26 f9)) (show (16 - x7).toNat ≤ M94 from by omega) hI24 (show (0 : Int) ≤ x1 ∧ x1 ≤ (3 : Int) from by omega) (show (1 : Int) ≤ x2 ∧ x2 ≤ (156 : Int) from by omega) (show (-2147483648 : Int) ≤ x3 ∧ x3 ≤ (2147483647 : Int) from by omega) (show (0 : Int) ≤ x4 ∧ x4 ≤ (155 : Int) from by omega) (show (0 : Int) ≤ x5 ∧ x5 ≤ (11 : Int) from by omega) (show (0 : Int) ≤ r39 ∧ r39 ≤ (100 : Int) from by omega) (show (0 : Int) ≤ x7 ∧ x7 ≤ (15 : Int) from by omega) (show x2 = lf_ct ((s38.1 111)) 156 from by omega)
theorem sm_294_p94L {X63 : Int → Int → Int → lf_Z → Prop} {Q : Int → lf_Z → Prop} {x1 : Int} {x2 : Int} {x3 : Int} {x4 : Int} {x5 : Int} {x6 : Int} {x7 : Int} {s : lf_Z} (hQ : ∀ (r : Int) (s' : lf_Z), iv_A s'.1 s'.2.2 → lf_fq [104, 107, 111, 112] 1000000 true s.1 s.2.2 s'.1 s'.2.2 → ((-2147483648) ≤ r ∧ r ≤ 2147483647) → Q r s') {M63 : Nat} (hX63 : ∀ (x2 : Int) (x3 : Int) (x4 : Int) (s' : lf_Z), iv_A s'.1 s'.2.2 → lf_fq [104, 107, 111, 112] 1000000 true s.1 s.2.2 s'.1 s'.2.2 → 1 ≤ x2 ∧ x2 ≤ 156 → (-2147483648) ≤ x3 ∧ x3 ≤ 2147483647 → 0 ≤ x4 ∧ x4 ≤ 156 → (x2 = lf_ct (s'.1 111) 156) → (156 - x4).toNat < M63 → X63 x2 x3 x4 s') (hM63 : (156 - x4).toNat ≤ M63) (hI : iv_A s.1 s.2.2) (bx1 : 0 ≤ x1 ∧ x1 ≤ 3) (bx2 : 1 ≤ x2 ∧ x2 ≤ 156) (bx3 : (-2147483648) ≤ x3 ∧ x3 ≤ 2147483647) (bx4 : 0 ≤ x4 ∧ x4 ≤ 155) (bx5 : 0 ≤ x5 ∧ x5 ≤ 11) (bx6 : 0 ≤ x6 ∧ x6 ≤ 100) (bx7 : 0 ≤ x7 ∧ x7 ≤ 16) (kv0 : x2 = lf_ct (s.1 111) 156) : fm_294_p94L X63 Q x1 x2 x3 x4 x5 x6 x7 s := by
  intro X94 hX
  have key : ∀ (m9 : Nat) (x2 : Int) (x6 : Int) (x7 : Int) (s' : lf_Z), iv_A s'.1 s'.2.2 → lf_fq [104, 107, 111, 112] 1000000 true s.1 s.2.2 s'.1 s'.2.2 → 1 ≤ x2 ∧ x2 ≤ 156 → 0 ≤ x6 ∧ x6 ≤ 100 → 0 ≤ x7 ∧ x7 ≤ 16 → (x2 = lf_ct (s'.1 111) 156) → (16 - x7).toNat < m9 → X94 x2 x6 x7 s' := by
    intro m9
    induction m9 with
    | zero => intro x2 x6 x7 s' _ _ bx2 bx6 bx7 kv0 h9; exact absurd h9 (Nat.not_lt_zero _)
    | succ m9 ih => intro x2 x6 x7 s' i7 f7 bx2 bx6 bx7 kv0 h9; exact hX _ _ _ _ (sm_294_p94 (fun r9 t9 i9 f9 => hQ r9 t9 i9 (lf_fq_tr f7 f9))  (fun p0 p1 p2 t9 i9 f9 => hX63 p0 p1 p2 t9 i9 (lf_fq_tr f7 f9)) hM63 (fun x2' x6' x7' t8 i8 f8 bx2' bx6' bx7' kv0' h8 => ih x2' x6' x7' t8 i8 (lf_fq_tr f7 f8) bx2' bx6' bx7' kv0' (by omega)) (Nat.le_refl _)  i7  bx1 bx2 bx3 bx4 bx5 bx6 bx7  kv0)
  exact key _ _ _ _ s hI lf_fq_rf bx2 bx6 bx7 kv0 (Nat.lt_succ_self _)
theorem sm_294_p63 {X63 : Int → Int → Int → lf_Z → Prop} {Q : Int → lf_Z → Prop} {x1 : Int} {x2 : Int} {x3 : Int} {x4 : Int} {s : lf_Z} (hQ : ∀ (r : Int) (s' : lf_Z), iv_A s'.1 s'.2.2 → lf_fq [104, 107, 111, 112] 1000000 true s.1 s.2.2 s'.1 s'.2.2 → ((-2147483648) ≤ r ∧ r ≤ 2147483647) → Q r s') {M63 : Nat} (hX63 : ∀ (x2 : Int) (x3 : Int) (x4 : Int) (s' : lf_Z), iv_A s'.1 s'.2.2 → lf_fq [104, 107, 111, 112] 1000000 true s.1 s.2.2 s'.1 s'.2.2 → 1 ≤ x2 ∧ x2 ≤ 156 → (-2147483648) ≤ x3 ∧ x3 ≤ 2147483647 → 0 ≤ x4 ∧ x4 ≤ 156 → (x2 = lf_ct (s'.1 111) 156) → (156 - x4).toNat < M63 → X63 x2 x3 x4 s') (hM63 : (156 - x4).toNat ≤ M63) (hI : iv_A s.1 s.2.2) (bx1 : 0 ≤ x1 ∧ x1 ≤ 3) (bx2 : 1 ≤ x2 ∧ x2 ≤ 156) (bx3 : (-2147483648) ≤ x3 ∧ x3 ≤ 2147483647) (bx4 : 0 ≤ x4 ∧ x4 ≤ 156) (kv0 : x2 = lf_ct (s.1 111) 156) : fm_294_p63 Q x1 X63 x2 x3 x4 s := by
  unfold fm_294_p63
  refine ⟨(show lf_R x4 from lf_Rof (by omega)), ?_⟩
  refine ⟨(show lf_R x2 from lf_Rof (by omega)), ?_⟩
  refine ⟨fun c10 => ?_, fun c10 => ?_⟩
  · skip
    replace c10 : x2 ≤ x4 := c10
    exact hQ x3 s hI (lf_fq_rf) (show (-2147483648 : Int) ≤ x3 ∧ x3 ≤ (2147483647 : Int) from by omega)
  · skip
    replace c10 : ¬ (x2 ≤ x4) := c10
    refine ⟨(show (0 : Int) ≤ x4 ∧ x4 < (156 : Int) from by omega), ?_⟩
    have b11 : 0 ≤ s.1 112 x4 ∧ s.1 112 x4 ≤ 155 := iv_r112 hI _
    refine ⟨(show lf_R (s.1 112 x4) from lf_Rof (by omega)), ?_⟩
    have b12 : 0 ≤ (s.1 112 x4).tdiv 13 ∧ (s.1 112 x4).tdiv 13 ≤ 11 := lf_tdivB (p := 0) (q := 155) (by omega) (by omega) (by decide) (by decide) (by decide)
    have b13 : 1 ≤ lf_shl 1 ((s.1 112 x4).tdiv 13) ∧ lf_shl 1 ((s.1 112 x4).tdiv 13) ≤ 2048 := lf_shl1 (m := 11) (by omega) (by omega) (by decide)
    have b14 : (-2147483648) ≤ lf_or x3 (lf_shl 1 ((s.1 112 x4).tdiv 13)) ∧ lf_or x3 (lf_shl 1 ((s.1 112 x4).tdiv 13)) ≤ 2147483647 := lf_orB
    exact sm_294_p94L hQ hX63 (show (156 - x4).toNat ≤ M63 from by omega) hI (show (0 : Int) ≤ x1 ∧ x1 ≤ (3 : Int) from by omega) (show (1 : Int) ≤ x2 ∧ x2 ≤ (156 : Int) from by omega) (show (-2147483648 : Int) ≤ lf_or x3 (lf_shl 1 ((s.1 112 x4).tdiv 13)) ∧ lf_or x3 (lf_shl 1 ((s.1 112 x4).tdiv 13)) ≤ (2147483647 : Int) from by omega) (show (0 : Int) ≤ x4 ∧ x4 ≤ (155 : Int) from by omega) (show (0 : Int) ≤ (s.1 112 x4).tdiv 13 ∧ (s.1 112 x4).tdiv 13 ≤ (11 : Int) from by omega) (show (0 : Int) ≤ 0 ∧ 0 ≤ (100 : Int) from by omega) (show (0 : Int) ≤ 0 ∧ 0 ≤ (16 : Int) from by omega) (show x2 = lf_ct ((s.1 111)) 156 from by omega)
theorem sm_294_p63L {Q : Int → lf_Z → Prop} {x1 : Int} {x2 : Int} {x3 : Int} {x4 : Int} {s : lf_Z} (hQ : ∀ (r : Int) (s' : lf_Z), iv_A s'.1 s'.2.2 → lf_fq [104, 107, 111, 112] 1000000 true s.1 s.2.2 s'.1 s'.2.2 → ((-2147483648) ≤ r ∧ r ≤ 2147483647) → Q r s') (hI : iv_A s.1 s.2.2) (bx1 : 0 ≤ x1 ∧ x1 ≤ 3) (bx2 : 1 ≤ x2 ∧ x2 ≤ 156) (bx3 : (-2147483648) ≤ x3 ∧ x3 ≤ 2147483647) (bx4 : 0 ≤ x4 ∧ x4 ≤ 156) (kv0 : x2 = lf_ct (s.1 111) 156) : fm_294_p63L Q x1 x2 x3 x4 s := by
  intro X63 hX
  have key : ∀ (m9 : Nat) (x2 : Int) (x3 : Int) (x4 : Int) (s' : lf_Z), iv_A s'.1 s'.2.2 → lf_fq [104, 107, 111, 112] 1000000 true s.1 s.2.2 s'.1 s'.2.2 → 1 ≤ x2 ∧ x2 ≤ 156 → (-2147483648) ≤ x3 ∧ x3 ≤ 2147483647 → 0 ≤ x4 ∧ x4 ≤ 156 → (x2 = lf_ct (s'.1 111) 156) → (156 - x4).toNat < m9 → X63 x2 x3 x4 s' := by
    intro m9
    induction m9 with
    | zero => intro x2 x3 x4 s' _ _ bx2 bx3 bx4 kv0 h9; exact absurd h9 (Nat.not_lt_zero _)
    | succ m9 ih => intro x2 x3 x4 s' i7 f7 bx2 bx3 bx4 kv0 h9; exact hX _ _ _ _ (sm_294_p63 (fun r9 t9 i9 f9 => hQ r9 t9 i9 (lf_fq_tr f7 f9))   (fun x2' x3' x4' t8 i8 f8 bx2' bx3' bx4' kv0' h8 => ih x2' x3' x4' t8 i8 (lf_fq_tr f7 f8) bx2' bx3' bx4' kv0' (by omega)) (Nat.le_refl _)  i7  bx1 bx2 bx3 bx4  kv0)
  exact key _ _ _ _ s hI lf_fq_rf bx2 bx3 bx4 kv0 (Nat.lt_succ_self _)
theorem sm_294_p2 {X2 : Int → lf_Z → Prop} {Q : Int → lf_Z → Prop} {x1 : Int} {x2 : Int} {s : lf_Z} (hQ : ∀ (r : Int) (s' : lf_Z), iv_A s'.1 s'.2.2 → lf_fq [104, 107, 111, 112] 1000000 true s.1 s.2.2 s'.1 s'.2.2 → ((-2147483648) ≤ r ∧ r ≤ 2147483647) → Q r s') {M2 : Nat} (hX2 : ∀ (x2 : Int) (s' : lf_Z), iv_A s'.1 s'.2.2 → lf_fq [104, 107, 111, 112] 1000000 true s.1 s.2.2 s'.1 s'.2.2 → 0 ≤ x2 ∧ x2 ≤ 156 → (lf_zr (s'.1 111) (x2)) → (156 - x2).toNat < M2 → X2 x2 s') (hM2 : (156 - x2).toNat ≤ M2) (hI : iv_A s.1 s.2.2) (bx1 : 0 ≤ x1 ∧ x1 ≤ 3) (bx2 : 0 ≤ x2 ∧ x2 ≤ 156) (kv0 : lf_zr (s.1 111) (x2)) : fm_294_p2 Q x1 X2 x2 s := by
  unfold fm_294_p2
  refine ⟨(show lf_R x2 from lf_Rof (by omega)), ?_⟩
  refine ⟨fun c2 => ?_, fun c2 => ?_⟩
  · skip
    replace c2 : 156 ≤ x2 := c2
    refine sm_255 hI (show (0 : Int) ≤ x1 ∧ x1 ≤ (3 : Int) from by omega) (fun r23 q3 => ?_)
    refine sm_256 hI (show (0 : Int) ≤ x1 ∧ x1 ≤ (3 : Int) from by omega) (fun r25 q4 => ?_)
    have hI5 : iv_A (lf_up s.1 112 0 (((13 * r23) + r25) + 1)) s.2.2 := iv_w112 hI (by omega)
    have fr6 : lf_fq [104, 107, 111, 112] 1000000 true s.1 s.2.2 (lf_up s.1 112 0 (((13 * r23) + r25) + 1)) s.2.2 := lf_fq_up (lf_fq_rf) rfl (fun h => absurd h (by decide))
    refine ⟨(show (0 : Int) ≤ ((13 * r23) + r25) + 1 ∧ ((13 * r23) + r25) + 1 < (156 : Int) from by omega), ?_⟩
    have hI7 : iv_A (lf_up (lf_up s.1 112 0 (((13 * r23) + r25) + 1)) 111 (((13 * r23) + r25) + 1) 1) s.2.2 := iv_w111 hI5 (by omega)
    have fr8 : lf_fq [104, 107, 111, 112] 1000000 true s.1 s.2.2 (lf_up (lf_up s.1 112 0 (((13 * r23) + r25) + 1)) 111 (((13 * r23) + r25) + 1) 1) s.2.2 := lf_fq_up fr6 rfl (fun h => absurd h (by decide))
    have b9 : 1 = lf_ct (((lf_up (lf_up s.1 112 0 (((13 * r23) + r25) + 1)) 111 (((13 * r23) + r25) + 1) 1) 111)) 156 := by first | omega | exact (lf_zr1 kv0 (by omega) (by omega) (by omega) lf_up_s (fun j hj => lf_up_i hj)).symm
    exact sm_294_p63L (fun r9 t9 i9 f9 => hQ r9 t9 i9 (lf_fq_tr fr8 f9)) hI7 (show (0 : Int) ≤ x1 ∧ x1 ≤ (3 : Int) from by omega) (show (1 : Int) ≤ 1 ∧ 1 ≤ (156 : Int) from by omega) (show (-2147483648 : Int) ≤ 0 ∧ 0 ≤ (2147483647 : Int) from by omega) (show (0 : Int) ≤ 0 ∧ 0 ≤ (156 : Int) from by omega) (show 1 = lf_ct (((lf_up (lf_up s.1 112 0 (((13 * r23) + r25) + 1)) 111 (((13 * r23) + r25) + 1) 1) 111)) 156 from by omega)
  · skip
    replace c2 : ¬ (156 ≤ x2) := c2
    refine ⟨(show (0 : Int) ≤ x2 ∧ x2 < (156 : Int) from by omega), ?_⟩
    have hI40 : iv_A (lf_up s.1 111 x2 0) s.2.2 := iv_w111 hI (by omega)
    have fr41 : lf_fq [104, 107, 111, 112] 1000000 true s.1 s.2.2 (lf_up s.1 111 x2 0) s.2.2 := lf_fq_up (lf_fq_rf) rfl (fun h => absurd h (by decide))
    have b42 : lf_zr (((lf_up s.1 111 x2 0) 111)) ((x2 + 1)) := by first | exact lf_zrS kv0 lf_up_s (fun j hj => lf_up_i hj) | exact (fun j a b => by omega)
    exact hX2 (x2 + 1) (lf_up s.1 111 x2 0, s.2.1, s.2.2) hI40 fr41 (show (0 : Int) ≤ x2 + 1 ∧ x2 + 1 ≤ (156 : Int) from by omega) (show lf_zr (((lf_up s.1 111 x2 0) 111)) ((x2 + 1)) from by first | with_reducible assumption | assumption) (show (156 - (x2 + 1)).toNat < M2 from by omega)
theorem sm_294_p2L {Q : Int → lf_Z → Prop} {x1 : Int} {x2 : Int} {s : lf_Z} (hQ : ∀ (r : Int) (s' : lf_Z), iv_A s'.1 s'.2.2 → lf_fq [104, 107, 111, 112] 1000000 true s.1 s.2.2 s'.1 s'.2.2 → ((-2147483648) ≤ r ∧ r ≤ 2147483647) → Q r s') (hI : iv_A s.1 s.2.2) (bx1 : 0 ≤ x1 ∧ x1 ≤ 3) (bx2 : 0 ≤ x2 ∧ x2 ≤ 156) (kv0 : lf_zr (s.1 111) (x2)) : fm_294_p2L Q x1 x2 s := by
  intro X2 hX
  have key : ∀ (m9 : Nat) (x2 : Int) (s' : lf_Z), iv_A s'.1 s'.2.2 → lf_fq [104, 107, 111, 112] 1000000 true s.1 s.2.2 s'.1 s'.2.2 → 0 ≤ x2 ∧ x2 ≤ 156 → (lf_zr (s'.1 111) (x2)) → (156 - x2).toNat < m9 → X2 x2 s' := by
    intro m9
    induction m9 with
    | zero => intro x2 s' _ _ bx2 kv0 h9; exact absurd h9 (Nat.not_lt_zero _)
    | succ m9 ih => intro x2 s' i7 f7 bx2 kv0 h9; exact hX _ _ (sm_294_p2 (fun r9 t9 i9 f9 => hQ r9 t9 i9 (lf_fq_tr f7 f9))   (fun x2' t8 i8 f8 bx2' kv0' h8 => ih x2' t8 i8 (lf_fq_tr f7 f8) bx2' kv0' (by omega)) (Nat.le_refl _)  i7  bx1 bx2  kv0)
  exact key _ _ s hI lf_fq_rf bx2 kv0 (Nat.lt_succ_self _)
theorem sm_294 {a1 : Int} {Q : Int → lf_Z → Prop} {s : lf_Z} (hI : iv_A s.1 s.2.2) (ba1 : 0 ≤ a1 ∧ a1 ≤ 3) (hQ : ∀ (r : Int) (s' : lf_Z), iv_A s'.1 s'.2.2 → lf_fq [104, 107, 111, 112] 1000000 true s.1 s.2.2 s'.1 s'.2.2 → ((-2147483648) ≤ r ∧ r ≤ 2147483647) → Q r s') : fm_294 a1 Q s := by
  unfold fm_294
  have b1 : lf_zr ((s.1 111)) (0) := by first | exact lf_zrS kv0 lf_up_s (fun j hj => lf_up_i hj) | exact (fun j a b => by omega)
  exact sm_294_p2L hQ hI (show (0 : Int) ≤ a1 ∧ a1 ≤ (3 : Int) from by omega) (show (0 : Int) ≤ 0 ∧ 0 ≤ (156 : Int) from by omega) (show lf_zr ((s.1 111)) (0) from by first | with_reducible assumption | assumption)
