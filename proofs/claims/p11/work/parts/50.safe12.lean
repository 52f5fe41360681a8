-- fm_267 Model.says 95 i i i i
theorem sm_267_p3 {X3 : Int → lf_Z → Prop} {Q : Int → lf_Z → Prop} {x1 : Int} {x2 : Int} {x3 : Int} {x4 : Int} {x5 : Int} {s : lf_Z} (hQ : ∀ (r : Int) (s' : lf_Z), iv_A s'.1 s'.2.2 → lf_fq [107] 1000000 true s.1 s.2.2 s'.1 s'.2.2 → (0 ≤ r ∧ r ≤ 100) → Q r s') {M3 : Nat} (hX3 : ∀ (x5 : Int) (s' : lf_Z), iv_A s'.1 s'.2.2 → lf_fq [107] 1000000 true s.1 s.2.2 s'.1 s'.2.2 → 0 ≤ x5 ∧ x5 ≤ 24 → (24 - x5).toNat < M3 → X3 x5 s') (hM3 : (24 - x5).toNat ≤ M3) (hI : iv_A s.1 s.2.2) (bx1 : (-1) ≤ x1 ∧ x1 ≤ 3) (bx2 : 0 ≤ x2 ∧ x2 ≤ 2) (bx3 : 0 ≤ x3 ∧ x3 ≤ 100) (bx4 : 2 ≤ x4 ∧ x4 ≤ 100) (bx5 : 0 ≤ x5 ∧ x5 ≤ 24) : fm_267_p3 Q x1 x2 x3 x4 X3 x5 s := by
  unfold fm_267_p3
  refine ⟨(show lf_R x1 from lf_Rof (by omega)), ?_⟩
  refine ⟨fun c1 => ?_, fun c1 => ?_⟩
  · skip
    replace c1 : x1 < 0 := c1
    exact hQ x3 s hI (lf_fq_rf) (show (0 : Int) ≤ x3 ∧ x3 ≤ (100 : Int) from by omega)
  · skip
    replace c1 : ¬ (x1 < 0) := c1
    refine ⟨(show (0 : Int) ≤ 705 * x1 ∧ 705 * x1 < (2820 : Int) from by omega), ?_⟩
    have b2 : 0 ≤ s.1 98 (705 * x1) ∧ s.1 98 (705 * x1) ≤ 24 := iv_rd98 hI (iv_f876c6d9a (x1) (by omega) (by omega))
    refine ⟨(show lf_R x5 from lf_Rof (by omega)), ?_⟩
    refine ⟨(show lf_R (s.1 98 (705 * x1)) from lf_Rof (by omega)), ?_⟩
    refine ⟨fun c3 => ?_, fun c3 => ?_⟩
    · skip
      replace c3 : s.1 98 (705 * x1) ≤ x5 := c3
      exact hQ x3 s hI (lf_fq_rf) (show (0 : Int) ≤ x3 ∧ x3 ≤ (100 : Int) from by omega)
    · skip
      replace c3 : ¬ (s.1 98 (705 * x1) ≤ x5) := c3
      refine ⟨(show (0 : Int) ≤ ((705 * x1) + 1) + (4 * x5) ∧ ((705 * x1) + 1) + (4 * x5) < (2820 : Int) from by omega), ?_⟩
      have b4 : (-2147483648) ≤ s.1 98 (((705 * x1) + 1) + (4 * x5)) ∧ s.1 98 (((705 * x1) + 1) + (4 * x5)) ≤ 2147483647 := iv_full hI
      refine ⟨(show lf_R (s.1 98 (((705 * x1) + 1) + (4 * x5))) from lf_Rof (by omega)), ?_⟩
      refine ⟨(show lf_R x2 from lf_Rof (by omega)), ?_⟩
      refine ⟨fun c5 => ?_, fun c5 => ?_⟩
      · skip
        replace c5 : s.1 98 (((705 * x1) + 1) + (4 * x5)) = x2 := c5
        have b6 : wk_O ((s.1 98)) (705 * x1 + 1 + 4 * x5) (705 * x1 + 97) := wk_law hI (by omega) (by omega) (by omega) (by omega) (by omega) (by omega)
        refine sm_268 hI (show (0 : Int) ≤ x1 ∧ x1 ≤ (3 : Int) from by omega) (show (0 : Int) ≤ x5 ∧ x5 ≤ (23 : Int) from by omega) (show wk_O ((s.1 98)) (705 * x1 + 1 + 4 * x5) (705 * x1 + 97) from by first | with_reducible assumption | assumption) (fun r29 s28 hI8 fr7 q9 => ?_)
        have fr10 : lf_fq [107] 1000000 true s.1 s.2.2 s28.1 s28.2.2 := lf_fq_tr (lf_fq_rf) (lf_fq_wk fr7 rfl (by decide) (by decide))
        refine ⟨(show lf_R r29 from lf_Rof (by omega)), ?_⟩
        refine ⟨fun c11 => ?_, fun c11 => ?_⟩
        · skip
          replace c11 : 0 ≤ r29 := c11
          refine ⟨(show lf_R x4 from lf_Rof (by omega)), ?_⟩
          refine ⟨fun c12 => ?_, fun c12 => ?_⟩
          · skip
            replace c12 : r29 ≤ x4 := c12
            exact hQ r29 s28 hI8 fr10 (show (0 : Int) ≤ r29 ∧ r29 ≤ (100 : Int) from by omega)
          · skip
            replace c12 : ¬ (r29 ≤ x4) := c12
            exact hQ x4 s28 hI8 fr10 (show (0 : Int) ≤ x4 ∧ x4 ≤ (100 : Int) from by omega)
        · skip
          replace c11 : ¬ (0 ≤ r29) := c11
          exact hQ 0 s28 hI8 fr10 (show (0 : Int) ≤ 0 ∧ 0 ≤ (100 : Int) from by omega)
      · skip
        replace c5 : ¬ (s.1 98 (((705 * x1) + 1) + (4 * x5)) = x2) := c5
        exact hX3 (x5 + 1) s hI (lf_fq_rf) (show (0 : Int) ≤ x5 + 1 ∧ x5 + 1 ≤ (24 : Int) from by omega) (show (24 - (x5 + 1)).toNat < M3 from by omega)
theorem sm_267_p3L {Q : Int → lf_Z → Prop} {x1 : Int} {x2 : Int} {x3 : Int} {x4 : Int} {x5 : Int} {s : lf_Z} (hQ : ∀ (r : Int) (s' : lf_Z), iv_A s'.1 s'.2.2 → lf_fq [107] 1000000 true s.1 s.2.2 s'.1 s'.2.2 → (0 ≤ r ∧ r ≤ 100) → Q r s') (hI : iv_A s.1 s.2.2) (bx1 : (-1) ≤ x1 ∧ x1 ≤ 3) (bx2 : 0 ≤ x2 ∧ x2 ≤ 2) (bx3 : 0 ≤ x3 ∧ x3 ≤ 100) (bx4 : 2 ≤ x4 ∧ x4 ≤ 100) (bx5 : 0 ≤ x5 ∧ x5 ≤ 24) : fm_267_p3L Q x1 x2 x3 x4 x5 s := by
  intro X3 hX
  have key : ∀ (m9 : Nat) (x5 : Int) (s' : lf_Z), iv_A s'.1 s'.2.2 → lf_fq [107] 1000000 true s.1 s.2.2 s'.1 s'.2.2 → 0 ≤ x5 ∧ x5 ≤ 24 → (24 - x5).toNat < m9 → X3 x5 s' := by
    intro m9
    induction m9 with
    | zero => intro x5 s' _ _ bx5 h9; exact absurd h9 (Nat.not_lt_zero _)
    | succ m9 ih => intro x5 s' i7 f7 bx5 h9; exact hX _ _ (sm_267_p3 (fun r9 t9 i9 f9 => hQ r9 t9 i9 (lf_fq_tr f7 f9))   (fun x5' t8 i8 f8 bx5' h8 => ih x5' t8 i8 (lf_fq_tr f7 f8) bx5' (by omega)) (Nat.le_refl _)  i7  bx1 bx2 bx3 bx4 bx5  )
  exact key _ _ s hI lf_fq_rf bx5 (Nat.lt_succ_self _)
theorem sm_267 {a1 : Int} {a2 : Int} {a3 : Int} {a4 : Int} {Q : Int → lf_Z → Prop} {s : lf_Z} (hI : iv_A s.1 s.2.2) (ba1 : (-1) ≤ a1 ∧ a1 ≤ 3) (ba2 : 0 ≤ a2 ∧ a2 ≤ 2) (ba3 : 0 ≤ a3 ∧ a3 ≤ 100) (ba4 : 2 ≤ a4 ∧ a4 ≤ 100) (hQ : ∀ (r : Int) (s' : lf_Z), iv_A s'.1 s'.2.2 → lf_fq [107] 1000000 true s.1 s.2.2 s'.1 s'.2.2 → (0 ≤ r ∧ r ≤ 100) → Q r s') : fm_267 a1 a2 a3 a4 Q s := by
  unfold fm_267
  exact sm_267_p3L hQ hI (show (-1 : Int) ≤ a1 ∧ a1 ≤ (3 : Int) from by omega) (show (0 : Int) ≤ a2 ∧ a2 ≤ (2 : Int) from by omega) (show (0 : Int) ≤ a3 ∧ a3 ≤ (100 : Int) from by omega) (show (2 : Int) ≤ a4 ∧ a4 ≤ (100 : Int) from by omega) (show (0 : Int) ≤ 0 ∧ 0 ≤ (24 : Int) from by omega)
-- fm_263 Model.paceOf 95 i
theorem sm_263_p40 {Q : Int → lf_Z → Prop} {y1 : Int} {y2 : Int} {s : lf_Z} (hQ : ∀ (r : Int) (s' : lf_Z), iv_A s'.1 s'.2.2 → lf_fq [104, 107] 1000000 true s.1 s.2.2 s'.1 s'.2.2 → (0 ≤ r ∧ r ≤ 100) → Q r s') (hI : iv_A s.1 s.2.2) (by1 : 4 ≤ y1 ∧ y1 ≤ 4) (by2 : (-2147483648) ≤ y2 ∧ y2 ≤ 2147483647) : fm_263_p40 Q y1 y2 s := by
  unfold fm_263_p40
  refine ⟨(show (0 : Int) ≤ y1 ∧ y1 < (11 : Int) from by omega), ?_⟩
  have hI11 : iv_A (lf_up s.1 104 y1 y2) s.2.2 := iv_w104 hI (by omega)
  have fr12 : lf_fq [104, 107] 1000000 true s.1 s.2.2 (lf_up s.1 104 y1 y2) s.2.2 := lf_fq_up (lf_fq_rf) rfl (fun h => absurd h (by decide))
  have b13 : (-1) ≤ s.1 96 8 ∧ s.1 96 8 ≤ 3 := (show (-1) ≤ (lf_up s.1 104 y1 y2) 96 8 ∧ (lf_up s.1 104 y1 y2) 96 8 ≤ 3 from iv_rd96 hI11 (iv_fc0e1ed14 (by omega)))
  refine sm_267 hI11 (show (-1 : Int) ≤ s.1 96 8 ∧ s.1 96 8 ≤ (3 : Int) from by omega) (show (0 : Int) ≤ 0 ∧ 0 ≤ (2 : Int) from by omega) (show (0 : Int) ≤ 1 ∧ 1 ≤ (100 : Int) from by omega) (show (2 : Int) ≤ 2 ∧ 2 ≤ (100 : Int) from by omega) (fun r35 s34 hI15 fr14 q16 => ?_)
  have fr17 : lf_fq [104, 107] 1000000 true s.1 s.2.2 s34.1 s34.2.2 := lf_fq_tr fr12 (lf_fq_wk fr14 rfl (by decide) (by decide))
  exact hQ r35 s34 hI15 fr17 (show (0 : Int) ≤ r35 ∧ r35 ≤ (100 : Int) from by omega)
theorem sm_263 {a1 : Int} {Q : Int → lf_Z → Prop} {s : lf_Z} (hI : iv_A s.1 s.2.2) (ba1 : 0 ≤ a1 ∧ a1 ≤ 3) (hQ : ∀ (r : Int) (s' : lf_Z), iv_A s'.1 s'.2.2 → lf_fq [104, 107] 1000000 true s.1 s.2.2 s'.1 s'.2.2 → (0 ≤ r ∧ r ≤ 100) → Q r s') : fm_263 a1 Q s := by
  unfold fm_263
  refine sm_242 hI (show (0 : Int) ≤ a1 ∧ a1 ≤ (3 : Int) from by omega) (fun r22 q1 => ?_)
  obtain ⟨q1, q1x⟩ := q1
  replace q1x : r22 = s.1 96 (114 + 3 * a1) := q1x
  refine sm_255 hI (show (0 : Int) ≤ a1 ∧ a1 ≤ (3 : Int) from by omega) (fun r24 q2 => ?_)
  refine sm_264 hI (show (0 : Int) ≤ r22 ∧ r22 ≤ (24 : Int) from by omega) (show (0 : Int) ≤ r24 ∧ r24 ≤ (11 : Int) from by omega) (fun s25 hI4 fr3 => ?_)
  have fr6 : lf_fq [104, 107] 1000000 true s.1 s.2.2 s25.1 s25.2.2 := lf_fq_tr (lf_fq_rf) (lf_fq_wk fr3 rfl (by decide) (by decide))
  refine sm_256 hI4 (show (0 : Int) ≤ a1 ∧ a1 ≤ (3 : Int) from by omega) (fun r27 q7 => ?_)
  refine ⟨(show lf_R r27 from lf_Rof (by omega)), ?_⟩
  refine ⟨fun c8 => ?_, fun c8 => ?_⟩
  · skip
    replace c8 : 0 ≤ r27 := c8
    refine sm_256 hI4 (show (0 : Int) ≤ a1 ∧ a1 ≤ (3 : Int) from by omega) (fun r30 q9 => ?_)
    refine sm_266 hI4 (show (-1 : Int) ≤ r30 ∧ r30 ≤ (11 : Int) from by omega) (fun r32 q10 => ?_)
    exact sm_263_p40 (fun r9 t9 i9 f9 => hQ r9 t9 i9 (lf_fq_tr fr6 f9)) hI4 (show (4 : Int) ≤ 4 ∧ 4 ≤ (4 : Int) from by omega) (show (-2147483648 : Int) ≤ r32 ∧ r32 ≤ (2147483647 : Int) from by omega)
  · skip
    replace c8 : ¬ (0 ≤ r27) := c8
    exact sm_263_p40 (fun r9 t9 i9 f9 => hQ r9 t9 i9 (lf_fq_tr fr6 f9)) hI4 (show (4 : Int) ≤ 4 ∧ 4 ≤ (4 : Int) from by omega) (show (-2147483648 : Int) ≤ 0 ∧ 0 ≤ (2147483647 : Int) from by omega)
-- fm_252 Model.isPath 95 i
theorem sm_252 {a1 : Int} {Q : Bool → lf_Z → Prop} {s : lf_Z} (hI : iv_A s.1 s.2.2) (ba1 : 0 ≤ a1 ∧ a1 ≤ 15) (hQ : ∀ (z : Bool), Q z s) : fm_252 a1 Q s := by
  unfold fm_252
  refine ⟨(show (0 : Int) ≤ (50 + (4 * a1)) + 2 ∧ (50 + (4 * a1)) + 2 < (1538 : Int) from by omega), ?_⟩
  have b1 : (-2147483648) ≤ s.1 96 ((50 + (4 * a1)) + 2) ∧ s.1 96 ((50 + (4 * a1)) + 2) ≤ 2147483647 := iv_full hI
  refine ⟨(show lf_R (s.1 96 ((50 + (4 * a1)) + 2)) from lf_Rof (by omega)), ?_⟩
  refine ⟨fun c2 => ?_, fun c2 => ?_⟩
  · skip
    replace c2 : s.1 96 ((50 + (4 * a1)) + 2) ≠ 1 := c2
    exact hQ false
  · skip
    replace c2 : ¬ (s.1 96 ((50 + (4 * a1)) + 2) ≠ 1) := c2
    exact hQ true
-- fm_239c Model.get 95 i i
theorem sm_239c {a1 : Int} {a2 : Int} {Q : Int → lf_Z → Prop} {s : lf_Z} (hI : iv_A s.1 s.2.2) (ba1 : 0 ≤ a1 ∧ a1 ≤ 5) (ba2 : 0 ≤ a2 ∧ a2 ≤ 4) (hQ : ∀ (r : Int), (((-2147483648) ≤ r ∧ r ≤ 2147483647) ∧ (r = s.1 96 (126 + 6 * a1 + a2))) → Q r s) : fm_239c a1 a2 Q s := by
  unfold fm_239c
  refine ⟨(show (0 : Int) ≤ (126 + (6 * a1)) + a2 ∧ (126 + (6 * a1)) + a2 < (1538 : Int) from by omega), ?_⟩
  have b1 : (-2147483648) ≤ s.1 96 ((126 + (6 * a1)) + a2) ∧ s.1 96 ((126 + (6 * a1)) + a2) ≤ 2147483647 := iv_full hI
  exact hQ (s.1 96 ((126 + (6 * a1)) + a2)) ⟨(show (-2147483648 : Int) ≤ s.1 96 ((126 + (6 * a1)) + a2) ∧ s.1 96 ((126 + (6 * a1)) + a2) ≤ (2147483647 : Int) from by omega), (show s.1 96 ((126 + (6 * a1)) + a2) = s.1 96 (126 + 6 * a1 + a2) from by omega)⟩
-- fm_274 Model.sumAt 95 i i
theorem sm_274_p61 {X27 : Int → Int → lf_Z → Prop} {Q : Int → lf_Z → Prop} {x1 : Int} {x2 : Int} {x4 : Int} {y0 : Int} {y1 : Int} {s : lf_Z} (hQ : ∀ (r : Int), ((-2147483648) ≤ r ∧ r ≤ 2147483647) → Q r s) {M27 : Nat} (hX27 : ∀ (x3 : Int) (x4 : Int), (-2147483648) ≤ x3 ∧ x3 ≤ 2147483647 → 0 ≤ x4 ∧ x4 ≤ 6 → (6 - x4).toNat < M27 → X27 x3 x4 s) (hM27 : (6 - x4).toNat ≤ M27) (hI : iv_A s.1 s.2.2) (bx1 : 0 ≤ x1 ∧ x1 ≤ 11) (bx2 : 0 ≤ x2 ∧ x2 ≤ 2) (bx4 : 0 ≤ x4 ∧ x4 ≤ 5) (by0 : (-2147483648) ≤ y0 ∧ y0 ≤ 2147483647) (by1 : (-2147483648) ≤ y1 ∧ y1 ≤ 2147483647) : fm_274_p61 X27 Q x1 x2 x4 y0 y1 s := by
  unfold fm_274_p61
  have b9 : (-2147483648) ≤ lf_w (y0 + y1) ∧ lf_w (y0 + y1) ≤ 2147483647 := lf_wB
  exact hX27 (lf_w (y0 + y1)) (x4 + 1) (show (-2147483648 : Int) ≤ lf_w (y0 + y1) ∧ lf_w (y0 + y1) ≤ (2147483647 : Int) from by omega) (show (0 : Int) ≤ x4 + 1 ∧ x4 + 1 ≤ (6 : Int) from by omega) (show (6 - (x4 + 1)).toNat < M27 from by omega)
theorem sm_274_p27 {X27 : Int → Int → lf_Z → Prop} {Q : Int → lf_Z → Prop} {x1 : Int} {x2 : Int} {x3 : Int} {x4 : Int} {s : lf_Z} (hQ : ∀ (r : Int), ((-2147483648) ≤ r ∧ r ≤ 2147483647) → Q r s) {M27 : Nat} (hX27 : ∀ (x3 : Int) (x4 : Int), (-2147483648) ≤ x3 ∧ x3 ≤ 2147483647 → 0 ≤ x4 ∧ x4 ≤ 6 → (6 - x4).toNat < M27 → X27 x3 x4 s) (hM27 : (6 - x4).toNat ≤ M27) (hI : iv_A s.1 s.2.2) (bx1 : 0 ≤ x1 ∧ x1 ≤ 11) (bx2 : 0 ≤ x2 ∧ x2 ≤ 2) (bx3 : (-2147483648) ≤ x3 ∧ x3 ≤ 2147483647) (bx4 : 0 ≤ x4 ∧ x4 ≤ 6) : fm_274_p27 Q x1 x2 X27 x3 x4 s := by
  unfold fm_274_p27
  have b4 : 0 ≤ s.1 96 2 ∧ s.1 96 2 ≤ 6 := iv_rd96 hI (iv_f2103129b (by omega))
  have b5 : s.1 96 2 ≤ 0 ∨ 0 < s.1 96 0 := (show s.1 96 2 ≤ 0 ∨ 0 < s.1 96 0 from iv_l96_2 hI)
  refine ⟨(show lf_R x4 from lf_Rof (by omega)), ?_⟩
  refine ⟨(show lf_R (s.1 96 2) from lf_Rof (by omega)), ?_⟩
  refine ⟨fun c6 => ?_, fun c6 => ?_⟩
  · skip
    replace c6 : s.1 96 2 ≤ x4 := c6
    exact hQ x3 (show (-2147483648 : Int) ≤ x3 ∧ x3 ≤ (2147483647 : Int) from by omega)
  · skip
    replace c6 : ¬ (s.1 96 2 ≤ x4) := c6
    refine sm_239 hI (show (0 : Int) ≤ x4 ∧ x4 ≤ (5 : Int) from by omega) (fun r26 q7 => ?_)
    obtain ⟨q7, q7x⟩ := q7
    replace q7x : r26 = s.1 96 (126 + 6 * x4 + 3) := q7x
    refine ⟨(show lf_R r26 from lf_Rof (by omega)), ?_⟩
    refine ⟨(show lf_R x1 from lf_Rof (by omega)), ?_⟩
    refine ⟨fun c8 => ?_, fun c8 => ?_⟩
    · skip
      replace c8 : r26 ≠ x1 := c8
      exact sm_274_p61 hQ hX27 (show (6 - x4).toNat ≤ M27 from by omega) hI (show (0 : Int) ≤ x1 ∧ x1 ≤ (11 : Int) from by omega) (show (0 : Int) ≤ x2 ∧ x2 ≤ (2 : Int) from by omega) (show (0 : Int) ≤ x4 ∧ x4 ≤ (5 : Int) from by omega) (show (-2147483648 : Int) ≤ x3 ∧ x3 ≤ (2147483647 : Int) from by omega) (show (-2147483648 : Int) ≤ 0 ∧ 0 ≤ (2147483647 : Int) from by omega)
    · skip
      replace c8 : ¬ (r26 ≠ x1) := c8
      refine sm_239c hI (show (0 : Int) ≤ x4 ∧ x4 ≤ (5 : Int) from by omega) (show (0 : Int) ≤ x2 ∧ x2 ≤ (4 : Int) from by omega) (fun r30 q10 => ?_)
      obtain ⟨q10, q10x⟩ := q10
      replace q10x : r30 = s.1 96 (126 + 6 * x4 + x2) := q10x
      exact sm_274_p61 hQ hX27 (show (6 - x4).toNat ≤ M27 from by omega) hI (show (0 : Int) ≤ x1 ∧ x1 ≤ (11 : Int) from by omega) (show (0 : Int) ≤ x2 ∧ x2 ≤ (2 : Int) from by omega) (show (0 : Int) ≤ x4 ∧ x4 ≤ (5 : Int) from by omega) (show (-2147483648 : Int) ≤ x3 ∧ x3 ≤ (2147483647 : Int) from by omega) (show (-2147483648 : Int) ≤ r30 ∧ r30 ≤ (2147483647 : Int) from by omega)
theorem sm_274_p27L {Q : Int → lf_Z → Prop} {x1 : Int} {x2 : Int} {x3 : Int} {x4 : Int} {s : lf_Z} (hQ : ∀ (r : Int), ((-2147483648) ≤ r ∧ r ≤ 2147483647) → Q r s) (hI : iv_A s.1 s.2.2) (bx1 : 0 ≤ x1 ∧ x1 ≤ 11) (bx2 : 0 ≤ x2 ∧ x2 ≤ 2) (bx3 : (-2147483648) ≤ x3 ∧ x3 ≤ 2147483647) (bx4 : 0 ≤ x4 ∧ x4 ≤ 6) : fm_274_p27L Q x1 x2 x3 x4 s := by
  intro X27 hX
  have key : ∀ (m9 : Nat) (x3 : Int) (x4 : Int), (-2147483648) ≤ x3 ∧ x3 ≤ 2147483647 → 0 ≤ x4 ∧ x4 ≤ 6 → (6 - x4).toNat < m9 → X27 x3 x4 s := by
    intro m9
    induction m9 with
    | zero => intro x3 x4 bx3 bx4 h9; exact absurd h9 (Nat.not_lt_zero _)
    | succ m9 ih => intro x3 x4 bx3 bx4 h9; exact hX _ _ _ (sm_274_p27 hQ   (fun x3' x4' bx3' bx4' h8 => ih x3' x4' bx3' bx4' (by omega)) (Nat.le_refl _)  hI  bx1 bx2 bx3 bx4  )
  exact key _ _ _ bx3 bx4   (Nat.lt_succ_self _)
theorem sm_274_p23 {Q : Int → lf_Z → Prop} {x1 : Int} {x2 : Int} {y0 : Int} {s : lf_Z} (hQ : ∀ (r : Int), ((-2147483648) ≤ r ∧ r ≤ 2147483647) → Q r s) (hI : iv_A s.1 s.2.2) (bx1 : 0 ≤ x1 ∧ x1 ≤ 11) (bx2 : 0 ≤ x2 ∧ x2 ≤ 2) (by0 : (-2147483648) ≤ y0 ∧ y0 ≤ 2147483647) : fm_274_p23 Q x1 x2 y0 s := by
  unfold fm_274_p23
  exact sm_274_p27L hQ hI (show (0 : Int) ≤ x1 ∧ x1 ≤ (11 : Int) from by omega) (show (0 : Int) ≤ x2 ∧ x2 ≤ (2 : Int) from by omega) (show (-2147483648 : Int) ≤ y0 ∧ y0 ≤ (2147483647 : Int) from by omega) (show (0 : Int) ≤ 0 ∧ 0 ≤ (6 : Int) from by omega)
theorem sm_274_p22 {Q : Int → lf_Z → Prop} {x1 : Int} {x2 : Int} {s : lf_Z} (hQ : ∀ (r : Int), ((-2147483648) ≤ r ∧ r ≤ 2147483647) → Q r s) (hI : iv_A s.1 s.2.2) (bx1 : 0 ≤ x1 ∧ x1 ≤ 11) (bx2 : 0 ≤ x2 ∧ x2 ≤ 2) : fm_274_p22 Q x1 x2 s := by
  unfold fm_274_p22
  exact sm_274_p23 hQ hI (show (0 : Int) ≤ x1 ∧ x1 ≤ (11 : Int) from by omega) (show (0 : Int) ≤ x2 ∧ x2 ≤ (2 : Int) from by omega) (show (-2147483648 : Int) ≤ 0 ∧ 0 ≤ (2147483647 : Int) from by omega)
theorem sm_274 {a1 : Int} {a2 : Int} {Q : Int → lf_Z → Prop} {s : lf_Z} (hI : iv_A s.1 s.2.2) (ba1 : 0 ≤ a1 ∧ a1 ≤ 11) (ba2 : 0 ≤ a2 ∧ a2 ≤ 2) (hQ : ∀ (r : Int), ((-2147483648) ≤ r ∧ r ≤ 2147483647) → Q r s) : fm_274 a1 a2 Q s := by
  unfold fm_274
  have b1 : (-2147483648) ≤ s.1 95 29 ∧ s.1 95 29 ≤ 2147483647 := iv_full hI
  refine sm_210 hI (show (-2147483648 : Int) ≤ s.1 95 29 ∧ s.1 95 29 ≤ (2147483647 : Int) from by omega) (show (-1 : Int) ≤ a1 ∧ a1 ≤ (15 : Int) from by omega) (fun z22 q2 => ?_)
  refine ⟨fun c3 => ?_, fun c3 => ?_⟩
  · skip
    have dc3 := q2.2 c3
    exact sm_274_p22 hQ hI (show (0 : Int) ≤ a1 ∧ a1 ≤ (11 : Int) from by omega) (show (0 : Int) ≤ a2 ∧ a2 ≤ (2 : Int) from by omega)
  · skip
    have dc3 := q2.1 c3
    refine ⟨(show lf_R a2 from lf_Rof (by omega)), ?_⟩
    refine ⟨fun c11 => ?_, fun c11 => ?_⟩
    · skip
      replace c11 : a2 ≠ 0 := c11
      exact sm_274_p22 hQ hI (show (0 : Int) ≤ a1 ∧ a1 ≤ (11 : Int) from by omega) (show (0 : Int) ≤ a2 ∧ a2 ≤ (2 : Int) from by omega)
    · skip
      replace c11 : ¬ (a2 ≠ 0) := c11
      have b12 : (-2147483648) ≤ s.1 95 30 ∧ s.1 95 30 ≤ 2147483647 := iv_full hI
      exact sm_274_p23 hQ hI (show (0 : Int) ≤ a1 ∧ a1 ≤ (11 : Int) from by omega) (show (0 : Int) ≤ a2 ∧ a2 ≤ (2 : Int) from by omega) (show (-2147483648 : Int) ≤ s.1 95 30 ∧ s.1 95 30 ≤ (2147483647 : Int) from by omega)
-- fm_273 Model.takesOf 95 i i i i
theorem sm_273_p143 {Q : Int → lf_Z → Prop} {y1 : Int} {y2 : Int} {y3 : Int} {s : lf_Z} (hQ : ∀ (r : Int) (s' : lf_Z), iv_A s'.1 s'.2.2 → lf_fq [104, 107] 1000000 true s.1 s.2.2 s'.1 s'.2.2 → (0 ≤ r ∧ r ≤ 100) → Q r s') (hI : iv_A s.1 s.2.2) (by1 : (-1) ≤ y1 ∧ y1 ≤ 3) (by2 : 1 ≤ y2 ∧ y2 ≤ 1) (by3 : 0 ≤ y3 ∧ y3 ≤ 5) : fm_273_p143 Q y1 y2 y3 s := by
  unfold fm_273_p143
  refine sm_267 hI (show (-1 : Int) ≤ y1 ∧ y1 ≤ (3 : Int) from by omega) (show (0 : Int) ≤ y2 ∧ y2 ≤ (2 : Int) from by omega) (show (0 : Int) ≤ y3 ∧ y3 ≤ (100 : Int) from by omega) (show (2 : Int) ≤ 10 ∧ 10 ≤ (100 : Int) from by omega) (fun r41 s40 hI34 fr33 q35 => ?_)
  have fr36 : lf_fq [104, 107] 1000000 true s.1 s.2.2 s40.1 s40.2.2 := lf_fq_tr (lf_fq_rf) (lf_fq_wk fr33 rfl (by decide) (by decide))
  exact hQ r41 s40 hI34 fr36 (show (0 : Int) ≤ r41 ∧ r41 ≤ (100 : Int) from by omega)
theorem sm_273_p109 {Q : Int → lf_Z → Prop} {x4 : Int} {y1 : Int} {y2 : Int} {s : lf_Z} (hQ : ∀ (r : Int) (s' : lf_Z), iv_A s'.1 s'.2.2 → lf_fq [104, 107] 1000000 true s.1 s.2.2 s'.1 s'.2.2 → (0 ≤ r ∧ r ≤ 100) → Q r s') (hI : iv_A s.1 s.2.2) (bx4 : 0 ≤ x4 ∧ x4 ≤ 15) (by1 : 8 ≤ y1 ∧ y1 ≤ 8) (by2 : 0 ≤ y2 ∧ y2 ≤ 1) : fm_273_p109 Q x4 y1 y2 s := by
  unfold fm_273_p109
  refine ⟨(show (0 : Int) ≤ y1 ∧ y1 < (11 : Int) from by omega), ?_⟩
  have hI24 : iv_A (lf_up s.1 104 y1 y2) s.2.2 := iv_w104 hI (by omega)
  have fr25 : lf_fq [104, 107] 1000000 true s.1 s.2.2 (lf_up s.1 104 y1 y2) s.2.2 := lf_fq_up (lf_fq_rf) rfl (fun h => absurd h (by decide))
  have hI26 : iv_A (lf_up (lf_up s.1 104 y1 y2) 104 9 x4) s.2.2 := iv_w104 hI24 (by omega)
  have fr27 : lf_fq [104, 107] 1000000 true s.1 s.2.2 (lf_up (lf_up s.1 104 y1 y2) 104 9 x4) s.2.2 := lf_fq_up fr25 rfl (fun h => absurd h (by decide))
  have b28 : (-1) ≤ s.1 96 8 ∧ s.1 96 8 ≤ 3 := (show (-1) ≤ (lf_up (lf_up s.1 104 y1 y2) 104 9 x4) 96 8 ∧ (lf_up (lf_up s.1 104 y1 y2) 104 9 x4) 96 8 ≤ 3 from iv_rd96 hI26 (iv_fc0e1ed14 (by omega)))
  have b29 : (-2147483648) ≤ (lf_up s.1 104 y1 y2) 104 6 ∧ (lf_up s.1 104 y1 y2) 104 6 ≤ 2147483647 := (show (-2147483648) ≤ (lf_up (lf_up s.1 104 y1 y2) 104 9 x4) 104 6 ∧ (lf_up (lf_up s.1 104 y1 y2) 104 9 x4) 104 6 ≤ 2147483647 from iv_full hI26)
  have b30 : (lf_up (lf_up s.1 104 y1 y2) 104 9 x4) 104 6 = (lf_up s.1 104 y1 y2) 104 6 := lf_up_i (by omega)
  have b31 : (lf_up s.1 104 y1 y2) 104 6 = s.1 104 6 := lf_up_i (by omega)
  refine ⟨(show lf_R ((lf_up s.1 104 y1 y2) 104 6) from lf_Rof (by omega)), ?_⟩
  refine ⟨fun c32 => ?_, fun c32 => ?_⟩
  · skip
    replace c32 : (lf_up s.1 104 y1 y2) 104 6 ≤ 0 := c32
    exact sm_273_p143 (fun r9 t9 i9 f9 => hQ r9 t9 i9 (lf_fq_tr fr27 f9)) hI26 (show (-1 : Int) ≤ s.1 96 8 ∧ s.1 96 8 ≤ (3 : Int) from by omega) (show (1 : Int) ≤ 1 ∧ 1 ≤ (1 : Int) from by omega) (show (0 : Int) ≤ 5 ∧ 5 ≤ (5 : Int) from by omega)
  · skip
    replace c32 : ¬ ((lf_up s.1 104 y1 y2) 104 6 ≤ 0) := c32
    exact sm_273_p143 (fun r9 t9 i9 f9 => hQ r9 t9 i9 (lf_fq_tr fr27 f9)) hI26 (show (-1 : Int) ≤ s.1 96 8 ∧ s.1 96 8 ≤ (3 : Int) from by omega) (show (1 : Int) ≤ 1 ∧ 1 ≤ (1 : Int) from by omega) (show (0 : Int) ≤ 0 ∧ 0 ≤ (5 : Int) from by omega)
theorem sm_273 {a1 : Int} {a2 : Int} {a3 : Int} {a4 : Int} {Q : Int → lf_Z → Prop} {s : lf_Z} (hI : iv_A s.1 s.2.2) (ba1 : 0 ≤ a1 ∧ a1 ≤ 24) (ba2 : 0 ≤ a2 ∧ a2 ≤ 11) (ba3 : (-1) ≤ a3 ∧ a3 ≤ 11) (ba4 : 0 ≤ a4 ∧ a4 ≤ 15) (hQ : ∀ (r : Int) (s' : lf_Z), iv_A s'.1 s'.2.2 → lf_fq [104, 107] 1000000 true s.1 s.2.2 s'.1 s'.2.2 → ((0 ≤ r ∧ r ≤ 100) ∧ (r ≤ 0 ∨ 0 ≤ iv_os (s.1 96) a4 a2)) → Q r s') : fm_273 a1 a2 a3 a4 Q s := by
  unfold fm_273
  refine sm_187 hI (show (0 : Int) ≤ a4 ∧ a4 ≤ (15 : Int) from by omega) (show (0 : Int) ≤ a2 ∧ a2 ≤ (11 : Int) from by omega) (fun r22 q1 => ?_)
  obtain ⟨q1, q1x⟩ := q1
  replace q1x : r22 = iv_os (s.1 96) a4 a2 := q1x
  refine ⟨(show lf_R r22 from lf_Rof (by omega)), ?_⟩
  refine ⟨fun c2 => ?_, fun c2 => ?_⟩
  · skip
    replace c2 : r22 < 0 := c2
    exact hQ 0 s hI (lf_fq_rf) ⟨(show (0 : Int) ≤ 0 ∧ 0 ≤ (100 : Int) from by omega), (show 0 ≤ 0 ∨ 0 ≤ iv_os (s.1 96) a4 a2 from by omega)⟩
  · skip
    replace c2 : ¬ (r22 < 0) := c2
    refine sm_252 hI (show (0 : Int) ≤ a4 ∧ a4 ≤ (15 : Int) from by omega) (fun z25 => ?_)
    refine ⟨fun c4 => ?_, fun c4 => ?_⟩
    · skip
      exact hQ 0 s hI (lf_fq_rf) ⟨(show (0 : Int) ≤ 0 ∧ 0 ≤ (100 : Int) from by omega), (show 0 ≤ 0 ∨ 0 ≤ iv_os (s.1 96) a4 a2 from by omega)⟩
    · skip
      refine sm_245 hI (show (0 : Int) ≤ a4 ∧ a4 ≤ (15 : Int) from by omega) (fun z27 => ?_)
      refine ⟨fun c6 => ?_, fun c6 => ?_⟩
      · skip
        exact hQ 0 s hI (lf_fq_rf) ⟨(show (0 : Int) ≤ 0 ∧ 0 ≤ (100 : Int) from by omega), (show 0 ≤ 0 ∨ 0 ≤ iv_os (s.1 96) a4 a2 from by omega)⟩
      · skip
        have b7 : (-2147483648) ≤ s.1 95 31 ∧ s.1 95 31 ≤ 2147483647 := iv_full hI
        refine sm_210 hI (show (-2147483648 : Int) ≤ s.1 95 31 ∧ s.1 95 31 ≤ (2147483647 : Int) from by omega) (show (-1 : Int) ≤ a4 ∧ a4 ≤ (15 : Int) from by omega) (fun z29 q8 => ?_)
        refine ⟨fun c9 => ?_, fun c9 => ?_⟩
        · skip
          have dc9 := q8.2 c9
          refine sm_264 hI (show (0 : Int) ≤ a1 ∧ a1 ≤ (24 : Int) from by omega) (show (0 : Int) ≤ a2 ∧ a2 ≤ (11 : Int) from by omega) (fun s30 hI11 fr10 => ?_)
          have fr13 : lf_fq [104, 107] 1000000 true s.1 s.2.2 s30.1 s30.2.2 := lf_fq_tr (lf_fq_rf) (lf_fq_wk fr10 rfl (by decide) (by decide))
          refine sm_265 hI11 (show (0 : Int) ≤ r22 ∧ r22 ≤ (11 : Int) from by omega) (fun r32 q14 => ?_)
          have hI15 : iv_A (lf_up s30.1 104 5 r32) s30.2.2 := iv_w104 hI11 (by omega)
          have fr16 : lf_fq [104, 107] 1000000 true s.1 s.2.2 (lf_up s30.1 104 5 r32) s30.2.2 := lf_fq_up fr13 rfl (fun h => absurd h (by decide))
          refine sm_274 hI15 (show (0 : Int) ≤ r22 ∧ r22 ≤ (11 : Int) from by omega) (show (0 : Int) ≤ 0 ∧ 0 ≤ (2 : Int) from by omega) (fun r34 q17 => ?_)
          have hI18 : iv_A (lf_up (lf_up s30.1 104 5 r32) 104 6 r34) s30.2.2 := iv_w104 hI15 (by omega)
          have fr19 : lf_fq [104, 107] 1000000 true s.1 s.2.2 (lf_up (lf_up s30.1 104 5 r32) 104 6 r34) s30.2.2 := lf_fq_up fr16 rfl (fun h => absurd h (by decide))
          refine sm_274 hI18 (show (0 : Int) ≤ r22 ∧ r22 ≤ (11 : Int) from by omega) (show (0 : Int) ≤ 2 ∧ 2 ≤ (2 : Int) from by omega) (fun r36 q20 => ?_)
          have hI21 : iv_A (lf_up (lf_up (lf_up s30.1 104 5 r32) 104 6 r34) 104 7 r36) s30.2.2 := iv_w104 hI18 (by omega)
          have fr22 : lf_fq [104, 107] 1000000 true s.1 s.2.2 (lf_up (lf_up (lf_up s30.1 104 5 r32) 104 6 r34) 104 7 r36) s30.2.2 := lf_fq_up fr19 rfl (fun h => absurd h (by decide))
          refine ⟨(show lf_R a3 from lf_Rof (by omega)), ?_⟩
          refine ⟨fun c23 => ?_, fun c23 => ?_⟩
          · skip
            replace c23 : r22 ≠ a3 := c23
            exact sm_273_p109 (fun r9 t9 i9 f9 b9 => hQ r9 t9 i9 (lf_fq_tr fr22 f9) ⟨b9, (show r9 ≤ 0 ∨ 0 ≤ iv_os (s.1 96) a4 a2 from by omega)⟩) hI21 (show (0 : Int) ≤ a4 ∧ a4 ≤ (15 : Int) from by omega) (show (8 : Int) ≤ 8 ∧ 8 ≤ (8 : Int) from by omega) (show (0 : Int) ≤ 0 ∧ 0 ≤ (1 : Int) from by omega)
          · skip
            replace c23 : ¬ (r22 ≠ a3) := c23
            exact sm_273_p109 (fun r9 t9 i9 f9 b9 => hQ r9 t9 i9 (lf_fq_tr fr22 f9) ⟨b9, (show r9 ≤ 0 ∨ 0 ≤ iv_os (s.1 96) a4 a2 from by omega)⟩) hI21 (show (0 : Int) ≤ a4 ∧ a4 ≤ (15 : Int) from by omega) (show (8 : Int) ≤ 8 ∧ 8 ≤ (8 : Int) from by omega) (show (0 : Int) ≤ 1 ∧ 1 ≤ (1 : Int) from by omega)
        · skip
          have dc9 := q8.1 c9
          exact hQ 0 s hI (lf_fq_rf) ⟨(show (0 : Int) ≤ 0 ∧ 0 ≤ (100 : Int) from by omega), (show 0 ≤ 0 ∨ 0 ≤ iv_os (s.1 96) a4 a2 from by omega)⟩
-- fm_276 Model.anew 95
theorem sm_276 {Q : lf_Z → Prop} {s : lf_Z} (hI : iv_A s.1 s.2.2) (hQ : ∀  (s' : lf_Z), iv_A s'.1 s'.2.2 → lf_fq [96, 1006] 6 true s.1 s.2.2 s'.1 s'.2.2 → (∀ i, i ≠ 6 → s'.1 96 i = s.1 96 i) → Q  s') : fm_276 Q s := by
  unfold fm_276
  have b1 : 0 ≤ s.1 96 6 ∧ s.1 96 6 ≤ 30202 := iv_rd96 hI (iv_f060f4a97 (by omega))
  refine ⟨(show lf_R (((s.1 96 6) * 239) + 137) from lf_Rof (by omega)), ?_⟩
  have b2 : 0 ≤ (((s.1 96 6) * 239) + 137).tmod 30203 ∧ (((s.1 96 6) * 239) + 137).tmod 30203 ≤ 30202 := lf_tmodP (by omega) (by omega) (by omega)
  have hI3 : iv_A (lf_up s.1 96 6 ((((s.1 96 6) * 239) + 137).tmod 30203)) s.2.2 := iv_wd96 hI (lf_le2 (iv_fee3e924e (by omega)) (by omega)) (fun h => absurd h (by omega))
  have fr4 : lf_fq [96, 1006] 6 true s.1 s.2.2 (lf_up s.1 96 6 ((((s.1 96 6) * 239) + 137).tmod 30203)) s.2.2 := lf_fq_up (lf_fq_rf) rfl (fun _ => ⟨by omega, fr_o (Or.inr (fr_n0 (by omega))) (Or.inr (fr_n1 (by omega))) (Or.inr (fr_n2 (by omega))) (Or.inr (fr_n3 (by omega))) (Or.inr (fr_n4 (by omega))) (Or.inr (fr_n5 (by omega))) (Or.inl rfl)⟩)
  have b5 : ∀ i, i ≠ 6 → ((lf_up s.1 96 6 ((((s.1 96 6) * 239) + 137).tmod 30203)) 96) i = s.1 96 i := fun i hi => lf_up_i hi
  exact hQ (lf_up s.1 96 6 ((((s.1 96 6) * 239) + 137).tmod 30203), s.2.1, s.2.2) hI3 fr4 (show ∀ i, i ≠ 6 → ((lf_up s.1 96 6 ((((s.1 96 6) * 239) + 137).tmod 30203)) 96) i = s.1 96 i from by first | with_reducible assumption | assumption)
-- fm_275 Model.drawn 95 i
theorem sm_275 {a1 : Int} {Q : Int → lf_Z → Prop} {s : lf_Z} (hI : iv_A s.1 s.2.2) (ba1 : 10 ≤ a1 ∧ a1 ≤ 10) (hQ : ∀ (r : Int) (s' : lf_Z), iv_A s'.1 s'.2.2 → lf_fq [96, 1006] 6 true s.1 s.2.2 s'.1 s'.2.2 → (∀ i, i ≠ 6 → s'.1 96 i = s.1 96 i) → (0 ≤ r ∧ r ≤ 9) → Q r s') : fm_275 a1 Q s := by
  unfold fm_275
  have b1 : 0 ≤ s.1 96 6 ∧ s.1 96 6 ≤ 30202 := iv_rd96 hI (iv_f060f4a97 (by omega))
  refine ⟨(show lf_R (s.1 96 6) from lf_Rof (by omega)), ?_⟩
  refine ⟨(show lf_R a1 from lf_Rof (by omega)), ?_⟩
  refine ⟨(show a1 ≠ 0 from by omega), ?_⟩
  have b2 : 0 ≤ (s.1 96 6).tmod a1 ∧ (s.1 96 6).tmod a1 ≤ 9 := lf_tmodP (by omega) (by omega) (by omega)
  refine sm_276 hI (fun s24 hI4 fr3 ps6 => ?_)
  replace ps6 : ∀ i, i ≠ 6 → s24.1 96 i = (s.1 96) i := ps6
  have fr7 : lf_fq [96, 1006] 6 true s.1 s.2.2 s24.1 s24.2.2 := lf_fq_tr (lf_fq_rf) (lf_fq_wk fr3 rfl (by decide) (by decide))
  have b8 : ∀ i, i ≠ 6 → (s24.1 96) i = s.1 96 i := ps6
  exact hQ ((s.1 96 6).tmod a1) s24 hI4 fr7 (show ∀ i, i ≠ 6 → (s24.1 96) i = s.1 96 i from by first | with_reducible assumption | assumption) (show (0 : Int) ≤ (s.1 96 6).tmod a1 ∧ (s.1 96 6).tmod a1 ≤ (9 : Int) from by omega)
-- fm_272 Model.move 95 i
theorem sm_272_p80 {X8 : Int → lf_Z → Prop} {Q : lf_Z → Prop} {x1 : Int} {x2 : Int} {x3 : Int} {s : lf_Z} (hQ : ∀  (s' : lf_Z), iv_A s'.1 s'.2.2 → lf_fq [96, 104, 107, 1006] 6 true s.1 s.2.2 s'.1 s'.2.2 → Q  s') {M8 : Nat} (hX8 : ∀ (x3 : Int) (s' : lf_Z), iv_A s'.1 s'.2.2 → lf_fq [96, 104, 107, 1006] 6 true s.1 s.2.2 s'.1 s'.2.2 → 0 ≤ x3 ∧ x3 ≤ 16 → (16 - x3).toNat < M8 → X8 x3 s') (hM8 : (16 - x3).toNat ≤ M8) (hI : iv_A s.1 s.2.2) (bx1 : 0 ≤ x1 ∧ x1 ≤ 3) (bx2 : 0 ≤ x2 ∧ x2 ≤ 11) (bx3 : 0 ≤ x3 ∧ x3 ≤ 15) : fm_272_p80 X8 Q x1 x2 x3 s := by
  unfold fm_272_p80
  exact hX8 (x3 + 1) s hI (lf_fq_rf) (show (0 : Int) ≤ x3 + 1 ∧ x3 + 1 ≤ (16 : Int) from by omega) (show (16 - (x3 + 1)).toNat < M8 from by omega)
theorem sm_272_p62 {Q : lf_Z → Prop} {x1 : Int} {x2 : Int} {x3 : Int} {s : lf_Z} (hQ : ∀  (s' : lf_Z), iv_A s'.1 s'.2.2 → lf_fq [96, 104, 107, 1006] 6 true s.1 s.2.2 s'.1 s'.2.2 → Q  s') (hI : iv_A s.1 s.2.2) (bx1 : 0 ≤ x1 ∧ x1 ≤ 3) (bx2 : 0 ≤ x2 ∧ x2 ≤ 11) (bx3 : 0 ≤ x3 ∧ x3 ≤ 15) (kv0 : 0 ≤ iv_os (s.1 96) (x3) (x2)) : fm_272_p62 Q x1 x2 x3 s := by
  unfold fm_272_p62
  refine sm_242 hI (show (0 : Int) ≤ x1 ∧ x1 ≤ (3 : Int) from by omega) (fun r33 q14 => ?_)
  obtain ⟨q14, q14x⟩ := q14
  replace q14x : r33 = s.1 96 (114 + 3 * x1) := q14x
  refine sm_187 hI (show (0 : Int) ≤ x3 ∧ x3 ≤ (15 : Int) from by omega) (show (0 : Int) ≤ x2 ∧ x2 ≤ (11 : Int) from by omega) (fun r35 q15 => ?_)
  obtain ⟨q15, q15x⟩ := q15
  replace q15x : r35 = iv_os (s.1 96) x3 x2 := q15x
  have b16 : 0 ≤ s.1 96 114 ∧ s.1 96 114 ≤ 24 := iv_rd96 hI (iv_fda037f3c (by omega))
  have b17 : 0 ≤ s.1 96 117 ∧ s.1 96 117 ≤ 24 := iv_rd96 hI (iv_f168d6e22 (by omega))
  have b18 : 0 ≤ s.1 96 120 ∧ s.1 96 120 ≤ 24 := iv_rd96 hI (iv_f5f96ec92 (by omega))
  have b19 : 0 ≤ s.1 96 123 ∧ s.1 96 123 ≤ 24 := iv_rd96 hI (iv_fe4a5d80e (by omega))
  have b20 : (s.1 96 114) + (s.1 96 117) + (s.1 96 120) + (s.1 96 123) ≤ 24 := iv_szA hI
  refine sm_247 hI (show (0 : Int) ≤ x1 ∧ x1 ≤ (3 : Int) from by omega) (show (0 : Int) ≤ r33 ∧ r33 ≤ (24 : Int) from by omega) (show (0 : Int) ≤ r35 ∧ r35 ≤ (11 : Int) from by omega) (show (-1 : Int) ≤ x2 ∧ x2 ≤ (11 : Int) from by omega) (show (s.1 96 114) + (s.1 96 117) + (s.1 96 120) + (s.1 96 123) - (s.1 96) (114 + 3 * x1) + r33 ≤ 24 from by omega) (fun s36 hI22 fr21 => ?_)
  have fr24 : lf_fq [96, 104, 107, 1006] 6 true s.1 s.2.2 s36.1 s36.2.2 := lf_fq_tr (lf_fq_rf) (lf_fq_wk fr21 rfl (by decide) (by decide))
  exact hQ s36 hI22 fr24
theorem sm_272_p8 {X8 : Int → lf_Z → Prop} {Q : lf_Z → Prop} {x1 : Int} {x2 : Int} {x3 : Int} {s : lf_Z} (hQ : ∀  (s' : lf_Z), iv_A s'.1 s'.2.2 → lf_fq [96, 104, 107, 1006] 6 true s.1 s.2.2 s'.1 s'.2.2 → Q  s') {M8 : Nat} (hX8 : ∀ (x3 : Int) (s' : lf_Z), iv_A s'.1 s'.2.2 → lf_fq [96, 104, 107, 1006] 6 true s.1 s.2.2 s'.1 s'.2.2 → 0 ≤ x3 ∧ x3 ≤ 16 → (16 - x3).toNat < M8 → X8 x3 s') (hM8 : (16 - x3).toNat ≤ M8) (hI : iv_A s.1 s.2.2) (bx1 : 0 ≤ x1 ∧ x1 ≤ 3) (bx2 : 0 ≤ x2 ∧ x2 ≤ 11) (bx3 : 0 ≤ x3 ∧ x3 ≤ 16) : fm_272_p8 Q x1 x2 X8 x3 s := by
  unfold fm_272_p8
  have b2 : 0 ≤ s.1 96 1 ∧ s.1 96 1 ≤ 16 := iv_rd96 hI (iv_fd6ad3e54 (by omega))
  have b3 : s.1 96 1 ≤ 0 ∨ 0 < s.1 96 0 := (show s.1 96 1 ≤ 0 ∨ 0 < s.1 96 0 from iv_l96_1 hI)
  refine ⟨(show lf_R x3 from lf_Rof (by omega)), ?_⟩
  refine ⟨(show lf_R (s.1 96 1) from lf_Rof (by omega)), ?_⟩
  refine ⟨fun c4 => ?_, fun c4 => ?_⟩
  · skip
    replace c4 : s.1 96 1 ≤ x3 := c4
    exact hQ s hI (lf_fq_rf)
  · skip
    replace c4 : ¬ (s.1 96 1 ≤ x3) := c4
    refine sm_242 hI (show (0 : Int) ≤ x1 ∧ x1 ≤ (3 : Int) from by omega) (fun r26 q5 => ?_)
    obtain ⟨q5, q5x⟩ := q5
    replace q5x : r26 = s.1 96 (114 + 3 * x1) := q5x
    refine sm_256 hI (show (0 : Int) ≤ x1 ∧ x1 ≤ (3 : Int) from by omega) (fun r28 q6 => ?_)
    refine sm_273 hI (show (0 : Int) ≤ r26 ∧ r26 ≤ (24 : Int) from by omega) (show (0 : Int) ≤ x2 ∧ x2 ≤ (11 : Int) from by omega) (show (-1 : Int) ≤ r28 ∧ r28 ≤ (11 : Int) from by omega) (show (0 : Int) ≤ x3 ∧ x3 ≤ (15 : Int) from by omega) (fun r30 s29 hI8 fr7 q9 => ?_)
    obtain ⟨q9, q9x⟩ := q9
    replace q9x : r30 ≤ 0 ∨ 0 ≤ iv_os (s.1 96) x3 x2 := q9x
    have fr10 : lf_fq [96, 104, 107, 1006] 6 true s.1 s.2.2 s29.1 s29.2.2 := lf_fq_tr (lf_fq_rf) (lf_fq_wk fr7 rfl (by decide) (by decide))
    have b11 : iv_os ((s29.1 96)) (x3) (x2) = iv_os (s.1 96) (x3) (x2) := congrArg (fun f => iv_os f x3 x2) (fr7.1 96 rfl)
    refine ⟨(show lf_R r30 from lf_Rof (by omega)), ?_⟩
    refine ⟨fun c12 => ?_, fun c12 => ?_⟩
    · skip
      replace c12 : r30 = 0 := c12
      exact sm_272_p80 (fun t9 i9 f9 => hQ t9 i9 (lf_fq_tr fr10 f9)) (fun p0 t9 i9 f9 => hX8 p0 t9 i9 (lf_fq_tr fr10 f9)) (show (16 - x3).toNat ≤ M8 from by omega) hI8 (show (0 : Int) ≤ x1 ∧ x1 ≤ (3 : Int) from by omega) (show (0 : Int) ≤ x2 ∧ x2 ≤ (11 : Int) from by omega) (show (0 : Int) ≤ x3 ∧ x3 ≤ (15 : Int) from by omega)
    · skip
      replace c12 : ¬ (r30 = 0) := c12
      refine ⟨fun c13 => ?_, fun c13 => ?_⟩
      · skip
        replace c13 : 10 ≤ r30 := c13
        exact sm_272_p62 (fun t9 i9 f9 => hQ t9 i9 (lf_fq_tr fr10 f9)) hI8 (show (0 : Int) ≤ x1 ∧ x1 ≤ (3 : Int) from by omega) (show (0 : Int) ≤ x2 ∧ x2 ≤ (11 : Int) from by omega) (show (0 : Int) ≤ x3 ∧ x3 ≤ (15 : Int) from by omega) (show 0 ≤ iv_os ((s29.1 96)) (x3) (x2) from by omega)
      · skip
        replace c13 : ¬ (10 ≤ r30) := c13
        refine sm_275 hI8 (show (10 : Int) ≤ 10 ∧ 10 ≤ (10 : Int) from by omega) (fun r38 s37 hI26 fr25 ps28 q27 => ?_)
        replace ps28 : ∀ i, i ≠ 6 → s37.1 96 i = (s29.1 96) i := ps28
        have fr29 : lf_fq [96, 104, 107, 1006] 6 true s.1 s.2.2 s37.1 s37.2.2 := lf_fq_tr fr10 (lf_fq_wk fr25 rfl (by decide) (by decide))
        have b30 : iv_os ((s37.1 96)) (x3) (x2) = iv_os (s29.1 96) (x3) (x2) := iv_osc (fun i hi => ps28 i (by omega)) (by omega)
        refine ⟨(show lf_R r38 from lf_Rof (by omega)), ?_⟩
        refine ⟨fun c31 => ?_, fun c31 => ?_⟩
        · skip
          replace c31 : r38 < r30 := c31
          exact sm_272_p62 (fun t9 i9 f9 => hQ t9 i9 (lf_fq_tr fr29 f9)) hI26 (show (0 : Int) ≤ x1 ∧ x1 ≤ (3 : Int) from by omega) (show (0 : Int) ≤ x2 ∧ x2 ≤ (11 : Int) from by omega) (show (0 : Int) ≤ x3 ∧ x3 ≤ (15 : Int) from by omega) (show 0 ≤ iv_os ((s37.1 96)) (x3) (x2) from by omega)
        · skip
          replace c31 : ¬ (r38 < r30) := c31
          exact sm_272_p80 (fun t9 i9 f9 => hQ t9 i9 (lf_fq_tr fr29 f9)) (fun p0 t9 i9 f9 => hX8 p0 t9 i9 (lf_fq_tr fr29 f9)) (show (16 - x3).toNat ≤ M8 from by omega) hI26 (show (0 : Int) ≤ x1 ∧ x1 ≤ (3 : Int) from by omega) (show (0 : Int) ≤ x2 ∧ x2 ≤ (11 : Int) from by omega) (show (0 : Int) ≤ x3 ∧ x3 ≤ (15 : Int) from by omega)
theorem sm_272_p8L {Q : lf_Z → Prop} {x1 : Int} {x2 : Int} {x3 : Int} {s : lf_Z} (hQ : ∀  (s' : lf_Z), iv_A s'.1 s'.2.2 → lf_fq [96, 104, 107, 1006] 6 true s.1 s.2.2 s'.1 s'.2.2 → Q  s') (hI : iv_A s.1 s.2.2) (bx1 : 0 ≤ x1 ∧ x1 ≤ 3) (bx2 : 0 ≤ x2 ∧ x2 ≤ 11) (bx3 : 0 ≤ x3 ∧ x3 ≤ 16) : fm_272_p8L Q x1 x2 x3 s := by
  intro X8 hX
  have key : ∀ (m9 : Nat) (x3 : Int) (s' : lf_Z), iv_A s'.1 s'.2.2 → lf_fq [96, 104, 107, 1006] 6 true s.1 s.2.2 s'.1 s'.2.2 → 0 ≤ x3 ∧ x3 ≤ 16 → (16 - x3).toNat < m9 → X8 x3 s' := by
    intro m9
    induction m9 with
    | zero => intro x3 s' _ _ bx3 h9; exact absurd h9 (Nat.not_lt_zero _)
    | succ m9 ih => intro x3 s' i7 f7 bx3 h9; exact hX _ _ (sm_272_p8 (fun t9 i9 f9 => hQ t9 i9 (lf_fq_tr f7 f9))   (fun x3' t8 i8 f8 bx3' h8 => ih x3' t8 i8 (lf_fq_tr f7 f8) bx3' (by omega)) (Nat.le_refl _)  i7  bx1 bx2 bx3  )
  exact key _ _ s hI lf_fq_rf bx3 (Nat.lt_succ_self _)
theorem sm_272 {a1 : Int} {Q : lf_Z → Prop} {s : lf_Z} (hI : iv_A s.1 s.2.2) (ba1 : 0 ≤ a1 ∧ a1 ≤ 3) (hQ : ∀  (s' : lf_Z), iv_A s'.1 s'.2.2 → lf_fq [96, 104, 107, 1006] 6 true s.1 s.2.2 s'.1 s'.2.2 → Q  s') : fm_272 a1 Q s := by
  unfold fm_272
  refine sm_255 hI (show (0 : Int) ≤ a1 ∧ a1 ≤ (3 : Int) from by omega) (fun r22 q1 => ?_)
  exact sm_272_p8L hQ hI (show (0 : Int) ≤ a1 ∧ a1 ≤ (3 : Int) from by omega) (show (0 : Int) ≤ r22 ∧ r22 ≤ (11 : Int) from by omega) (show (0 : Int) ≤ 0 ∧ 0 ≤ (16 : Int) from by omega)
-- fm_261 Model.findFar 95 i i
theorem sm_261_p174 {X34 : Int → lf_Z → Prop} {X47 : Int → lf_Z → Prop} {Q : lf_Z → Prop} {x2 : Int} {x3 : Int} {x4 : Int} {s : lf_Z} {s0 : lf_Z} {g1 : Int} (hQ : ∀  (s' : lf_Z), iv_A s'.1 s'.2.2 → lf_fq [108] 1000000 true s.1 s.2.2 s'.1 s'.2.2 → ((x2 : Int) = 1 → bf_G (s'.1 96) (s'.1 108) (g1)) → Q  s') {M34 : Nat} (hX34 : ∀ (x3 : Int) (s' : lf_Z), iv_A s'.1 s'.2.2 → lf_fq [108] 1000000 true s.1 s.2.2 s'.1 s'.2.2 → 0 ≤ x3 ∧ x3 ≤ 12 → (x2 = 1 → bf_R (s'.1 96) (s'.1 108) (x3) (g1)) → (12 - x3).toNat < M34 → X34 x3 s') (hM34 : (12 - x3).toNat ≤ M34) {M47 : Nat} (hX47 : ∀ (x4 : Int) (s' : lf_Z), iv_A s'.1 s'.2.2 → lf_fq [108] 1000000 true s.1 s.2.2 s'.1 s'.2.2 → 0 ≤ x4 ∧ x4 ≤ 16 → (x2 = 1 → bf_J (s'.1 96) (s'.1 108) (x3) (x4) (g1)) → (16 - x4).toNat < M47 → X47 x4 s') (hM47 : (16 - x4).toNat ≤ M47) (hI : iv_A s.1 s.2.2) (bx2 : 0 ≤ x2 ∧ x2 ≤ 1) (bx3 : 0 ≤ x3 ∧ x3 ≤ 11) (bx4 : 0 ≤ x4 ∧ x4 ≤ 15) (kv0 : x2 = 1 → bf_J (s.1 96) (s.1 108) (x3) (x4 + 1) (g1)) (kv1 : x4 < s.1 96 1) : fm_261_p174 X34 X47 Q x2 x3 x4 s := by
  unfold fm_261_p174
  have b29 : x2 = 1 → bf_J ((s.1 96)) ((s.1 108)) (x3) ((x4 + 1)) (g1) := by first | with_reducible assumption | exact (fun h9 => bf_J0 (kv0 h9))
  exact hX47 (x4 + 1) s hI (lf_fq_rf) (show (0 : Int) ≤ x4 + 1 ∧ x4 + 1 ≤ (16 : Int) from by omega) (show x2 = 1 → bf_J ((s.1 96)) ((s.1 108)) (x3) ((x4 + 1)) (g1) from by first | with_reducible assumption | assumption) (show (16 - (x4 + 1)).toNat < M47 from by omega)
theorem sm_261_p139 {X34 : Int → lf_Z → Prop} {X47 : Int → lf_Z → Prop} {Q : lf_Z → Prop} {x2 : Int} {x3 : Int} {x4 : Int} {x5 : Int} {x6 : Int} {s : lf_Z} {s0 : lf_Z} {g1 : Int} (hQ : ∀  (s' : lf_Z), iv_A s'.1 s'.2.2 → lf_fq [108] 1000000 true s.1 s.2.2 s'.1 s'.2.2 → ((x2 : Int) = 1 → bf_G (s'.1 96) (s'.1 108) (g1)) → Q  s') {M34 : Nat} (hX34 : ∀ (x3 : Int) (s' : lf_Z), iv_A s'.1 s'.2.2 → lf_fq [108] 1000000 true s.1 s.2.2 s'.1 s'.2.2 → 0 ≤ x3 ∧ x3 ≤ 12 → (x2 = 1 → bf_R (s'.1 96) (s'.1 108) (x3) (g1)) → (12 - x3).toNat < M34 → X34 x3 s') (hM34 : (12 - x3).toNat ≤ M34) {M47 : Nat} (hX47 : ∀ (x4 : Int) (s' : lf_Z), iv_A s'.1 s'.2.2 → lf_fq [108] 1000000 true s.1 s.2.2 s'.1 s'.2.2 → 0 ≤ x4 ∧ x4 ≤ 16 → (x2 = 1 → bf_J (s'.1 96) (s'.1 108) (x3) (x4) (g1)) → (16 - x4).toNat < M47 → X47 x4 s') (hM47 : (16 - x4).toNat ≤ M47) (hI : iv_A s.1 s.2.2) (bx2 : 0 ≤ x2 ∧ x2 ≤ 1) (bx3 : 0 ≤ x3 ∧ x3 ≤ 11) (bx4 : 0 ≤ x4 ∧ x4 ≤ 15) (bx5 : 0 ≤ x5 ∧ x5 ≤ 11) (bx6 : 0 ≤ x6 ∧ x6 ≤ 11) (kv0 : x2 = 1 → bf_J (s.1 96) (s.1 108) (x3) (x4) (g1)) (kv1 : x4 < s.1 96 1) (kv2 : s.1 108 (x6) ≤ s.1 108 (x5) + 1) (kv3 : x5 = s.1 96 (50 + 4 * x4) ∧ x6 = s.1 96 (50 + 4 * x4 + 1)) : fm_261_p139 X34 X47 Q x2 x3 x4 x5 x6 s := by
  unfold fm_261_p139
  refine ⟨(show (0 : Int) ≤ x6 ∧ x6 < (12 : Int) from by omega), ?_⟩
  have b23 : 0 ≤ s.1 108 x6 ∧ s.1 108 x6 ≤ 1000 := iv_r108 hI _
  refine ⟨(show (0 : Int) ≤ x5 ∧ x5 < (12 : Int) from by omega), ?_⟩
  have b24 : 0 ≤ s.1 108 x5 ∧ s.1 108 x5 ≤ 1000 := iv_r108 hI _
  refine ⟨(show lf_R ((s.1 108 x6) + 1) from lf_Rof (by omega)), ?_⟩
  refine ⟨(show lf_R (s.1 108 x5) from lf_Rof (by omega)), ?_⟩
  refine ⟨fun c25 => ?_, fun c25 => ?_⟩
  · skip
    replace c25 : s.1 108 x5 ≤ (s.1 108 x6) + 1 := c25
    have b26 : 0 ≤ s.1 96 1 ∧ s.1 96 1 ≤ 16 := iv_rd96 hI (iv_fd6ad3e54 (by omega))
    have b27 : s.1 96 1 ≤ 0 ∨ 0 < s.1 96 0 := (show s.1 96 1 ≤ 0 ∨ 0 < s.1 96 0 from iv_l96_1 hI)
    have b28 : x2 = 1 → bf_J ((s.1 96)) ((s.1 108)) (x3) (x4 + 1) (g1) := by first | exact (fun h9 => absurd h9 (by omega)) | exact (fun h9 => bf_r2 (a := x5) (b := x6) (kv0 h9) (by omega) (by omega) (by omega) (by omega) (by omega) kv2) | exact (fun h9 => bf_r3 (a := x5) (b := x6) (kv0 h9) (by omega) (by omega) (by omega) (by omega))
    exact sm_261_p174 (s0 := s0) (g1 := g1) hQ hX34 (show (12 - x3).toNat ≤ M34 from by omega) hX47 (show (16 - x4).toNat ≤ M47 from by omega) hI (show (0 : Int) ≤ x2 ∧ x2 ≤ (1 : Int) from by omega) (show (0 : Int) ≤ x3 ∧ x3 ≤ (11 : Int) from by omega) (show (0 : Int) ≤ x4 ∧ x4 ≤ (15 : Int) from by omega) (show x2 = 1 → bf_J ((s.1 96)) ((s.1 108)) (x3) (x4 + 1) (g1) from by first | with_reducible assumption | assumption) (show x4 < (s.1 96 1) from by omega)
  · skip
    replace c25 : ¬ (s.1 108 x5 ≤ (s.1 108 x6) + 1) := c25
    have hI30 : iv_A (lf_up s.1 108 x5 ((s.1 108 x6) + 1)) s.2.2 := iv_w108 hI (by omega)
    have fr31 : lf_fq [108] 1000000 true s.1 s.2.2 (lf_up s.1 108 x5 ((s.1 108 x6) + 1)) s.2.2 := lf_fq_up (lf_fq_rf) rfl (fun h => absurd h (by decide))
    have b32 : 0 ≤ s.1 96 1 ∧ s.1 96 1 ≤ 16 := (show 0 ≤ (lf_up s.1 108 x5 ((s.1 108 x6) + 1)) 96 1 ∧ (lf_up s.1 108 x5 ((s.1 108 x6) + 1)) 96 1 ≤ 16 from iv_rd96 hI30 (iv_fd6ad3e54 (by omega)))
    have b33 : s.1 96 1 ≤ 0 ∨ 0 < s.1 96 0 := (show (lf_up s.1 108 x5 ((s.1 108 x6) + 1)) 96 1 ≤ 0 ∨ 0 < (lf_up s.1 108 x5 ((s.1 108 x6) + 1)) 96 0 from iv_l96_1 hI30)
    have b34 : x2 = 1 → bf_J ((s.1 96)) (((lf_up s.1 108 x5 ((s.1 108 x6) + 1)) 108)) (x3) (x4 + 1) (g1) := by first | exact (fun h9 => absurd h9 (by omega)) | exact (fun h9 => bf_r2 (a := x5) (b := x6) (kv0 h9) (by omega) (by omega) (by omega) (by omega) (by omega) kv2) | exact (fun h9 => bf_r3 (a := x5) (b := x6) (kv0 h9) (by omega) (by omega) (by omega) (by omega))
    exact sm_261_p174 (s0 := s0) (g1 := g1) (fun t9 i9 f9 => hQ t9 i9 (lf_fq_tr fr31 f9)) (fun p0 t9 i9 f9 => hX34 p0 t9 i9 (lf_fq_tr fr31 f9)) (show (12 - x3).toNat ≤ M34 from by omega) (fun p0 t9 i9 f9 => hX47 p0 t9 i9 (lf_fq_tr fr31 f9)) (show (16 - x4).toNat ≤ M47 from by omega) hI30 (show (0 : Int) ≤ x2 ∧ x2 ≤ (1 : Int) from by omega) (show (0 : Int) ≤ x3 ∧ x3 ≤ (11 : Int) from by omega) (show (0 : Int) ≤ x4 ∧ x4 ≤ (15 : Int) from by omega) (show x2 = 1 → bf_J ((s.1 96)) (((lf_up s.1 108 x5 ((s.1 108 x6) + 1)) 108)) (x3) (x4 + 1) (g1) from by first | with_reducible assumption | assumption) (show x4 < (s.1 96 1) from by omega)
theorem sm_261_p74 {X34 : Int → lf_Z → Prop} {X47 : Int → lf_Z → Prop} {Q : lf_Z → Prop} {x2 : Int} {x3 : Int} {x4 : Int} {s : lf_Z} {s0 : lf_Z} {g1 : Int} (hQ : ∀  (s' : lf_Z), iv_A s'.1 s'.2.2 → lf_fq [108] 1000000 true s.1 s.2.2 s'.1 s'.2.2 → ((x2 : Int) = 1 → bf_G (s'.1 96) (s'.1 108) (g1)) → Q  s') {M34 : Nat} (hX34 : ∀ (x3 : Int) (s' : lf_Z), iv_A s'.1 s'.2.2 → lf_fq [108] 1000000 true s.1 s.2.2 s'.1 s'.2.2 → 0 ≤ x3 ∧ x3 ≤ 12 → (x2 = 1 → bf_R (s'.1 96) (s'.1 108) (x3) (g1)) → (12 - x3).toNat < M34 → X34 x3 s') (hM34 : (12 - x3).toNat ≤ M34) {M47 : Nat} (hX47 : ∀ (x4 : Int) (s' : lf_Z), iv_A s'.1 s'.2.2 → lf_fq [108] 1000000 true s.1 s.2.2 s'.1 s'.2.2 → 0 ≤ x4 ∧ x4 ≤ 16 → (x2 = 1 → bf_J (s'.1 96) (s'.1 108) (x3) (x4) (g1)) → (16 - x4).toNat < M47 → X47 x4 s') (hM47 : (16 - x4).toNat ≤ M47) (hI : iv_A s.1 s.2.2) (bx2 : 0 ≤ x2 ∧ x2 ≤ 1) (bx3 : 0 ≤ x3 ∧ x3 ≤ 11) (bx4 : 0 ≤ x4 ∧ x4 ≤ 15) (kv0 : x2 = 1 → bf_J (s.1 96) (s.1 108) (x3) (x4) (g1)) (kv1 : x4 < s.1 96 1) : fm_261_p74 X34 X47 Q x2 x3 x4 s := by
  unfold fm_261_p74
  refine ⟨(show (0 : Int) ≤ 50 + (4 * x4) ∧ 50 + (4 * x4) < (1538 : Int) from by omega), ?_⟩
  have b14 : 0 ≤ s.1 96 (50 + (4 * x4)) ∧ s.1 96 (50 + (4 * x4)) ≤ 11 := iv_rd96 hI (iv_f76190a29 (x4) (by omega) (by omega))
  refine ⟨(show (0 : Int) ≤ (50 + (4 * x4)) + 1 ∧ (50 + (4 * x4)) + 1 < (1538 : Int) from by omega), ?_⟩
  have b15 : 0 ≤ s.1 96 ((50 + (4 * x4)) + 1) ∧ s.1 96 ((50 + (4 * x4)) + 1) ≤ 11 := iv_rd96 hI (iv_fba8b7512 (x4) (by omega) (by omega))
  refine ⟨(show (0 : Int) ≤ s.1 96 (50 + (4 * x4)) ∧ s.1 96 (50 + (4 * x4)) < (12 : Int) from by omega), ?_⟩
  have b16 : 0 ≤ s.1 108 (s.1 96 (50 + (4 * x4))) ∧ s.1 108 (s.1 96 (50 + (4 * x4))) ≤ 1000 := iv_r108 hI _
  refine ⟨(show (0 : Int) ≤ s.1 96 ((50 + (4 * x4)) + 1) ∧ s.1 96 ((50 + (4 * x4)) + 1) < (12 : Int) from by omega), ?_⟩
  have b17 : 0 ≤ s.1 108 (s.1 96 ((50 + (4 * x4)) + 1)) ∧ s.1 108 (s.1 96 ((50 + (4 * x4)) + 1)) ≤ 1000 := iv_r108 hI _
  refine ⟨(show lf_R ((s.1 108 (s.1 96 (50 + (4 * x4)))) + 1) from lf_Rof (by omega)), ?_⟩
  refine ⟨(show lf_R (s.1 108 (s.1 96 ((50 + (4 * x4)) + 1))) from lf_Rof (by omega)), ?_⟩
  refine ⟨fun c18 => ?_, fun c18 => ?_⟩
  · skip
    replace c18 : s.1 108 (s.1 96 ((50 + (4 * x4)) + 1)) ≤ (s.1 108 (s.1 96 (50 + (4 * x4)))) + 1 := c18
    have b19 : 0 ≤ s.1 96 1 ∧ s.1 96 1 ≤ 16 := iv_rd96 hI (iv_fd6ad3e54 (by omega))
    have b20 : s.1 96 1 ≤ 0 ∨ 0 < s.1 96 0 := (show s.1 96 1 ≤ 0 ∨ 0 < s.1 96 0 from iv_l96_1 hI)
    have b21 : x2 = 1 → bf_J ((s.1 96)) ((s.1 108)) (x3) (x4) (g1) := by first | with_reducible assumption | exact (fun h9 => bf_r1 (kv0 h9) (by omega) rfl rfl (by omega) (by omega))
    have b22 : (s.1 108) ((s.1 96 ((50 + (4 * x4)) + 1))) ≤ (s.1 108) ((s.1 96 (50 + (4 * x4)))) + 1 := by first | omega | exact bf_le1 (by omega)
    exact sm_261_p139 (s0 := s0) (g1 := g1) hQ hX34 (show (12 - x3).toNat ≤ M34 from by omega) hX47 (show (16 - x4).toNat ≤ M47 from by omega) hI (show (0 : Int) ≤ x2 ∧ x2 ≤ (1 : Int) from by omega) (show (0 : Int) ≤ x3 ∧ x3 ≤ (11 : Int) from by omega) (show (0 : Int) ≤ x4 ∧ x4 ≤ (15 : Int) from by omega) (show (0 : Int) ≤ s.1 96 (50 + (4 * x4)) ∧ s.1 96 (50 + (4 * x4)) ≤ (11 : Int) from by omega) (show (0 : Int) ≤ s.1 96 ((50 + (4 * x4)) + 1) ∧ s.1 96 ((50 + (4 * x4)) + 1) ≤ (11 : Int) from by omega) (show x2 = 1 → bf_J ((s.1 96)) ((s.1 108)) (x3) (x4) (g1) from by first | with_reducible assumption | assumption) (show x4 < (s.1 96 1) from by omega) (show (s.1 108) ((s.1 96 ((50 + (4 * x4)) + 1))) ≤ (s.1 108) ((s.1 96 (50 + (4 * x4)))) + 1 from by omega) (show (s.1 96 (50 + (4 * x4))) = (s.1 96) (50 + 4 * x4) ∧ (s.1 96 ((50 + (4 * x4)) + 1)) = (s.1 96) (50 + 4 * x4 + 1) from by omega)
  · skip
    replace c18 : ¬ (s.1 108 (s.1 96 ((50 + (4 * x4)) + 1)) ≤ (s.1 108 (s.1 96 (50 + (4 * x4)))) + 1) := c18
    have hI35 : iv_A (lf_up s.1 108 (s.1 96 ((50 + (4 * x4)) + 1)) ((s.1 108 (s.1 96 (50 + (4 * x4)))) + 1)) s.2.2 := iv_w108 hI (by omega)
    have fr36 : lf_fq [108] 1000000 true s.1 s.2.2 (lf_up s.1 108 (s.1 96 ((50 + (4 * x4)) + 1)) ((s.1 108 (s.1 96 (50 + (4 * x4)))) + 1)) s.2.2 := lf_fq_up (lf_fq_rf) rfl (fun h => absurd h (by decide))
    have b37 : 0 ≤ s.1 96 1 ∧ s.1 96 1 ≤ 16 := (show 0 ≤ (lf_up s.1 108 (s.1 96 ((50 + (4 * x4)) + 1)) ((s.1 108 (s.1 96 (50 + (4 * x4)))) + 1)) 96 1 ∧ (lf_up s.1 108 (s.1 96 ((50 + (4 * x4)) + 1)) ((s.1 108 (s.1 96 (50 + (4 * x4)))) + 1)) 96 1 ≤ 16 from iv_rd96 hI35 (iv_fd6ad3e54 (by omega)))
    have b38 : s.1 96 1 ≤ 0 ∨ 0 < s.1 96 0 := (show (lf_up s.1 108 (s.1 96 ((50 + (4 * x4)) + 1)) ((s.1 108 (s.1 96 (50 + (4 * x4)))) + 1)) 96 1 ≤ 0 ∨ 0 < (lf_up s.1 108 (s.1 96 ((50 + (4 * x4)) + 1)) ((s.1 108 (s.1 96 (50 + (4 * x4)))) + 1)) 96 0 from iv_l96_1 hI35)
    have b39 : x2 = 1 → bf_J ((s.1 96)) (((lf_up s.1 108 (s.1 96 ((50 + (4 * x4)) + 1)) ((s.1 108 (s.1 96 (50 + (4 * x4)))) + 1)) 108)) (x3) (x4) (g1) := by first | with_reducible assumption | exact (fun h9 => bf_r1 (kv0 h9) (by omega) rfl rfl (by omega) (by omega))
    have b40 : ((lf_up s.1 108 (s.1 96 ((50 + (4 * x4)) + 1)) ((s.1 108 (s.1 96 (50 + (4 * x4)))) + 1)) 108) ((s.1 96 ((50 + (4 * x4)) + 1))) ≤ ((lf_up s.1 108 (s.1 96 ((50 + (4 * x4)) + 1)) ((s.1 108 (s.1 96 (50 + (4 * x4)))) + 1)) 108) ((s.1 96 (50 + (4 * x4)))) + 1 := by first | omega | exact bf_le1 (by omega)
    exact sm_261_p139 (s0 := s0) (g1 := g1) (fun t9 i9 f9 => hQ t9 i9 (lf_fq_tr fr36 f9)) (fun p0 t9 i9 f9 => hX34 p0 t9 i9 (lf_fq_tr fr36 f9)) (show (12 - x3).toNat ≤ M34 from by omega) (fun p0 t9 i9 f9 => hX47 p0 t9 i9 (lf_fq_tr fr36 f9)) (show (16 - x4).toNat ≤ M47 from by omega) hI35 (show (0 : Int) ≤ x2 ∧ x2 ≤ (1 : Int) from by omega) (show (0 : Int) ≤ x3 ∧ x3 ≤ (11 : Int) from by omega) (show (0 : Int) ≤ x4 ∧ x4 ≤ (15 : Int) from by omega) (show (0 : Int) ≤ s.1 96 (50 + (4 * x4)) ∧ s.1 96 (50 + (4 * x4)) ≤ (11 : Int) from by omega) (show (0 : Int) ≤ s.1 96 ((50 + (4 * x4)) + 1) ∧ s.1 96 ((50 + (4 * x4)) + 1) ≤ (11 : Int) from by omega) (show x2 = 1 → bf_J ((s.1 96)) (((lf_up s.1 108 (s.1 96 ((50 + (4 * x4)) + 1)) ((s.1 108 (s.1 96 (50 + (4 * x4)))) + 1)) 108)) (x3) (x4) (g1) from by first | with_reducible assumption | assumption) (show x4 < (s.1 96 1) from by omega) (show ((lf_up s.1 108 (s.1 96 ((50 + (4 * x4)) + 1)) ((s.1 108 (s.1 96 (50 + (4 * x4)))) + 1)) 108) ((s.1 96 ((50 + (4 * x4)) + 1))) ≤ ((lf_up s.1 108 (s.1 96 ((50 + (4 * x4)) + 1)) ((s.1 108 (s.1 96 (50 + (4 * x4)))) + 1)) 108) ((s.1 96 (50 + (4 * x4)))) + 1 from by omega) (show (s.1 96 (50 + (4 * x4))) = (s.1 96) (50 + 4 * x4) ∧ (s.1 96 ((50 + (4 * x4)) + 1)) = (s.1 96) (50 + 4 * x4 + 1) from by omega)
theorem sm_261_p47 {X34 : Int → lf_Z → Prop} {X47 : Int → lf_Z → Prop} {Q : lf_Z → Prop} {x2 : Int} {x3 : Int} {x4 : Int} {s : lf_Z} {s0 : lf_Z} {g1 : Int} (hQ : ∀  (s' : lf_Z), iv_A s'.1 s'.2.2 → lf_fq [108] 1000000 true s.1 s.2.2 s'.1 s'.2.2 → ((x2 : Int) = 1 → bf_G (s'.1 96) (s'.1 108) (g1)) → Q  s') {M34 : Nat} (hX34 : ∀ (x3 : Int) (s' : lf_Z), iv_A s'.1 s'.2.2 → lf_fq [108] 1000000 true s.1 s.2.2 s'.1 s'.2.2 → 0 ≤ x3 ∧ x3 ≤ 12 → (x2 = 1 → bf_R (s'.1 96) (s'.1 108) (x3) (g1)) → (12 - x3).toNat < M34 → X34 x3 s') (hM34 : (12 - x3).toNat ≤ M34) {M47 : Nat} (hX47 : ∀ (x4 : Int) (s' : lf_Z), iv_A s'.1 s'.2.2 → lf_fq [108] 1000000 true s.1 s.2.2 s'.1 s'.2.2 → 0 ≤ x4 ∧ x4 ≤ 16 → (x2 = 1 → bf_J (s'.1 96) (s'.1 108) (x3) (x4) (g1)) → (16 - x4).toNat < M47 → X47 x4 s') (hM47 : (16 - x4).toNat ≤ M47) (hI : iv_A s.1 s.2.2) (bx2 : 0 ≤ x2 ∧ x2 ≤ 1) (bx3 : 0 ≤ x3 ∧ x3 ≤ 11) (bx4 : 0 ≤ x4 ∧ x4 ≤ 16) (kv0 : x2 = 1 → bf_J (s.1 96) (s.1 108) (x3) (x4) (g1)) : fm_261_p47 X34 Q x2 x3 X47 x4 s := by
  unfold fm_261_p47
  have b8 : 0 ≤ s.1 96 1 ∧ s.1 96 1 ≤ 16 := iv_rd96 hI (iv_fd6ad3e54 (by omega))
  have b9 : s.1 96 1 ≤ 0 ∨ 0 < s.1 96 0 := (show s.1 96 1 ≤ 0 ∨ 0 < s.1 96 0 from iv_l96_1 hI)
  refine ⟨(show lf_R x4 from lf_Rof (by omega)), ?_⟩
  refine ⟨(show lf_R (s.1 96 1) from lf_Rof (by omega)), ?_⟩
  refine ⟨fun c10 => ?_, fun c10 => ?_⟩
  · skip
    replace c10 : s.1 96 1 ≤ x4 := c10
    have b11 : x2 = 1 → bf_R ((s.1 96)) ((s.1 108)) ((x3 + 1)) (g1) := by first | with_reducible assumption | exact (fun _ => bf_R0 (bf_iK kv0 (by omega)) (bf_ends hI)) | exact (fun h9 => bf_RJ (kv0 h9) (by omega))
    exact hX34 (x3 + 1) s hI (lf_fq_rf) (show (0 : Int) ≤ x3 + 1 ∧ x3 + 1 ≤ (12 : Int) from by omega) (show x2 = 1 → bf_R ((s.1 96)) ((s.1 108)) ((x3 + 1)) (g1) from by first | with_reducible assumption | assumption) (show (12 - (x3 + 1)).toNat < M34 from by omega)
  · skip
    replace c10 : ¬ (s.1 96 1 ≤ x4) := c10
    refine sm_252 hI (show (0 : Int) ≤ x4 ∧ x4 ≤ (15 : Int) from by omega) (fun z27 => ?_)
    refine ⟨fun c13 => ?_, fun c13 => ?_⟩
    · skip
      exact sm_261_p74 (s0 := s0) (g1 := g1) hQ hX34 (show (12 - x3).toNat ≤ M34 from by omega) hX47 (show (16 - x4).toNat ≤ M47 from by omega) hI (show (0 : Int) ≤ x2 ∧ x2 ≤ (1 : Int) from by omega) (show (0 : Int) ≤ x3 ∧ x3 ≤ (11 : Int) from by omega) (show (0 : Int) ≤ x4 ∧ x4 ≤ (15 : Int) from by omega) (show x2 = 1 → bf_J ((s.1 96)) ((s.1 108)) (x3) (x4) (g1) from by first | with_reducible assumption | assumption) (show x4 < (s.1 96 1) from by omega)
    · skip
      refine ⟨(show lf_R x2 from lf_Rof (by omega)), ?_⟩
      refine ⟨fun c41 => ?_, fun c41 => ?_⟩
      · skip
        replace c41 : x2 ≠ 0 := c41
        exact sm_261_p74 (s0 := s0) (g1 := g1) hQ hX34 (show (12 - x3).toNat ≤ M34 from by omega) hX47 (show (16 - x4).toNat ≤ M47 from by omega) hI (show (0 : Int) ≤ x2 ∧ x2 ≤ (1 : Int) from by omega) (show (0 : Int) ≤ x3 ∧ x3 ≤ (11 : Int) from by omega) (show (0 : Int) ≤ x4 ∧ x4 ≤ (15 : Int) from by omega) (show x2 = 1 → bf_J ((s.1 96)) ((s.1 108)) (x3) (x4) (g1) from by first | with_reducible assumption | assumption) (show x4 < (s.1 96 1) from by omega)
      · skip
        replace c41 : ¬ (x2 ≠ 0) := c41
        have b42 : x2 = 1 → bf_J ((s.1 96)) ((s.1 108)) (x3) (x4 + 1) (g1) := by first | exact (fun h9 => absurd h9 (by omega)) | exact (fun h9 => bf_r2 (a := x5) (b := x6) (kv0 h9) (by omega) (by omega) (by omega) (by omega) (by omega) kv2) | exact (fun h9 => bf_r3 (a := x5) (b := x6) (kv0 h9) (by omega) (by omega) (by omega) (by omega))
        exact sm_261_p174 (s0 := s0) (g1 := g1) hQ hX34 (show (12 - x3).toNat ≤ M34 from by omega) hX47 (show (16 - x4).toNat ≤ M47 from by omega) hI (show (0 : Int) ≤ x2 ∧ x2 ≤ (1 : Int) from by omega) (show (0 : Int) ≤ x3 ∧ x3 ≤ (11 : Int) from by omega) (show (0 : Int) ≤ x4 ∧ x4 ≤ (15 : Int) from by omega) (show x2 = 1 → bf_J ((s.1 96)) ((s.1 108)) (x3) (x4 + 1) (g1) from by first | with_reducible assumption | assumption) (show x4 < (s.1 96 1) from by omega)
theorem sm_261_p47L {X34 : Int → lf_Z → Prop} {Q : lf_Z → Prop} {x2 : Int} {x3 : Int} {x4 : Int} {s : lf_Z} {s0 : lf_Z} {g1 : Int} (hQ : ∀  (s' : lf_Z), iv_A s'.1 s'.2.2 → lf_fq [108] 1000000 true s.1 s.2.2 s'.1 s'.2.2 → ((x2 : Int) = 1 → bf_G (s'.1 96) (s'.1 108) (g1)) → Q  s') {M34 : Nat} (hX34 : ∀ (x3 : Int) (s' : lf_Z), iv_A s'.1 s'.2.2 → lf_fq [108] 1000000 true s.1 s.2.2 s'.1 s'.2.2 → 0 ≤ x3 ∧ x3 ≤ 12 → (x2 = 1 → bf_R (s'.1 96) (s'.1 108) (x3) (g1)) → (12 - x3).toNat < M34 → X34 x3 s') (hM34 : (12 - x3).toNat ≤ M34) (hI : iv_A s.1 s.2.2) (bx2 : 0 ≤ x2 ∧ x2 ≤ 1) (bx3 : 0 ≤ x3 ∧ x3 ≤ 11) (bx4 : 0 ≤ x4 ∧ x4 ≤ 16) (kv0 : x2 = 1 → bf_J (s.1 96) (s.1 108) (x3) (x4) (g1)) : fm_261_p47L X34 Q x2 x3 x4 s := by
  intro X47 hX
  have key : ∀ (m9 : Nat) (x4 : Int) (s' : lf_Z), iv_A s'.1 s'.2.2 → lf_fq [108] 1000000 true s.1 s.2.2 s'.1 s'.2.2 → 0 ≤ x4 ∧ x4 ≤ 16 → (x2 = 1 → bf_J (s'.1 96) (s'.1 108) (x3) (x4) (g1)) → (16 - x4).toNat < m9 → X47 x4 s' := by
    intro m9
    induction m9 with
    | zero => intro x4 s' _ _ bx4 kv0 h9; exact absurd h9 (Nat.not_lt_zero _)
    | succ m9 ih => intro x4 s' i7 f7 bx4 kv0 h9; exact hX _ _ (sm_261_p47 (s0 := s0) (g1 := g1) (fun t9 i9 f9 => hQ t9 i9 (lf_fq_tr f7 f9))  (fun p0 t9 i9 f9 => hX34 p0 t9 i9 (lf_fq_tr f7 f9)) hM34 (fun x4' t8 i8 f8 bx4' kv0' h8 => ih x4' t8 i8 (lf_fq_tr f7 f8) bx4' kv0' (by omega)) (Nat.le_refl _)  i7  bx2 bx3 bx4  kv0)
  exact key _ _ s hI lf_fq_rf bx4 kv0 (Nat.lt_succ_self _)
theorem sm_261_p34 {X34 : Int → lf_Z → Prop} {Q : lf_Z → Prop} {x2 : Int} {x3 : Int} {s : lf_Z} {s0 : lf_Z} {g1 : Int} (hQ : ∀  (s' : lf_Z), iv_A s'.1 s'.2.2 → lf_fq [108] 1000000 true s.1 s.2.2 s'.1 s'.2.2 → ((x2 : Int) = 1 → bf_G (s'.1 96) (s'.1 108) (g1)) → Q  s') {M34 : Nat} (hX34 : ∀ (x3 : Int) (s' : lf_Z), iv_A s'.1 s'.2.2 → lf_fq [108] 1000000 true s.1 s.2.2 s'.1 s'.2.2 → 0 ≤ x3 ∧ x3 ≤ 12 → (x2 = 1 → bf_R (s'.1 96) (s'.1 108) (x3) (g1)) → (12 - x3).toNat < M34 → X34 x3 s') (hM34 : (12 - x3).toNat ≤ M34) (hI : iv_A s.1 s.2.2) (bx2 : 0 ≤ x2 ∧ x2 ≤ 1) (bx3 : 0 ≤ x3 ∧ x3 ≤ 12) (kv0 : x2 = 1 → bf_R (s.1 96) (s.1 108) (x3) (g1)) : fm_261_p34 Q x2 X34 x3 s := by
  unfold fm_261_p34
  have b4 : 0 ≤ s.1 96 0 ∧ s.1 96 0 ≤ 12 := iv_rd96 hI (iv_f3e1fa21c (by omega))
  refine ⟨(show lf_R x3 from lf_Rof (by omega)), ?_⟩
  refine ⟨(show lf_R (s.1 96 0) from lf_Rof (by omega)), ?_⟩
  refine ⟨fun c5 => ?_, fun c5 => ?_⟩
  · skip
    replace c5 : s.1 96 0 ≤ x3 := c5
    have b6 : x2 = 1 → bf_G ((s.1 96)) ((s.1 108)) (g1) := fun h9 => bf_endA hI (kv0 h9) (by omega)
    exact hQ s hI (lf_fq_rf) (show (x2 : Int) = 1 → bf_G ((s.1 96)) ((s.1 108)) (g1) from by first | with_reducible assumption | assumption)
  · skip
    replace c5 : ¬ (s.1 96 0 ≤ x3) := c5
    have b7 : x2 = 1 → bf_J ((s.1 96)) ((s.1 108)) (x3) (0) (g1) := by first | with_reducible assumption | exact (fun h9 => bf_J0 (kv0 h9))
    exact sm_261_p47L (s0 := s0) (g1 := g1) hQ hX34 (show (12 - x3).toNat ≤ M34 from by omega) hI (show (0 : Int) ≤ x2 ∧ x2 ≤ (1 : Int) from by omega) (show (0 : Int) ≤ x3 ∧ x3 ≤ (11 : Int) from by omega) (show (0 : Int) ≤ 0 ∧ 0 ≤ (16 : Int) from by omega) (show x2 = 1 → bf_J ((s.1 96)) ((s.1 108)) (x3) (0) (g1) from by first | with_reducible assumption | assumption)
theorem sm_261_p34L {Q : lf_Z → Prop} {x2 : Int} {x3 : Int} {s : lf_Z} {s0 : lf_Z} {g1 : Int} (hQ : ∀  (s' : lf_Z), iv_A s'.1 s'.2.2 → lf_fq [108] 1000000 true s.1 s.2.2 s'.1 s'.2.2 → ((x2 : Int) = 1 → bf_G (s'.1 96) (s'.1 108) (g1)) → Q  s') (hI : iv_A s.1 s.2.2) (bx2 : 0 ≤ x2 ∧ x2 ≤ 1) (bx3 : 0 ≤ x3 ∧ x3 ≤ 12) (kv0 : x2 = 1 → bf_R (s.1 96) (s.1 108) (x3) (g1)) : fm_261_p34L Q x2 x3 s := by
  intro X34 hX
  have key : ∀ (m9 : Nat) (x3 : Int) (s' : lf_Z), iv_A s'.1 s'.2.2 → lf_fq [108] 1000000 true s.1 s.2.2 s'.1 s'.2.2 → 0 ≤ x3 ∧ x3 ≤ 12 → (x2 = 1 → bf_R (s'.1 96) (s'.1 108) (x3) (g1)) → (12 - x3).toNat < m9 → X34 x3 s' := by
    intro m9
    induction m9 with
    | zero => intro x3 s' _ _ bx3 kv0 h9; exact absurd h9 (Nat.not_lt_zero _)
    | succ m9 ih => intro x3 s' i7 f7 bx3 kv0 h9; exact hX _ _ (sm_261_p34 (s0 := s0) (g1 := g1) (fun t9 i9 f9 => hQ t9 i9 (lf_fq_tr f7 f9))   (fun x3' t8 i8 f8 bx3' kv0' h8 => ih x3' t8 i8 (lf_fq_tr f7 f8) bx3' kv0' (by omega)) (Nat.le_refl _)  i7  bx2 bx3  kv0)
  exact key _ _ s hI lf_fq_rf bx3 kv0 (Nat.lt_succ_self _)
theorem sm_261_p25 {X2 : Int → lf_Z → Prop} {Q : lf_Z → Prop} {x1 : Int} {x2 : Int} {x3 : Int} {y1 : Int} {y2 : Int} {s : lf_Z} {s0 : lf_Z} {g1 : Int} (hQ : ∀  (s' : lf_Z), iv_A s'.1 s'.2.2 → lf_fq [108] 1000000 true s.1 s.2.2 s'.1 s'.2.2 → ((x2 : Int) = 1 → bf_G (s'.1 96) (s'.1 108) (g1)) → Q  s') {M2 : Nat} (hX2 : ∀ (x3 : Int) (s' : lf_Z), iv_A s'.1 s'.2.2 → lf_fq [108] 1000000 true s.1 s.2.2 s'.1 s'.2.2 → 0 ≤ x3 ∧ x3 ≤ 12 → (bf_i (s'.1 108) (x3) (g1)) → (x1 = g1) → (12 - x3).toNat < M2 → X2 x3 s') (hM2 : (12 - x3).toNat ≤ M2) (hI : iv_A s.1 s.2.2) (bx1 : (-1) ≤ x1 ∧ x1 ≤ 11) (bx2 : 0 ≤ x2 ∧ x2 ≤ 1) (bx3 : 0 ≤ x3 ∧ x3 ≤ 11) (by1 : 0 ≤ y1 ∧ y1 ≤ 11) (by2 : 0 ≤ y2 ∧ y2 ≤ 1000) (kv0 : bf_i (s.1 108) (x3) (g1)) (kv1 : x1 = g1) (kv2 : y1 = x3) (kv3 : (y2 = 0 ∧ x3 = g1) ∨ y2 = 1000) : fm_261_p25 X2 Q x1 x2 x3 y1 y2 s := by
  unfold fm_261_p25
  refine ⟨(show (0 : Int) ≤ y1 ∧ y1 < (12 : Int) from by omega), ?_⟩
  have hI44 : iv_A (lf_up s.1 108 y1 y2) s.2.2 := iv_w108 hI (by omega)
  have fr45 : lf_fq [108] 1000000 true s.1 s.2.2 (lf_up s.1 108 y1 y2) s.2.2 := lf_fq_up (lf_fq_rf) rfl (fun h => absurd h (by decide))
  have b46 : bf_i (((lf_up s.1 108 y1 y2) 108)) ((x3 + 1)) (g1) := by first | with_reducible assumption | exact bf_iS kv0 lf_up_s (fun j hj => lf_up_i hj) (by omega) (by omega) | exact (fun j a b => by omega)
  exact hX2 (x3 + 1) (lf_up s.1 108 y1 y2, s.2.1, s.2.2) hI44 fr45 (show (0 : Int) ≤ x3 + 1 ∧ x3 + 1 ≤ (12 : Int) from by omega) (show bf_i (((lf_up s.1 108 y1 y2) 108)) ((x3 + 1)) (g1) from by first | with_reducible assumption | assumption) (show x1 = g1 from by omega) (show (12 - (x3 + 1)).toNat < M2 from by omega)
theorem sm_261_p2 {X2 : Int → lf_Z → Prop} {Q : lf_Z → Prop} {x1 : Int} {x2 : Int} {x3 : Int} {s : lf_Z} {s0 : lf_Z} {g1 : Int} (hQ : ∀  (s' : lf_Z), iv_A s'.1 s'.2.2 → lf_fq [108] 1000000 true s.1 s.2.2 s'.1 s'.2.2 → ((x2 : Int) = 1 → bf_G (s'.1 96) (s'.1 108) (g1)) → Q  s') {M2 : Nat} (hX2 : ∀ (x3 : Int) (s' : lf_Z), iv_A s'.1 s'.2.2 → lf_fq [108] 1000000 true s.1 s.2.2 s'.1 s'.2.2 → 0 ≤ x3 ∧ x3 ≤ 12 → (bf_i (s'.1 108) (x3) (g1)) → (x1 = g1) → (12 - x3).toNat < M2 → X2 x3 s') (hM2 : (12 - x3).toNat ≤ M2) (hI : iv_A s.1 s.2.2) (bx1 : (-1) ≤ x1 ∧ x1 ≤ 11) (bx2 : 0 ≤ x2 ∧ x2 ≤ 1) (bx3 : 0 ≤ x3 ∧ x3 ≤ 12) (kv0 : bf_i (s.1 108) (x3) (g1)) (kv1 : x1 = g1) : fm_261_p2 Q x1 x2 X2 x3 s := by
  unfold fm_261_p2
  refine ⟨(show lf_R x3 from lf_Rof (by omega)), ?_⟩
  refine ⟨fun c2 => ?_, fun c2 => ?_⟩
  · skip
    replace c2 : 12 ≤ x3 := c2
    have b3 : x2 = 1 → bf_R ((s.1 96)) ((s.1 108)) (0) (g1) := by first | with_reducible assumption | exact (fun _ => bf_R0 (bf_iK kv0 (by omega)) (bf_ends hI)) | exact (fun h9 => bf_RJ (kv0 h9) (by omega))
    exact sm_261_p34L (s0 := s0) (g1 := g1) hQ hI (show (0 : Int) ≤ x2 ∧ x2 ≤ (1 : Int) from by omega) (show (0 : Int) ≤ 0 ∧ 0 ≤ (12 : Int) from by omega) (show x2 = 1 → bf_R ((s.1 96)) ((s.1 108)) (0) (g1) from by first | with_reducible assumption | assumption)
  · skip
    replace c2 : ¬ (12 ≤ x3) := c2
    refine ⟨(show lf_R x1 from lf_Rof (by omega)), ?_⟩
    refine ⟨fun c43 => ?_, fun c43 => ?_⟩
    · skip
      replace c43 : x3 ≠ x1 := c43
      exact sm_261_p25 (s0 := s0) (g1 := g1) hQ hX2 (show (12 - x3).toNat ≤ M2 from by omega) hI (show (-1 : Int) ≤ x1 ∧ x1 ≤ (11 : Int) from by omega) (show (0 : Int) ≤ x2 ∧ x2 ≤ (1 : Int) from by omega) (show (0 : Int) ≤ x3 ∧ x3 ≤ (11 : Int) from by omega) (show (0 : Int) ≤ x3 ∧ x3 ≤ (11 : Int) from by omega) (show (0 : Int) ≤ 1000 ∧ 1000 ≤ (1000 : Int) from by omega) (show bf_i ((s.1 108)) (x3) (g1) from by first | with_reducible assumption | assumption) (show x1 = g1 from by omega) (show x3 = x3 from by omega) (show (1000 = 0 ∧ x3 = g1) ∨ 1000 = 1000 from by omega)
    · skip
      replace c43 : ¬ (x3 ≠ x1) := c43
      exact sm_261_p25 (s0 := s0) (g1 := g1) hQ hX2 (show (12 - x3).toNat ≤ M2 from by omega) hI (show (-1 : Int) ≤ x1 ∧ x1 ≤ (11 : Int) from by omega) (show (0 : Int) ≤ x2 ∧ x2 ≤ (1 : Int) from by omega) (show (0 : Int) ≤ x3 ∧ x3 ≤ (11 : Int) from by omega) (show (0 : Int) ≤ x3 ∧ x3 ≤ (11 : Int) from by omega) (show (0 : Int) ≤ 0 ∧ 0 ≤ (1000 : Int) from by omega) (show bf_i ((s.1 108)) (x3) (g1) from by first | with_reducible assumption | assumption) (show x1 = g1 from by omega) (show x3 = x3 from by omega) (show (0 = 0 ∧ x3 = g1) ∨ 0 = 1000 from by omega)
theorem sm_261_p2L {Q : lf_Z → Prop} {x1 : Int} {x2 : Int} {x3 : Int} {s : lf_Z} {s0 : lf_Z} {g1 : Int} (hQ : ∀  (s' : lf_Z), iv_A s'.1 s'.2.2 → lf_fq [108] 1000000 true s.1 s.2.2 s'.1 s'.2.2 → ((x2 : Int) = 1 → bf_G (s'.1 96) (s'.1 108) (g1)) → Q  s') (hI : iv_A s.1 s.2.2) (bx1 : (-1) ≤ x1 ∧ x1 ≤ 11) (bx2 : 0 ≤ x2 ∧ x2 ≤ 1) (bx3 : 0 ≤ x3 ∧ x3 ≤ 12) (kv0 : bf_i (s.1 108) (x3) (g1)) (kv1 : x1 = g1) : fm_261_p2L Q x1 x2 x3 s := by
  intro X2 hX
  have key : ∀ (m9 : Nat) (x3 : Int) (s' : lf_Z), iv_A s'.1 s'.2.2 → lf_fq [108] 1000000 true s.1 s.2.2 s'.1 s'.2.2 → 0 ≤ x3 ∧ x3 ≤ 12 → (bf_i (s'.1 108) (x3) (g1)) → (x1 = g1) → (12 - x3).toNat < m9 → X2 x3 s' := by
    intro m9
    induction m9 with
    | zero => intro x3 s' _ _ bx3 kv0 kv1 h9; exact absurd h9 (Nat.not_lt_zero _)
    | succ m9 ih => intro x3 s' i7 f7 bx3 kv0 kv1 h9; exact hX _ _ (sm_261_p2 (s0 := s0) (g1 := g1) (fun t9 i9 f9 => hQ t9 i9 (lf_fq_tr f7 f9))   (fun x3' t8 i8 f8 bx3' kv0' kv1' h8 => ih x3' t8 i8 (lf_fq_tr f7 f8) bx3' kv0' kv1' (by omega)) (Nat.le_refl _)  i7  bx1 bx2 bx3  kv0 kv1)
  exact key _ _ s hI lf_fq_rf bx3 kv0 kv1 (Nat.lt_succ_self _)
theorem sm_261 {a1 : Int} {a2 : Int} {Q : lf_Z → Prop} {s : lf_Z} (hI : iv_A s.1 s.2.2) (ba1 : (-1) ≤ a1 ∧ a1 ≤ 11) (ba2 : 0 ≤ a2 ∧ a2 ≤ 1) (hQ : ∀  (s' : lf_Z), iv_A s'.1 s'.2.2 → lf_fq [108] 1000000 true s.1 s.2.2 s'.1 s'.2.2 → ((a2 : Int) = 1 → bf_G (s'.1 96) (s'.1 108) (a1)) → Q  s') : fm_261 a1 a2 Q s := by
  unfold fm_261
  have b1 : bf_i ((s.1 108)) (0) (a1) := by first | with_reducible assumption | exact bf_iS kv0 lf_up_s (fun j hj => lf_up_i hj) (by omega) (by omega) | exact (fun j a b => by omega)
  exact sm_261_p2L (s0 := s) (g1 := a1) hQ hI (show (-1 : Int) ≤ a1 ∧ a1 ≤ (11 : Int) from by omega) (show (0 : Int) ≤ a2 ∧ a2 ≤ (1 : Int) from by omega) (show (0 : Int) ≤ 0 ∧ 0 ≤ (12 : Int) from by omega) (show bf_i ((s.1 108)) (0) (a1) from by first | with_reducible assumption | assumption) (show a1 = a1 from by omega)
-- fm_239d Model.get 95 i 1
theorem sm_239d {a1 : Int} {Q : Int → lf_Z → Prop} {s : lf_Z} (hI : iv_A s.1 s.2.2) (ba1 : 0 ≤ a1 ∧ a1 ≤ 5) (hQ : ∀ (r : Int), ((0 ≤ r ∧ r ≤ 1) ∧ (r = s.1 96 (126 + 6 * a1 + 1))) → Q r s) : fm_239d a1 Q s := by
  unfold fm_239d
  refine ⟨(show (0 : Int) ≤ (126 + (6 * a1)) + 1 ∧ (126 + (6 * a1)) + 1 < (1538 : Int) from by omega), ?_⟩
  have b1 : 0 ≤ s.1 96 ((126 + (6 * a1)) + 1) ∧ s.1 96 ((126 + (6 * a1)) + 1) ≤ 1 := iv_rd96 hI (iv_f1cfbf807 (a1) (by omega) (by omega))
  exact hQ (s.1 96 ((126 + (6 * a1)) + 1)) ⟨(show (0 : Int) ≤ s.1 96 ((126 + (6 * a1)) + 1) ∧ s.1 96 ((126 + (6 * a1)) + 1) ≤ (1 : Int) from by omega), (show s.1 96 ((126 + (6 * a1)) + 1) = s.1 96 (126 + 6 * a1 + 1) from by omega)⟩
-- fm_262 Model.goOn 95 i
theorem sm_262_p88 {X36 : Int → Int → lf_Z → Prop} {Q : lf_Z → Prop} {x1 : Int} {x2 : Int} {x3 : Int} {x4 : Int} {s : lf_Z} {s0 : lf_Z} (hQ : ∀  (s' : lf_Z), iv_A s'.1 s'.2.2 → lf_fq [96, 1006] 129 true s.1 s.2.2 s'.1 s'.2.2 → (∀ i, i ≠ 126 + 6 * x1 + 3 → s'.1 96 i = s0.1 96 i) → Q  s') {M36 : Nat} (hX36 : ∀ (x3 : Int) (x4 : Int) (s' : lf_Z), iv_A s'.1 s'.2.2 → lf_fq [96, 1006] 129 true s.1 s.2.2 s'.1 s'.2.2 → 0 ≤ x3 ∧ x3 ≤ 12 → 0 ≤ x4 ∧ x4 ≤ 16 → (x3 ≤ 11 ∨ bf_e (s'.1 96) (s'.1 108) (x2) (x4) = 0) → (bf_e (s'.1 96) (s'.1 108) (x2) (s'.1 96 1) = 1) → (x4 ≤ s'.1 96 1) → (s'.1 96 = s0.1 96) → (16 - x4).toNat < M36 → X36 x3 x4 s') (hM36 : (16 - x4).toNat ≤ M36) (hI : iv_A s.1 s.2.2) (bx1 : 0 ≤ x1 ∧ x1 ≤ 5) (bx2 : 0 ≤ x2 ∧ x2 ≤ 11) (bx3 : 0 ≤ x3 ∧ x3 ≤ 12) (bx4 : 0 ≤ x4 ∧ x4 ≤ 15) (kv0 : x3 ≤ 11 ∨ bf_e (s.1 96) (s.1 108) (x2) (x4 + 1) = 0) (kv1 : bf_e (s.1 96) (s.1 108) (x2) (s.1 96 1) = 1) (kv2 : x4 < s.1 96 1) (kv3 : s.1 96 = s0.1 96) : fm_262_p88 X36 Q x1 x2 x3 x4 s := by
  unfold fm_262_p88
  have b26 : 0 ≤ s.1 96 1 ∧ s.1 96 1 ≤ 16 := iv_rd96 hI (iv_fd6ad3e54 (by omega))
  have b27 : s.1 96 1 ≤ 0 ∨ 0 < s.1 96 0 := (show s.1 96 1 ≤ 0 ∨ 0 < s.1 96 0 from iv_l96_1 hI)
  have b28 : bf_e ((s.1 96)) ((s.1 108)) (x2) 0 = 0 := rfl
  have b29 : bf_e ((s.1 96)) ((s.1 108)) (x2) ((s.1 96 1)) = 1 := by first | with_reducible assumption | exact kp0 _ (by omega) (by omega) (by omega) (by omega)
  have b30 : (s.1 96) = s0.1 96 := by first | with_reducible assumption | rfl
  exact hX36 (x3) (x4 + 1) s hI (lf_fq_rf) (show (0 : Int) ≤ x3 ∧ x3 ≤ (12 : Int) from by omega) (show (0 : Int) ≤ x4 + 1 ∧ x4 + 1 ≤ (16 : Int) from by omega) (show x3 ≤ 11 ∨ bf_e ((s.1 96)) ((s.1 108)) (x2) ((x4 + 1)) = 0 from by omega) (show bf_e ((s.1 96)) ((s.1 108)) (x2) ((s.1 96 1)) = 1 from by omega) (show (x4 + 1) ≤ (s.1 96 1) from by omega) (show (s.1 96) = s0.1 96 from by first | with_reducible assumption | assumption) (show (16 - (x4 + 1)).toNat < M36 from by omega)
theorem sm_262_p36 {X36 : Int → Int → lf_Z → Prop} {Q : lf_Z → Prop} {x1 : Int} {x2 : Int} {x3 : Int} {x4 : Int} {s : lf_Z} {s0 : lf_Z} (hQ : ∀  (s' : lf_Z), iv_A s'.1 s'.2.2 → lf_fq [96, 1006] 129 true s.1 s.2.2 s'.1 s'.2.2 → (∀ i, i ≠ 126 + 6 * x1 + 3 → s'.1 96 i = s0.1 96 i) → Q  s') {M36 : Nat} (hX36 : ∀ (x3 : Int) (x4 : Int) (s' : lf_Z), iv_A s'.1 s'.2.2 → lf_fq [96, 1006] 129 true s.1 s.2.2 s'.1 s'.2.2 → 0 ≤ x3 ∧ x3 ≤ 12 → 0 ≤ x4 ∧ x4 ≤ 16 → (x3 ≤ 11 ∨ bf_e (s'.1 96) (s'.1 108) (x2) (x4) = 0) → (bf_e (s'.1 96) (s'.1 108) (x2) (s'.1 96 1) = 1) → (x4 ≤ s'.1 96 1) → (s'.1 96 = s0.1 96) → (16 - x4).toNat < M36 → X36 x3 x4 s') (hM36 : (16 - x4).toNat ≤ M36) (hI : iv_A s.1 s.2.2) (bx1 : 0 ≤ x1 ∧ x1 ≤ 5) (bx2 : 0 ≤ x2 ∧ x2 ≤ 11) (bx3 : 0 ≤ x3 ∧ x3 ≤ 12) (bx4 : 0 ≤ x4 ∧ x4 ≤ 16) (kv0 : x3 ≤ 11 ∨ bf_e (s.1 96) (s.1 108) (x2) (x4) = 0) (kv1 : bf_e (s.1 96) (s.1 108) (x2) (s.1 96 1) = 1) (kv2 : x4 ≤ s.1 96 1) (kv3 : s.1 96 = s0.1 96) : fm_262_p36 Q x1 x2 X36 x3 x4 s := by
  unfold fm_262_p36
  have b12 : 0 ≤ s.1 96 1 ∧ s.1 96 1 ≤ 16 := iv_rd96 hI (iv_fd6ad3e54 (by omega))
  have b13 : s.1 96 1 ≤ 0 ∨ 0 < s.1 96 0 := (show s.1 96 1 ≤ 0 ∨ 0 < s.1 96 0 from iv_l96_1 hI)
  refine ⟨(show lf_R x4 from lf_Rof (by omega)), ?_⟩
  refine ⟨(show lf_R (s.1 96 1) from lf_Rof (by omega)), ?_⟩
  refine ⟨fun c14 => ?_, fun c14 => ?_⟩
  · skip
    replace c14 : s.1 96 1 ≤ x4 := c14
    have b15 : bf_e ((s.1 96)) ((s.1 108)) (x2) (x4) = bf_e ((s.1 96)) ((s.1 108)) (x2) ((s.1 96 1)) := congrArg (bf_e ((s.1 96)) ((s.1 108)) x2) (by omega)
    refine sm_191d hI (show (0 : Int) ≤ x1 ∧ x1 ≤ (5 : Int) from by omega) (show (0 : Int) ≤ x3 ∧ x3 ≤ (11 : Int) from by omega) (fun s31 hI17 fr16 ps19 => ?_)
    replace ps19 : ∀ i, i ≠ 126 + 6 * x1 + 3 → s31.1 96 i = (s.1 96) i := ps19
    have fr20 : lf_fq [96, 1006] 129 true s.1 s.2.2 s31.1 s31.2.2 := lf_fq_tr (lf_fq_rf) (lf_fq_wk fr16 rfl (by decide) (by decide))
    have b21 : ∀ i, i ≠ 126 + 6 * x1 + 3 → (s31.1 96) i = s0.1 96 i := by first | exact (fun _ _ => rfl) | exact (fun i hi => (ps19 i hi).trans (congrFun kv3 i))
    exact hQ s31 hI17 fr20 (show ∀ i, i ≠ 126 + 6 * x1 + 3 → (s31.1 96) i = s0.1 96 i from by first | with_reducible assumption | assumption)
  · skip
    replace c14 : ¬ (s.1 96 1 ≤ x4) := c14
    refine sm_187 hI (show (0 : Int) ≤ x4 ∧ x4 ≤ (15 : Int) from by omega) (show (0 : Int) ≤ x2 ∧ x2 ≤ (11 : Int) from by omega) (fun r33 q22 => ?_)
    obtain ⟨q22, q22x⟩ := q22
    replace q22x : r33 = iv_os (s.1 96) x4 x2 := q22x
    have b23 : (0 ≤ iv_os ((s.1 96)) (x4) (x2) ∧ (s.1 108) (iv_os ((s.1 96)) (x4) (x2)) = (s.1 108) (x2) - 1 → bf_e ((s.1 96)) ((s.1 108)) (x2) (x4 + 1) = 1) ∧ (¬ (0 ≤ iv_os ((s.1 96)) (x4) (x2) ∧ (s.1 108) (iv_os ((s.1 96)) (x4) (x2)) = (s.1 108) (x2) - 1) → bf_e ((s.1 96)) ((s.1 108)) (x2) (x4 + 1) = bf_e ((s.1 96)) ((s.1 108)) (x2) (x4)) := bf_eS (by omega)
    have b24 : (s.1 108 r33) = (s.1 108) (iv_os ((s.1 96)) (x4) (x2)) := congrArg ((s.1 108)) (by omega)
    refine ⟨(show lf_R r33 from lf_Rof (by omega)), ?_⟩
    refine ⟨fun c25 => ?_, fun c25 => ?_⟩
    · skip
      replace c25 : r33 < 0 := c25
      exact sm_262_p88 (s0 := s0) hQ hX36 (show (16 - x4).toNat ≤ M36 from by omega) hI (show (0 : Int) ≤ x1 ∧ x1 ≤ (5 : Int) from by omega) (show (0 : Int) ≤ x2 ∧ x2 ≤ (11 : Int) from by omega) (show (0 : Int) ≤ x3 ∧ x3 ≤ (12 : Int) from by omega) (show (0 : Int) ≤ x4 ∧ x4 ≤ (15 : Int) from by omega) (show x3 ≤ 11 ∨ bf_e ((s.1 96)) ((s.1 108)) (x2) (x4 + 1) = 0 from by omega) (show bf_e ((s.1 96)) ((s.1 108)) (x2) ((s.1 96 1)) = 1 from by omega) (show x4 < (s.1 96 1) from by omega) (show (s.1 96) = s0.1 96 from by first | with_reducible assumption | assumption)
    · skip
      replace c25 : ¬ (r33 < 0) := c25
      refine ⟨(show (0 : Int) ≤ r33 ∧ r33 < (12 : Int) from by omega), ?_⟩
      have b31 : 0 ≤ s.1 108 r33 ∧ s.1 108 r33 ≤ 1000 := iv_r108 hI _
      refine ⟨(show (0 : Int) ≤ x2 ∧ x2 < (12 : Int) from by omega), ?_⟩
      have b32 : 0 ≤ s.1 108 x2 ∧ s.1 108 x2 ≤ 1000 := iv_r108 hI _
      refine ⟨(show lf_R (s.1 108 r33) from lf_Rof (by omega)), ?_⟩
      refine ⟨(show lf_R ((s.1 108 x2) - 1) from lf_Rof (by omega)), ?_⟩
      refine ⟨fun c33 => ?_, fun c33 => ?_⟩
      · skip
        replace c33 : s.1 108 r33 ≠ (s.1 108 x2) - 1 := c33
        exact sm_262_p88 (s0 := s0) hQ hX36 (show (16 - x4).toNat ≤ M36 from by omega) hI (show (0 : Int) ≤ x1 ∧ x1 ≤ (5 : Int) from by omega) (show (0 : Int) ≤ x2 ∧ x2 ≤ (11 : Int) from by omega) (show (0 : Int) ≤ x3 ∧ x3 ≤ (12 : Int) from by omega) (show (0 : Int) ≤ x4 ∧ x4 ≤ (15 : Int) from by omega) (show x3 ≤ 11 ∨ bf_e ((s.1 96)) ((s.1 108)) (x2) (x4 + 1) = 0 from by omega) (show bf_e ((s.1 96)) ((s.1 108)) (x2) ((s.1 96 1)) = 1 from by omega) (show x4 < (s.1 96 1) from by omega) (show (s.1 96) = s0.1 96 from by first | with_reducible assumption | assumption)
      · skip
        replace c33 : ¬ (s.1 108 r33 ≠ (s.1 108 x2) - 1) := c33
        refine ⟨(show lf_R x3 from lf_Rof (by omega)), ?_⟩
        refine ⟨fun c34 => ?_, fun c34 => ?_⟩
        · skip
          replace c34 : x3 ≤ r33 := c34
          exact sm_262_p88 (s0 := s0) hQ hX36 (show (16 - x4).toNat ≤ M36 from by omega) hI (show (0 : Int) ≤ x1 ∧ x1 ≤ (5 : Int) from by omega) (show (0 : Int) ≤ x2 ∧ x2 ≤ (11 : Int) from by omega) (show (0 : Int) ≤ x3 ∧ x3 ≤ (12 : Int) from by omega) (show (0 : Int) ≤ x4 ∧ x4 ≤ (15 : Int) from by omega) (show x3 ≤ 11 ∨ bf_e ((s.1 96)) ((s.1 108)) (x2) (x4 + 1) = 0 from by omega) (show bf_e ((s.1 96)) ((s.1 108)) (x2) ((s.1 96 1)) = 1 from by omega) (show x4 < (s.1 96 1) from by omega) (show (s.1 96) = s0.1 96 from by first | with_reducible assumption | assumption)
        · skip
          replace c34 : ¬ (x3 ≤ r33) := c34
          exact sm_262_p88 (s0 := s0) hQ hX36 (show (16 - x4).toNat ≤ M36 from by omega) hI (show (0 : Int) ≤ x1 ∧ x1 ≤ (5 : Int) from by omega) (show (0 : Int) ≤ x2 ∧ x2 ≤ (11 : Int) from by omega) (show (0 : Int) ≤ r33 ∧ r33 ≤ (12 : Int) from by omega) (show (0 : Int) ≤ x4 ∧ x4 ≤ (15 : Int) from by omega) (show r33 ≤ 11 ∨ bf_e ((s.1 96)) ((s.1 108)) (x2) (x4 + 1) = 0 from by omega) (show bf_e ((s.1 96)) ((s.1 108)) (x2) ((s.1 96 1)) = 1 from by omega) (show x4 < (s.1 96 1) from by omega) (show (s.1 96) = s0.1 96 from by first | with_reducible assumption | assumption)
theorem sm_262_p36L {Q : lf_Z → Prop} {x1 : Int} {x2 : Int} {x3 : Int} {x4 : Int} {s : lf_Z} {s0 : lf_Z} (hQ : ∀  (s' : lf_Z), iv_A s'.1 s'.2.2 → lf_fq [96, 1006] 129 true s.1 s.2.2 s'.1 s'.2.2 → (∀ i, i ≠ 126 + 6 * x1 + 3 → s'.1 96 i = s0.1 96 i) → Q  s') (hI : iv_A s.1 s.2.2) (bx1 : 0 ≤ x1 ∧ x1 ≤ 5) (bx2 : 0 ≤ x2 ∧ x2 ≤ 11) (bx3 : 0 ≤ x3 ∧ x3 ≤ 12) (bx4 : 0 ≤ x4 ∧ x4 ≤ 16) (kv0 : x3 ≤ 11 ∨ bf_e (s.1 96) (s.1 108) (x2) (x4) = 0) (kv1 : bf_e (s.1 96) (s.1 108) (x2) (s.1 96 1) = 1) (kv2 : x4 ≤ s.1 96 1) (kv3 : s.1 96 = s0.1 96) : fm_262_p36L Q x1 x2 x3 x4 s := by
  intro X36 hX
  have key : ∀ (m9 : Nat) (x3 : Int) (x4 : Int) (s' : lf_Z), iv_A s'.1 s'.2.2 → lf_fq [96, 1006] 129 true s.1 s.2.2 s'.1 s'.2.2 → 0 ≤ x3 ∧ x3 ≤ 12 → 0 ≤ x4 ∧ x4 ≤ 16 → (x3 ≤ 11 ∨ bf_e (s'.1 96) (s'.1 108) (x2) (x4) = 0) → (bf_e (s'.1 96) (s'.1 108) (x2) (s'.1 96 1) = 1) → (x4 ≤ s'.1 96 1) → (s'.1 96 = s0.1 96) → (16 - x4).toNat < m9 → X36 x3 x4 s' := by
    intro m9
    induction m9 with
    | zero => intro x3 x4 s' _ _ bx3 bx4 kv0 kv1 kv2 kv3 h9; exact absurd h9 (Nat.not_lt_zero _)
    | succ m9 ih => intro x3 x4 s' i7 f7 bx3 bx4 kv0 kv1 kv2 kv3 h9; exact hX _ _ _ (sm_262_p36 (s0 := s0) (fun t9 i9 f9 => hQ t9 i9 (lf_fq_tr f7 f9))   (fun x3' x4' t8 i8 f8 bx3' bx4' kv0' kv1' kv2' kv3' h8 => ih x3' x4' t8 i8 (lf_fq_tr f7 f8) bx3' bx4' kv0' kv1' kv2' kv3' (by omega)) (Nat.le_refl _)  i7  bx1 bx2 bx3 bx4  kv0 kv1 kv2 kv3)
  exact key _ _ _ s hI lf_fq_rf bx3 bx4 kv0 kv1 kv2 kv3 (Nat.lt_succ_self _)
theorem sm_262 {a1 : Int} {Q : lf_Z → Prop} {s : lf_Z} (hI : iv_A s.1 s.2.2) (ba1 : 0 ≤ a1 ∧ a1 ≤ 5) (kp0 : bf_G (s.1 96) (s.1 108) (s.1 96 (126 + 6 * a1 + 4))) (hQ : ∀  (s' : lf_Z), iv_A s'.1 s'.2.2 → lf_fq [96, 1006] 129 true s.1 s.2.2 s'.1 s'.2.2 → (∀ i, i ≠ 126 + 6 * a1 + 3 → s'.1 96 i = s.1 96 i) → Q  s') : fm_262 a1 Q s := by
  unfold fm_262
  refine sm_239 hI (show (0 : Int) ≤ a1 ∧ a1 ≤ (5 : Int) from by omega) (fun r22 q1 => ?_)
  obtain ⟨q1, q1x⟩ := q1
  replace q1x : r22 = s.1 96 (126 + 6 * a1 + 3) := q1x
  refine sm_239b hI (show (0 : Int) ≤ a1 ∧ a1 ≤ (5 : Int) from by omega) (fun r24 q2 => ?_)
  obtain ⟨q2, q2x⟩ := q2
  replace q2x : r24 = s.1 96 (126 + 6 * a1 + 4) := q2x
  refine ⟨(show lf_R r22 from lf_Rof (by omega)), ?_⟩
  refine ⟨(show lf_R r24 from lf_Rof (by omega)), ?_⟩
  refine ⟨fun c3 => ?_, fun c3 => ?_⟩
  · skip
    replace c3 : r22 = r24 := c3
    have b4 : ∀ i, i ≠ 126 + 6 * a1 + 3 → (s.1 96) i = s.1 96 i := by first | exact (fun _ _ => rfl) | exact (fun i hi => (hI i hi).trans (congrFun kv3 i))
    exact hQ s hI (lf_fq_rf) (show ∀ i, i ≠ 126 + 6 * a1 + 3 → (s.1 96) i = s.1 96 i from by first | with_reducible assumption | assumption)
  · skip
    replace c3 : ¬ (r22 = r24) := c3
    refine ⟨(show (0 : Int) ≤ r22 ∧ r22 < (12 : Int) from by omega), ?_⟩
    have b5 : 0 ≤ s.1 108 r22 ∧ s.1 108 r22 ≤ 1000 := iv_r108 hI _
    refine ⟨(show lf_R (s.1 108 r22) from lf_Rof (by omega)), ?_⟩
    refine ⟨fun c6 => ?_, fun c6 => ?_⟩
    · skip
      replace c6 : s.1 108 r22 < 1000 := c6
      have b7 : 0 ≤ s.1 96 1 ∧ s.1 96 1 ≤ 16 := iv_rd96 hI (iv_fd6ad3e54 (by omega))
      have b8 : s.1 96 1 ≤ 0 ∨ 0 < s.1 96 0 := (show s.1 96 1 ≤ 0 ∨ 0 < s.1 96 0 from iv_l96_1 hI)
      have b9 : bf_e ((s.1 96)) ((s.1 108)) (r22) 0 = 0 := rfl
      have b10 : bf_e ((s.1 96)) ((s.1 108)) (r22) ((s.1 96 1)) = 1 := by first | with_reducible assumption | exact kp0 _ (by omega) (by omega) (by omega) (by omega)
      have b11 : (s.1 96) = s.1 96 := by first | with_reducible assumption | rfl
      exact sm_262_p36L (s0 := s) hQ hI (show (0 : Int) ≤ a1 ∧ a1 ≤ (5 : Int) from by omega) (show (0 : Int) ≤ r22 ∧ r22 ≤ (11 : Int) from by omega) (show (0 : Int) ≤ 12 ∧ 12 ≤ (12 : Int) from by omega) (show (0 : Int) ≤ 0 ∧ 0 ≤ (16 : Int) from by omega) (show 12 ≤ 11 ∨ bf_e ((s.1 96)) ((s.1 108)) (r22) (0) = 0 from by omega) (show bf_e ((s.1 96)) ((s.1 108)) (r22) ((s.1 96 1)) = 1 from by omega) (show 0 ≤ (s.1 96 1) from by omega) (show (s.1 96) = s.1 96 from by first | with_reducible assumption | assumption)
    · skip
      replace c6 : ¬ (s.1 108 r22 < 1000) := c6
      have b35 : ∀ i, i ≠ 126 + 6 * a1 + 3 → (s.1 96) i = s.1 96 i := by first | exact (fun _ _ => rfl) | exact (fun i hi => (hI i hi).trans (congrFun kv3 i))
      exact hQ s hI (lf_fq_rf) (show ∀ i, i ≠ 126 + 6 * a1 + 3 → (s.1 96) i = s.1 96 i from by first | with_reducible assumption | assumption)
