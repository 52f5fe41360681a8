-- fm_191f Model.set 95 i 5 i
theorem sm_191f {a1 : Int} {a3 : Int} {Q : lf_Z → Prop} {s : lf_Z} (hI : iv_A s.1 s.2.2) (ba1 : 0 ≤ a1 ∧ a1 ≤ 5) (ba3 : 0 ≤ a3 ∧ a3 ≤ 11) (hQ : ∀  (s' : lf_Z), iv_A s'.1 s'.2.2 → lf_fq [96, 1004] 131 true s.1 s.2.2 s'.1 s'.2.2 → (∀ i, i ≠ 126 + 6 * a1 + 5 → s'.1 96 i = s.1 96 i) → Q  s') : fm_191f a1 a3 Q s := by
  unfold fm_191f
  refine ⟨(show (0 : Int) ≤ (126 + (6 * a1)) + 5 ∧ (126 + (6 * a1)) + 5 < (1538 : Int) from by omega), ?_⟩
  have hI1 : iv_A (lf_up s.1 96 ((126 + (6 * a1)) + 5) a3) s.2.2 := iv_wd96 hI (lf_le2 (iv_fda897c4c (a1) (by omega) (by omega)) (by omega)) (fun h => absurd h (by omega))
  have fr2 : lf_fq [96, 1004] 131 true s.1 s.2.2 (lf_up s.1 96 ((126 + (6 * a1)) + 5) a3) s.2.2 := lf_fq_up (lf_fq_rf) rfl (fun _ => ⟨by omega, fr_o (Or.inr (fr_n0 (by omega))) (Or.inr (fr_n1 (by omega))) (Or.inr (fr_n2 (by omega))) (Or.inr (fr_n3 (by omega))) (Or.inl rfl) (Or.inr (fr_n5 (by omega))) (Or.inr (fr_n6 (by omega)))⟩)
  have b3 : ∀ i, i ≠ 126 + 6 * a1 + 5 → ((lf_up s.1 96 ((126 + (6 * a1)) + 5) a3) 96) i = s.1 96 i := fun i hi => lf_up_i hi
  exact hQ (lf_up s.1 96 ((126 + (6 * a1)) + 5) a3, s.2.1, s.2.2) hI1 fr2 (show ∀ i, i ≠ 126 + 6 * a1 + 5 → ((lf_up s.1 96 ((126 + (6 * a1)) + 5) a3) 96) i = s.1 96 i from by first | with_reducible assumption | assumption)
-- fm_190 Model.personNow 95 i i i i
theorem sm_190 {a1 : Int} {a2 : Int} {a3 : Int} {a4 : Int} {Q : Int → lf_Z → Prop} {s : lf_Z} (hI : iv_A s.1 s.2.2) (ba1 : (-2147483648) ≤ a1 ∧ a1 ≤ 2147483647) (ba2 : 0 ≤ a2 ∧ a2 ≤ 1) (ba3 : 0 ≤ a3 ∧ a3 ≤ 1) (ba4 : (-2147483648) ≤ a4 ∧ a4 ≤ 2147483647) (hQ : ∀ (r : Int) (s' : lf_Z), iv_A s'.1 s'.2.2 → lf_fq [96, 1004, 1006] 2 true s.1 s.2.2 s'.1 s'.2.2 → ((-1) ≤ r ∧ r ≤ 5) → Q r s') : fm_190 a1 a2 a3 a4 Q s := by
  unfold fm_190
  refine sm_185 hI (show (-2147483648 : Int) ≤ a4 ∧ a4 ≤ (2147483647 : Int) from by omega) (fun z22 q1 => ?_)
  have b2 : 0 ≤ s.1 96 0 ∧ s.1 96 0 ≤ 12 := iv_rd96 hI (iv_f3e1fa21c (by omega))
  refine ⟨fun c3 => ?_, fun c3 => ?_⟩
  · skip
    have dc3 := q1.2 c3
    exact hQ (-1) s hI (lf_fq_rf) (show (-1 : Int) ≤ (-1) ∧ (-1) ≤ (5 : Int) from by omega)
  · skip
    have dc3 := q1.1 c3
    have b4 : 0 ≤ s.1 96 2 ∧ s.1 96 2 ≤ 6 := iv_rd96 hI (iv_f2103129b (by omega))
    have b5 : s.1 96 2 ≤ 0 ∨ 0 < s.1 96 0 := (show s.1 96 2 ≤ 0 ∨ 0 < s.1 96 0 from iv_l96_2 hI)
    refine ⟨(show lf_R (s.1 96 2) from lf_Rof (by omega)), ?_⟩
    refine ⟨fun c6 => ?_, fun c6 => ?_⟩
    · skip
      replace c6 : s.1 96 2 ≠ 6 := c6
      refine sm_191 hI (show (0 : Int) ≤ s.1 96 2 ∧ s.1 96 2 ≤ (5 : Int) from by omega) (show (-2147483648 : Int) ≤ a1 ∧ a1 ≤ (2147483647 : Int) from by omega) (fun s24 hI8 fr7 ps10 => ?_)
      replace ps10 : ∀ i, i ≠ 126 + 6 * (s.1 96 2) + 0 → s24.1 96 i = (s.1 96) i := ps10
      have fr11 : lf_fq [96, 1004, 1006] 2 true s.1 s.2.2 s24.1 s24.2.2 := lf_fq_tr (lf_fq_rf) (lf_fq_wk fr7 rfl (by decide) (by decide))
      refine sm_191b hI8 (show (0 : Int) ≤ s.1 96 2 ∧ s.1 96 2 ≤ (5 : Int) from by omega) (show (0 : Int) ≤ a2 ∧ a2 ≤ (1 : Int) from by omega) (fun s25 hI13 fr12 ps15 => ?_)
      replace ps15 : ∀ i, i ≠ 126 + 6 * (s.1 96 2) + 1 → s25.1 96 i = (s24.1 96) i := ps15
      have fr16 : lf_fq [96, 1004, 1006] 2 true s.1 s.2.2 s25.1 s25.2.2 := lf_fq_tr fr11 (lf_fq_wk fr12 rfl (by decide) (by decide))
      refine sm_191c hI13 (show (0 : Int) ≤ s.1 96 2 ∧ s.1 96 2 ≤ (5 : Int) from by omega) (show (0 : Int) ≤ a3 ∧ a3 ≤ (1 : Int) from by omega) (fun s26 hI18 fr17 ps20 => ?_)
      replace ps20 : ∀ i, i ≠ 126 + 6 * (s.1 96 2) + 2 → s26.1 96 i = (s25.1 96) i := ps20
      have fr21 : lf_fq [96, 1004, 1006] 2 true s.1 s.2.2 s26.1 s26.2.2 := lf_fq_tr fr16 (lf_fq_wk fr17 rfl (by decide) (by decide))
      refine sm_191d hI18 (show (0 : Int) ≤ s.1 96 2 ∧ s.1 96 2 ≤ (5 : Int) from by omega) (show (0 : Int) ≤ a4 ∧ a4 ≤ (11 : Int) from by omega) (fun s27 hI23 fr22 ps25 => ?_)
      replace ps25 : ∀ i, i ≠ 126 + 6 * (s.1 96 2) + 3 → s27.1 96 i = (s26.1 96) i := ps25
      have fr26 : lf_fq [96, 1004, 1006] 2 true s.1 s.2.2 s27.1 s27.2.2 := lf_fq_tr fr21 (lf_fq_wk fr22 rfl (by decide) (by decide))
      refine sm_191e hI23 (show (0 : Int) ≤ s.1 96 2 ∧ s.1 96 2 ≤ (5 : Int) from by omega) (show (-1 : Int) ≤ (-1) ∧ (-1) ≤ (11 : Int) from by omega) (fun s28 hI28 fr27 ps30 => ?_)
      replace ps30 : ∀ i, i ≠ 126 + 6 * (s.1 96 2) + 4 → s28.1 96 i = (s27.1 96) i := ps30
      have fr31 : lf_fq [96, 1004, 1006] 2 true s.1 s.2.2 s28.1 s28.2.2 := lf_fq_tr fr26 (lf_fq_wk fr27 rfl (by decide) (by decide))
      refine sm_191f hI28 (show (0 : Int) ≤ s.1 96 2 ∧ s.1 96 2 ≤ (5 : Int) from by omega) (show (0 : Int) ≤ a4 ∧ a4 ≤ (11 : Int) from by omega) (fun s29 hI33 fr32 ps35 => ?_)
      replace ps35 : ∀ i, i ≠ 126 + 6 * (s.1 96 2) + 5 → s29.1 96 i = (s28.1 96) i := ps35
      have fr36 : lf_fq [96, 1004, 1006] 2 true s.1 s.2.2 s29.1 s29.2.2 := lf_fq_tr fr31 (lf_fq_wk fr32 rfl (by decide) (by decide))
      have b37 : 0 ≤ s29.1 96 2 ∧ s29.1 96 2 ≤ 6 := iv_rd96 hI33 (iv_f2103129b (by omega))
      have b38 : s29.1 96 2 = s28.1 96 2 := fr32.2.1 2 (by decide)
      have b39 : s28.1 96 2 = s27.1 96 2 := fr27.2.1 2 (by decide)
      have b40 : s27.1 96 2 = s26.1 96 2 := fr22.2.1 2 (by decide)
      have b41 : s26.1 96 2 = s25.1 96 2 := fr17.2.1 2 (by decide)
      have b42 : s25.1 96 2 = s24.1 96 2 := fr12.2.1 2 (by decide)
      have b43 : s24.1 96 2 = s.1 96 2 := fr7.2.1 2 (by decide)
      have b44 : s29.1 96 2 ≤ 0 ∨ 0 < s29.1 96 0 := (show s29.1 96 2 ≤ 0 ∨ 0 < s29.1 96 0 from iv_l96_2 hI33)
      have b45 : 0 ≤ s29.1 96 0 ∧ s29.1 96 0 ≤ 12 := iv_rd96 hI33 (iv_f3e1fa21c (by omega))
      have b46 : s29.1 96 0 = s28.1 96 0 := fr32.2.1 0 (by decide)
      have b47 : s28.1 96 0 = s27.1 96 0 := fr27.2.1 0 (by decide)
      have b48 : s27.1 96 0 = s26.1 96 0 := fr22.2.1 0 (by decide)
      have b49 : s26.1 96 0 = s25.1 96 0 := fr17.2.1 0 (by decide)
      have b50 : s25.1 96 0 = s24.1 96 0 := fr12.2.1 0 (by decide)
      have b51 : s24.1 96 0 = s.1 96 0 := fr7.2.1 0 (by decide)
      have hI52 : iv_A (lf_up s29.1 96 2 ((s29.1 96 2) + 1)) s29.2.2 := iv_wd96 hI33 (lf_le2 (iv_fd398447a (by omega)) (by omega)) (fun _ => iv_rel2 hI33 (by omega))
      have fr53 : lf_fq [96, 1004, 1006] 2 true s.1 s.2.2 (lf_up s29.1 96 2 ((s29.1 96 2) + 1)) s29.2.2 := lf_fq_up fr36 rfl (fun _ => ⟨by omega, fr_o (Or.inr (fr_n0 (by omega))) (Or.inr (fr_n1 (by omega))) (Or.inr (fr_n2 (by omega))) (Or.inr (fr_n3 (by omega))) (Or.inl rfl) (Or.inr (fr_n5 (by omega))) (Or.inl rfl)⟩)
      exact hQ (s.1 96 2) (lf_up s29.1 96 2 ((s29.1 96 2) + 1), s29.2.1, s29.2.2) hI52 fr53 (show (-1 : Int) ≤ s.1 96 2 ∧ s.1 96 2 ≤ (5 : Int) from by omega)
    · skip
      replace c6 : ¬ (s.1 96 2 ≠ 6) := c6
      exact hQ (-1) s hI (lf_fq_rf) (show (-1 : Int) ≤ (-1) ∧ (-1) ≤ (5 : Int) from by omega)
-- fm_189 Model.person 95 i i i i
theorem sm_189_p30 {Q : Int → lf_Z → Prop} {x4 : Int} {y1 : Int} {y2 : Int} {y3 : Int} {s : lf_Z} (hQ : ∀ (r : Int) (s' : lf_Z), iv_A s'.1 s'.2.2 → lf_fq [96, 1004, 1006] 2 true s.1 s.2.2 s'.1 s'.2.2 → ((-1) ≤ r ∧ r ≤ 5) → Q r s') (hI : iv_A s.1 s.2.2) (bx4 : (-2147483648) ≤ x4 ∧ x4 ≤ 2147483647) (by1 : 0 ≤ y1 ∧ y1 ≤ 9) (by2 : 0 ≤ y2 ∧ y2 ≤ 1) (by3 : 0 ≤ y3 ∧ y3 ≤ 1) : fm_189_p30 Q x4 y1 y2 y3 s := by
  unfold fm_189_p30
  refine sm_190 hI (show (-2147483648 : Int) ≤ y1 ∧ y1 ≤ (2147483647 : Int) from by omega) (show (0 : Int) ≤ y2 ∧ y2 ≤ (1 : Int) from by omega) (show (0 : Int) ≤ y3 ∧ y3 ≤ (1 : Int) from by omega) (show (-2147483648 : Int) ≤ x4 ∧ x4 ≤ (2147483647 : Int) from by omega) (fun r26 s25 hI6 fr5 q7 => ?_)
  have fr8 : lf_fq [96, 1004, 1006] 2 true s.1 s.2.2 s25.1 s25.2.2 := lf_fq_tr (lf_fq_rf) (lf_fq_wk fr5 rfl (by decide) (by decide))
  exact hQ r26 s25 hI6 fr8 (show (-1 : Int) ≤ r26 ∧ r26 ≤ (5 : Int) from by omega)
theorem sm_189_p21 {Q : Int → lf_Z → Prop} {x3 : Int} {x4 : Int} {y1 : Int} {y2 : Int} {s : lf_Z} (hQ : ∀ (r : Int) (s' : lf_Z), iv_A s'.1 s'.2.2 → lf_fq [96, 1004, 1006] 2 true s.1 s.2.2 s'.1 s'.2.2 → ((-1) ≤ r ∧ r ≤ 5) → Q r s') (hI : iv_A s.1 s.2.2) (bx3 : 0 ≤ x3 ∧ x3 ≤ 1) (bx4 : (-2147483648) ≤ x4 ∧ x4 ≤ 2147483647) (by1 : 0 ≤ y1 ∧ y1 ≤ 9) (by2 : 0 ≤ y2 ∧ y2 ≤ 1) : fm_189_p21 Q x3 x4 y1 y2 s := by
  unfold fm_189_p21
  refine ⟨(show lf_R x3 from lf_Rof (by omega)), ?_⟩
  refine ⟨fun c4 => ?_, fun c4 => ?_⟩
  · skip
    replace c4 : x3 = 0 := c4
    exact sm_189_p30 hQ hI (show (-2147483648 : Int) ≤ x4 ∧ x4 ≤ (2147483647 : Int) from by omega) (show (0 : Int) ≤ y1 ∧ y1 ≤ (9 : Int) from by omega) (show (0 : Int) ≤ y2 ∧ y2 ≤ (1 : Int) from by omega) (show (0 : Int) ≤ 0 ∧ 0 ≤ (1 : Int) from by omega)
  · skip
    replace c4 : ¬ (x3 = 0) := c4
    exact sm_189_p30 hQ hI (show (-2147483648 : Int) ≤ x4 ∧ x4 ≤ (2147483647 : Int) from by omega) (show (0 : Int) ≤ y1 ∧ y1 ≤ (9 : Int) from by omega) (show (0 : Int) ≤ y2 ∧ y2 ≤ (1 : Int) from by omega) (show (0 : Int) ≤ 1 ∧ 1 ≤ (1 : Int) from by omega)
theorem sm_189 {a1 : Int} {a2 : Int} {a3 : Int} {a4 : Int} {Q : Int → lf_Z → Prop} {s : lf_Z} (hI : iv_A s.1 s.2.2) (ba1 : (-2147483648) ≤ a1 ∧ a1 ≤ 2147483647) (ba2 : 0 ≤ a2 ∧ a2 ≤ 1) (ba3 : 0 ≤ a3 ∧ a3 ≤ 1) (ba4 : (-2147483648) ≤ a4 ∧ a4 ≤ 2147483647) (hQ : ∀ (r : Int) (s' : lf_Z), iv_A s'.1 s'.2.2 → lf_fq [96, 1004, 1006] 2 true s.1 s.2.2 s'.1 s'.2.2 → ((-1) ≤ r ∧ r ≤ 5) → Q r s') : fm_189 a1 a2 a3 a4 Q s := by
  unfold fm_189
  refine sm_183 hI (show (-2147483648 : Int) ≤ a1 ∧ a1 ≤ (2147483647 : Int) from by omega) (show (-1 : Int) ≤ 0 ∧ 0 ≤ (97 : Int) from by omega) (show (-1 : Int) ≤ 9 ∧ 9 ≤ (9999 : Int) from by omega) (fun z22 q1 => ?_)
  refine ⟨fun c2 => ?_, fun c2 => ?_⟩
  · skip
    have dc2 := q1.2 c2
    exact hQ (-1) s hI (lf_fq_rf) (show (-1 : Int) ≤ (-1) ∧ (-1) ≤ (5 : Int) from by omega)
  · skip
    have dc2 := q1.1 c2
    refine ⟨(show lf_R a2 from lf_Rof (by omega)), ?_⟩
    refine ⟨fun c3 => ?_, fun c3 => ?_⟩
    · skip
      replace c3 : a2 = 0 := c3
      exact sm_189_p21 hQ hI (show (0 : Int) ≤ a3 ∧ a3 ≤ (1 : Int) from by omega) (show (-2147483648 : Int) ≤ a4 ∧ a4 ≤ (2147483647 : Int) from by omega) (show (0 : Int) ≤ a1 ∧ a1 ≤ (9 : Int) from by omega) (show (0 : Int) ≤ 0 ∧ 0 ≤ (1 : Int) from by omega)
    · skip
      replace c3 : ¬ (a2 = 0) := c3
      exact sm_189_p21 hQ hI (show (0 : Int) ≤ a3 ∧ a3 ≤ (1 : Int) from by omega) (show (-2147483648 : Int) ≤ a4 ∧ a4 ≤ (2147483647 : Int) from by omega) (show (0 : Int) ≤ a1 ∧ a1 ≤ (9 : Int) from by omega) (show (0 : Int) ≤ 1 ∧ 1 ≤ (1 : Int) from by omega)
-- fm_26 Reader.addBytes 31 i
theorem sm_26_p3 {X3 : Int → lf_Z → Prop} {Q : lf_Z → Prop} {x1 : Int} {x2 : Int} {s : lf_Z} (hQ : ∀  (s' : lf_Z), iv_A s'.1 s'.2.2 → lf_fq [31, 32] 1000000 true s.1 s.2.2 s'.1 s'.2.2 → Q  s') {M3 : Nat} (hX3 : ∀ (x2 : Int) (s' : lf_Z), iv_A s'.1 s'.2.2 → lf_fq [31, 32] 1000000 true s.1 s.2.2 s'.1 s'.2.2 → (-8) ≤ x2 ∧ x2 ≤ 24 → (x2 - (-8)).toNat < M3 → X3 x2 s') (hM3 : (x2 - (-8)).toNat ≤ M3) (hI : iv_A s.1 s.2.2) (bx1 : (-2147483648) ≤ x1 ∧ x1 ≤ 2147483647) (bx2 : (-8) ≤ x2 ∧ x2 ≤ 24) : fm_26_p3 Q x1 X3 x2 s := by
  unfold fm_26_p3
  refine ⟨(show lf_R x2 from lf_Rof (by omega)), ?_⟩
  refine ⟨fun c1 => ?_, fun c1 => ?_⟩
  · skip
    replace c1 : x2 < 0 := c1
    exact hQ s hI (lf_fq_rf)
  · skip
    replace c1 : ¬ (x2 < 0) := c1
    have b2 : 0 ≤ s.1 31 1 ∧ s.1 31 1 ≤ 300 := iv_r31_1 hI
    refine ⟨(show lf_R (s.1 31 1) from lf_Rof (by omega)), ?_⟩
    refine ⟨fun c3 => ?_, fun c3 => ?_⟩
    · skip
      replace c3 : 300 ≤ s.1 31 1 := c3
      exact hQ s hI (lf_fq_rf)
    · skip
      replace c3 : ¬ (300 ≤ s.1 31 1) := c3
      have b4 : (-2147483648) ≤ lf_ushr x1 x2 ∧ lf_ushr x1 x2 ≤ 2147483647 := lf_ushrB
      have b5 : 0 ≤ lf_and (lf_ushr x1 x2) 255 ∧ lf_and (lf_ushr x1 x2) 255 ≤ 255 := lf_andB (by omega) (by omega)
      refine ⟨(show (0 : Int) ≤ s.1 31 1 ∧ s.1 31 1 < (300 : Int) from by omega), ?_⟩
      have hI6 : iv_A (lf_up s.1 32 (s.1 31 1) (lf_and (lf_ushr x1 x2) 255)) s.2.2 := iv_w32 hI (by omega)
      have fr7 : lf_fq [31, 32] 1000000 true s.1 s.2.2 (lf_up s.1 32 (s.1 31 1) (lf_and (lf_ushr x1 x2) 255)) s.2.2 := lf_fq_up (lf_fq_rf) rfl (fun h => absurd h (by decide))
      have hI8 : iv_A (lf_up (lf_up s.1 32 (s.1 31 1) (lf_and (lf_ushr x1 x2) 255)) 31 1 ((s.1 31 1) + 1)) s.2.2 := iv_w31_1 hI6 (by omega)
      have fr9 : lf_fq [31, 32] 1000000 true s.1 s.2.2 (lf_up (lf_up s.1 32 (s.1 31 1) (lf_and (lf_ushr x1 x2) 255)) 31 1 ((s.1 31 1) + 1)) s.2.2 := lf_fq_up fr7 rfl (fun h => absurd h (by decide))
      exact hX3 (x2 + (-8)) (lf_up (lf_up s.1 32 (s.1 31 1) (lf_and (lf_ushr x1 x2) 255)) 31 1 ((s.1 31 1) + 1), s.2.1, s.2.2) hI8 fr9 (show (-8 : Int) ≤ x2 + (-8) ∧ x2 + (-8) ≤ (24 : Int) from by omega) (show ((x2 + (-8)) - (-8)).toNat < M3 from by omega)
theorem sm_26_p3L {Q : lf_Z → Prop} {x1 : Int} {x2 : Int} {s : lf_Z} (hQ : ∀  (s' : lf_Z), iv_A s'.1 s'.2.2 → lf_fq [31, 32] 1000000 true s.1 s.2.2 s'.1 s'.2.2 → Q  s') (hI : iv_A s.1 s.2.2) (bx1 : (-2147483648) ≤ x1 ∧ x1 ≤ 2147483647) (bx2 : (-8) ≤ x2 ∧ x2 ≤ 24) : fm_26_p3L Q x1 x2 s := by
  intro X3 hX
  have key : ∀ (m9 : Nat) (x2 : Int) (s' : lf_Z), iv_A s'.1 s'.2.2 → lf_fq [31, 32] 1000000 true s.1 s.2.2 s'.1 s'.2.2 → (-8) ≤ x2 ∧ x2 ≤ 24 → (x2 - (-8)).toNat < m9 → X3 x2 s' := by
    intro m9
    induction m9 with
    | zero => intro x2 s' _ _ bx2 h9; exact absurd h9 (Nat.not_lt_zero _)
    | succ m9 ih => intro x2 s' i7 f7 bx2 h9; exact hX _ _ (sm_26_p3 (fun t9 i9 f9 => hQ t9 i9 (lf_fq_tr f7 f9))   (fun x2' t8 i8 f8 bx2' h8 => ih x2' t8 i8 (lf_fq_tr f7 f8) bx2' (by omega)) (Nat.le_refl _)  i7  bx1 bx2  )
  exact key _ _ s hI lf_fq_rf bx2 (Nat.lt_succ_self _)
theorem sm_26 {a1 : Int} {Q : lf_Z → Prop} {s : lf_Z} (hI : iv_A s.1 s.2.2) (ba1 : (-2147483648) ≤ a1 ∧ a1 ≤ 2147483647) (hQ : ∀  (s' : lf_Z), iv_A s'.1 s'.2.2 → lf_fq [31, 32] 1000000 true s.1 s.2.2 s'.1 s'.2.2 → Q  s') : fm_26 a1 Q s := by
  unfold fm_26
  exact sm_26_p3L hQ hI (show (-2147483648 : Int) ≤ a1 ∧ a1 ≤ (2147483647 : Int) from by omega) (show (-8 : Int) ≤ 24 ∧ 24 ≤ (24 : Int) from by omega)
-- fm_25 ElevenBullocks.feed 0 i i i i i
theorem sm_25 {a1 : Int} {a2 : Int} {a3 : Int} {a4 : Int} {a5 : Int} {Q : Int → lf_Z → Prop} {s : lf_Z} (hI : iv_A s.1 s.2.2) (ba1 : (-2147483648) ≤ a1 ∧ a1 ≤ 2147483647) (ba2 : (-2147483648) ≤ a2 ∧ a2 ≤ 2147483647) (ba3 : (-2147483648) ≤ a3 ∧ a3 ≤ 2147483647) (ba4 : (-2147483648) ≤ a4 ∧ a4 ≤ 2147483647) (ba5 : (-2147483648) ≤ a5 ∧ a5 ≤ 2147483647) (hQ : ∀ (r : Int) (s' : lf_Z), iv_A s'.1 s'.2.2 → lf_fq [31, 32] 1000000 true s.1 s.2.2 s'.1 s'.2.2 → ((-1) ≤ r ∧ r ≤ 300) → Q r s') : fm_25 a1 a2 a3 a4 a5 Q s := by
  unfold fm_25
  have b1 : 0 ≤ s.1 31 1 ∧ s.1 31 1 ≤ 300 := iv_r31_1 hI
  refine ⟨(show lf_R ((s.1 31 1) + 20) from lf_Rof (by omega)), ?_⟩
  refine ⟨fun c2 => ?_, fun c2 => ?_⟩
  · skip
    replace c2 : (s.1 31 1) + 20 ≤ 300 := c2
    refine sm_26 hI (show (-2147483648 : Int) ≤ a1 ∧ a1 ≤ (2147483647 : Int) from by omega) (fun s22 hI4 fr3 => ?_)
    have fr6 : lf_fq [31, 32] 1000000 true s.1 s.2.2 s22.1 s22.2.2 := lf_fq_tr (lf_fq_rf) (lf_fq_wk fr3 rfl (by decide) (by decide))
    refine sm_26 hI4 (show (-2147483648 : Int) ≤ a2 ∧ a2 ≤ (2147483647 : Int) from by omega) (fun s23 hI8 fr7 => ?_)
    have fr10 : lf_fq [31, 32] 1000000 true s.1 s.2.2 s23.1 s23.2.2 := lf_fq_tr fr6 (lf_fq_wk fr7 rfl (by decide) (by decide))
    refine sm_26 hI8 (show (-2147483648 : Int) ≤ a3 ∧ a3 ≤ (2147483647 : Int) from by omega) (fun s24 hI12 fr11 => ?_)
    have fr14 : lf_fq [31, 32] 1000000 true s.1 s.2.2 s24.1 s24.2.2 := lf_fq_tr fr10 (lf_fq_wk fr11 rfl (by decide) (by decide))
    refine sm_26 hI12 (show (-2147483648 : Int) ≤ a4 ∧ a4 ≤ (2147483647 : Int) from by omega) (fun s25 hI16 fr15 => ?_)
    have fr18 : lf_fq [31, 32] 1000000 true s.1 s.2.2 s25.1 s25.2.2 := lf_fq_tr fr14 (lf_fq_wk fr15 rfl (by decide) (by decide))
    refine sm_26 hI16 (show (-2147483648 : Int) ≤ a5 ∧ a5 ≤ (2147483647 : Int) from by omega) (fun s26 hI20 fr19 => ?_)
    have fr22 : lf_fq [31, 32] 1000000 true s.1 s.2.2 s26.1 s26.2.2 := lf_fq_tr fr18 (lf_fq_wk fr19 rfl (by decide) (by decide))
    have b23 : 0 ≤ s26.1 31 1 ∧ s26.1 31 1 ≤ 300 := iv_r31_1 hI20
    exact hQ (s26.1 31 1) s26 hI20 fr22 (show (-1 : Int) ≤ s26.1 31 1 ∧ s26.1 31 1 ≤ (300 : Int) from by omega)
  · skip
    replace c2 : ¬ ((s.1 31 1) + 20 ≤ 300) := c2
    exact hQ (-1) s hI (lf_fq_rf) (show (-1 : Int) ≤ (-1) ∧ (-1) ≤ (300 : Int) from by omega)
-- fm_193 Model.four 95 i
theorem sm_193_p3 {X3 : Int → lf_Z → Prop} {Q : lf_Z → Prop} {x1 : Int} {x2 : Int} {s : lf_Z} {s0 : lf_Z} (hQ : ∀  (s' : lf_Z), iv_A s'.1 s'.2.2 → lf_fq [95, 99] 1000000 true s.1 s.2.2 s'.1 s'.2.2 → (s'.1 95 4 ≤ s0.1 95 4 + 4) → Q  s') {M3 : Nat} (hX3 : ∀ (x2 : Int) (s' : lf_Z), iv_A s'.1 s'.2.2 → lf_fq [95, 99] 1000000 true s.1 s.2.2 s'.1 s'.2.2 → (-8) ≤ x2 ∧ x2 ≤ 24 → (8 * s'.1 95 4 + x2 ≤ 8 * s0.1 95 4 + 24) → (s0.1 95 4 ≤ 296) → (x2 - (-8)).toNat < M3 → X3 x2 s') (hM3 : (x2 - (-8)).toNat ≤ M3) (hI : iv_A s.1 s.2.2) (bx1 : (-2147483648) ≤ x1 ∧ x1 ≤ 2147483647) (bx2 : (-8) ≤ x2 ∧ x2 ≤ 24) (kv0 : 8 * s.1 95 4 + x2 ≤ 8 * s0.1 95 4 + 24) (kv1 : s0.1 95 4 ≤ 296) : fm_193_p3 Q x1 X3 x2 s := by
  unfold fm_193_p3
  refine ⟨(show lf_R x2 from lf_Rof (by omega)), ?_⟩
  refine ⟨fun c2 => ?_, fun c2 => ?_⟩
  · skip
    replace c2 : x2 < 0 := c2
    exact hQ s hI (lf_fq_rf) (show (s.1 95 4) ≤ s0.1 95 4 + 4 from by omega)
  · skip
    replace c2 : ¬ (x2 < 0) := c2
    have b3 : 0 ≤ s.1 95 4 ∧ s.1 95 4 ≤ 300 := iv_r95_4 hI
    have b4 : (-2147483648) ≤ lf_shr x1 x2 ∧ lf_shr x1 x2 ≤ 2147483647 := lf_shrB
    have b5 : 0 ≤ lf_and (lf_shr x1 x2) 255 ∧ lf_and (lf_shr x1 x2) 255 ≤ 255 := lf_andB (by omega) (by omega)
    refine ⟨(show (0 : Int) ≤ s.1 95 4 ∧ s.1 95 4 < (300 : Int) from by omega), ?_⟩
    have hI6 : iv_A (lf_up s.1 99 (s.1 95 4) (lf_and (lf_shr x1 x2) 255)) s.2.2 := iv_w99 hI (by omega)
    have fr7 : lf_fq [95, 99] 1000000 true s.1 s.2.2 (lf_up s.1 99 (s.1 95 4) (lf_and (lf_shr x1 x2) 255)) s.2.2 := lf_fq_up (lf_fq_rf) rfl (fun h => absurd h (by decide))
    have hI8 : iv_A (lf_up (lf_up s.1 99 (s.1 95 4) (lf_and (lf_shr x1 x2) 255)) 95 4 ((s.1 95 4) + 1)) s.2.2 := iv_w95_4 hI6 (by omega)
    have fr9 : lf_fq [95, 99] 1000000 true s.1 s.2.2 (lf_up (lf_up s.1 99 (s.1 95 4) (lf_and (lf_shr x1 x2) 255)) 95 4 ((s.1 95 4) + 1)) s.2.2 := lf_fq_up fr7 rfl (fun h => absurd h (by decide))
    exact hX3 (x2 + (-8)) (lf_up (lf_up s.1 99 (s.1 95 4) (lf_and (lf_shr x1 x2) 255)) 95 4 ((s.1 95 4) + 1), s.2.1, s.2.2) hI8 fr9 (show (-8 : Int) ≤ x2 + (-8) ∧ x2 + (-8) ≤ (24 : Int) from by omega) (show 8 * ((s.1 95 4) + 1) + (x2 + (-8)) ≤ 8 * s0.1 95 4 + 24 from by omega) (show s0.1 95 4 ≤ 296 from by omega) (show ((x2 + (-8)) - (-8)).toNat < M3 from by omega)
theorem sm_193_p3L {Q : lf_Z → Prop} {x1 : Int} {x2 : Int} {s : lf_Z} {s0 : lf_Z} (hQ : ∀  (s' : lf_Z), iv_A s'.1 s'.2.2 → lf_fq [95, 99] 1000000 true s.1 s.2.2 s'.1 s'.2.2 → (s'.1 95 4 ≤ s0.1 95 4 + 4) → Q  s') (hI : iv_A s.1 s.2.2) (bx1 : (-2147483648) ≤ x1 ∧ x1 ≤ 2147483647) (bx2 : (-8) ≤ x2 ∧ x2 ≤ 24) (kv0 : 8 * s.1 95 4 + x2 ≤ 8 * s0.1 95 4 + 24) (kv1 : s0.1 95 4 ≤ 296) : fm_193_p3L Q x1 x2 s := by
  intro X3 hX
  have key : ∀ (m9 : Nat) (x2 : Int) (s' : lf_Z), iv_A s'.1 s'.2.2 → lf_fq [95, 99] 1000000 true s.1 s.2.2 s'.1 s'.2.2 → (-8) ≤ x2 ∧ x2 ≤ 24 → (8 * s'.1 95 4 + x2 ≤ 8 * s0.1 95 4 + 24) → (s0.1 95 4 ≤ 296) → (x2 - (-8)).toNat < m9 → X3 x2 s' := by
    intro m9
    induction m9 with
    | zero => intro x2 s' _ _ bx2 kv0 kv1 h9; exact absurd h9 (Nat.not_lt_zero _)
    | succ m9 ih => intro x2 s' i7 f7 bx2 kv0 kv1 h9; exact hX _ _ (sm_193_p3 (s0 := s0) (fun t9 i9 f9 => hQ t9 i9 (lf_fq_tr f7 f9))   (fun x2' t8 i8 f8 bx2' kv0' kv1' h8 => ih x2' t8 i8 (lf_fq_tr f7 f8) bx2' kv0' kv1' (by omega)) (Nat.le_refl _)  i7  bx1 bx2  kv0 kv1)
  exact key _ _ s hI lf_fq_rf bx2 kv0 kv1 (Nat.lt_succ_self _)
theorem sm_193 {a1 : Int} {Q : lf_Z → Prop} {s : lf_Z} (hI : iv_A s.1 s.2.2) (ba1 : (-2147483648) ≤ a1 ∧ a1 ≤ 2147483647) (kp0 : s.1 95 4 ≤ 296) (hQ : ∀  (s' : lf_Z), iv_A s'.1 s'.2.2 → lf_fq [95, 99] 1000000 true s.1 s.2.2 s'.1 s'.2.2 → (s'.1 95 4 ≤ s.1 95 4 + 4) → Q  s') : fm_193 a1 Q s := by
  unfold fm_193
  have b1 : 0 ≤ s.1 95 4 ∧ s.1 95 4 ≤ 300 := iv_r95_4 hI
  exact sm_193_p3L (s0 := s) hQ hI (show (-2147483648 : Int) ≤ a1 ∧ a1 ≤ (2147483647 : Int) from by omega) (show (-8 : Int) ≤ 24 ∧ 24 ≤ (24 : Int) from by omega) (show 8 * (s.1 95 4) + 24 ≤ 8 * s.1 95 4 + 24 from by omega) (show s.1 95 4 ≤ 296 from by omega)
-- fm_192 Model.feed 95 i i i i i
theorem sm_192 {a1 : Int} {a2 : Int} {a3 : Int} {a4 : Int} {a5 : Int} {Q : Int → lf_Z → Prop} {s : lf_Z} (hI : iv_A s.1 s.2.2) (ba1 : (-2147483648) ≤ a1 ∧ a1 ≤ 2147483647) (ba2 : (-2147483648) ≤ a2 ∧ a2 ≤ 2147483647) (ba3 : (-2147483648) ≤ a3 ∧ a3 ≤ 2147483647) (ba4 : (-2147483648) ≤ a4 ∧ a4 ≤ 2147483647) (ba5 : (-2147483648) ≤ a5 ∧ a5 ≤ 2147483647) (hQ : ∀ (r : Int) (s' : lf_Z), iv_A s'.1 s'.2.2 → lf_fq [95, 99] 1000000 true s.1 s.2.2 s'.1 s'.2.2 → ((-1) ≤ r ∧ r ≤ 300) → Q r s') : fm_192 a1 a2 a3 a4 a5 Q s := by
  unfold fm_192
  have b1 : 0 ≤ s.1 95 4 ∧ s.1 95 4 ≤ 300 := iv_r95_4 hI
  refine ⟨(show lf_R ((s.1 95 4) + 20) from lf_Rof (by omega)), ?_⟩
  refine ⟨fun c2 => ?_, fun c2 => ?_⟩
  · skip
    replace c2 : (s.1 95 4) + 20 ≤ 300 := c2
    refine sm_193 hI (show (-2147483648 : Int) ≤ a1 ∧ a1 ≤ (2147483647 : Int) from by omega) (show (s.1 95 4) ≤ 296 from by omega) (fun s22 hI4 fr3 ps6 => ?_)
    replace ps6 : s22.1 95 4 ≤ (s.1 95 4) + 4 := ps6
    have fr7 : lf_fq [95, 99] 1000000 true s.1 s.2.2 s22.1 s22.2.2 := lf_fq_tr (lf_fq_rf) (lf_fq_wk fr3 rfl (by decide) (by decide))
    have b10 : 0 ≤ s22.1 95 4 ∧ s22.1 95 4 ≤ 300 := iv_r95_4 hI4
    refine sm_193 hI4 (show (-2147483648 : Int) ≤ a2 ∧ a2 ≤ (2147483647 : Int) from by omega) (show (s22.1 95 4) ≤ 296 from by omega) (fun s23 hI9 fr8 ps12 => ?_)
    replace ps12 : s23.1 95 4 ≤ (s22.1 95 4) + 4 := ps12
    have fr13 : lf_fq [95, 99] 1000000 true s.1 s.2.2 s23.1 s23.2.2 := lf_fq_tr fr7 (lf_fq_wk fr8 rfl (by decide) (by decide))
    have b16 : 0 ≤ s23.1 95 4 ∧ s23.1 95 4 ≤ 300 := iv_r95_4 hI9
    refine sm_193 hI9 (show (-2147483648 : Int) ≤ a3 ∧ a3 ≤ (2147483647 : Int) from by omega) (show (s23.1 95 4) ≤ 296 from by omega) (fun s24 hI15 fr14 ps18 => ?_)
    replace ps18 : s24.1 95 4 ≤ (s23.1 95 4) + 4 := ps18
    have fr19 : lf_fq [95, 99] 1000000 true s.1 s.2.2 s24.1 s24.2.2 := lf_fq_tr fr13 (lf_fq_wk fr14 rfl (by decide) (by decide))
    have b22 : 0 ≤ s24.1 95 4 ∧ s24.1 95 4 ≤ 300 := iv_r95_4 hI15
    refine sm_193 hI15 (show (-2147483648 : Int) ≤ a4 ∧ a4 ≤ (2147483647 : Int) from by omega) (show (s24.1 95 4) ≤ 296 from by omega) (fun s25 hI21 fr20 ps24 => ?_)
    replace ps24 : s25.1 95 4 ≤ (s24.1 95 4) + 4 := ps24
    have fr25 : lf_fq [95, 99] 1000000 true s.1 s.2.2 s25.1 s25.2.2 := lf_fq_tr fr19 (lf_fq_wk fr20 rfl (by decide) (by decide))
    have b28 : 0 ≤ s25.1 95 4 ∧ s25.1 95 4 ≤ 300 := iv_r95_4 hI21
    refine sm_193 hI21 (show (-2147483648 : Int) ≤ a5 ∧ a5 ≤ (2147483647 : Int) from by omega) (show (s25.1 95 4) ≤ 296 from by omega) (fun s26 hI27 fr26 ps30 => ?_)
    replace ps30 : s26.1 95 4 ≤ (s25.1 95 4) + 4 := ps30
    have fr31 : lf_fq [95, 99] 1000000 true s.1 s.2.2 s26.1 s26.2.2 := lf_fq_tr fr25 (lf_fq_wk fr26 rfl (by decide) (by decide))
    have b32 : 0 ≤ s26.1 95 4 ∧ s26.1 95 4 ≤ 300 := iv_r95_4 hI27
    exact hQ (s26.1 95 4) s26 hI27 fr31 (show (-1 : Int) ≤ s26.1 95 4 ∧ s26.1 95 4 ≤ (300 : Int) from by omega)
  · skip
    replace c2 : ¬ ((s.1 95 4) + 20 ≤ 300) := c2
    exact hQ (-1) s hI (lf_fq_rf) (show (-1 : Int) ≤ (-1) ∧ (-1) ≤ (300 : Int) from by omega)
-- fm_27 ElevenBullocks.end 0 i
theorem sm_27 {a1 : Int} {Q : Int → lf_Z → Prop} {s : lf_Z} (hI : iv_A s.1 s.2.2) (ba1 : (-2147483648) ≤ a1 ∧ a1 ≤ 2147483647) (hQ : ∀ (r : Int) (s' : lf_Z), iv_A s'.1 s'.2.2 → lf_fq [31] 1000000 true s.1 s.2.2 s'.1 s'.2.2 → ((-1) ≤ r ∧ r ≤ 300) → Q r s') : fm_27 a1 Q s := by
  unfold fm_27
  have b1 : 0 ≤ s.1 31 1 ∧ s.1 31 1 ≤ 300 := iv_r31_1 hI
  refine sm_15 hI (show (-2147483648 : Int) ≤ a1 ∧ a1 ≤ (2147483647 : Int) from by omega) (show (-1 : Int) ≤ 0 ∧ 0 ≤ (99 : Int) from by omega) (show (-2147483648 : Int) ≤ s.1 31 1 ∧ s.1 31 1 ≤ (2147483647 : Int) from by omega) (fun z22 q2 => ?_)
  refine ⟨fun c3 => ?_, fun c3 => ?_⟩
  · skip
    have dc3 := q2.1 c3
    have hI4 : iv_A (lf_up s.1 31 1 a1) s.2.2 := iv_w31_1 hI (by omega)
    have fr5 : lf_fq [31] 1000000 true s.1 s.2.2 (lf_up s.1 31 1 a1) s.2.2 := lf_fq_up (lf_fq_rf) rfl (fun h => absurd h (by decide))
    exact hQ a1 (lf_up s.1 31 1 a1, s.2.1, s.2.2) hI4 fr5 (show (-1 : Int) ≤ a1 ∧ a1 ≤ (300 : Int) from by omega)
  · skip
    have dc3 := q2.2 c3
    exact hQ (-1) s hI (lf_fq_rf) (show (-1 : Int) ≤ (-1) ∧ (-1) ≤ (300 : Int) from by omega)
-- fm_194 Model.end 95 i
theorem sm_194 {a1 : Int} {Q : Int → lf_Z → Prop} {s : lf_Z} (hI : iv_A s.1 s.2.2) (ba1 : (-2147483648) ≤ a1 ∧ a1 ≤ 2147483647) (hQ : ∀ (r : Int) (s' : lf_Z), iv_A s'.1 s'.2.2 → lf_fq [95] 1000000 true s.1 s.2.2 s'.1 s'.2.2 → ((-1) ≤ r ∧ r ≤ 300) → Q r s') : fm_194 a1 Q s := by
  unfold fm_194
  have b1 : 0 ≤ s.1 95 4 ∧ s.1 95 4 ≤ 300 := iv_r95_4 hI
  refine sm_183 hI (show (-2147483648 : Int) ≤ a1 ∧ a1 ≤ (2147483647 : Int) from by omega) (show (-1 : Int) ≤ 0 ∧ 0 ≤ (97 : Int) from by omega) (show (-1 : Int) ≤ s.1 95 4 ∧ s.1 95 4 ≤ (9999 : Int) from by omega) (fun z22 q2 => ?_)
  refine ⟨fun c3 => ?_, fun c3 => ?_⟩
  · skip
    have dc3 := q2.1 c3
    have hI4 : iv_A (lf_up s.1 95 4 a1) s.2.2 := iv_w95_4 hI (by omega)
    have fr5 : lf_fq [95] 1000000 true s.1 s.2.2 (lf_up s.1 95 4 a1) s.2.2 := lf_fq_up (lf_fq_rf) rfl (fun h => absurd h (by decide))
    exact hQ a1 (lf_up s.1 95 4 a1, s.2.1, s.2.2) hI4 fr5 (show (-1 : Int) ≤ a1 ∧ a1 ≤ (300 : Int) from by omega)
  · skip
    have dc3 := q2.2 c3
    exact hQ (-1) s hI (lf_fq_rf) (show (-1 : Int) ≤ (-1) ∧ (-1) ≤ (300 : Int) from by omega)
-- fm_30 Script.clear t
theorem sm_30 {t0 : Nat} {Q : lf_Z → Prop} {s : lf_Z} (htt0 : t0 < 4) (hI : iv_A s.1 s.2.2) (hQ : ∀  (s' : lf_Z), iv_A s'.1 s'.2.2 → lf_fq [35, 37, 42, 44, 49, 51, 56, 58] 1000000 true s.1 s.2.2 s'.1 s'.2.2 → Q  s') : fm_30 t0 Q s := by
  unfold fm_30
  have hI1 : iv_A (lf_up s.1 (35 + 7 * t0) 1 0) s.2.2 := iv_wT_1 hI htt0 (by omega)
  have fr2 : lf_fq [35, 37, 42, 44, 49, 51, 56, 58] 1000000 true s.1 s.2.2 (lf_up s.1 (35 + 7 * t0) 1 0) s.2.2 := lf_fq_upT (lf_fq_rf) htt0 rfl (by decide)
  have hI3 : iv_A (lf_up (lf_up s.1 (35 + 7 * t0) 1 0) (35 + 7 * t0) 7 0) s.2.2 := iv_wT_7 hI1 htt0 (by omega)
  have fr4 : lf_fq [35, 37, 42, 44, 49, 51, 56, 58] 1000000 true s.1 s.2.2 (lf_up (lf_up s.1 (35 + 7 * t0) 1 0) (35 + 7 * t0) 7 0) s.2.2 := lf_fq_upT fr2 htt0 rfl (by decide)
  have hI5 : iv_A (lf_fl (lf_up (lf_up s.1 (35 + 7 * t0) 1 0) (35 + 7 * t0) 7 0) (37 + 7 * t0) 3 (-1)) s.2.2 := iv_flT37 hI3 htt0 (by omega)
  have fr6 : lf_fq [35, 37, 42, 44, 49, 51, 56, 58] 1000000 true s.1 s.2.2 (lf_fl (lf_up (lf_up s.1 (35 + 7 * t0) 1 0) (35 + 7 * t0) 7 0) (37 + 7 * t0) 3 (-1)) s.2.2 := lf_fq_flT fr4 htt0 rfl (by decide)
  exact hQ (lf_fl (lf_up (lf_up s.1 (35 + 7 * t0) 1 0) (35 + 7 * t0) 7 0) (37 + 7 * t0) 3 (-1), s.2.1, s.2.2) hI5 fr6
-- fm_32 Reader.isDigit i
theorem sm_32 {a0 : Int} {Q : Bool → lf_Z → Prop} {s : lf_Z} (hI : iv_A s.1 s.2.2) (ba0 : 0 ≤ a0 ∧ a0 ≤ 255) (hQ : ∀ (z : Bool), Q z s) : fm_32 a0 Q s := by
  unfold fm_32
  refine ⟨(show lf_R a0 from lf_Rof (by omega)), ?_⟩
  refine ⟨fun c1 => ?_, fun c1 => ?_⟩
  · skip
    replace c1 : a0 < 48 := c1
    exact hQ false
  · skip
    replace c1 : ¬ (a0 < 48) := c1
    refine ⟨fun c2 => ?_, fun c2 => ?_⟩
    · skip
      replace c2 : 57 < a0 := c2
      exact hQ false
    · skip
      replace c2 : ¬ (57 < a0) := c2
      exact hQ true
-- fm_34 Reader.isLetter i
theorem sm_34_p12 {Q : Bool → lf_Z → Prop} {x0 : Int} {s : lf_Z} (hQ : ∀ (z : Bool), Q z s) (hI : iv_A s.1 s.2.2) (bx0 : 0 ≤ x0 ∧ x0 ≤ 255) : fm_34_p12 Q x0 s := by
  unfold fm_34_p12
  refine ⟨(show lf_R x0 from lf_Rof (by omega)), ?_⟩
  refine ⟨fun c2 => ?_, fun c2 => ?_⟩
  · skip
    replace c2 : x0 < 65 := c2
    exact hQ false
  · skip
    replace c2 : ¬ (x0 < 65) := c2
    refine ⟨fun c3 => ?_, fun c3 => ?_⟩
    · skip
      replace c3 : 90 < x0 := c3
      exact hQ false
    · skip
      replace c3 : ¬ (90 < x0) := c3
      exact hQ true
theorem sm_34 {a0 : Int} {Q : Bool → lf_Z → Prop} {s : lf_Z} (hI : iv_A s.1 s.2.2) (ba0 : 0 ≤ a0 ∧ a0 ≤ 255) (hQ : ∀ (z : Bool), Q z s) : fm_34 a0 Q s := by
  unfold fm_34
  refine ⟨(show lf_R a0 from lf_Rof (by omega)), ?_⟩
  refine ⟨fun c1 => ?_, fun c1 => ?_⟩
  · skip
    replace c1 : a0 < 97 := c1
    exact sm_34_p12 hQ hI (show (0 : Int) ≤ a0 ∧ a0 ≤ (255 : Int) from by omega)
  · skip
    replace c1 : ¬ (a0 < 97) := c1
    refine ⟨fun c4 => ?_, fun c4 => ?_⟩
    · skip
      replace c4 : a0 ≤ 122 := c4
      exact hQ true
    · skip
      replace c4 : ¬ (a0 ≤ 122) := c4
      exact sm_34_p12 hQ hI (show (0 : Int) ≤ a0 ∧ a0 ≤ (255 : Int) from by omega)
-- fm_37 Reader.scanSign 31 i
theorem sm_37_p311 {Q : lf_Z → Prop} {s : lf_Z} (hQ : ∀  (s' : lf_Z), iv_A s'.1 s'.2.2 → lf_fq [31] 1000000 true s.1 s.2.2 s'.1 s'.2.2 → Q  s') (hI : iv_A s.1 s.2.2) : fm_37_p311 Q s := by
  unfold fm_37_p311
  have hI10 : iv_A (lf_up s.1 31 8 1) s.2.2 := iv_w31_8 hI (by omega)
  have fr11 : lf_fq [31] 1000000 true s.1 s.2.2 (lf_up s.1 31 8 1) s.2.2 := lf_fq_up (lf_fq_rf) rfl (fun h => absurd h (by decide))
  exact hQ (lf_up s.1 31 8 1, s.2.1, s.2.2) hI10 fr11
theorem sm_37_p206 {Q : lf_Z → Prop} {y1 : Int} {s : lf_Z} (hQ : ∀  (s' : lf_Z), iv_A s'.1 s'.2.2 → lf_fq [31] 1000000 true s.1 s.2.2 s'.1 s'.2.2 → Q  s') (hI : iv_A s.1 s.2.2) (by1 : 4 ≤ y1 ∧ y1 ≤ 5) : fm_37_p206 Q y1 s := by
  unfold fm_37_p206
  have hI29 : iv_A (lf_up s.1 31 8 y1) s.2.2 := iv_w31_8 hI (by omega)
  have fr30 : lf_fq [31] 1000000 true s.1 s.2.2 (lf_up s.1 31 8 y1) s.2.2 := lf_fq_up (lf_fq_rf) rfl (fun h => absurd h (by decide))
  exact hQ (lf_up s.1 31 8 y1, s.2.1, s.2.2) hI29 fr30
theorem sm_37_p224 {Q : lf_Z → Prop} {y1 : Int} {s : lf_Z} (hQ : ∀  (s' : lf_Z), iv_A s'.1 s'.2.2 → lf_fq [31] 1000000 true s.1 s.2.2 s'.1 s'.2.2 → Q  s') (hI : iv_A s.1 s.2.2) (by1 : 6 ≤ y1 ∧ y1 ≤ 7) : fm_37_p224 Q y1 s := by
  unfold fm_37_p224
  have hI34 : iv_A (lf_up s.1 31 8 y1) s.2.2 := iv_w31_8 hI (by omega)
  have fr35 : lf_fq [31] 1000000 true s.1 s.2.2 (lf_up s.1 31 8 y1) s.2.2 := lf_fq_up (lf_fq_rf) rfl (fun h => absurd h (by decide))
  exact hQ (lf_up s.1 31 8 y1, s.2.1, s.2.2) hI34 fr35
theorem sm_37_p67 {Q : lf_Z → Prop} {x1 : Int} {x2 : Int} {s : lf_Z} (hQ : ∀  (s' : lf_Z), iv_A s'.1 s'.2.2 → lf_fq [31] 1000000 true s.1 s.2.2 s'.1 s'.2.2 → Q  s') (hI : iv_A s.1 s.2.2) (bx1 : 0 ≤ x1 ∧ x1 ≤ 255) (bx2 : 0 ≤ x2 ∧ x2 ≤ 1) : fm_37_p67 Q x1 x2 s := by
  unfold fm_37_p67
  refine ⟨(show lf_R x1 from lf_Rof (by omega)), ?_⟩
  refine ⟨fun c9 => ?_, fun c9 => ?_, fun c9 => ?_, fun c9 => ?_, fun c9 => ?_, fun c9 => ?_, fun c9 => ?_, fun c9 => ?_, fun c9 => ?_, fun c9 => ?_, fun c9 => ?_, fun c9 => ?_, fun c9 => ?_, fun c9 => ?_, fun c9 => ?_, fun c9 => ?_, fun c9 => ?_, fun c9 => ?_, fun c9 => ?_, fun c9 => ?_, fun c9 => ?_, fun c9 => ?_, fun c9 => ?_, fun c9 => ?_, fun c9 => ?_, fun c9 => ?_, fun c9 => ?_, fun c9 => ?_, fun c9 => ?_⟩
  · replace c9 : x1 < 35 ∨ 62 < x1 := c9
    exact sm_37_p311 hQ hI
  · replace c9 : x1 = 35 := c9
    have hI12 : iv_A (lf_up s.1 31 8 9) s.2.2 := iv_w31_8 hI (by omega)
    have fr13 : lf_fq [31] 1000000 true s.1 s.2.2 (lf_up s.1 31 8 9) s.2.2 := lf_fq_up (lf_fq_rf) rfl (fun h => absurd h (by decide))
    exact hQ (lf_up s.1 31 8 9, s.2.1, s.2.2) hI12 fr13
  · replace c9 : x1 = 36 := c9
    exact sm_37_p311 hQ hI
  · replace c9 : x1 = 37 := c9
    exact sm_37_p311 hQ hI
  · replace c9 : x1 = 38 := c9
    exact sm_37_p311 hQ hI
  · replace c9 : x1 = 39 := c9
    exact sm_37_p311 hQ hI
  · replace c9 : x1 = 40 := c9
    have hI14 : iv_A (lf_up s.1 31 8 14) s.2.2 := iv_w31_8 hI (by omega)
    have fr15 : lf_fq [31] 1000000 true s.1 s.2.2 (lf_up s.1 31 8 14) s.2.2 := lf_fq_up (lf_fq_rf) rfl (fun h => absurd h (by decide))
    exact hQ (lf_up s.1 31 8 14, s.2.1, s.2.2) hI14 fr15
  · replace c9 : x1 = 41 := c9
    have hI16 : iv_A (lf_up s.1 31 8 15) s.2.2 := iv_w31_8 hI (by omega)
    have fr17 : lf_fq [31] 1000000 true s.1 s.2.2 (lf_up s.1 31 8 15) s.2.2 := lf_fq_up (lf_fq_rf) rfl (fun h => absurd h (by decide))
    exact hQ (lf_up s.1 31 8 15, s.2.1, s.2.2) hI16 fr17
  · replace c9 : x1 = 42 := c9
    have hI18 : iv_A (lf_up s.1 31 8 12) s.2.2 := iv_w31_8 hI (by omega)
    have fr19 : lf_fq [31] 1000000 true s.1 s.2.2 (lf_up s.1 31 8 12) s.2.2 := lf_fq_up (lf_fq_rf) rfl (fun h => absurd h (by decide))
    exact hQ (lf_up s.1 31 8 12, s.2.1, s.2.2) hI18 fr19
  · replace c9 : x1 = 43 := c9
    have hI20 : iv_A (lf_up s.1 31 8 10) s.2.2 := iv_w31_8 hI (by omega)
    have fr21 : lf_fq [31] 1000000 true s.1 s.2.2 (lf_up s.1 31 8 10) s.2.2 := lf_fq_up (lf_fq_rf) rfl (fun h => absurd h (by decide))
    exact hQ (lf_up s.1 31 8 10, s.2.1, s.2.2) hI20 fr21
  · replace c9 : x1 = 44 := c9
    exact sm_37_p311 hQ hI
  · replace c9 : x1 = 45 := c9
    have hI22 : iv_A (lf_up s.1 31 8 11) s.2.2 := iv_w31_8 hI (by omega)
    have fr23 : lf_fq [31] 1000000 true s.1 s.2.2 (lf_up s.1 31 8 11) s.2.2 := lf_fq_up (lf_fq_rf) rfl (fun h => absurd h (by decide))
    exact hQ (lf_up s.1 31 8 11, s.2.1, s.2.2) hI22 fr23
  · replace c9 : x1 = 46 := c9
    exact sm_37_p311 hQ hI
  · replace c9 : x1 = 47 := c9
    have hI24 : iv_A (lf_up s.1 31 8 13) s.2.2 := iv_w31_8 hI (by omega)
    have fr25 : lf_fq [31] 1000000 true s.1 s.2.2 (lf_up s.1 31 8 13) s.2.2 := lf_fq_up (lf_fq_rf) rfl (fun h => absurd h (by decide))
    exact hQ (lf_up s.1 31 8 13, s.2.1, s.2.2) hI24 fr25
  · replace c9 : x1 = 48 := c9
    exact sm_37_p311 hQ hI
  · replace c9 : x1 = 49 := c9
    exact sm_37_p311 hQ hI
  · replace c9 : x1 = 50 := c9
    exact sm_37_p311 hQ hI
  · replace c9 : x1 = 51 := c9
    exact sm_37_p311 hQ hI
  · replace c9 : x1 = 52 := c9
    exact sm_37_p311 hQ hI
  · replace c9 : x1 = 53 := c9
    exact sm_37_p311 hQ hI
  · replace c9 : x1 = 54 := c9
    exact sm_37_p311 hQ hI
  · replace c9 : x1 = 55 := c9
    exact sm_37_p311 hQ hI
  · replace c9 : x1 = 56 := c9
    exact sm_37_p311 hQ hI
  · replace c9 : x1 = 57 := c9
    exact sm_37_p311 hQ hI
  · replace c9 : x1 = 58 := c9
    exact sm_37_p311 hQ hI
  · replace c9 : x1 = 59 := c9
    have hI26 : iv_A (lf_up s.1 31 8 16) s.2.2 := iv_w31_8 hI (by omega)
    have fr27 : lf_fq [31] 1000000 true s.1 s.2.2 (lf_up s.1 31 8 16) s.2.2 := lf_fq_up (lf_fq_rf) rfl (fun h => absurd h (by decide))
    exact hQ (lf_up s.1 31 8 16, s.2.1, s.2.2) hI26 fr27
  · replace c9 : x1 = 60 := c9
    refine ⟨(show lf_R x2 from lf_Rof (by omega)), ?_⟩
    refine ⟨fun c28 => ?_, fun c28 => ?_⟩
    · skip
      replace c28 : x2 = 0 := c28
      exact sm_37_p206 hQ hI (show (4 : Int) ≤ 4 ∧ 4 ≤ (5 : Int) from by omega)
    · skip
      replace c28 : ¬ (x2 = 0) := c28
      exact sm_37_p206 hQ hI (show (4 : Int) ≤ 5 ∧ 5 ≤ (5 : Int) from by omega)
  · replace c9 : x1 = 61 := c9
    have hI31 : iv_A (lf_up s.1 31 8 8) s.2.2 := iv_w31_8 hI (by omega)
    have fr32 : lf_fq [31] 1000000 true s.1 s.2.2 (lf_up s.1 31 8 8) s.2.2 := lf_fq_up (lf_fq_rf) rfl (fun h => absurd h (by decide))
    exact hQ (lf_up s.1 31 8 8, s.2.1, s.2.2) hI31 fr32
  · replace c9 : x1 = 62 := c9
    refine ⟨(show lf_R x2 from lf_Rof (by omega)), ?_⟩
    refine ⟨fun c33 => ?_, fun c33 => ?_⟩
    · skip
      replace c33 : x2 = 0 := c33
      exact sm_37_p224 hQ hI (show (6 : Int) ≤ 6 ∧ 6 ≤ (7 : Int) from by omega)
    · skip
      replace c33 : ¬ (x2 = 0) := c33
      exact sm_37_p224 hQ hI (show (6 : Int) ≤ 7 ∧ 7 ≤ (7 : Int) from by omega)
theorem sm_37_p52 {Q : lf_Z → Prop} {x1 : Int} {y0 : Int} {s : lf_Z} (hQ : ∀  (s' : lf_Z), iv_A s'.1 s'.2.2 → lf_fq [31] 1000000 true s.1 s.2.2 s'.1 s'.2.2 → Q  s') (hI : iv_A s.1 s.2.2) (bx1 : 0 ≤ x1 ∧ x1 ≤ 255) (by0 : 0 ≤ y0 ∧ y0 ≤ 1) (kv0 : y0 = 0 ∨ s.1 31 7 < 300) : fm_37_p52 Q x1 y0 s := by
  unfold fm_37_p52
  refine ⟨(show lf_R y0 from lf_Rof (by omega)), ?_⟩
  refine ⟨fun c8 => ?_, fun c8 => ?_⟩
  · skip
    replace c8 : y0 = 0 := c8
    exact sm_37_p67 hQ hI (show (0 : Int) ≤ x1 ∧ x1 ≤ (255 : Int) from by omega) (show (0 : Int) ≤ y0 ∧ y0 ≤ (1 : Int) from by omega)
  · skip
    replace c8 : ¬ (y0 = 0) := c8
    have b36 : 0 ≤ s.1 31 7 ∧ s.1 31 7 ≤ 300 := iv_r31_7 hI
    have hI37 : iv_A (lf_up s.1 31 7 ((s.1 31 7) + 1)) s.2.2 := iv_w31_7 hI (by omega)
    have fr38 : lf_fq [31] 1000000 true s.1 s.2.2 (lf_up s.1 31 7 ((s.1 31 7) + 1)) s.2.2 := lf_fq_up (lf_fq_rf) rfl (fun h => absurd h (by decide))
    exact sm_37_p67 (fun t9 i9 f9 => hQ t9 i9 (lf_fq_tr fr38 f9)) hI37 (show (0 : Int) ≤ x1 ∧ x1 ≤ (255 : Int) from by omega) (show (0 : Int) ≤ y0 ∧ y0 ≤ (1 : Int) from by omega)
theorem sm_37_p51 {Q : lf_Z → Prop} {x1 : Int} {s : lf_Z} (hQ : ∀  (s' : lf_Z), iv_A s'.1 s'.2.2 → lf_fq [31] 1000000 true s.1 s.2.2 s'.1 s'.2.2 → Q  s') (hI : iv_A s.1 s.2.2) (bx1 : 0 ≤ x1 ∧ x1 ≤ 255) : fm_37_p51 Q x1 s := by
  unfold fm_37_p51
  have b7 : 0 ≤ s.1 31 7 ∧ s.1 31 7 ≤ 300 := iv_r31_7 hI
  exact sm_37_p52 hQ hI (show (0 : Int) ≤ x1 ∧ x1 ≤ (255 : Int) from by omega) (show (0 : Int) ≤ 0 ∧ 0 ≤ (1 : Int) from by omega) (show 0 = 0 ∨ (s.1 31 7) < 300 from by omega)
theorem sm_37_p47 {Q : lf_Z → Prop} {x1 : Int} {s : lf_Z} (hQ : ∀  (s' : lf_Z), iv_A s'.1 s'.2.2 → lf_fq [31] 1000000 true s.1 s.2.2 s'.1 s'.2.2 → Q  s') (hI : iv_A s.1 s.2.2) (bx1 : 60 ≤ x1 ∧ x1 ≤ 62) (kv0 : s.1 31 7 < 300) : fm_37_p47 Q x1 s := by
  unfold fm_37_p47
  have b42 : 0 ≤ s.1 31 7 ∧ s.1 31 7 ≤ 300 := iv_r31_7 hI
  exact sm_37_p52 hQ hI (show (0 : Int) ≤ x1 ∧ x1 ≤ (255 : Int) from by omega) (show (0 : Int) ≤ 1 ∧ 1 ≤ (1 : Int) from by omega) (show 1 = 0 ∨ (s.1 31 7) < 300 from by omega)
theorem sm_37 {a1 : Int} {Q : lf_Z → Prop} {s : lf_Z} (hI : iv_A s.1 s.2.2) (ba1 : 0 ≤ a1 ∧ a1 ≤ 255) (kp0 : s.1 31 7 < 300) (hQ : ∀  (s' : lf_Z), iv_A s'.1 s'.2.2 → lf_fq [31] 1000000 true s.1 s.2.2 s'.1 s'.2.2 → Q  s') : fm_37 a1 Q s := by
  unfold fm_37
  have b1 : 0 ≤ s.1 31 7 ∧ s.1 31 7 ≤ 300 := iv_r31_7 hI
  have hI2 : iv_A (lf_up s.1 31 7 ((s.1 31 7) + 1)) s.2.2 := iv_w31_7 hI (by omega)
  have fr3 : lf_fq [31] 1000000 true s.1 s.2.2 (lf_up s.1 31 7 ((s.1 31 7) + 1)) s.2.2 := lf_fq_up (lf_fq_rf) rfl (fun h => absurd h (by decide))
  have b4 : 0 ≤ s.1 31 1 ∧ s.1 31 1 ≤ 300 := (show 0 ≤ (lf_up s.1 31 7 ((s.1 31 7) + 1)) 31 1 ∧ (lf_up s.1 31 7 ((s.1 31 7) + 1)) 31 1 ≤ 300 from iv_r31_1 hI2)
  have b5 : (lf_up s.1 31 7 ((s.1 31 7) + 1)) 31 1 = s.1 31 1 := lf_up_i (by omega)
  refine ⟨(show lf_R ((s.1 31 7) + 1) from lf_Rof (by omega)), ?_⟩
  refine ⟨(show lf_R (s.1 31 1) from lf_Rof (by omega)), ?_⟩
  refine ⟨fun c6 => ?_, fun c6 => ?_⟩
  · skip
    replace c6 : s.1 31 1 ≤ (s.1 31 7) + 1 := c6
    exact sm_37_p51 (fun t9 i9 f9 => hQ t9 i9 (lf_fq_tr fr3 f9)) hI2 (show (0 : Int) ≤ a1 ∧ a1 ≤ (255 : Int) from by omega)
  · skip
    replace c6 : ¬ (s.1 31 1 ≤ (s.1 31 7) + 1) := c6
    refine ⟨(show (0 : Int) ≤ (s.1 31 7) + 1 ∧ (s.1 31 7) + 1 < (300 : Int) from by omega), ?_⟩
    have b39 : 0 ≤ s.1 32 ((s.1 31 7) + 1) ∧ s.1 32 ((s.1 31 7) + 1) ≤ 255 := (show 0 ≤ (lf_up s.1 31 7 ((s.1 31 7) + 1)) 32 ((s.1 31 7) + 1) ∧ (lf_up s.1 31 7 ((s.1 31 7) + 1)) 32 ((s.1 31 7) + 1) ≤ 255 from iv_r32 hI2 _)
    refine ⟨(show lf_R (s.1 32 ((s.1 31 7) + 1)) from lf_Rof (by omega)), ?_⟩
    refine ⟨fun c40 => ?_, fun c40 => ?_⟩
    · skip
      replace c40 : s.1 32 ((s.1 31 7) + 1) ≠ 61 := c40
      exact sm_37_p51 (fun t9 i9 f9 => hQ t9 i9 (lf_fq_tr fr3 f9)) hI2 (show (0 : Int) ≤ a1 ∧ a1 ≤ (255 : Int) from by omega)
    · skip
      replace c40 : ¬ (s.1 32 ((s.1 31 7) + 1) ≠ 61) := c40
      refine ⟨(show lf_R a1 from lf_Rof (by omega)), ?_⟩
      refine ⟨fun c41 => ?_, fun c41 => ?_⟩
      · skip
        replace c41 : a1 = 60 := c41
        exact sm_37_p47 (fun t9 i9 f9 => hQ t9 i9 (lf_fq_tr fr3 f9)) hI2 (show (60 : Int) ≤ a1 ∧ a1 ≤ (62 : Int) from by omega) (show ((s.1 31 7) + 1) < 300 from by omega)
      · skip
        replace c41 : ¬ (a1 = 60) := c41
        refine ⟨fun c43 => ?_, fun c43 => ?_⟩
        · skip
          replace c43 : a1 ≠ 62 := c43
          exact sm_37_p51 (fun t9 i9 f9 => hQ t9 i9 (lf_fq_tr fr3 f9)) hI2 (show (0 : Int) ≤ a1 ∧ a1 ≤ (255 : Int) from by omega)
        · skip
          replace c43 : ¬ (a1 ≠ 62) := c43
          exact sm_37_p47 (fun t9 i9 f9 => hQ t9 i9 (lf_fq_tr fr3 f9)) hI2 (show (60 : Int) ≤ a1 ∧ a1 ≤ (62 : Int) from by omega) (show ((s.1 31 7) + 1) < 300 from by omega)
-- fm_36 Reader.wordOf 31
theorem sm_36_p98 {X13 : Int → Int → Int → Int → lf_Z → Prop} {Q : Int → lf_Z → Prop} {x1 : Int} {x2 : Int} {x3 : Int} {x4 : Int} {s : lf_Z} (hQ : ∀ (r : Int), (1 ≤ r ∧ r ≤ 200) → Q r s) {M13 : Nat} (hX13 : ∀ (x1 : Int) (x2 : Int) (x3 : Int) (x4 : Int), 20 ≤ x1 ∧ x1 ≤ 200 → 0 ≤ x2 ∧ x2 ≤ 480 → 0 ≤ x3 ∧ x3 ≤ 1 → 0 ≤ x4 ∧ x4 ≤ 180 → (x1 ≤ 20 + x4) → (x2 ≤ 300 + x4) → (180 - x4).toNat < M13 → X13 x1 x2 x3 x4 s) (hM13 : (180 - x4).toNat ≤ M13) (hI : iv_A s.1 s.2.2) (bx1 : 20 ≤ x1 ∧ x1 ≤ 200) (bx2 : 0 ≤ x2 ∧ x2 ≤ 480) (bx3 : 0 ≤ x3 ∧ x3 ≤ 1) (bx4 : 0 ≤ x4 ∧ x4 ≤ 179) (kv0 : x1 ≤ 21 + x4) (kv1 : x2 ≤ 301 + x4) : fm_36_p98 X13 Q x1 x2 x3 x4 s := by
  unfold fm_36_p98
  exact hX13 (x1) (x2) (x3) (x4 + 1) (show (20 : Int) ≤ x1 ∧ x1 ≤ (200 : Int) from by omega) (show (0 : Int) ≤ x2 ∧ x2 ≤ (480 : Int) from by omega) (show (0 : Int) ≤ x3 ∧ x3 ≤ (1 : Int) from by omega) (show (0 : Int) ≤ x4 + 1 ∧ x4 + 1 ≤ (180 : Int) from by omega) (show x1 ≤ 20 + (x4 + 1) from by omega) (show x2 ≤ 300 + (x4 + 1) from by omega) (show (180 - (x4 + 1)).toNat < M13 from by omega)
theorem sm_36_p88 {X13 : Int → Int → Int → Int → lf_Z → Prop} {Q : Int → lf_Z → Prop} {x1 : Int} {x4 : Int} {s : lf_Z} (hQ : ∀ (r : Int), (1 ≤ r ∧ r ≤ 200) → Q r s) {M13 : Nat} (hX13 : ∀ (x1 : Int) (x2 : Int) (x3 : Int) (x4 : Int), 20 ≤ x1 ∧ x1 ≤ 200 → 0 ≤ x2 ∧ x2 ≤ 480 → 0 ≤ x3 ∧ x3 ≤ 1 → 0 ≤ x4 ∧ x4 ≤ 180 → (x1 ≤ 20 + x4) → (x2 ≤ 300 + x4) → (180 - x4).toNat < M13 → X13 x1 x2 x3 x4 s) (hM13 : (180 - x4).toNat ≤ M13) (hI : iv_A s.1 s.2.2) (bx1 : 20 ≤ x1 ∧ x1 ≤ 199) (bx4 : 0 ≤ x4 ∧ x4 ≤ 179) (kv0 : x1 ≤ 20 + x4) : fm_36_p88 X13 Q x1 x4 s := by
  unfold fm_36_p88
  have b6 : 0 ≤ s.1 31 9 ∧ s.1 31 9 ≤ 300 := iv_r31_9 hI
  exact sm_36_p98 hQ hX13 (show (180 - x4).toNat ≤ M13 from by omega) hI (show (20 : Int) ≤ x1 + 1 ∧ x1 + 1 ≤ (200 : Int) from by omega) (show (0 : Int) ≤ s.1 31 9 ∧ s.1 31 9 ≤ (480 : Int) from by omega) (show (0 : Int) ≤ 1 ∧ 1 ≤ (1 : Int) from by omega) (show (0 : Int) ≤ x4 ∧ x4 ≤ (179 : Int) from by omega) (show (x1 + 1) ≤ 21 + x4 from by omega) (show (s.1 31 9) ≤ 301 + x4 from by omega)
theorem sm_36_p67 {X13 : Int → Int → Int → Int → lf_Z → Prop} {Q : Int → lf_Z → Prop} {x1 : Int} {x2 : Int} {x4 : Int} {y0 : Int} {s : lf_Z} (hQ : ∀ (r : Int), (1 ≤ r ∧ r ≤ 200) → Q r s) {M13 : Nat} (hX13 : ∀ (x1 : Int) (x2 : Int) (x3 : Int) (x4 : Int), 20 ≤ x1 ∧ x1 ≤ 200 → 0 ≤ x2 ∧ x2 ≤ 480 → 0 ≤ x3 ∧ x3 ≤ 1 → 0 ≤ x4 ∧ x4 ≤ 180 → (x1 ≤ 20 + x4) → (x2 ≤ 300 + x4) → (180 - x4).toNat < M13 → X13 x1 x2 x3 x4 s) (hM13 : (180 - x4).toNat ≤ M13) (hI : iv_A s.1 s.2.2) (bx1 : 20 ≤ x1 ∧ x1 ≤ 199) (bx2 : 0 ≤ x2 ∧ x2 ≤ 479) (bx4 : 0 ≤ x4 ∧ x4 ≤ 179) (by0 : 0 ≤ y0 ∧ y0 ≤ 1) (kv0 : x1 ≤ 20 + x4) (kv1 : x2 ≤ 300 + x4) : fm_36_p67 X13 Q x1 x2 x4 y0 s := by
  unfold fm_36_p67
  exact sm_36_p98 hQ hX13 (show (180 - x4).toNat ≤ M13 from by omega) hI (show (20 : Int) ≤ x1 ∧ x1 ≤ (200 : Int) from by omega) (show (0 : Int) ≤ x2 + 1 ∧ x2 + 1 ≤ (480 : Int) from by omega) (show (0 : Int) ≤ y0 ∧ y0 ≤ (1 : Int) from by omega) (show (0 : Int) ≤ x4 ∧ x4 ≤ (179 : Int) from by omega) (show x1 ≤ 21 + x4 from by omega) (show (x2 + 1) ≤ 301 + x4 from by omega)
theorem sm_36_p66 {X13 : Int → Int → Int → Int → lf_Z → Prop} {Q : Int → lf_Z → Prop} {x1 : Int} {x2 : Int} {x4 : Int} {s : lf_Z} (hQ : ∀ (r : Int), (1 ≤ r ∧ r ≤ 200) → Q r s) {M13 : Nat} (hX13 : ∀ (x1 : Int) (x2 : Int) (x3 : Int) (x4 : Int), 20 ≤ x1 ∧ x1 ≤ 200 → 0 ≤ x2 ∧ x2 ≤ 480 → 0 ≤ x3 ∧ x3 ≤ 1 → 0 ≤ x4 ∧ x4 ≤ 180 → (x1 ≤ 20 + x4) → (x2 ≤ 300 + x4) → (180 - x4).toNat < M13 → X13 x1 x2 x3 x4 s) (hM13 : (180 - x4).toNat ≤ M13) (hI : iv_A s.1 s.2.2) (bx1 : 20 ≤ x1 ∧ x1 ≤ 199) (bx2 : 0 ≤ x2 ∧ x2 ≤ 479) (bx4 : 0 ≤ x4 ∧ x4 ≤ 179) (kv0 : x1 ≤ 20 + x4) (kv1 : x2 ≤ 300 + x4) : fm_36_p66 X13 Q x1 x2 x4 s := by
  unfold fm_36_p66
  exact sm_36_p67 hQ hX13 (show (180 - x4).toNat ≤ M13 from by omega) hI (show (20 : Int) ≤ x1 ∧ x1 ≤ (199 : Int) from by omega) (show (0 : Int) ≤ x2 ∧ x2 ≤ (479 : Int) from by omega) (show (0 : Int) ≤ x4 ∧ x4 ≤ (179 : Int) from by omega) (show (0 : Int) ≤ 0 ∧ 0 ≤ (1 : Int) from by omega) (show x1 ≤ 20 + x4 from by omega) (show x2 ≤ 300 + x4 from by omega)
theorem sm_36_p13 {X13 : Int → Int → Int → Int → lf_Z → Prop} {Q : Int → lf_Z → Prop} {x1 : Int} {x2 : Int} {x3 : Int} {x4 : Int} {s : lf_Z} (hQ : ∀ (r : Int), (1 ≤ r ∧ r ≤ 200) → Q r s) {M13 : Nat} (hX13 : ∀ (x1 : Int) (x2 : Int) (x3 : Int) (x4 : Int), 20 ≤ x1 ∧ x1 ≤ 200 → 0 ≤ x2 ∧ x2 ≤ 480 → 0 ≤ x3 ∧ x3 ≤ 1 → 0 ≤ x4 ∧ x4 ≤ 180 → (x1 ≤ 20 + x4) → (x2 ≤ 300 + x4) → (180 - x4).toNat < M13 → X13 x1 x2 x3 x4 s) (hM13 : (180 - x4).toNat ≤ M13) (hI : iv_A s.1 s.2.2) (bx1 : 20 ≤ x1 ∧ x1 ≤ 200) (bx2 : 0 ≤ x2 ∧ x2 ≤ 480) (bx3 : 0 ≤ x3 ∧ x3 ≤ 1) (bx4 : 0 ≤ x4 ∧ x4 ≤ 180) (kv0 : x1 ≤ 20 + x4) (kv1 : x2 ≤ 300 + x4) : fm_36_p13 Q X13 x1 x2 x3 x4 s := by
  unfold fm_36_p13
  refine ⟨(show lf_R x4 from lf_Rof (by omega)), ?_⟩
  refine ⟨fun c2 => ?_, fun c2 => ?_⟩
  · skip
    replace c2 : 180 ≤ x4 := c2
    exact hQ 1 (show (1 : Int) ≤ 1 ∧ 1 ≤ (200 : Int) from by omega)
  · skip
    replace c2 : ¬ (180 ≤ x4) := c2
    refine ⟨(show (0 : Int) ≤ x4 ∧ x4 < (180 : Int) from by omega), ?_⟩
    have b3 : (-2147483648) ≤ (ps_byt.getD (x4).toNat 0).toInt ∧ (ps_byt.getD (x4).toNat 0).toInt ≤ 2147483647 := lf_R_i _
    refine ⟨fun c4 => ?_, fun c4 => ?_⟩
    · skip
      replace c4 : (ps_byt.getD (x4).toNat 0).toInt = 32 := c4
      refine ⟨(show lf_R x3 from lf_Rof (by omega)), ?_⟩
      refine ⟨fun c5 => ?_, fun c5 => ?_⟩
      · skip
        replace c5 : x3 = 0 := c5
        exact sm_36_p88 hQ hX13 (show (180 - x4).toNat ≤ M13 from by omega) hI (show (20 : Int) ≤ x1 ∧ x1 ≤ (199 : Int) from by omega) (show (0 : Int) ≤ x4 ∧ x4 ≤ (179 : Int) from by omega) (show x1 ≤ 20 + x4 from by omega)
      · skip
        replace c5 : ¬ (x3 = 0) := c5
        have b7 : 0 ≤ s.1 31 7 ∧ s.1 31 7 ≤ 300 := iv_r31_7 hI
        refine ⟨(show lf_R x2 from lf_Rof (by omega)), ?_⟩
        refine ⟨(show lf_R (s.1 31 7) from lf_Rof (by omega)), ?_⟩
        refine ⟨fun c8 => ?_, fun c8 => ?_⟩
        · skip
          replace c8 : x2 ≠ s.1 31 7 := c8
          exact sm_36_p88 hQ hX13 (show (180 - x4).toNat ≤ M13 from by omega) hI (show (20 : Int) ≤ x1 ∧ x1 ≤ (199 : Int) from by omega) (show (0 : Int) ≤ x4 ∧ x4 ≤ (179 : Int) from by omega) (show x1 ≤ 20 + x4 from by omega)
        · skip
          replace c8 : ¬ (x2 ≠ s.1 31 7) := c8
          exact hQ x1 (show (1 : Int) ≤ x1 ∧ x1 ≤ (200 : Int) from by omega)
    · skip
      replace c4 : ¬ ((ps_byt.getD (x4).toNat 0).toInt = 32) := c4
      refine ⟨(show lf_R x3 from lf_Rof (by omega)), ?_⟩
      refine ⟨fun c9 => ?_, fun c9 => ?_⟩
      · skip
        replace c9 : x3 = 0 := c9
        exact sm_36_p66 hQ hX13 (show (180 - x4).toNat ≤ M13 from by omega) hI (show (20 : Int) ≤ x1 ∧ x1 ≤ (199 : Int) from by omega) (show (0 : Int) ≤ x2 ∧ x2 ≤ (479 : Int) from by omega) (show (0 : Int) ≤ x4 ∧ x4 ≤ (179 : Int) from by omega) (show x1 ≤ 20 + x4 from by omega) (show x2 ≤ 300 + x4 from by omega)
      · skip
        replace c9 : ¬ (x3 = 0) := c9
        have b10 : 0 ≤ s.1 31 7 ∧ s.1 31 7 ≤ 300 := iv_r31_7 hI
        refine ⟨(show lf_R x2 from lf_Rof (by omega)), ?_⟩
        refine ⟨(show lf_R (s.1 31 7) from lf_Rof (by omega)), ?_⟩
        refine ⟨fun c11 => ?_, fun c11 => ?_⟩
        · skip
          replace c11 : s.1 31 7 ≤ x2 := c11
          exact sm_36_p66 hQ hX13 (show (180 - x4).toNat ≤ M13 from by omega) hI (show (20 : Int) ≤ x1 ∧ x1 ≤ (199 : Int) from by omega) (show (0 : Int) ≤ x2 ∧ x2 ≤ (479 : Int) from by omega) (show (0 : Int) ≤ x4 ∧ x4 ≤ (179 : Int) from by omega) (show x1 ≤ 20 + x4 from by omega) (show x2 ≤ 300 + x4 from by omega)
        · skip
          replace c11 : ¬ (s.1 31 7 ≤ x2) := c11
          refine ⟨(show (0 : Int) ≤ x2 ∧ x2 < (300 : Int) from by omega), ?_⟩
          have b12 : 0 ≤ s.1 32 x2 ∧ s.1 32 x2 ≤ 255 := iv_r32 hI _
          refine ⟨(show lf_R (s.1 32 x2) from lf_Rof (by omega)), ?_⟩
          refine ⟨fun c13 => ?_, fun c13 => ?_⟩
          · skip
            replace c13 : s.1 32 x2 ≠ (ps_byt.getD (x4).toNat 0).toInt := c13
            exact sm_36_p66 hQ hX13 (show (180 - x4).toNat ≤ M13 from by omega) hI (show (20 : Int) ≤ x1 ∧ x1 ≤ (199 : Int) from by omega) (show (0 : Int) ≤ x2 ∧ x2 ≤ (479 : Int) from by omega) (show (0 : Int) ≤ x4 ∧ x4 ≤ (179 : Int) from by omega) (show x1 ≤ 20 + x4 from by omega) (show x2 ≤ 300 + x4 from by omega)
          · skip
            replace c13 : ¬ (s.1 32 x2 ≠ (ps_byt.getD (x4).toNat 0).toInt) := c13
            exact sm_36_p67 hQ hX13 (show (180 - x4).toNat ≤ M13 from by omega) hI (show (20 : Int) ≤ x1 ∧ x1 ≤ (199 : Int) from by omega) (show (0 : Int) ≤ x2 ∧ x2 ≤ (479 : Int) from by omega) (show (0 : Int) ≤ x4 ∧ x4 ≤ (179 : Int) from by omega) (show (0 : Int) ≤ 1 ∧ 1 ≤ (1 : Int) from by omega) (show x1 ≤ 20 + x4 from by omega) (show x2 ≤ 300 + x4 from by omega)
theorem sm_36_p13L {Q : Int → lf_Z → Prop} {x1 : Int} {x2 : Int} {x3 : Int} {x4 : Int} {s : lf_Z} (hQ : ∀ (r : Int), (1 ≤ r ∧ r ≤ 200) → Q r s) (hI : iv_A s.1 s.2.2) (bx1 : 20 ≤ x1 ∧ x1 ≤ 200) (bx2 : 0 ≤ x2 ∧ x2 ≤ 480) (bx3 : 0 ≤ x3 ∧ x3 ≤ 1) (bx4 : 0 ≤ x4 ∧ x4 ≤ 180) (kv0 : x1 ≤ 20 + x4) (kv1 : x2 ≤ 300 + x4) : fm_36_p13L Q x1 x2 x3 x4 s := by
  intro X13 hX
  have key : ∀ (m9 : Nat) (x1 : Int) (x2 : Int) (x3 : Int) (x4 : Int), 20 ≤ x1 ∧ x1 ≤ 200 → 0 ≤ x2 ∧ x2 ≤ 480 → 0 ≤ x3 ∧ x3 ≤ 1 → 0 ≤ x4 ∧ x4 ≤ 180 → (x1 ≤ 20 + x4) → (x2 ≤ 300 + x4) → (180 - x4).toNat < m9 → X13 x1 x2 x3 x4 s := by
    intro m9
    induction m9 with
    | zero => intro x1 x2 x3 x4 bx1 bx2 bx3 bx4 kv0 kv1 h9; exact absurd h9 (Nat.not_lt_zero _)
    | succ m9 ih => intro x1 x2 x3 x4 bx1 bx2 bx3 bx4 kv0 kv1 h9; exact hX _ _ _ _ _ (sm_36_p13 hQ   (fun x1' x2' x3' x4' bx1' bx2' bx3' bx4' kv0' kv1' h8 => ih x1' x2' x3' x4' bx1' bx2' bx3' bx4' kv0' kv1' (by omega)) (Nat.le_refl _)  hI  bx1 bx2 bx3 bx4  kv0 kv1)
  exact key _ _ _ _ _ bx1 bx2 bx3 bx4  kv0 kv1 (Nat.lt_succ_self _)
theorem sm_36 {Q : Int → lf_Z → Prop} {s : lf_Z} (hI : iv_A s.1 s.2.2) (hQ : ∀ (r : Int), (1 ≤ r ∧ r ≤ 200) → Q r s) : fm_36 Q s := by
  unfold fm_36
  have b1 : 0 ≤ s.1 31 9 ∧ s.1 31 9 ≤ 300 := iv_r31_9 hI
  exact sm_36_p13L hQ hI (show (20 : Int) ≤ 20 ∧ 20 ≤ (200 : Int) from by omega) (show (0 : Int) ≤ s.1 31 9 ∧ s.1 31 9 ≤ (480 : Int) from by omega) (show (0 : Int) ≤ 1 ∧ 1 ≤ (1 : Int) from by omega) (show (0 : Int) ≤ 0 ∧ 0 ≤ (180 : Int) from by omega) (show 20 ≤ 20 + 0 from by omega) (show (s.1 31 9) ≤ 300 + 0 from by omega)
-- fm_35 Reader.scanWord 31
theorem sm_35_p90 {Q : lf_Z → Prop} {s : lf_Z} (hQ : ∀  (s' : lf_Z), iv_A s'.1 s'.2.2 → lf_fq [31] 1000000 true s.1 s.2.2 s'.1 s'.2.2 → Q  s') (hI : iv_A s.1 s.2.2) : fm_35_p90 Q s := by
  unfold fm_35_p90
  refine sm_36 hI (fun r26 q7 => ?_)
  have hI8 : iv_A (lf_up s.1 31 8 r26) s.2.2 := iv_w31_8 hI (by omega)
  have fr9 : lf_fq [31] 1000000 true s.1 s.2.2 (lf_up s.1 31 8 r26) s.2.2 := lf_fq_up (lf_fq_rf) rfl (fun h => absurd h (by decide))
  exact hQ (lf_up s.1 31 8 r26, s.2.1, s.2.2) hI8 fr9
theorem sm_35_p39 {Q : lf_Z → Prop} {s : lf_Z} (hQ : ∀  (s' : lf_Z), iv_A s'.1 s'.2.2 → lf_fq [31] 1000000 true s.1 s.2.2 s'.1 s'.2.2 → Q  s') (hI : iv_A s.1 s.2.2) : fm_35_p39 Q s := by
  unfold fm_35_p39
  have b4 : 0 ≤ s.1 31 7 ∧ s.1 31 7 ≤ 300 := iv_r31_7 hI
  have b5 : 0 ≤ s.1 31 9 ∧ s.1 31 9 ≤ 300 := iv_r31_9 hI
  refine ⟨(show lf_R (s.1 31 7) from lf_Rof (by omega)), ?_⟩
  refine ⟨(show lf_R ((s.1 31 9) + 1) from lf_Rof (by omega)), ?_⟩
  refine ⟨fun c6 => ?_, fun c6 => ?_⟩
  · skip
    replace c6 : s.1 31 7 ≠ (s.1 31 9) + 1 := c6
    exact sm_35_p90 hQ hI
  · skip
    replace c6 : ¬ (s.1 31 7 ≠ (s.1 31 9) + 1) := c6
    refine ⟨(show (0 : Int) ≤ s.1 31 9 ∧ s.1 31 9 < (300 : Int) from by omega), ?_⟩
    have b10 : 0 ≤ s.1 32 (s.1 31 9) ∧ s.1 32 (s.1 31 9) ≤ 255 := iv_r32 hI _
    refine ⟨(show lf_R (s.1 32 (s.1 31 9)) from lf_Rof (by omega)), ?_⟩
    refine ⟨fun c11 => ?_, fun c11 => ?_⟩
    · skip
      replace c11 : s.1 32 (s.1 31 9) < 97 := c11
      exact sm_35_p90 hQ hI
    · skip
      replace c11 : ¬ (s.1 32 (s.1 31 9) < 97) := c11
      have hI12 : iv_A (lf_up s.1 31 8 3) s.2.2 := iv_w31_8 hI (by omega)
      have fr13 : lf_fq [31] 1000000 true s.1 s.2.2 (lf_up s.1 31 8 3) s.2.2 := lf_fq_up (lf_fq_rf) rfl (fun h => absurd h (by decide))
      have b14 : (lf_up s.1 31 8 3) 31 9 = s.1 31 9 := lf_up_i (by omega)
      have hI15 : iv_A (lf_up (lf_up s.1 31 8 3) 31 10 ((s.1 32 (s.1 31 9)) - 97)) s.2.2 := iv_w31_10 hI12 (by omega)
      have fr16 : lf_fq [31] 1000000 true s.1 s.2.2 (lf_up (lf_up s.1 31 8 3) 31 10 ((s.1 32 (s.1 31 9)) - 97)) s.2.2 := lf_fq_up fr13 rfl (fun h => absurd h (by decide))
      exact hQ (lf_up (lf_up s.1 31 8 3) 31 10 ((s.1 32 (s.1 31 9)) - 97), s.2.1, s.2.2) hI15 fr16
theorem sm_35_p0 {X0 : lf_Z → Prop} {Q : lf_Z → Prop} {s : lf_Z} (hQ : ∀  (s' : lf_Z), iv_A s'.1 s'.2.2 → lf_fq [31] 1000000 true s.1 s.2.2 s'.1 s'.2.2 → Q  s') {M0 : Nat} (hX0 : ∀ (s' : lf_Z), iv_A s'.1 s'.2.2 → lf_fq [31] 1000000 true s.1 s.2.2 s'.1 s'.2.2 → (300 - s'.1 31 7).toNat < M0 → X0 s') (hM0 : (300 - s.1 31 7).toNat ≤ M0) (hI : iv_A s.1 s.2.2) : fm_35_p0 Q X0 s := by
  unfold fm_35_p0
  have b1 : 0 ≤ s.1 31 7 ∧ s.1 31 7 ≤ 300 := iv_r31_7 hI
  have b2 : 0 ≤ s.1 31 1 ∧ s.1 31 1 ≤ 300 := iv_r31_1 hI
  refine ⟨(show lf_R (s.1 31 7) from lf_Rof (by omega)), ?_⟩
  refine ⟨(show lf_R (s.1 31 1) from lf_Rof (by omega)), ?_⟩
  refine ⟨fun c3 => ?_, fun c3 => ?_⟩
  · skip
    replace c3 : s.1 31 1 ≤ s.1 31 7 := c3
    exact sm_35_p39 hQ hI
  · skip
    replace c3 : ¬ (s.1 31 1 ≤ s.1 31 7) := c3
    refine ⟨(show (0 : Int) ≤ s.1 31 7 ∧ s.1 31 7 < (300 : Int) from by omega), ?_⟩
    have b17 : 0 ≤ s.1 32 (s.1 31 7) ∧ s.1 32 (s.1 31 7) ≤ 255 := iv_r32 hI _
    refine sm_34 hI (show (0 : Int) ≤ s.1 32 (s.1 31 7) ∧ s.1 32 (s.1 31 7) ≤ (255 : Int) from by omega) (fun z31 => ?_)
    refine ⟨fun c19 => ?_, fun c19 => ?_⟩
    · skip
      exact sm_35_p39 hQ hI
    · skip
      have hI20 : iv_A (lf_up s.1 31 7 ((s.1 31 7) + 1)) s.2.2 := iv_w31_7 hI (by omega)
      have fr21 : lf_fq [31] 1000000 true s.1 s.2.2 (lf_up s.1 31 7 ((s.1 31 7) + 1)) s.2.2 := lf_fq_up (lf_fq_rf) rfl (fun h => absurd h (by decide))
      exact hX0  (lf_up s.1 31 7 ((s.1 31 7) + 1), s.2.1, s.2.2) hI20 fr21 (show (300 - ((s.1 31 7) + 1)).toNat < M0 from by omega)
theorem sm_35_p0L {Q : lf_Z → Prop} {s : lf_Z} (hQ : ∀  (s' : lf_Z), iv_A s'.1 s'.2.2 → lf_fq [31] 1000000 true s.1 s.2.2 s'.1 s'.2.2 → Q  s') (hI : iv_A s.1 s.2.2) : fm_35_p0L Q s := by
  intro X0 hX
  have key : ∀ (m9 : Nat) (s' : lf_Z), iv_A s'.1 s'.2.2 → lf_fq [31] 1000000 true s.1 s.2.2 s'.1 s'.2.2 → (300 - s'.1 31 7).toNat < m9 → X0 s' := by
    intro m9
    induction m9 with
    | zero => intro  s' _ _  h9; exact absurd h9 (Nat.not_lt_zero _)
    | succ m9 ih => intro  s' i7 f7  h9; exact hX  _ (sm_35_p0 (fun t9 i9 f9 => hQ t9 i9 (lf_fq_tr f7 f9))   (fun  t8 i8 f8  h8 => ih  t8 i8 (lf_fq_tr f7 f8)  (by omega)) (Nat.le_refl _)  i7    )
  exact key _  s hI lf_fq_rf  (Nat.lt_succ_self _)
theorem sm_35 {Q : lf_Z → Prop} {s : lf_Z} (hI : iv_A s.1 s.2.2) (hQ : ∀  (s' : lf_Z), iv_A s'.1 s'.2.2 → lf_fq [31] 1000000 true s.1 s.2.2 s'.1 s'.2.2 → Q  s') : fm_35 Q s := by
  unfold fm_35
  exact sm_35_p0L hQ hI
-- fm_33 Reader.scanNumber 31
theorem sm_33_p10 {X10 : lf_Z → Prop} {Q : lf_Z → Prop} {s : lf_Z} (hQ : ∀  (s' : lf_Z), iv_A s'.1 s'.2.2 → lf_fq [31] 1000000 true s.1 s.2.2 s'.1 s'.2.2 → Q  s') {M10 : Nat} (hX10 : ∀ (s' : lf_Z), iv_A s'.1 s'.2.2 → lf_fq [31] 1000000 true s.1 s.2.2 s'.1 s'.2.2 → (300 - s'.1 31 7).toNat < M10 → X10 s') (hM10 : (300 - s.1 31 7).toNat ≤ M10) (hI : iv_A s.1 s.2.2) : fm_33_p10 Q X10 s := by
  unfold fm_33_p10
  have b5 : 0 ≤ s.1 31 7 ∧ s.1 31 7 ≤ 300 := iv_r31_7 hI
  have b6 : 0 ≤ s.1 31 1 ∧ s.1 31 1 ≤ 300 := iv_r31_1 hI
  refine ⟨(show lf_R (s.1 31 7) from lf_Rof (by omega)), ?_⟩
  refine ⟨(show lf_R (s.1 31 1) from lf_Rof (by omega)), ?_⟩
  refine ⟨fun c7 => ?_, fun c7 => ?_⟩
  · skip
    replace c7 : s.1 31 1 ≤ s.1 31 7 := c7
    exact hQ s hI (lf_fq_rf)
  · skip
    replace c7 : ¬ (s.1 31 1 ≤ s.1 31 7) := c7
    refine ⟨(show (0 : Int) ≤ s.1 31 7 ∧ s.1 31 7 < (300 : Int) from by omega), ?_⟩
    have b8 : 0 ≤ s.1 32 (s.1 31 7) ∧ s.1 32 (s.1 31 7) ≤ 255 := iv_r32 hI _
    refine sm_32 hI (show (0 : Int) ≤ s.1 32 (s.1 31 7) ∧ s.1 32 (s.1 31 7) ≤ (255 : Int) from by omega) (fun z25 => ?_)
    refine ⟨fun c10 => ?_, fun c10 => ?_⟩
    · skip
      exact hQ s hI (lf_fq_rf)
    · skip
      have b11 : (-2147483648) ≤ s.1 31 10 ∧ s.1 31 10 ≤ 2147483647 := iv_full hI
      have b12 : (-2147483648) ≤ lf_w ((s.1 31 10) * 10) ∧ lf_w ((s.1 31 10) * 10) ≤ 2147483647 := lf_wB
      refine ⟨(show (0 : Int) ≤ s.1 31 7 ∧ s.1 31 7 < (300 : Int) from by omega), ?_⟩
      have b13 : (-2147483648) ≤ lf_w ((lf_w ((s.1 31 10) * 10)) + (s.1 32 (s.1 31 7))) ∧ lf_w ((lf_w ((s.1 31 10) * 10)) + (s.1 32 (s.1 31 7))) ≤ 2147483647 := lf_wB
      have b14 : (-2147483648) ≤ lf_w ((lf_w ((lf_w ((s.1 31 10) * 10)) + (s.1 32 (s.1 31 7)))) - 48) ∧ lf_w ((lf_w ((lf_w ((s.1 31 10) * 10)) + (s.1 32 (s.1 31 7)))) - 48) ≤ 2147483647 := lf_wB
      have hI15 : iv_A (lf_up s.1 31 10 (min 10000 (lf_w ((lf_w ((lf_w ((s.1 31 10) * 10)) + (s.1 32 (s.1 31 7)))) - 48)))) s.2.2 := iv_w31_10 hI (by omega)
      have fr16 : lf_fq [31] 1000000 true s.1 s.2.2 (lf_up s.1 31 10 (min 10000 (lf_w ((lf_w ((lf_w ((s.1 31 10) * 10)) + (s.1 32 (s.1 31 7)))) - 48)))) s.2.2 := lf_fq_up (lf_fq_rf) rfl (fun h => absurd h (by decide))
      have b17 : (lf_up s.1 31 10 (min 10000 (lf_w ((lf_w ((lf_w ((s.1 31 10) * 10)) + (s.1 32 (s.1 31 7)))) - 48)))) 31 7 = s.1 31 7 := lf_up_i (by omega)
      have hI18 : iv_A (lf_up (lf_up s.1 31 10 (min 10000 (lf_w ((lf_w ((lf_w ((s.1 31 10) * 10)) + (s.1 32 (s.1 31 7)))) - 48)))) 31 7 ((s.1 31 7) + 1)) s.2.2 := iv_w31_7 hI15 (by omega)
      have fr19 : lf_fq [31] 1000000 true s.1 s.2.2 (lf_up (lf_up s.1 31 10 (min 10000 (lf_w ((lf_w ((lf_w ((s.1 31 10) * 10)) + (s.1 32 (s.1 31 7)))) - 48)))) 31 7 ((s.1 31 7) + 1)) s.2.2 := lf_fq_up fr16 rfl (fun h => absurd h (by decide))
      exact hX10  (lf_up (lf_up s.1 31 10 (min 10000 (lf_w ((lf_w ((lf_w ((s.1 31 10) * 10)) + (s.1 32 (s.1 31 7)))) - 48)))) 31 7 ((s.1 31 7) + 1), s.2.1, s.2.2) hI18 fr19 (show (300 - ((s.1 31 7) + 1)).toNat < M10 from by omega)
theorem sm_33_p10L {Q : lf_Z → Prop} {s : lf_Z} (hQ : ∀  (s' : lf_Z), iv_A s'.1 s'.2.2 → lf_fq [31] 1000000 true s.1 s.2.2 s'.1 s'.2.2 → Q  s') (hI : iv_A s.1 s.2.2) : fm_33_p10L Q s := by
  intro X10 hX
  have key : ∀ (m9 : Nat) (s' : lf_Z), iv_A s'.1 s'.2.2 → lf_fq [31] 1000000 true s.1 s.2.2 s'.1 s'.2.2 → (300 - s'.1 31 7).toNat < m9 → X10 s' := by
    intro m9
    induction m9 with
    | zero => intro  s' _ _  h9; exact absurd h9 (Nat.not_lt_zero _)
    | succ m9 ih => intro  s' i7 f7  h9; exact hX  _ (sm_33_p10 (fun t9 i9 f9 => hQ t9 i9 (lf_fq_tr f7 f9))   (fun  t8 i8 f8  h8 => ih  t8 i8 (lf_fq_tr f7 f8)  (by omega)) (Nat.le_refl _)  i7    )
  exact key _  s hI lf_fq_rf  (Nat.lt_succ_self _)
theorem sm_33 {Q : lf_Z → Prop} {s : lf_Z} (hI : iv_A s.1 s.2.2) (hQ : ∀  (s' : lf_Z), iv_A s'.1 s'.2.2 → lf_fq [31] 1000000 true s.1 s.2.2 s'.1 s'.2.2 → Q  s') : fm_33 Q s := by
  unfold fm_33
  have hI1 : iv_A (lf_up s.1 31 8 2) s.2.2 := iv_w31_8 hI (by omega)
  have fr2 : lf_fq [31] 1000000 true s.1 s.2.2 (lf_up s.1 31 8 2) s.2.2 := lf_fq_up (lf_fq_rf) rfl (fun h => absurd h (by decide))
  have hI3 : iv_A (lf_up (lf_up s.1 31 8 2) 31 10 0) s.2.2 := iv_w31_10 hI1 (by omega)
  have fr4 : lf_fq [31] 1000000 true s.1 s.2.2 (lf_up (lf_up s.1 31 8 2) 31 10 0) s.2.2 := lf_fq_up fr2 rfl (fun h => absurd h (by decide))
  exact sm_33_p10L (fun t9 i9 f9 => hQ t9 i9 (lf_fq_tr fr4 f9)) hI3
-- fm_31 Reader.advance 31
theorem sm_31_p60 {Q : lf_Z → Prop} {s : lf_Z} (hQ : ∀  (s' : lf_Z), iv_A s'.1 s'.2.2 → lf_fq [31] 1000000 true s.1 s.2.2 s'.1 s'.2.2 → Q  s') (hI : iv_A s.1 s.2.2) : fm_31_p60 Q s := by
  unfold fm_31_p60
  have b6 : 0 ≤ s.1 31 7 ∧ s.1 31 7 ≤ 300 := iv_r31_7 hI
  have hI7 : iv_A (lf_up s.1 31 9 (s.1 31 7)) s.2.2 := iv_w31_9 hI (by omega)
  have fr8 : lf_fq [31] 1000000 true s.1 s.2.2 (lf_up s.1 31 9 (s.1 31 7)) s.2.2 := lf_fq_up (lf_fq_rf) rfl (fun h => absurd h (by decide))
  have b9 : (lf_up s.1 31 9 (s.1 31 7)) 31 7 = s.1 31 7 := lf_up_i (by omega)
  have b10 : 0 ≤ s.1 31 1 ∧ s.1 31 1 ≤ 300 := (show 0 ≤ (lf_up s.1 31 9 (s.1 31 7)) 31 1 ∧ (lf_up s.1 31 9 (s.1 31 7)) 31 1 ≤ 300 from iv_r31_1 hI7)
  have b11 : (lf_up s.1 31 9 (s.1 31 7)) 31 1 = s.1 31 1 := lf_up_i (by omega)
  refine ⟨(show lf_R (s.1 31 7) from lf_Rof (by omega)), ?_⟩
  refine ⟨(show lf_R (s.1 31 1) from lf_Rof (by omega)), ?_⟩
  refine ⟨fun c12 => ?_, fun c12 => ?_⟩
  · skip
    replace c12 : s.1 31 7 < s.1 31 1 := c12
    refine ⟨(show (0 : Int) ≤ s.1 31 7 ∧ s.1 31 7 < (300 : Int) from by omega), ?_⟩
    have b13 : 0 ≤ s.1 32 (s.1 31 7) ∧ s.1 32 (s.1 31 7) ≤ 255 := (show 0 ≤ (lf_up s.1 31 9 (s.1 31 7)) 32 (s.1 31 7) ∧ (lf_up s.1 31 9 (s.1 31 7)) 32 (s.1 31 7) ≤ 255 from iv_r32 hI7 _)
    refine sm_32 hI7 (show (0 : Int) ≤ s.1 32 (s.1 31 7) ∧ s.1 32 (s.1 31 7) ≤ (255 : Int) from by omega) (fun z28 => ?_)
    refine ⟨fun c15 => ?_, fun c15 => ?_⟩
    · skip
      refine ⟨(show (0 : Int) ≤ s.1 31 7 ∧ s.1 31 7 < (300 : Int) from by omega), ?_⟩
      refine sm_34 hI7 (show (0 : Int) ≤ s.1 32 (s.1 31 7) ∧ s.1 32 (s.1 31 7) ≤ (255 : Int) from by omega) (fun z31 => ?_)
      refine ⟨fun c17 => ?_, fun c17 => ?_⟩
      · skip
        refine ⟨(show (0 : Int) ≤ s.1 31 7 ∧ s.1 31 7 < (300 : Int) from by omega), ?_⟩
        refine sm_37 hI7 (show (0 : Int) ≤ s.1 32 (s.1 31 7) ∧ s.1 32 (s.1 31 7) ≤ (255 : Int) from by omega) (show (s.1 31 7) < 300 from by omega) (fun s33 hI19 fr18 => ?_)
        have fr21 : lf_fq [31] 1000000 true s.1 s.2.2 s33.1 s33.2.2 := lf_fq_tr fr8 (lf_fq_wk fr18 rfl (by decide) (by decide))
        exact hQ s33 hI19 fr21
      · skip
        refine sm_35 hI7 (fun s34 hI23 fr22 => ?_)
        have fr25 : lf_fq [31] 1000000 true s.1 s.2.2 s34.1 s34.2.2 := lf_fq_tr fr8 (lf_fq_wk fr22 rfl (by decide) (by decide))
        exact hQ s34 hI23 fr25
    · skip
      refine sm_33 hI7 (fun s35 hI27 fr26 => ?_)
      have fr29 : lf_fq [31] 1000000 true s.1 s.2.2 s35.1 s35.2.2 := lf_fq_tr fr8 (lf_fq_wk fr26 rfl (by decide) (by decide))
      exact hQ s35 hI27 fr29
  · skip
    replace c12 : ¬ (s.1 31 7 < s.1 31 1) := c12
    have hI30 : iv_A (lf_up (lf_up s.1 31 9 (s.1 31 7)) 31 8 0) s.2.2 := iv_w31_8 hI7 (by omega)
    have fr31 : lf_fq [31] 1000000 true s.1 s.2.2 (lf_up (lf_up s.1 31 9 (s.1 31 7)) 31 8 0) s.2.2 := lf_fq_up fr8 rfl (fun h => absurd h (by decide))
    exact hQ (lf_up (lf_up s.1 31 9 (s.1 31 7)) 31 8 0, s.2.1, s.2.2) hI30 fr31
theorem sm_31_p47 {X8 : lf_Z → Prop} {Q : lf_Z → Prop} {s : lf_Z} (hQ : ∀  (s' : lf_Z), iv_A s'.1 s'.2.2 → lf_fq [31] 1000000 true s.1 s.2.2 s'.1 s'.2.2 → Q  s') {M8 : Nat} (hX8 : ∀ (s' : lf_Z), iv_A s'.1 s'.2.2 → lf_fq [31] 1000000 true s.1 s.2.2 s'.1 s'.2.2 → (300 - s'.1 31 7).toNat < M8 → X8 s') (hM8 : (300 - s.1 31 7).toNat ≤ M8) (hI : iv_A s.1 s.2.2) (kv0 : s.1 31 7 < 300) : fm_31_p47 X8 Q s := by
  unfold fm_31_p47
  have b34 : 0 ≤ s.1 31 7 ∧ s.1 31 7 ≤ 300 := iv_r31_7 hI
  have hI35 : iv_A (lf_up s.1 31 7 ((s.1 31 7) + 1)) s.2.2 := iv_w31_7 hI (by omega)
  have fr36 : lf_fq [31] 1000000 true s.1 s.2.2 (lf_up s.1 31 7 ((s.1 31 7) + 1)) s.2.2 := lf_fq_up (lf_fq_rf) rfl (fun h => absurd h (by decide))
  exact hX8  (lf_up s.1 31 7 ((s.1 31 7) + 1), s.2.1, s.2.2) hI35 fr36 (show (300 - ((s.1 31 7) + 1)).toNat < M8 from by omega)
theorem sm_31_p8 {X8 : lf_Z → Prop} {Q : lf_Z → Prop} {s : lf_Z} (hQ : ∀  (s' : lf_Z), iv_A s'.1 s'.2.2 → lf_fq [31] 1000000 true s.1 s.2.2 s'.1 s'.2.2 → Q  s') {M8 : Nat} (hX8 : ∀ (s' : lf_Z), iv_A s'.1 s'.2.2 → lf_fq [31] 1000000 true s.1 s.2.2 s'.1 s'.2.2 → (300 - s'.1 31 7).toNat < M8 → X8 s') (hM8 : (300 - s.1 31 7).toNat ≤ M8) (hI : iv_A s.1 s.2.2) : fm_31_p8 Q X8 s := by
  unfold fm_31_p8
  have b3 : 0 ≤ s.1 31 7 ∧ s.1 31 7 ≤ 300 := iv_r31_7 hI
  have b4 : 0 ≤ s.1 31 1 ∧ s.1 31 1 ≤ 300 := iv_r31_1 hI
  refine ⟨(show lf_R (s.1 31 7) from lf_Rof (by omega)), ?_⟩
  refine ⟨(show lf_R (s.1 31 1) from lf_Rof (by omega)), ?_⟩
  refine ⟨fun c5 => ?_, fun c5 => ?_⟩
  · skip
    replace c5 : s.1 31 1 ≤ s.1 31 7 := c5
    exact sm_31_p60 hQ hI
  · skip
    replace c5 : ¬ (s.1 31 1 ≤ s.1 31 7) := c5
    refine ⟨(show (0 : Int) ≤ s.1 31 7 ∧ s.1 31 7 < (300 : Int) from by omega), ?_⟩
    have b32 : 0 ≤ s.1 32 (s.1 31 7) ∧ s.1 32 (s.1 31 7) ≤ 255 := iv_r32 hI _
    refine ⟨(show lf_R (s.1 32 (s.1 31 7)) from lf_Rof (by omega)), ?_⟩
    refine ⟨fun c33 => ?_, fun c33 => ?_⟩
    · skip
      replace c33 : s.1 32 (s.1 31 7) = 32 := c33
      exact sm_31_p47 hQ hX8 (show (300 - (s.1 31 7)).toNat ≤ M8 from by omega) hI (show (s.1 31 7) < 300 from by omega)
    · skip
      replace c33 : ¬ (s.1 32 (s.1 31 7) = 32) := c33
      refine ⟨fun c37 => ?_, fun c37 => ?_⟩
      · skip
        replace c37 : s.1 32 (s.1 31 7) ≠ 10 := c37
        exact sm_31_p60 hQ hI
      · skip
        replace c37 : ¬ (s.1 32 (s.1 31 7) ≠ 10) := c37
        exact sm_31_p47 hQ hX8 (show (300 - (s.1 31 7)).toNat ≤ M8 from by omega) hI (show (s.1 31 7) < 300 from by omega)
theorem sm_31_p8L {Q : lf_Z → Prop} {s : lf_Z} (hQ : ∀  (s' : lf_Z), iv_A s'.1 s'.2.2 → lf_fq [31] 1000000 true s.1 s.2.2 s'.1 s'.2.2 → Q  s') (hI : iv_A s.1 s.2.2) : fm_31_p8L Q s := by
  intro X8 hX
  have key : ∀ (m9 : Nat) (s' : lf_Z), iv_A s'.1 s'.2.2 → lf_fq [31] 1000000 true s.1 s.2.2 s'.1 s'.2.2 → (300 - s'.1 31 7).toNat < m9 → X8 s' := by
    intro m9
    induction m9 with
    | zero => intro  s' _ _  h9; exact absurd h9 (Nat.not_lt_zero _)
    | succ m9 ih => intro  s' i7 f7  h9; exact hX  _ (sm_31_p8 (fun t9 i9 f9 => hQ t9 i9 (lf_fq_tr f7 f9))   (fun  t8 i8 f8  h8 => ih  t8 i8 (lf_fq_tr f7 f8)  (by omega)) (Nat.le_refl _)  i7    )
  exact key _  s hI lf_fq_rf  (Nat.lt_succ_self _)
theorem sm_31 {Q : lf_Z → Prop} {s : lf_Z} (hI : iv_A s.1 s.2.2) (hQ : ∀  (s' : lf_Z), iv_A s'.1 s'.2.2 → lf_fq [31] 1000000 true s.1 s.2.2 s'.1 s'.2.2 → Q  s') : fm_31 Q s := by
  unfold fm_31
  have b1 : (-2147483648) ≤ s.1 31 2 ∧ s.1 31 2 ≤ 2147483647 := iv_full hI
  refine ⟨(show lf_R (s.1 31 2) from lf_Rof (by omega)), ?_⟩
  refine ⟨fun c2 => ?_, fun c2 => ?_⟩
  · skip
    replace c2 : s.1 31 2 = 0 := c2
    exact sm_31_p8L hQ hI
  · skip
    replace c2 : ¬ (s.1 31 2 = 0) := c2
    exact hQ s hI (lf_fq_rf)
-- fm_40 Script.hasLaw t i
theorem sm_40 {t0 : Nat} {a1 : Int} {Q : Bool → lf_Z → Prop} {s : lf_Z} (htt0 : t0 < 4) (hI : iv_A s.1 s.2.2) (ba1 : 0 ≤ a1 ∧ a1 ≤ 12) (hQ : ∀ (z : Bool), Q z s) : fm_40 t0 a1 Q s := by
  unfold fm_40
  refine ⟨(show lf_R a1 from lf_Rof (by omega)), ?_⟩
  refine ⟨fun c1 => ?_, fun c1 => ?_⟩
  · skip
    replace c1 : a1 < 0 := c1
    exfalso
    omega
  · skip
    replace c1 : ¬ (a1 < 0) := c1
    refine ⟨fun c2 => ?_, fun c2 => ?_⟩
    · skip
      replace c2 : 3 ≤ a1 := c2
      exact hQ false
    · skip
      replace c2 : ¬ (3 ≤ a1) := c2
      refine ⟨(show (0 : Int) ≤ a1 ∧ a1 < (3 : Int) from by omega), ?_⟩
      have b3 : (-2147483648) ≤ s.1 (37 + 7 * t0) a1 ∧ s.1 (37 + 7 * t0) a1 ≤ 2147483647 := iv_full hI
      refine ⟨(show lf_R (s.1 (37 + 7 * t0) a1) from lf_Rof (by omega)), ?_⟩
      refine ⟨fun c4 => ?_, fun c4 => ?_⟩
      · skip
        replace c4 : s.1 (37 + 7 * t0) a1 = (-1) := c4
        exact hQ false
      · skip
        replace c4 : ¬ (s.1 (37 + 7 * t0) a1 = (-1)) := c4
        exact hQ true
-- fm_39 Reader.fail 31 i
theorem sm_39_p20 {Q : lf_Z → Prop} {s : lf_Z} (hQ : ∀  (s' : lf_Z), iv_A s'.1 s'.2.2 → lf_fq [31] 1000000 true s.1 s.2.2 s'.1 s'.2.2 → Q  s') (hI : iv_A s.1 s.2.2) : fm_39_p20 Q s := by
  unfold fm_39_p20
  have hI3 : iv_A (lf_up s.1 31 8 1) s.2.2 := iv_w31_8 hI (by omega)
  have fr4 : lf_fq [31] 1000000 true s.1 s.2.2 (lf_up s.1 31 8 1) s.2.2 := lf_fq_up (lf_fq_rf) rfl (fun h => absurd h (by decide))
  exact hQ (lf_up s.1 31 8 1, s.2.1, s.2.2) hI3 fr4
theorem sm_39 {a1 : Int} {Q : lf_Z → Prop} {s : lf_Z} (hI : iv_A s.1 s.2.2) (ba1 : 1 ≤ a1 ∧ a1 ≤ 6) (hQ : ∀  (s' : lf_Z), iv_A s'.1 s'.2.2 → lf_fq [31] 1000000 true s.1 s.2.2 s'.1 s'.2.2 → Q  s') : fm_39 a1 Q s := by
  unfold fm_39
  have b1 : (-2147483648) ≤ s.1 31 2 ∧ s.1 31 2 ≤ 2147483647 := iv_full hI
  refine ⟨(show lf_R (s.1 31 2) from lf_Rof (by omega)), ?_⟩
  refine ⟨fun c2 => ?_, fun c2 => ?_⟩
  · skip
    replace c2 : s.1 31 2 ≠ 0 := c2
    exact sm_39_p20 hQ hI
  · skip
    replace c2 : ¬ (s.1 31 2 ≠ 0) := c2
    have hI5 : iv_A (lf_up s.1 31 2 a1) s.2.2 := iv_w31_2 hI (by omega)
    have fr6 : lf_fq [31] 1000000 true s.1 s.2.2 (lf_up s.1 31 2 a1) s.2.2 := lf_fq_up (lf_fq_rf) rfl (fun h => absurd h (by decide))
    have b7 : 0 ≤ s.1 31 9 ∧ s.1 31 9 ≤ 300 := (show 0 ≤ (lf_up s.1 31 2 a1) 31 9 ∧ (lf_up s.1 31 2 a1) 31 9 ≤ 300 from iv_r31_9 hI5)
    have b8 : (lf_up s.1 31 2 a1) 31 9 = s.1 31 9 := lf_up_i (by omega)
    have hI9 : iv_A (lf_up (lf_up s.1 31 2 a1) 31 3 (s.1 31 9)) s.2.2 := iv_w31_3 hI5 (by omega)
    have fr10 : lf_fq [31] 1000000 true s.1 s.2.2 (lf_up (lf_up s.1 31 2 a1) 31 3 (s.1 31 9)) s.2.2 := lf_fq_up fr6 rfl (fun h => absurd h (by decide))
    exact sm_39_p20 (fun t9 i9 f9 => hQ t9 i9 (lf_fq_tr fr10 f9)) hI9
-- fm_44 Reader.readNumber 31 i i
theorem sm_44 {a1 : Int} {a2 : Int} {Q : Int → lf_Z → Prop} {s : lf_Z} (hI : iv_A s.1 s.2.2) (ba1 : 0 ≤ a1 ∧ a1 ≤ 99) (ba2 : 0 ≤ a2 ∧ a2 ≤ 9999) (hQ : ∀ (r : Int) (s' : lf_Z), iv_A s'.1 s'.2.2 → lf_fq [31] 1000000 true s.1 s.2.2 s'.1 s'.2.2 → (0 ≤ r ∧ r ≤ 9999) → Q r s') : fm_44 a1 a2 Q s := by
  unfold fm_44
  have b1 : 0 ≤ s.1 31 8 ∧ s.1 31 8 ≤ 300 := iv_r31_8 hI
  refine ⟨(show lf_R (s.1 31 8) from lf_Rof (by omega)), ?_⟩
  refine ⟨fun c2 => ?_, fun c2 => ?_⟩
  · skip
    replace c2 : s.1 31 8 = 2 := c2
    have b3 : (-2147483648) ≤ s.1 31 10 ∧ s.1 31 10 ≤ 2147483647 := iv_full hI
    refine sm_15 hI (show (-2147483648 : Int) ≤ s.1 31 10 ∧ s.1 31 10 ≤ (2147483647 : Int) from by omega) (show (-1 : Int) ≤ a1 ∧ a1 ≤ (99 : Int) from by omega) (show (-2147483648 : Int) ≤ a2 ∧ a2 ≤ (2147483647 : Int) from by omega) (fun z23 q4 => ?_)
    refine ⟨fun c5 => ?_, fun c5 => ?_⟩
    · skip
      have dc5 := q4.1 c5
      refine sm_31 hI (fun s24 hI7 fr6 => ?_)
      have fr9 : lf_fq [31] 1000000 true s.1 s.2.2 s24.1 s24.2.2 := lf_fq_tr (lf_fq_rf) (lf_fq_wk fr6 rfl (by decide) (by decide))
      exact hQ (s.1 31 10) s24 hI7 fr9 (show (0 : Int) ≤ s.1 31 10 ∧ s.1 31 10 ≤ (9999 : Int) from by omega)
    · skip
      have dc5 := q4.2 c5
      refine sm_39 hI (show (1 : Int) ≤ 2 ∧ 2 ≤ (6 : Int) from by omega) (fun s25 hI11 fr10 => ?_)
      have fr13 : lf_fq [31] 1000000 true s.1 s.2.2 s25.1 s25.2.2 := lf_fq_tr (lf_fq_rf) (lf_fq_wk fr10 rfl (by decide) (by decide))
      exact hQ a1 s25 hI11 fr13 (show (0 : Int) ≤ a1 ∧ a1 ≤ (9999 : Int) from by omega)
  · skip
    replace c2 : ¬ (s.1 31 8 = 2) := c2
    refine sm_39 hI (show (1 : Int) ≤ 1 ∧ 1 ≤ (6 : Int) from by omega) (fun s26 hI15 fr14 => ?_)
    have fr17 : lf_fq [31] 1000000 true s.1 s.2.2 s26.1 s26.2.2 := lf_fq_tr (lf_fq_rf) (lf_fq_wk fr14 rfl (by decide) (by decide))
    exact hQ a1 s26 hI15 fr17 (show (0 : Int) ≤ a1 ∧ a1 ≤ (9999 : Int) from by omega)
