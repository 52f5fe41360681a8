-- fm_211 Model.body 95 i i
theorem sm_211 {a1 : Int} {a2 : Int} {Q : Int → lf_Z → Prop} {s : lf_Z} (hI : iv_A s.1 s.2.2) (ba1 : 0 ≤ a1 ∧ a1 ≤ 12) (ba2 : 0 ≤ a2 ∧ a2 ≤ 2819) (hQ : ∀ (r : Int) (s' : lf_Z), iv_A s'.1 s'.2.2 → lf_fq [95, 98, 100, 101, 102, 103] 1000000 true s.1 s.2.2 s'.1 s'.2.2 → (0 ≤ r ∧ r ≤ 5) → Q r s') : fm_211 a1 a2 Q s := by
  unfold fm_211
  refine ⟨(show lf_R a1 from lf_Rof (by omega)), ?_⟩
  refine ⟨fun c1 => ?_, fun c1 => ?_, fun c1 => ?_, fun c1 => ?_, fun c1 => ?_, fun c1 => ?_, fun c1 => ?_, fun c1 => ?_, fun c1 => ?_, fun c1 => ?_, fun c1 => ?_⟩
  · have c1 : a1 < 3 ∨ 12 < a1 := c1
    refine sm_215 hI (show (0 : Int) ≤ a2 ∧ a2 ≤ (2819 : Int) from by omega) (fun r23 s22 hI3 fr2 q4 => ?_)
    have fr5 : lf_fq [95, 98, 100, 101, 102, 103] 1000000 true s.1 s.2.2 s22.1 s22.2.2 := lf_fq_tr (lf_fq_rf) (lf_fq_wk fr2 rfl (by decide) (by decide))
    exact hQ r23 s22 hI3 fr5 (show (0 : Int) ≤ r23 ∧ r23 ≤ (5 : Int) from by omega)
  · have c1 : a1 = 3 := c1
    refine sm_204 hI (show (97 : Int) ≤ 104 ∧ 104 ≤ (116 : Int) from by omega) (show (97 : Int) ≤ 97 ∧ 97 ≤ (117 : Int) from by omega) (show (97 : Int) ≤ 114 ∧ 114 ≤ (122 : Int) from by omega) (show (97 : Int) ≤ 109 ∧ 109 ≤ (117 : Int) from by omega) (fun r25 => ?_)
    refine sm_212 hI (show (0 : Int) ≤ a2 ∧ a2 ≤ (2819 : Int) from by omega) (show (0 : Int) ≤ 0 ∧ 0 ≤ (1 : Int) from by omega) (show (3 : Int) ≤ 3 ∧ 3 ≤ (24 : Int) from by omega) (show (0 : Int) ≤ 0 ∧ 0 ≤ (1 : Int) from by omega) (show (11 : Int) ≤ 99 ∧ 99 ≤ (99 : Int) from by omega) (fun r27 s26 hI8 fr7 q9 => ?_)
    have fr10 : lf_fq [95, 98, 100, 101, 102, 103] 1000000 true s.1 s.2.2 s26.1 s26.2.2 := lf_fq_tr (lf_fq_rf) (lf_fq_wk fr7 rfl (by decide) (by decide))
    exact hQ r27 s26 hI8 fr10 (show (0 : Int) ≤ r27 ∧ r27 ≤ (5 : Int) from by omega)
  · have c1 : a1 = 4 := c1
    refine sm_206 hI (show (97 : Int) ≤ 116 ∧ 116 ≤ (119 : Int) from by omega) (show (97 : Int) ≤ 111 ∧ 111 ≤ (121 : Int) from by omega) (fun r29 => ?_)
    refine sm_212 hI (show (0 : Int) ≤ a2 ∧ a2 ≤ (2819 : Int) from by omega) (show (0 : Int) ≤ 0 ∧ 0 ≤ (1 : Int) from by omega) (show (3 : Int) ≤ 11 ∧ 11 ≤ (24 : Int) from by omega) (show (0 : Int) ≤ 0 ∧ 0 ≤ (1 : Int) from by omega) (show (11 : Int) ≤ 11 ∧ 11 ≤ (99 : Int) from by omega) (fun r31 s30 hI13 fr12 q14 => ?_)
    have fr15 : lf_fq [95, 98, 100, 101, 102, 103] 1000000 true s.1 s.2.2 s30.1 s30.2.2 := lf_fq_tr (lf_fq_rf) (lf_fq_wk fr12 rfl (by decide) (by decide))
    exact hQ r31 s30 hI13 fr15 (show (0 : Int) ≤ r31 ∧ r31 ≤ (5 : Int) from by omega)
  · have c1 : a1 = 5 := c1
    refine sm_206 hI (show (97 : Int) ≤ 116 ∧ 116 ≤ (119 : Int) from by omega) (show (97 : Int) ≤ 111 ∧ 111 ≤ (121 : Int) from by omega) (fun r33 => ?_)
    refine sm_212 hI (show (0 : Int) ≤ a2 ∧ a2 ≤ (2819 : Int) from by omega) (show (0 : Int) ≤ 0 ∧ 0 ≤ (1 : Int) from by omega) (show (3 : Int) ≤ 11 ∧ 11 ≤ (24 : Int) from by omega) (show (0 : Int) ≤ 0 ∧ 0 ≤ (1 : Int) from by omega) (show (11 : Int) ≤ 11 ∧ 11 ≤ (99 : Int) from by omega) (fun r35 s34 hI18 fr17 q19 => ?_)
    have fr20 : lf_fq [95, 98, 100, 101, 102, 103] 1000000 true s.1 s.2.2 s34.1 s34.2.2 := lf_fq_tr (lf_fq_rf) (lf_fq_wk fr17 rfl (by decide) (by decide))
    exact hQ r35 s34 hI18 fr20 (show (0 : Int) ≤ r35 ∧ r35 ≤ (5 : Int) from by omega)
  · have c1 : a1 = 6 := c1
    refine sm_206 hI (show (97 : Int) ≤ 97 ∧ 97 ≤ (119 : Int) from by omega) (show (97 : Int) ≤ 116 ∧ 116 ≤ (121 : Int) from by omega) (fun r37 => ?_)
    refine sm_212 hI (show (0 : Int) ≤ a2 ∧ a2 ≤ (2819 : Int) from by omega) (show (0 : Int) ≤ 0 ∧ 0 ≤ (1 : Int) from by omega) (show (3 : Int) ≤ 9 ∧ 9 ≤ (24 : Int) from by omega) (show (0 : Int) ≤ 0 ∧ 0 ≤ (1 : Int) from by omega) (show (11 : Int) ≤ 11 ∧ 11 ≤ (99 : Int) from by omega) (fun r39 s38 hI23 fr22 q24 => ?_)
    have fr25 : lf_fq [95, 98, 100, 101, 102, 103] 1000000 true s.1 s.2.2 s38.1 s38.2.2 := lf_fq_tr (lf_fq_rf) (lf_fq_wk fr22 rfl (by decide) (by decide))
    exact hQ r39 s38 hI23 fr25 (show (0 : Int) ≤ r39 ∧ r39 ≤ (5 : Int) from by omega)
  · have c1 : a1 = 7 := c1
    refine sm_206 hI (show (97 : Int) ≤ 97 ∧ 97 ≤ (119 : Int) from by omega) (show (97 : Int) ≤ 116 ∧ 116 ≤ (121 : Int) from by omega) (fun r41 => ?_)
    refine sm_212 hI (show (0 : Int) ≤ a2 ∧ a2 ≤ (2819 : Int) from by omega) (show (0 : Int) ≤ 1 ∧ 1 ≤ (1 : Int) from by omega) (show (3 : Int) ≤ 24 ∧ 24 ≤ (24 : Int) from by omega) (show (0 : Int) ≤ 0 ∧ 0 ≤ (1 : Int) from by omega) (show (11 : Int) ≤ 11 ∧ 11 ≤ (99 : Int) from by omega) (fun r43 s42 hI28 fr27 q29 => ?_)
    have fr30 : lf_fq [95, 98, 100, 101, 102, 103] 1000000 true s.1 s.2.2 s42.1 s42.2.2 := lf_fq_tr (lf_fq_rf) (lf_fq_wk fr27 rfl (by decide) (by decide))
    exact hQ r43 s42 hI28 fr30 (show (0 : Int) ≤ r43 ∧ r43 ≤ (5 : Int) from by omega)
  · have c1 : a1 = 8 := c1
    refine sm_206 hI (show (97 : Int) ≤ 116 ∧ 116 ≤ (119 : Int) from by omega) (show (97 : Int) ≤ 111 ∧ 111 ≤ (121 : Int) from by omega) (fun r45 => ?_)
    refine sm_212 hI (show (0 : Int) ≤ a2 ∧ a2 ≤ (2819 : Int) from by omega) (show (0 : Int) ≤ 0 ∧ 0 ≤ (1 : Int) from by omega) (show (3 : Int) ≤ 5 ∧ 5 ≤ (24 : Int) from by omega) (show (0 : Int) ≤ 0 ∧ 0 ≤ (1 : Int) from by omega) (show (11 : Int) ≤ 11 ∧ 11 ≤ (99 : Int) from by omega) (fun r47 s46 hI33 fr32 q34 => ?_)
    have fr35 : lf_fq [95, 98, 100, 101, 102, 103] 1000000 true s.1 s.2.2 s46.1 s46.2.2 := lf_fq_tr (lf_fq_rf) (lf_fq_wk fr32 rfl (by decide) (by decide))
    exact hQ r47 s46 hI33 fr35 (show (0 : Int) ≤ r47 ∧ r47 ≤ (5 : Int) from by omega)
  · have c1 : a1 = 9 := c1
    refine sm_213 hI (show (1 : Int) ≤ a2 + 1 ∧ a2 + 1 ≤ (2821 : Int) from by omega) (show (0 : Int) ≤ 0 ∧ 0 ≤ (1 : Int) from by omega) (show (3 : Int) ≤ 15 ∧ 15 ≤ (99 : Int) from by omega) (fun r49 s48 hI37 fr36 q38 => ?_)
    have fr39 : lf_fq [95, 98, 100, 101, 102, 103] 1000000 true s.1 s.2.2 s48.1 s48.2.2 := lf_fq_tr (lf_fq_rf) (lf_fq_wk fr36 rfl (by decide) (by decide))
    exact hQ r49 s48 hI37 fr39 (show (0 : Int) ≤ r49 ∧ r49 ≤ (5 : Int) from by omega)
  · have c1 : a1 = 10 := c1
    refine sm_213 hI (show (1 : Int) ≤ a2 + 1 ∧ a2 + 1 ≤ (2821 : Int) from by omega) (show (0 : Int) ≤ 0 ∧ 0 ≤ (1 : Int) from by omega) (show (3 : Int) ≤ 15 ∧ 15 ≤ (99 : Int) from by omega) (fun r51 s50 hI41 fr40 q42 => ?_)
    have fr43 : lf_fq [95, 98, 100, 101, 102, 103] 1000000 true s.1 s.2.2 s50.1 s50.2.2 := lf_fq_tr (lf_fq_rf) (lf_fq_wk fr40 rfl (by decide) (by decide))
    exact hQ r51 s50 hI41 fr43 (show (0 : Int) ≤ r51 ∧ r51 ≤ (5 : Int) from by omega)
  · have c1 : a1 = 11 := c1
    refine sm_206 hI (show (97 : Int) ≤ 98 ∧ 98 ≤ (119 : Int) from by omega) (show (97 : Int) ≤ 121 ∧ 121 ≤ (121 : Int) from by omega) (fun r53 => ?_)
    refine sm_212 hI (show (0 : Int) ≤ a2 ∧ a2 ≤ (2819 : Int) from by omega) (show (0 : Int) ≤ 0 ∧ 0 ≤ (1 : Int) from by omega) (show (3 : Int) ≤ 3 ∧ 3 ≤ (24 : Int) from by omega) (show (0 : Int) ≤ 1 ∧ 1 ≤ (1 : Int) from by omega) (show (11 : Int) ≤ 24 ∧ 24 ≤ (99 : Int) from by omega) (fun r55 s54 hI46 fr45 q47 => ?_)
    have fr48 : lf_fq [95, 98, 100, 101, 102, 103] 1000000 true s.1 s.2.2 s54.1 s54.2.2 := lf_fq_tr (lf_fq_rf) (lf_fq_wk fr45 rfl (by decide) (by decide))
    exact hQ r55 s54 hI46 fr48 (show (0 : Int) ≤ r55 ∧ r55 ≤ (5 : Int) from by omega)
  · have c1 : a1 = 12 := c1
    refine sm_213 hI (show (1 : Int) ≤ a2 + 1 ∧ a2 + 1 ≤ (2821 : Int) from by omega) (show (0 : Int) ≤ 1 ∧ 1 ≤ (1 : Int) from by omega) (show (3 : Int) ≤ 60 ∧ 60 ≤ (99 : Int) from by omega) (fun r57 s56 hI50 fr49 q51 => ?_)
    have fr52 : lf_fq [95, 98, 100, 101, 102, 103] 1000000 true s.1 s.2.2 s56.1 s56.2.2 := lf_fq_tr (lf_fq_rf) (lf_fq_wk fr49 rfl (by decide) (by decide))
    exact hQ r57 s56 hI50 fr52 (show (0 : Int) ≤ r57 ∧ r57 ≤ (5 : Int) from by omega)
-- fm_210 Model.has i i
theorem sm_210 {a0 : Int} {a1 : Int} {Q : Bool → lf_Z → Prop} {s : lf_Z} (hI : iv_A s.1 s.2.2) (ba0 : (-2147483648) ≤ a0 ∧ a0 ≤ 2147483647) (ba1 : (-1) ≤ a1 ∧ a1 ≤ 15) (hQ : ∀ (z : Bool), Q z s) : fm_210 a0 a1 Q s := by
  unfold fm_210
  have b1 : (-2147483648) ≤ lf_shr a0 a1 ∧ lf_shr a0 a1 ≤ 2147483647 := lf_shrB
  have b2 : 0 ≤ lf_and (lf_shr a0 a1) 1 ∧ lf_and (lf_shr a0 a1) 1 ≤ 1 := lf_andB (by omega) (by omega)
  refine ⟨fun c3 => ?_, fun c3 => ?_⟩
  · skip
    have c3 : lf_and (lf_shr a0 a1) 1 ≠ 1 := c3
    exact hQ false
  · skip
    have c3 : ¬ (lf_and (lf_shr a0 a1) 1 ≠ 1) := c3
    exact hQ true
-- fm_202 Model.clause 95
theorem sm_202_p65 {Q : Int → lf_Z → Prop} {x1 : Int} {x2 : Int} {s : lf_Z} (hQ : ∀ (r : Int) (s' : lf_Z), iv_A s'.1 s'.2.2 → lf_fq [95, 98, 100, 101, 102, 103] 1000000 true s.1 s.2.2 s'.1 s'.2.2 → (0 ≤ r ∧ r ≤ 6) → Q r s') (hI : iv_A s.1 s.2.2) (bx1 : 0 ≤ x1 ∧ x1 ≤ 12) (bx2 : (-2147483648) ≤ x2 ∧ x2 ≤ 2147483647) : fm_202_p65 Q x1 x2 s := sorry
theorem sm_202_p29 {Q : Int → lf_Z → Prop} {x1 : Int} {s : lf_Z} (hQ : ∀ (r : Int) (s' : lf_Z), iv_A s'.1 s'.2.2 → lf_fq [95, 98, 100, 101, 102, 103] 1000000 true s.1 s.2.2 s'.1 s'.2.2 → (0 ≤ r ∧ r ≤ 6) → Q r s') (hI : iv_A s.1 s.2.2) (bx1 : 0 ≤ x1 ∧ x1 ≤ 12) : fm_202_p29 Q x1 s := sorry
theorem sm_202 {Q : Int → lf_Z → Prop} {s : lf_Z} (hI : iv_A s.1 s.2.2) (hQ : ∀ (r : Int) (s' : lf_Z), iv_A s'.1 s'.2.2 → lf_fq [95, 98, 100, 101, 102, 103] 1000000 true s.1 s.2.2 s'.1 s'.2.2 → (0 ≤ r ∧ r ≤ 6) → Q r s') : fm_202 Q s := by
  unfold fm_202
  refine sm_203 hI (fun r22 q1 => ?_)
  refine ⟨(show lf_R r22 from lf_Rof (by omega)), ?_⟩
  refine ⟨fun c2 => ?_, fun c2 => ?_⟩
  · skip
    have c2 : 0 ≤ r22 := c2
    refine ⟨fun c3 => ?_, fun c3 => ?_⟩
    · skip
      have c3 : 2 < r22 := c3
      exact sm_202_p29 hQ hI (show (0 : Int) ≤ r22 ∧ r22 ≤ (12 : Int) from by omega)
    · skip
      have c3 : ¬ (2 < r22) := c3
      have b40 : (-2147483648) ≤ s.1 95 24 ∧ s.1 95 24 ≤ 2147483647 := iv_full hI
      refine sm_210 hI (show (-2147483648 : Int) ≤ s.1 95 24 ∧ s.1 95 24 ≤ (2147483647 : Int) from by omega) (show (-1 : Int) ≤ r22 ∧ r22 ≤ (15 : Int) from by omega) (fun z36 => ?_)
      refine ⟨fun c42 => ?_, fun c42 => ?_⟩
      · skip
        exact sm_202_p29 hQ hI (show (0 : Int) ≤ r22 ∧ r22 ≤ (12 : Int) from by omega)
      · skip
        exact hQ 4 s hI (lf_fq_rf) (show (0 : Int) ≤ 4 ∧ 4 ≤ (6 : Int) from by omega)
  · skip
    have c2 : ¬ (0 ≤ r22) := c2
    exact hQ 1 s hI (lf_fq_rf) (show (0 : Int) ≤ 1 ∧ 1 ≤ (6 : Int) from by omega)
-- fm_196 Model.readText 95
theorem sm_196_p44 {X44 : lf_Z → Prop} {Q : Int → lf_Z → Prop} {s : lf_Z} (hQ : ∀ (r : Int) (s' : lf_Z), iv_A s'.1 s'.2.2 → lf_fq [95, 98, 100, 101, 102, 103] 1000000 true s.1 s.2.2 s'.1 s'.2.2 → (0 ≤ r ∧ r ≤ 6) → Q r s') {M44 : Nat} (hX44 : ∀ (s' : lf_Z), iv_A s'.1 s'.2.2 → lf_fq [95, 98, 100, 101, 102, 103] 1000000 true s.1 s.2.2 s'.1 s'.2.2 → 0 < M44 → X44 s') (hM44 : 0 ≤ M44) (hI : iv_A s.1 s.2.2) : fm_196_p44 Q X44 s := sorry
theorem sm_196_p44L {Q : Int → lf_Z → Prop} {s : lf_Z} (hQ : ∀ (r : Int) (s' : lf_Z), iv_A s'.1 s'.2.2 → lf_fq [95, 98, 100, 101, 102, 103] 1000000 true s.1 s.2.2 s'.1 s'.2.2 → (0 ≤ r ∧ r ≤ 6) → Q r s') (hI : iv_A s.1 s.2.2) : fm_196_p44L Q s := by
  intro X44 hX
  have key : ∀ (m9 : Nat) (s' : lf_Z), iv_A s'.1 s'.2.2 → lf_fq [95, 98, 100, 101, 102, 103] 1000000 true s.1 s.2.2 s'.1 s'.2.2 → 0 < m9 → X44 s' := by
    intro m9
    induction m9 with
    | zero => intro  s' _ _  h9; exact absurd h9 (Nat.not_lt_zero _)
    | succ m9 ih => intro  s' i7 f7  h9; exact hX  _ (sm_196_p44 (fun r9 t9 i9 f9 => hQ r9 t9 i9 (lf_fq_tr f7 f9))   (fun  t8 i8 f8  h8 => ih  t8 i8 (lf_fq_tr f7 f8)  (by omega)) (Nat.le_refl _)  i7    )
  exact key _  s hI lf_fq_rf  (Nat.lt_succ_self _)
theorem sm_196 {Q : Int → lf_Z → Prop} {s : lf_Z} (hI : iv_A s.1 s.2.2) (hQ : ∀ (r : Int) (s' : lf_Z), iv_A s'.1 s'.2.2 → lf_fq [95, 98, 100, 101, 102, 103] 1000000 true s.1 s.2.2 s'.1 s'.2.2 → (0 ≤ r ∧ r ≤ 6) → Q r s') : fm_196 Q s := sorry
-- fm_195 Model.text 95
theorem sm_195_p37 {Q : Int → lf_Z → Prop} {y1 : Int} {s : lf_Z} (hQ : ∀ (r : Int) (s' : lf_Z), iv_A s'.1 s'.2.2 → lf_fq [95, 96, 98, 100, 101, 102, 103] 7 true s.1 s.2.2 s'.1 s'.2.2 → ((-1) ≤ r ∧ r ≤ 4) → Q r s') (hI : iv_A s.1 s.2.2) (by1 : (-1) ≤ y1 ∧ y1 ≤ 300) : fm_195_p37 Q y1 s := sorry
theorem sm_195 {Q : Int → lf_Z → Prop} {s : lf_Z} (hI : iv_A s.1 s.2.2) (hQ : ∀ (r : Int) (s' : lf_Z), iv_A s'.1 s'.2.2 → lf_fq [95, 96, 98, 100, 101, 102, 103] 7 true s.1 s.2.2 s'.1 s'.2.2 → ((-1) ≤ r ∧ r ≤ 4) → Q r s') : fm_195 Q s := by
  unfold fm_195
  have b1 : 0 ≤ s.1 96 7 ∧ s.1 96 7 ≤ 4 := iv_rd96 hI (iv_f22 (by omega))
  refine ⟨(show lf_R (s.1 96 7) from lf_Rof (by omega)), ?_⟩
  refine ⟨fun c2 => ?_, fun c2 => ?_⟩
  · skip
    have c2 : s.1 96 7 ≠ 4 := c2
    refine sm_196 hI (fun r23 s22 hI4 fr3 q5 => ?_)
    have fr6 : lf_fq [95, 96, 98, 100, 101, 102, 103] 7 true s.1 s.2.2 s22.1 s22.2.2 := lf_fq_tr (lf_fq_rf) (lf_fq_wk fr3 rfl (by decide) (by decide))
    have hI7 : iv_A (lf_up s22.1 95 5 r23) s22.2.2 := iv_w95_5 hI4 (by omega)
    have fr8 : lf_fq [95, 96, 98, 100, 101, 102, 103] 7 true s.1 s.2.2 (lf_up s22.1 95 5 r23) s22.2.2 := lf_fq_up fr6 rfl (fun h => absurd h (by decide))
    refine ⟨(show lf_R r23 from lf_Rof (by omega)), ?_⟩
    refine ⟨fun c9 => ?_, fun c9 => ?_⟩
    · skip
      have c9 : r23 ≠ 0 := c9
      have b10 : 0 ≤ s22.1 95 8 ∧ s22.1 95 8 ≤ 300 := (show 0 ≤ (lf_up s22.1 95 5 r23) 95 8 ∧ (lf_up s22.1 95 5 r23) 95 8 ≤ 300 from iv_r95_8 hI7)
      have b11 : (lf_up s22.1 95 5 r23) 95 8 = s22.1 95 8 := lf_up_i (by omega)
      exact sm_195_p37 (fun r9 t9 i9 f9 => hQ r9 t9 i9 (lf_fq_tr fr8 f9)) hI7 (show (-1 : Int) ≤ s22.1 95 8 ∧ s22.1 95 8 ≤ (300 : Int) from by omega)
    · skip
      have c9 : ¬ (r23 ≠ 0) := c9
      exact sm_195_p37 (fun r9 t9 i9 f9 => hQ r9 t9 i9 (lf_fq_tr fr8 f9)) hI7 (show (-1 : Int) ≤ (-1) ∧ (-1) ≤ (300 : Int) from by omega)
  · skip
    have c2 : ¬ (s.1 96 7 ≠ 4) := c2
    exact hQ (-1) s hI (lf_fq_rf) (show (-1 : Int) ≤ (-1) ∧ (-1) ≤ (4 : Int) from by omega)
-- fm_59 ElevenBullocks.fault 0 i
theorem sm_59 {a1 : Int} {Q : Int → lf_Z → Prop} {s : lf_Z} (hI : iv_A s.1 s.2.2) (ba1 : (-2147483648) ≤ a1 ∧ a1 ≤ 2147483647) (hQ : ∀ (r : Int), ((-2147483648) ≤ r ∧ r ≤ 2147483647) → Q r s) : fm_59 a1 Q s := by
  unfold fm_59
  refine ⟨(show lf_R a1 from lf_Rof (by omega)), ?_⟩
  refine ⟨fun c1 => ?_, fun c1 => ?_⟩
  · skip
    have c1 : a1 ≠ 0 := c1
    refine ⟨fun c2 => ?_, fun c2 => ?_⟩
    · skip
      have c2 : a1 ≠ 1 := c2
      exact hQ (-1) (show (-2147483648 : Int) ≤ (-1) ∧ (-1) ≤ (2147483647 : Int) from by omega)
    · skip
      have c2 : ¬ (a1 ≠ 1) := c2
      have b3 : (-2147483648) ≤ s.1 31 3 ∧ s.1 31 3 ≤ 2147483647 := iv_full hI
      exact hQ (s.1 31 3) (show (-2147483648 : Int) ≤ s.1 31 3 ∧ s.1 31 3 ≤ (2147483647 : Int) from by omega)
  · skip
    have c1 : ¬ (a1 ≠ 0) := c1
    have b4 : (-2147483648) ≤ s.1 31 2 ∧ s.1 31 2 ≤ 2147483647 := iv_full hI
    exact hQ (s.1 31 2) (show (-2147483648 : Int) ≤ s.1 31 2 ∧ s.1 31 2 ≤ (2147483647 : Int) from by omega)
-- fm_236 Model.fault 95 i
theorem sm_236 {a1 : Int} {Q : Int → lf_Z → Prop} {s : lf_Z} (hI : iv_A s.1 s.2.2) (ba1 : (-2147483648) ≤ a1 ∧ a1 ≤ 2147483647) (hQ : ∀ (r : Int), ((-2147483648) ≤ r ∧ r ≤ 2147483647) → Q r s) : fm_236 a1 Q s := by
  unfold fm_236
  refine ⟨(show lf_R a1 from lf_Rof (by omega)), ?_⟩
  refine ⟨fun c1 => ?_, fun c1 => ?_⟩
  · skip
    have c1 : a1 ≠ 0 := c1
    refine ⟨fun c2 => ?_, fun c2 => ?_⟩
    · skip
      have c2 : a1 ≠ 1 := c2
      exact hQ (-1) (show (-2147483648 : Int) ≤ (-1) ∧ (-1) ≤ (2147483647 : Int) from by omega)
    · skip
      have c2 : ¬ (a1 ≠ 1) := c2
      have b3 : (-2147483648) ≤ s.1 95 6 ∧ s.1 95 6 ≤ 2147483647 := iv_full hI
      exact hQ (s.1 95 6) (show (-2147483648 : Int) ≤ s.1 95 6 ∧ s.1 95 6 ≤ (2147483647 : Int) from by omega)
  · skip
    have c1 : ¬ (a1 ≠ 0) := c1
    have b4 : (-2147483648) ≤ s.1 95 5 ∧ s.1 95 5 ≤ 2147483647 := iv_full hI
    exact hQ (s.1 95 5) (show (-2147483648 : Int) ≤ s.1 95 5 ∧ s.1 95 5 ≤ (2147483647 : Int) from by omega)
-- fm_62 ElevenBullocks.scriptOf 0 i
theorem sm_62_p28 {Q : Option Nat → lf_Z → Prop} {s : lf_Z} (hQ : ∀ (r : Option Nat), (∀ t : Nat, r = some t → t < 4) → Q r s) (hI : iv_A s.1 s.2.2) : fm_62_p28 Q s := by
  unfold fm_62_p28
  exact hQ none (fun t e => by cases e)
theorem sm_62 {a1 : Int} {Q : Option Nat → lf_Z → Prop} {s : lf_Z} (hI : iv_A s.1 s.2.2) (ba1 : (-2147483648) ≤ a1 ∧ a1 ≤ 2147483647) (hQ : ∀ (r : Option Nat), (∀ t : Nat, r = some t → t < 4) → Q r s) : fm_62 a1 Q s := by
  unfold fm_62
  have b1 : 0 ≤ s.1 0 11 ∧ s.1 0 11 ≤ 4 := iv_r0_11 hI
  refine sm_15 hI (show (-2147483648 : Int) ≤ a1 ∧ a1 ≤ (2147483647 : Int) from by omega) (show (-1 : Int) ≤ 0 ∧ 0 ≤ (99 : Int) from by omega) (show (-2147483648 : Int) ≤ (s.1 0 11) - 1 ∧ (s.1 0 11) - 1 ≤ (2147483647 : Int) from by omega) (fun z22 q2 => ?_)
  refine ⟨fun c3 => ?_, fun c3 => ?_⟩
  · skip
    have dc3 := q2.2 c3
    exact sm_62_p28 hQ hI
  · skip
    have dc3 := q2.1 c3
    refine ⟨(show lf_R a1 from lf_Rof (by omega)), ?_⟩
    refine ⟨fun c4 => ?_, fun c4 => ?_⟩
    · skip
      have c4 : 4 ≤ a1 := c4
      exfalso
      omega
    · skip
      have c4 : ¬ (4 ≤ a1) := c4
      refine ⟨(show (0 : Int) ≤ a1 ∧ a1 < (4 : Int) from by omega), ?_⟩
      intro t25 et25
      have htt25 : t25 < 4 := by have e9 : t25 = (a1).toNat := et25; omega
      exact hQ (some t25) (fun t e => by cases e; exact htt25)
-- fm_61 ElevenBullocks.rule 0 i
theorem sm_61 {a1 : Int} {Q : lf_Z → Prop} {s : lf_Z} (hI : iv_A s.1 s.2.2) (ba1 : (-1) ≤ a1 ∧ a1 ≤ 3) (hQ : ∀  (s' : lf_Z), iv_A s'.1 s'.2.2 → lf_fq [0] 1000000 false s.1 s.2.2 s'.1 s'.2.2 → Q  s') : fm_61 a1 Q s := by
  unfold fm_61
  have hI1 : iv_A (lf_up s.1 0 12 a1) s.2.2 := iv_w0_12 hI (by omega)
  have fr2 : lf_fq [0] 1000000 false s.1 s.2.2 (lf_up s.1 0 12 a1) s.2.2 := lf_fq_up (lf_fq_rf) rfl (fun h => absurd h (by decide))
  refine sm_62 hI1 (show (-2147483648 : Int) ≤ a1 ∧ a1 ≤ (2147483647 : Int) from by omega) (fun r23 q3 => ?_)
  refine ⟨fun et22 => ?_, fun t22 et22 => ?_⟩
  · skip
    have hI4 : iv_A (lf_up s.1 0 12 a1) (lf_ur s.2.2 3 none) := iv_un3 hI1
    have fr5 : lf_fq [0] 1000000 false s.1 s.2.2 (lf_up s.1 0 12 a1) (lf_ur s.2.2 3 none) := lf_fq_pp fr2
    exact hQ (lf_up s.1 0 12 a1, s.2.1, lf_ur s.2.2 3 none) hI4 fr5
  · have htt22 : t22 < 4 := q3 t22 et22
    refine ⟨htt22, ?_⟩
    have hI6 : iv_A (lf_up s.1 0 12 a1) (lf_ur s.2.2 3 (some t22)) := iv_ut3 hI1 htt22
    have fr7 : lf_fq [0] 1000000 false s.1 s.2.2 (lf_up s.1 0 12 a1) (lf_ur s.2.2 3 (some t22)) := lf_fq_pp fr2
    exact hQ (lf_up s.1 0 12 a1, s.2.1, lf_ur s.2.2 3 (some t22)) hI6 fr7
-- fm_60 ElevenBullocks.by 0 i
theorem sm_60 {a1 : Int} {Q : Bool → lf_Z → Prop} {s : lf_Z} (hI : iv_A s.1 s.2.2) (ba1 : (-2147483648) ≤ a1 ∧ a1 ≤ 2147483647) (hQ : ∀ (z : Bool) (s' : lf_Z), iv_A s'.1 s'.2.2 → lf_fq [0] 1000000 false s.1 s.2.2 s'.1 s'.2.2 → Q z s') : fm_60 a1 Q s := by
  unfold fm_60
  have b1 : 0 ≤ s.1 0 11 ∧ s.1 0 11 ≤ 4 := iv_r0_11 hI
  refine sm_15 hI (show (-2147483648 : Int) ≤ a1 ∧ a1 ≤ (2147483647 : Int) from by omega) (show (-1 : Int) ≤ (-1) ∧ (-1) ≤ (99 : Int) from by omega) (show (-2147483648 : Int) ≤ (s.1 0 11) - 1 ∧ (s.1 0 11) - 1 ≤ (2147483647 : Int) from by omega) (fun z22 q2 => ?_)
  refine ⟨fun c3 => ?_, fun c3 => ?_⟩
  · skip
    have dc3 := q2.1 c3
    refine sm_61 hI (show (-1 : Int) ≤ a1 ∧ a1 ≤ (3 : Int) from by omega) (fun s23 hI5 fr4 => ?_)
    have fr7 : lf_fq [0] 1000000 false s.1 s.2.2 s23.1 s23.2.2 := lf_fq_tr (lf_fq_rf) (lf_fq_wk fr4 rfl (by decide) (by decide))
    exact hQ true s23 hI5 fr7
  · skip
    have dc3 := q2.2 c3
    exact hQ false s hI (lf_fq_rf)
-- fm_237 Model.by 95 i
theorem sm_237 {a1 : Int} {Q : Bool → lf_Z → Prop} {s : lf_Z} (hI : iv_A s.1 s.2.2) (ba1 : (-2147483648) ≤ a1 ∧ a1 ≤ 2147483647) (hQ : ∀ (z : Bool) (s' : lf_Z), iv_A s'.1 s'.2.2 → lf_fq [96] 8 true s.1 s.2.2 s'.1 s'.2.2 → Q z s') : fm_237 a1 Q s := by
  unfold fm_237
  have b1 : 0 ≤ s.1 96 7 ∧ s.1 96 7 ≤ 4 := iv_rd96 hI (iv_f22 (by omega))
  refine sm_183 hI (show (-2147483648 : Int) ≤ a1 ∧ a1 ≤ (2147483647 : Int) from by omega) (show (-1 : Int) ≤ (-1) ∧ (-1) ≤ (97 : Int) from by omega) (show (-2147483648 : Int) ≤ (s.1 96 7) - 1 ∧ (s.1 96 7) - 1 ≤ (2147483647 : Int) from by omega) (fun z22 q2 => ?_)
  refine ⟨fun c3 => ?_, fun c3 => ?_⟩
  · skip
    have dc3 := q2.1 c3
    have hI4 : iv_A (lf_up s.1 96 8 a1) s.2.2 := iv_wd96 hI (lf_le2 (iv_f31 (by omega)) (by omega)) (fun h => absurd h (by omega))
    have fr5 : lf_fq [96] 8 true s.1 s.2.2 (lf_up s.1 96 8 a1) s.2.2 := lf_fq_up (lf_fq_rf) rfl (fun _ => by omega)
    exact hQ true (lf_up s.1 96 8 a1, s.2.1, s.2.2) hI4 fr5
  · skip
    have dc3 := q2.2 c3
    exact hQ false s hI (lf_fq_rf)
-- fm_65 Stand.sum 16
theorem sm_65_p10 {X10 : Int → Int → lf_Z → Prop} {Q : Int → lf_Z → Prop} {x1 : Int} {x3 : Int} {x4 : Int} {s : lf_Z} (hQ : ∀ (r : Int), ((-2147483648) ≤ r ∧ r ≤ 2147483647) → Q r s) {M10 : Nat} (hX10 : ∀ (x1 : Int) (x4 : Int), (-2147483648) ≤ x1 ∧ x1 ≤ 2147483647 → 0 ≤ x4 ∧ x4 ≤ 4 → (4 - x4).toNat < M10 → X10 x1 x4 s) (hM10 : (4 - x4).toNat ≤ M10) (hI : iv_A s.1 s.2.2) (bx1 : (-2147483648) ≤ x1 ∧ x1 ≤ 2147483647) (bx3 : 4 ≤ x3 ∧ x3 ≤ 4) (bx4 : 0 ≤ x4 ∧ x4 ≤ 4) : fm_65_p10 Q x3 X10 x1 x4 s := by
  unfold fm_65_p10
  refine ⟨(show lf_R x4 from lf_Rof (by omega)), ?_⟩
  refine ⟨(show lf_R x3 from lf_Rof (by omega)), ?_⟩
  refine ⟨fun c1 => ?_, fun c1 => ?_⟩
  · skip
    have c1 : x3 ≤ x4 := c1
    exact hQ x1 (show (-2147483648 : Int) ≤ x1 ∧ x1 ≤ (2147483647 : Int) from by omega)
  · skip
    have c1 : ¬ (x3 ≤ x4) := c1
    refine ⟨(show (0 : Int) ≤ x4 ∧ x4 < (4 : Int) from by omega), ?_⟩
    have b2 : (-2147483648) ≤ s.1 16 x4 ∧ s.1 16 x4 ≤ 2147483647 := iv_full hI
    have b3 : (-2147483648) ≤ lf_w (x1 + (s.1 16 x4)) ∧ lf_w (x1 + (s.1 16 x4)) ≤ 2147483647 := lf_wB
    exact hX10 (lf_w (x1 + (s.1 16 x4))) (x4 + 1) (show (-2147483648 : Int) ≤ lf_w (x1 + (s.1 16 x4)) ∧ lf_w (x1 + (s.1 16 x4)) ≤ (2147483647 : Int) from by omega) (show (0 : Int) ≤ x4 + 1 ∧ x4 + 1 ≤ (4 : Int) from by omega) (show (4 - (x4 + 1)).toNat < M10 from by omega)
theorem sm_65_p10L {Q : Int → lf_Z → Prop} {x1 : Int} {x3 : Int} {x4 : Int} {s : lf_Z} (hQ : ∀ (r : Int), ((-2147483648) ≤ r ∧ r ≤ 2147483647) → Q r s) (hI : iv_A s.1 s.2.2) (bx1 : (-2147483648) ≤ x1 ∧ x1 ≤ 2147483647) (bx3 : 4 ≤ x3 ∧ x3 ≤ 4) (bx4 : 0 ≤ x4 ∧ x4 ≤ 4) : fm_65_p10L Q x1 x3 x4 s := by
  intro X10 hX
  have key : ∀ (m9 : Nat) (x1 : Int) (x4 : Int), (-2147483648) ≤ x1 ∧ x1 ≤ 2147483647 → 0 ≤ x4 ∧ x4 ≤ 4 → (4 - x4).toNat < m9 → X10 x1 x4 s := by
    intro m9
    induction m9 with
    | zero => intro x1 x4 bx1 bx4 h9; exact absurd h9 (Nat.not_lt_zero _)
    | succ m9 ih => intro x1 x4 bx1 bx4 h9; exact hX _ _ _ (sm_65_p10 hQ   (fun x1' x4' bx1' bx4' h8 => ih x1' x4' bx1' bx4' (by omega)) (Nat.le_refl _)  hI  bx1 bx3 bx4  )
  exact key _ _ _ bx1 bx4   (Nat.lt_succ_self _)
theorem sm_65 {Q : Int → lf_Z → Prop} {s : lf_Z} (hI : iv_A s.1 s.2.2) (hQ : ∀ (r : Int), ((-2147483648) ≤ r ∧ r ≤ 2147483647) → Q r s) : fm_65 Q s := by
  unfold fm_65
  exact sm_65_p10L hQ hI (show (-2147483648 : Int) ≤ 0 ∧ 0 ≤ (2147483647 : Int) from by omega) (show (4 : Int) ≤ 4 ∧ 4 ≤ (4 : Int) from by omega) (show (0 : Int) ≤ 0 ∧ 0 ≤ (4 : Int) from by omega)
-- fm_64 Stand.beasts 15
theorem sm_64 {Q : Int → lf_Z → Prop} {s : lf_Z} (hI : iv_A s.1 s.2.2) (hQ : ∀ (r : Int), ((-2147483648) ≤ r ∧ r ≤ 2147483647) → Q r s) : fm_64 Q s := by
  unfold fm_64
  refine sm_65 hI (fun r22 q1 => ?_)
  exact hQ r22 (show (-2147483648 : Int) ≤ r22 ∧ r22 ≤ (2147483647 : Int) from by omega)
-- fm_66 Stand.freeBunch 15
theorem sm_66_p2 {X2 : Int → lf_Z → Prop} {Q : Int → lf_Z → Prop} {x1 : Int} {s : lf_Z} (hQ : ∀ (r : Int), ((-1) ≤ r ∧ r ≤ 3) → Q r s) {M2 : Nat} (hX2 : ∀ (x1 : Int), 0 ≤ x1 ∧ x1 ≤ 4 → (4 - x1).toNat < M2 → X2 x1 s) (hM2 : (4 - x1).toNat ≤ M2) (hI : iv_A s.1 s.2.2) (bx1 : 0 ≤ x1 ∧ x1 ≤ 4) : fm_66_p2 Q X2 x1 s := by
  unfold fm_66_p2
  refine ⟨(show lf_R x1 from lf_Rof (by omega)), ?_⟩
  refine ⟨fun c1 => ?_, fun c1 => ?_⟩
  · skip
    have c1 : 4 ≤ x1 := c1
    exact hQ (-1) (show (-1 : Int) ≤ (-1) ∧ (-1) ≤ (3 : Int) from by omega)
  · skip
    have c1 : ¬ (4 ≤ x1) := c1
    refine ⟨(show (0 : Int) ≤ x1 ∧ x1 < (4 : Int) from by omega), ?_⟩
    have b2 : (-2147483648) ≤ s.1 16 x1 ∧ s.1 16 x1 ≤ 2147483647 := iv_full hI
    refine ⟨(show lf_R (s.1 16 x1) from lf_Rof (by omega)), ?_⟩
    refine ⟨fun c3 => ?_, fun c3 => ?_⟩
    · skip
      have c3 : s.1 16 x1 ≠ 0 := c3
      exact hX2 (x1 + 1) (show (0 : Int) ≤ x1 + 1 ∧ x1 + 1 ≤ (4 : Int) from by omega) (show (4 - (x1 + 1)).toNat < M2 from by omega)
    · skip
      have c3 : ¬ (s.1 16 x1 ≠ 0) := c3
      exact hQ x1 (show (-1 : Int) ≤ x1 ∧ x1 ≤ (3 : Int) from by omega)
theorem sm_66_p2L {Q : Int → lf_Z → Prop} {x1 : Int} {s : lf_Z} (hQ : ∀ (r : Int), ((-1) ≤ r ∧ r ≤ 3) → Q r s) (hI : iv_A s.1 s.2.2) (bx1 : 0 ≤ x1 ∧ x1 ≤ 4) : fm_66_p2L Q x1 s := by
  intro X2 hX
  have key : ∀ (m9 : Nat) (x1 : Int), 0 ≤ x1 ∧ x1 ≤ 4 → (4 - x1).toNat < m9 → X2 x1 s := by
    intro m9
    induction m9 with
    | zero => intro x1 bx1 h9; exact absurd h9 (Nat.not_lt_zero _)
    | succ m9 ih => intro x1 bx1 h9; exact hX _ _ (sm_66_p2 hQ   (fun x1' bx1' h8 => ih x1' bx1' (by omega)) (Nat.le_refl _)  hI  bx1  )
  exact key _ _ bx1   (Nat.lt_succ_self _)
theorem sm_66 {Q : Int → lf_Z → Prop} {s : lf_Z} (hI : iv_A s.1 s.2.2) (hQ : ∀ (r : Int), ((-1) ≤ r ∧ r ≤ 3) → Q r s) : fm_66 Q s := by
  unfold fm_66
  exact sm_66_p2L hQ hI (show (0 : Int) ≤ 0 ∧ 0 ≤ (4 : Int) from by omega)
-- fm_68 Stand.writeTo 15 23 i
theorem sm_68_p57 {X57 : Int → Int → lf_Z → Prop} {Q : lf_Z → Prop} {x3 : Int} {x4 : Int} {s : lf_Z} (hQ : ∀  (s' : lf_Z), iv_A s'.1 s'.2.2 → lf_fq [23] 1000000 true s.1 s.2.2 s'.1 s'.2.2 → Q  s') {M57 : Nat} (hX57 : ∀ (x3 : Int) (x4 : Int) (s' : lf_Z), iv_A s'.1 s'.2.2 → lf_fq [23] 1000000 true s.1 s.2.2 s'.1 s'.2.2 → 12 ≤ x3 ∧ x3 ≤ 1155 → 0 ≤ x4 ∧ x4 ≤ 6 → (x3 = 39 * s'.1 22 2 + 12 + 2 * x4) → (6 - x4).toNat < M57 → X57 x3 x4 s') (hM57 : (6 - x4).toNat ≤ M57) (hI : iv_A s.1 s.2.2) (bx3 : 12 ≤ x3 ∧ x3 ≤ 1155) (bx4 : 0 ≤ x4 ∧ x4 ≤ 6) (kv0 : x3 = 39 * s.1 22 2 + 12 + 2 * x4) : fm_68_p57 Q X57 x3 x4 s := sorry
theorem sm_68_p57L {Q : lf_Z → Prop} {x3 : Int} {x4 : Int} {s : lf_Z} (hQ : ∀  (s' : lf_Z), iv_A s'.1 s'.2.2 → lf_fq [23] 1000000 true s.1 s.2.2 s'.1 s'.2.2 → Q  s') (hI : iv_A s.1 s.2.2) (bx3 : 12 ≤ x3 ∧ x3 ≤ 1155) (bx4 : 0 ≤ x4 ∧ x4 ≤ 6) (kv0 : x3 = 39 * s.1 22 2 + 12 + 2 * x4) : fm_68_p57L Q x3 x4 s := by
  intro X57 hX
  have key : ∀ (m9 : Nat) (x3 : Int) (x4 : Int) (s' : lf_Z), iv_A s'.1 s'.2.2 → lf_fq [23] 1000000 true s.1 s.2.2 s'.1 s'.2.2 → 12 ≤ x3 ∧ x3 ≤ 1155 → 0 ≤ x4 ∧ x4 ≤ 6 → (x3 = 39 * s'.1 22 2 + 12 + 2 * x4) → (6 - x4).toNat < m9 → X57 x3 x4 s' := by
    intro m9
    induction m9 with
    | zero => intro x3 x4 s' _ _ bx3 bx4 kv0 h9; exact absurd h9 (Nat.not_lt_zero _)
    | succ m9 ih => intro x3 x4 s' i7 f7 bx3 bx4 kv0 h9; exact hX _ _ _ (sm_68_p57 (fun t9 i9 f9 => hQ t9 i9 (lf_fq_tr f7 f9))   (fun x3' x4' t8 i8 f8 bx3' bx4' kv0' h8 => ih x3' x4' t8 i8 (lf_fq_tr f7 f8) bx3' bx4' kv0' (by omega)) (Nat.le_refl _)  i7  bx3 bx4  kv0)
  exact key _ _ _ s hI lf_fq_rf bx3 bx4 kv0 (Nat.lt_succ_self _)
theorem sm_68_p5 {X5 : Int → Int → lf_Z → Prop} {Q : lf_Z → Prop} {x3 : Int} {x4 : Int} {s : lf_Z} (hQ : ∀  (s' : lf_Z), iv_A s'.1 s'.2.2 → lf_fq [23] 1000000 true s.1 s.2.2 s'.1 s'.2.2 → Q  s') {M5 : Nat} (hX5 : ∀ (x3 : Int) (x4 : Int) (s' : lf_Z), iv_A s'.1 s'.2.2 → lf_fq [23] 1000000 true s.1 s.2.2 s'.1 s'.2.2 → 0 ≤ x3 ∧ x3 ≤ 1143 → 0 ≤ x4 ∧ x4 ≤ 4 → (x3 = 39 * s'.1 22 2 + 3 * x4) → (4 - x4).toNat < M5 → X5 x3 x4 s') (hM5 : (4 - x4).toNat ≤ M5) (hI : iv_A s.1 s.2.2) (bx3 : 0 ≤ x3 ∧ x3 ≤ 1143) (bx4 : 0 ≤ x4 ∧ x4 ≤ 4) (kv0 : x3 = 39 * s.1 22 2 + 3 * x4) : fm_68_p5 Q X5 x3 x4 s := sorry
theorem sm_68_p5L {Q : lf_Z → Prop} {x3 : Int} {x4 : Int} {s : lf_Z} (hQ : ∀  (s' : lf_Z), iv_A s'.1 s'.2.2 → lf_fq [23] 1000000 true s.1 s.2.2 s'.1 s'.2.2 → Q  s') (hI : iv_A s.1 s.2.2) (bx3 : 0 ≤ x3 ∧ x3 ≤ 1143) (bx4 : 0 ≤ x4 ∧ x4 ≤ 4) (kv0 : x3 = 39 * s.1 22 2 + 3 * x4) : fm_68_p5L Q x3 x4 s := by
  intro X5 hX
  have key : ∀ (m9 : Nat) (x3 : Int) (x4 : Int) (s' : lf_Z), iv_A s'.1 s'.2.2 → lf_fq [23] 1000000 true s.1 s.2.2 s'.1 s'.2.2 → 0 ≤ x3 ∧ x3 ≤ 1143 → 0 ≤ x4 ∧ x4 ≤ 4 → (x3 = 39 * s'.1 22 2 + 3 * x4) → (4 - x4).toNat < m9 → X5 x3 x4 s' := by
    intro m9
    induction m9 with
    | zero => intro x3 x4 s' _ _ bx3 bx4 kv0 h9; exact absurd h9 (Nat.not_lt_zero _)
    | succ m9 ih => intro x3 x4 s' i7 f7 bx3 bx4 kv0 h9; exact hX _ _ _ (sm_68_p5 (fun t9 i9 f9 => hQ t9 i9 (lf_fq_tr f7 f9))   (fun x3' x4' t8 i8 f8 bx3' bx4' kv0' h8 => ih x3' x4' t8 i8 (lf_fq_tr f7 f8) bx3' bx4' kv0' (by omega)) (Nat.le_refl _)  i7  bx3 bx4  kv0)
  exact key _ _ _ s hI lf_fq_rf bx3 bx4 kv0 (Nat.lt_succ_self _)
theorem sm_68 {a2 : Int} {Q : lf_Z → Prop} {s : lf_Z} (hI : iv_A s.1 s.2.2) (ba2 : 0 ≤ a2 ∧ a2 ≤ 1131) (kp0 : a2 = 39 * s.1 22 2) (hQ : ∀  (s' : lf_Z), iv_A s'.1 s'.2.2 → lf_fq [23] 1000000 true s.1 s.2.2 s'.1 s'.2.2 → Q  s') : fm_68 a2 Q s := by
  unfold fm_68
  have b1 : 0 ≤ s.1 22 2 ∧ s.1 22 2 ≤ 29 := iv_r22_2 hI
  exact sm_68_p5L hQ hI (show (0 : Int) ≤ a2 ∧ a2 ≤ (1143 : Int) from by omega) (show (0 : Int) ≤ 0 ∧ 0 ≤ (4 : Int) from by omega) (show a2 = 39 * (s.1 22 2) + 3 * 0 from by omega)
-- fm_67 Steps.keep 22 15 i
theorem sm_67 {a2 : Int} {Q : lf_Z → Prop} {s : lf_Z} (hI : iv_A s.1 s.2.2) (ba2 : 0 ≤ a2 ∧ a2 ≤ 6) (hQ : ∀  (s' : lf_Z), iv_A s'.1 s'.2.2 → lf_fq [22, 23, 24] 1000000 true s.1 s.2.2 s'.1 s'.2.2 → Q  s') : fm_67 a2 Q s := sorry
-- fm_69 Stand.put 15 i i i i
theorem sm_69 {a1 : Int} {a2 : Int} {a3 : Int} {a4 : Int} {Q : lf_Z → Prop} {s : lf_Z} (hI : iv_A s.1 s.2.2) (ba1 : 0 ≤ a1 ∧ a1 ≤ 3) (ba2 : (-2147483648) ≤ a2 ∧ a2 ≤ 2147483647) (ba3 : (-1) ≤ a3 ∧ a3 ≤ 11) (ba4 : (-1) ≤ a4 ∧ a4 ≤ 11) (kp0 : a2 ≤ 0 ∨ 0 ≤ a3) (hQ : ∀  (s' : lf_Z), iv_A s'.1 s'.2.2 → lf_fq [16, 17, 18] 1000000 true s.1 s.2.2 s'.1 s'.2.2 → Q  s') : fm_69 a1 a2 a3 a4 Q s := by
  unfold fm_69
  refine ⟨by omega, ?_⟩
  exact hQ (lf_up (lf_up (lf_up s.1 16 a1 a2) 17 a1 a3) 18 a1 a4, s.2.1, s.2.2) (iv_put hI ba2 ba3 ba4 kp0) (lf_fq_up (lf_fq_up (lf_fq_up lf_fq_rf rfl (fun h => absurd h (by decide))) rfl (fun h => absurd h (by decide))) rfl (fun h => absurd h (by decide)))
-- fm_63 ElevenBullocks.stray 0 i i
theorem sm_63 {a1 : Int} {a2 : Int} {Q : Int → lf_Z → Prop} {s : lf_Z} (hI : iv_A s.1 s.2.2) (ba1 : (-2147483648) ≤ a1 ∧ a1 ≤ 2147483647) (ba2 : (-2147483648) ≤ a2 ∧ a2 ≤ 2147483647) (hQ : ∀ (r : Int) (s' : lf_Z), iv_A s'.1 s'.2.2 → lf_fq [16, 17, 18, 22, 23, 24] 1000000 true s.1 s.2.2 s'.1 s'.2.2 → ((-1) ≤ r ∧ r ≤ 3) → Q r s') : fm_63 a1 a2 Q s := by
  unfold fm_63
  refine sm_64 hI (fun r22 q1 => ?_)
  have b2 : (-2147483648) ≤ lf_w (24 - r22) ∧ lf_w (24 - r22) ≤ 2147483647 := lf_wB
  refine sm_15 hI (show (-2147483648 : Int) ≤ a1 ∧ a1 ≤ (2147483647 : Int) from by omega) (show (-1 : Int) ≤ 1 ∧ 1 ≤ (99 : Int) from by omega) (show (-2147483648 : Int) ≤ lf_w (24 - r22) ∧ lf_w (24 - r22) ≤ (2147483647 : Int) from by omega) (fun z24 q3 => ?_)
  refine ⟨fun c4 => ?_, fun c4 => ?_⟩
  · skip
    have dc4 := q3.2 c4
    exact hQ (-1) s hI (lf_fq_rf) (show (-1 : Int) ≤ (-1) ∧ (-1) ≤ (3 : Int) from by omega)
  · skip
    have dc4 := q3.1 c4
    refine sm_18 hI (show (-2147483648 : Int) ≤ a2 ∧ a2 ≤ (2147483647 : Int) from by omega) (fun z26 q5 => ?_)
    have b6 : 0 ≤ s.1 1 0 ∧ s.1 1 0 ≤ 12 := iv_r1_0 hI
    refine ⟨fun c7 => ?_, fun c7 => ?_⟩
    · skip
      have dc7 := q5.1 c7
      refine sm_66 hI (fun r28 q8 => ?_)
      refine ⟨(show lf_R r28 from lf_Rof (by omega)), ?_⟩
      refine ⟨fun c9 => ?_, fun c9 => ?_⟩
      · skip
        have c9 : r28 = (-1) := c9
        exact hQ r28 s hI (lf_fq_rf) (show (-1 : Int) ≤ r28 ∧ r28 ≤ (3 : Int) from by omega)
      · skip
        have c9 : ¬ (r28 = (-1)) := c9
        have b10 : 0 ≤ s.1 1 2 ∧ s.1 1 2 ≤ 6 := iv_r1_2 hI
        refine sm_67 hI (show (0 : Int) ≤ s.1 1 2 ∧ s.1 1 2 ≤ (6 : Int) from by omega) (fun s30 hI12 fr11 => ?_)
        have fr14 : lf_fq [16, 17, 18, 22, 23, 24] 1000000 true s.1 s.2.2 s30.1 s30.2.2 := lf_fq_tr (lf_fq_rf) (lf_fq_wk fr11 rfl (by decide) (by decide))
        refine sm_69 hI12 (show (0 : Int) ≤ r28 ∧ r28 ≤ (3 : Int) from by omega) (show (-2147483648 : Int) ≤ a1 ∧ a1 ≤ (2147483647 : Int) from by omega) (show (-1 : Int) ≤ a2 ∧ a2 ≤ (11 : Int) from by omega) (show (-1 : Int) ≤ (-1) ∧ (-1) ≤ (11 : Int) from by omega) (show a1 ≤ 0 ∨ 0 ≤ a2 from by omega) (fun s31 hI16 fr15 => ?_)
        have fr18 : lf_fq [16, 17, 18, 22, 23, 24] 1000000 true s.1 s.2.2 s31.1 s31.2.2 := lf_fq_tr fr14 (lf_fq_wk fr15 rfl (by decide) (by decide))
        exact hQ r28 s31 hI16 fr18 (show (-1 : Int) ≤ r28 ∧ r28 ≤ (3 : Int) from by omega)
    · skip
      have dc7 := q5.2 c7
      exact hQ (-1) s hI (lf_fq_rf) (show (-1 : Int) ≤ (-1) ∧ (-1) ≤ (3 : Int) from by omega)
-- fm_242 Model.sizeOf 95 i
theorem sm_242 {a1 : Int} {Q : Int → lf_Z → Prop} {s : lf_Z} (hI : iv_A s.1 s.2.2) (ba1 : 0 ≤ a1 ∧ a1 ≤ 3) (hQ : ∀ (r : Int), ((-2147483648) ≤ r ∧ r ≤ 2147483647) → Q r s) : fm_242 a1 Q s := by
  unfold fm_242
  refine ⟨(show (0 : Int) ≤ 114 + (3 * a1) ∧ 114 + (3 * a1) < (1538 : Int) from by omega), ?_⟩
  have b1 : (-2147483648) ≤ s.1 96 (114 + (3 * a1)) ∧ s.1 96 (114 + (3 * a1)) ≤ 2147483647 := iv_full hI
  exact hQ (s.1 96 (114 + (3 * a1))) (show (-2147483648 : Int) ≤ s.1 96 (114 + (3 * a1)) ∧ s.1 96 (114 + (3 * a1)) ≤ (2147483647 : Int) from by omega)
-- fm_241 Model.freeBunch 95
theorem sm_241_p2 {X2 : Int → lf_Z → Prop} {Q : Int → lf_Z → Prop} {x1 : Int} {s : lf_Z} (hQ : ∀ (r : Int), ((-1) ≤ r ∧ r ≤ 3) → Q r s) {M2 : Nat} (hX2 : ∀ (x1 : Int), 0 ≤ x1 ∧ x1 ≤ 4 → (4 - x1).toNat < M2 → X2 x1 s) (hM2 : (4 - x1).toNat ≤ M2) (hI : iv_A s.1 s.2.2) (bx1 : 0 ≤ x1 ∧ x1 ≤ 4) : fm_241_p2 Q X2 x1 s := by
  unfold fm_241_p2
  refine ⟨(show lf_R x1 from lf_Rof (by omega)), ?_⟩
  refine ⟨fun c1 => ?_, fun c1 => ?_⟩
  · skip
    have c1 : 4 ≤ x1 := c1
    exact hQ (-1) (show (-1 : Int) ≤ (-1) ∧ (-1) ≤ (3 : Int) from by omega)
  · skip
    have c1 : ¬ (4 ≤ x1) := c1
    refine sm_242 hI (show (0 : Int) ≤ x1 ∧ x1 ≤ (3 : Int) from by omega) (fun r23 q2 => ?_)
    refine ⟨(show lf_R r23 from lf_Rof (by omega)), ?_⟩
    refine ⟨fun c3 => ?_, fun c3 => ?_⟩
    · skip
      have c3 : r23 ≠ 0 := c3
      exact hX2 (x1 + 1) (show (0 : Int) ≤ x1 + 1 ∧ x1 + 1 ≤ (4 : Int) from by omega) (show (4 - (x1 + 1)).toNat < M2 from by omega)
    · skip
      have c3 : ¬ (r23 ≠ 0) := c3
      exact hQ x1 (show (-1 : Int) ≤ x1 ∧ x1 ≤ (3 : Int) from by omega)
theorem sm_241_p2L {Q : Int → lf_Z → Prop} {x1 : Int} {s : lf_Z} (hQ : ∀ (r : Int), ((-1) ≤ r ∧ r ≤ 3) → Q r s) (hI : iv_A s.1 s.2.2) (bx1 : 0 ≤ x1 ∧ x1 ≤ 4) : fm_241_p2L Q x1 s := by
  intro X2 hX
  have key : ∀ (m9 : Nat) (x1 : Int), 0 ≤ x1 ∧ x1 ≤ 4 → (4 - x1).toNat < m9 → X2 x1 s := by
    intro m9
    induction m9 with
    | zero => intro x1 bx1 h9; exact absurd h9 (Nat.not_lt_zero _)
    | succ m9 ih => intro x1 bx1 h9; exact hX _ _ (sm_241_p2 hQ   (fun x1' bx1' h8 => ih x1' bx1' (by omega)) (Nat.le_refl _)  hI  bx1  )
  exact key _ _ bx1   (Nat.lt_succ_self _)
theorem sm_241 {Q : Int → lf_Z → Prop} {s : lf_Z} (hI : iv_A s.1 s.2.2) (hQ : ∀ (r : Int), ((-1) ≤ r ∧ r ≤ 3) → Q r s) : fm_241 Q s := by
  unfold fm_241
  exact sm_241_p2L hQ hI (show (0 : Int) ≤ 0 ∧ 0 ≤ (4 : Int) from by omega)
-- fm_243 Model.beasts 95
theorem sm_243_p4 {X4 : Int → Int → lf_Z → Prop} {Q : Int → lf_Z → Prop} {x1 : Int} {x2 : Int} {s : lf_Z} (hQ : ∀ (r : Int), ((-2147483648) ≤ r ∧ r ≤ 2147483647) → Q r s) {M4 : Nat} (hX4 : ∀ (x1 : Int) (x2 : Int), (-2147483648) ≤ x1 ∧ x1 ≤ 2147483647 → 0 ≤ x2 ∧ x2 ≤ 4 → (4 - x2).toNat < M4 → X4 x1 x2 s) (hM4 : (4 - x2).toNat ≤ M4) (hI : iv_A s.1 s.2.2) (bx1 : (-2147483648) ≤ x1 ∧ x1 ≤ 2147483647) (bx2 : 0 ≤ x2 ∧ x2 ≤ 4) : fm_243_p4 Q X4 x1 x2 s := by
  unfold fm_243_p4
  refine ⟨(show lf_R x2 from lf_Rof (by omega)), ?_⟩
  refine ⟨fun c1 => ?_, fun c1 => ?_⟩
  · skip
    have c1 : 4 ≤ x2 := c1
    exact hQ x1 (show (-2147483648 : Int) ≤ x1 ∧ x1 ≤ (2147483647 : Int) from by omega)
  · skip
    have c1 : ¬ (4 ≤ x2) := c1
    refine sm_242 hI (show (0 : Int) ≤ x2 ∧ x2 ≤ (3 : Int) from by omega) (fun r23 q2 => ?_)
    have b3 : (-2147483648) ≤ lf_w (x1 + r23) ∧ lf_w (x1 + r23) ≤ 2147483647 := lf_wB
    exact hX4 (lf_w (x1 + r23)) (x2 + 1) (show (-2147483648 : Int) ≤ lf_w (x1 + r23) ∧ lf_w (x1 + r23) ≤ (2147483647 : Int) from by omega) (show (0 : Int) ≤ x2 + 1 ∧ x2 + 1 ≤ (4 : Int) from by omega) (show (4 - (x2 + 1)).toNat < M4 from by omega)
theorem sm_243_p4L {Q : Int → lf_Z → Prop} {x1 : Int} {x2 : Int} {s : lf_Z} (hQ : ∀ (r : Int), ((-2147483648) ≤ r ∧ r ≤ 2147483647) → Q r s) (hI : iv_A s.1 s.2.2) (bx1 : (-2147483648) ≤ x1 ∧ x1 ≤ 2147483647) (bx2 : 0 ≤ x2 ∧ x2 ≤ 4) : fm_243_p4L Q x1 x2 s := by
  intro X4 hX
  have key : ∀ (m9 : Nat) (x1 : Int) (x2 : Int), (-2147483648) ≤ x1 ∧ x1 ≤ 2147483647 → 0 ≤ x2 ∧ x2 ≤ 4 → (4 - x2).toNat < m9 → X4 x1 x2 s := by
    intro m9
    induction m9 with
    | zero => intro x1 x2 bx1 bx2 h9; exact absurd h9 (Nat.not_lt_zero _)
    | succ m9 ih => intro x1 x2 bx1 bx2 h9; exact hX _ _ _ (sm_243_p4 hQ   (fun x1' x2' bx1' bx2' h8 => ih x1' x2' bx1' bx2' (by omega)) (Nat.le_refl _)  hI  bx1 bx2  )
  exact key _ _ _ bx1 bx2   (Nat.lt_succ_self _)
theorem sm_243 {Q : Int → lf_Z → Prop} {s : lf_Z} (hI : iv_A s.1 s.2.2) (hQ : ∀ (r : Int), ((-2147483648) ≤ r ∧ r ≤ 2147483647) → Q r s) : fm_243 Q s := by
  unfold fm_243
  exact sm_243_p4L hQ hI (show (-2147483648 : Int) ≤ 0 ∧ 0 ≤ (2147483647 : Int) from by omega) (show (0 : Int) ≤ 0 ∧ 0 ≤ (4 : Int) from by omega)
-- fm_246 Model.doneAt 95 i
theorem sm_246 {a1 : Int} {Q : Int → lf_Z → Prop} {s : lf_Z} (hI : iv_A s.1 s.2.2) (ba1 : 0 ≤ a1 ∧ a1 ≤ 11) (hQ : ∀ (r : Int), ((-2147483648) ≤ r ∧ r ≤ 2147483647) → Q r s) : fm_246 a1 Q s := by
  unfold fm_246
  refine ⟨(show (0 : Int) ≤ (14 + (3 * a1)) + 2 ∧ (14 + (3 * a1)) + 2 < (1538 : Int) from by omega), ?_⟩
  have b1 : (-2147483648) ≤ s.1 96 ((14 + (3 * a1)) + 2) ∧ s.1 96 ((14 + (3 * a1)) + 2) ≤ 2147483647 := iv_full hI
  exact hQ (s.1 96 ((14 + (3 * a1)) + 2)) (show (-2147483648 : Int) ≤ s.1 96 ((14 + (3 * a1)) + 2) ∧ s.1 96 ((14 + (3 * a1)) + 2) ≤ (2147483647 : Int) from by omega)
-- fm_239 Model.get 95 i 3
theorem sm_239 {a1 : Int} {Q : Int → lf_Z → Prop} {s : lf_Z} (hI : iv_A s.1 s.2.2) (ba1 : 0 ≤ a1 ∧ a1 ≤ 5) (hQ : ∀ (r : Int), (0 ≤ r ∧ r ≤ 11) → Q r s) : fm_239 a1 Q s := by
  unfold fm_239
  refine ⟨(show (0 : Int) ≤ (126 + (6 * a1)) + 3 ∧ (126 + (6 * a1)) + 3 < (1538 : Int) from by omega), ?_⟩
  have b1 : 0 ≤ s.1 96 ((126 + (6 * a1)) + 3) ∧ s.1 96 ((126 + (6 * a1)) + 3) ≤ 11 := iv_rd96 hI (iv_f52 (a1) (by omega) (by omega))
  exact hQ (s.1 96 ((126 + (6 * a1)) + 3)) (show (0 : Int) ≤ s.1 96 ((126 + (6 * a1)) + 3) ∧ s.1 96 ((126 + (6 * a1)) + 3) ≤ (11 : Int) from by omega)
-- fm_239b Model.get 95 i 4
theorem sm_239b {a1 : Int} {Q : Int → lf_Z → Prop} {s : lf_Z} (hI : iv_A s.1 s.2.2) (ba1 : 0 ≤ a1 ∧ a1 ≤ 5) (hQ : ∀ (r : Int), ((-1) ≤ r ∧ r ≤ 11) → Q r s) : fm_239b a1 Q s := by
  unfold fm_239b
  refine ⟨(show (0 : Int) ≤ (126 + (6 * a1)) + 4 ∧ (126 + (6 * a1)) + 4 < (1538 : Int) from by omega), ?_⟩
  have b1 : (-1) ≤ s.1 96 ((126 + (6 * a1)) + 4) ∧ s.1 96 ((126 + (6 * a1)) + 4) ≤ 11 := iv_rd96 hI (iv_f54 (a1) (by omega) (by omega))
  exact hQ (s.1 96 ((126 + (6 * a1)) + 4)) (show (-1 : Int) ≤ s.1 96 ((126 + (6 * a1)) + 4) ∧ s.1 96 ((126 + (6 * a1)) + 4) ≤ (11 : Int) from by omega)
-- fm_245 Model.isOpen 95 i
theorem sm_245 {a1 : Int} {Q : Bool → lf_Z → Prop} {s : lf_Z} (hI : iv_A s.1 s.2.2) (ba1 : 0 ≤ a1 ∧ a1 ≤ 15) (hQ : ∀ (z : Bool), Q z s) : fm_245 a1 Q s := by
  unfold fm_245
  refine ⟨(show (0 : Int) ≤ (50 + (4 * a1)) + 3 ∧ (50 + (4 * a1)) + 3 < (1538 : Int) from by omega), ?_⟩
  have b1 : (-2147483648) ≤ s.1 96 ((50 + (4 * a1)) + 3) ∧ s.1 96 ((50 + (4 * a1)) + 3) ≤ 2147483647 := iv_full hI
  refine ⟨(show lf_R (s.1 96 ((50 + (4 * a1)) + 3)) from lf_Rof (by omega)), ?_⟩
  refine ⟨fun c2 => ?_, fun c2 => ?_⟩
  · skip
    have c2 : s.1 96 ((50 + (4 * a1)) + 3) ≠ 1 := c2
    exact hQ false
  · skip
    have c2 : ¬ (s.1 96 ((50 + (4 * a1)) + 3) ≠ 1) := c2
    exact hQ true
-- fm_244 Model.keep 95
theorem sm_244_p268 {X268 : Int → lf_Z → Prop} {Q : lf_Z → Prop} {x1 : Int} {x2 : Int} {s : lf_Z} (hQ : ∀  (s' : lf_Z), iv_A s'.1 s'.2.2 → lf_fq [96] 9 true s.1 s.2.2 s'.1 s'.2.2 → Q  s') {M268 : Nat} (hX268 : ∀ (x2 : Int) (s' : lf_Z), iv_A s'.1 s'.2.2 → lf_fq [96] 9 true s.1 s.2.2 s'.1 s'.2.2 → 0 ≤ x2 ∧ x2 ≤ 12 → (x1 = 278 + 42 * s'.1 96 9) → (s'.1 96 9 < 30) → (12 - x2).toNat < M268 → X268 x2 s') (hM268 : (12 - x2).toNat ≤ M268) (hI : iv_A s.1 s.2.2) (bx1 : 278 ≤ x1 ∧ x1 ≤ 1496) (bx2 : 0 ≤ x2 ∧ x2 ≤ 12) (kv0 : x1 = 278 + 42 * s.1 96 9) (kv1 : s.1 96 9 < 30) : fm_244_p268 Q x1 X268 x2 s := sorry
theorem sm_244_p268L {Q : lf_Z → Prop} {x1 : Int} {x2 : Int} {s : lf_Z} (hQ : ∀  (s' : lf_Z), iv_A s'.1 s'.2.2 → lf_fq [96] 9 true s.1 s.2.2 s'.1 s'.2.2 → Q  s') (hI : iv_A s.1 s.2.2) (bx1 : 278 ≤ x1 ∧ x1 ≤ 1496) (bx2 : 0 ≤ x2 ∧ x2 ≤ 12) (kv0 : x1 = 278 + 42 * s.1 96 9) (kv1 : s.1 96 9 < 30) : fm_244_p268L Q x1 x2 s := by
  intro X268 hX
  have key : ∀ (m9 : Nat) (x2 : Int) (s' : lf_Z), iv_A s'.1 s'.2.2 → lf_fq [96] 9 true s.1 s.2.2 s'.1 s'.2.2 → 0 ≤ x2 ∧ x2 ≤ 12 → (x1 = 278 + 42 * s'.1 96 9) → (s'.1 96 9 < 30) → (12 - x2).toNat < m9 → X268 x2 s' := by
    intro m9
    induction m9 with
    | zero => intro x2 s' _ _ bx2 kv0 kv1 h9; exact absurd h9 (Nat.not_lt_zero _)
    | succ m9 ih => intro x2 s' i7 f7 bx2 kv0 kv1 h9; exact hX _ _ (sm_244_p268 (fun t9 i9 f9 => hQ t9 i9 (lf_fq_tr f7 f9))   (fun x2' t8 i8 f8 bx2' kv0' kv1' h8 => ih x2' t8 i8 (lf_fq_tr f7 f8) bx2' kv0' kv1' (by omega)) (Nat.le_refl _)  i7  bx1 bx2  kv0 kv1)
  exact key _ _ s hI lf_fq_rf bx2 kv0 kv1 (Nat.lt_succ_self _)
theorem sm_244_p216 {X216 : Int → lf_Z → Prop} {Q : lf_Z → Prop} {x1 : Int} {x2 : Int} {s : lf_Z} (hQ : ∀  (s' : lf_Z), iv_A s'.1 s'.2.2 → lf_fq [96] 9 true s.1 s.2.2 s'.1 s'.2.2 → Q  s') {M216 : Nat} (hX216 : ∀ (x2 : Int) (s' : lf_Z), iv_A s'.1 s'.2.2 → lf_fq [96] 9 true s.1 s.2.2 s'.1 s'.2.2 → 0 ≤ x2 ∧ x2 ≤ 6 → (x1 = 278 + 42 * s'.1 96 9) → (s'.1 96 9 < 30) → (6 - x2).toNat < M216 → X216 x2 s') (hM216 : (6 - x2).toNat ≤ M216) (hI : iv_A s.1 s.2.2) (bx1 : 278 ≤ x1 ∧ x1 ≤ 1496) (bx2 : 0 ≤ x2 ∧ x2 ≤ 6) (kv0 : x1 = 278 + 42 * s.1 96 9) (kv1 : s.1 96 9 < 30) : fm_244_p216 Q x1 X216 x2 s := sorry
theorem sm_244_p216L {Q : lf_Z → Prop} {x1 : Int} {x2 : Int} {s : lf_Z} (hQ : ∀  (s' : lf_Z), iv_A s'.1 s'.2.2 → lf_fq [96] 9 true s.1 s.2.2 s'.1 s'.2.2 → Q  s') (hI : iv_A s.1 s.2.2) (bx1 : 278 ≤ x1 ∧ x1 ≤ 1496) (bx2 : 0 ≤ x2 ∧ x2 ≤ 6) (kv0 : x1 = 278 + 42 * s.1 96 9) (kv1 : s.1 96 9 < 30) : fm_244_p216L Q x1 x2 s := by
  intro X216 hX
  have key : ∀ (m9 : Nat) (x2 : Int) (s' : lf_Z), iv_A s'.1 s'.2.2 → lf_fq [96] 9 true s.1 s.2.2 s'.1 s'.2.2 → 0 ≤ x2 ∧ x2 ≤ 6 → (x1 = 278 + 42 * s'.1 96 9) → (s'.1 96 9 < 30) → (6 - x2).toNat < m9 → X216 x2 s' := by
    intro m9
    induction m9 with
    | zero => intro x2 s' _ _ bx2 kv0 kv1 h9; exact absurd h9 (Nat.not_lt_zero _)
    | succ m9 ih => intro x2 s' i7 f7 bx2 kv0 kv1 h9; exact hX _ _ (sm_244_p216 (fun t9 i9 f9 => hQ t9 i9 (lf_fq_tr f7 f9))   (fun x2' t8 i8 f8 bx2' kv0' kv1' h8 => ih x2' t8 i8 (lf_fq_tr f7 f8) bx2' kv0' kv1' (by omega)) (Nat.le_refl _)  i7  bx1 bx2  kv0 kv1)
  exact key _ _ s hI lf_fq_rf bx2 kv0 kv1 (Nat.lt_succ_self _)
theorem sm_244_p183 {X183 : Int → lf_Z → Prop} {Q : lf_Z → Prop} {x1 : Int} {x2 : Int} {s : lf_Z} (hQ : ∀  (s' : lf_Z), iv_A s'.1 s'.2.2 → lf_fq [96] 9 true s.1 s.2.2 s'.1 s'.2.2 → Q  s') {M183 : Nat} (hX183 : ∀ (x2 : Int) (s' : lf_Z), iv_A s'.1 s'.2.2 → lf_fq [96] 9 true s.1 s.2.2 s'.1 s'.2.2 → 0 ≤ x2 ∧ x2 ≤ 12 → (x1 = 278 + 42 * s'.1 96 9) → (s'.1 96 9 < 30) → (12 - x2).toNat < M183 → X183 x2 s') (hM183 : (12 - x2).toNat ≤ M183) (hI : iv_A s.1 s.2.2) (bx1 : 278 ≤ x1 ∧ x1 ≤ 1496) (bx2 : 0 ≤ x2 ∧ x2 ≤ 12) (kv0 : x1 = 278 + 42 * s.1 96 9) (kv1 : s.1 96 9 < 30) : fm_244_p183 Q x1 X183 x2 s := sorry
theorem sm_244_p183L {Q : lf_Z → Prop} {x1 : Int} {x2 : Int} {s : lf_Z} (hQ : ∀  (s' : lf_Z), iv_A s'.1 s'.2.2 → lf_fq [96] 9 true s.1 s.2.2 s'.1 s'.2.2 → Q  s') (hI : iv_A s.1 s.2.2) (bx1 : 278 ≤ x1 ∧ x1 ≤ 1496) (bx2 : 0 ≤ x2 ∧ x2 ≤ 12) (kv0 : x1 = 278 + 42 * s.1 96 9) (kv1 : s.1 96 9 < 30) : fm_244_p183L Q x1 x2 s := by
  intro X183 hX
  have key : ∀ (m9 : Nat) (x2 : Int) (s' : lf_Z), iv_A s'.1 s'.2.2 → lf_fq [96] 9 true s.1 s.2.2 s'.1 s'.2.2 → 0 ≤ x2 ∧ x2 ≤ 12 → (x1 = 278 + 42 * s'.1 96 9) → (s'.1 96 9 < 30) → (12 - x2).toNat < m9 → X183 x2 s' := by
    intro m9
    induction m9 with
    | zero => intro x2 s' _ _ bx2 kv0 kv1 h9; exact absurd h9 (Nat.not_lt_zero _)
    | succ m9 ih => intro x2 s' i7 f7 bx2 kv0 kv1 h9; exact hX _ _ (sm_244_p183 (fun t9 i9 f9 => hQ t9 i9 (lf_fq_tr f7 f9))   (fun x2' t8 i8 f8 bx2' kv0' kv1' h8 => ih x2' t8 i8 (lf_fq_tr f7 f8) bx2' kv0' kv1' (by omega)) (Nat.le_refl _)  i7  bx1 bx2  kv0 kv1)
  exact key _ _ s hI lf_fq_rf bx2 kv0 kv1 (Nat.lt_succ_self _)
theorem sm_244_p144 {X110 : Int → lf_Z → Prop} {Q : lf_Z → Prop} {x1 : Int} {x2 : Int} {y1 : Int} {y2 : Int} {y3 : Int} {s : lf_Z} (hQ : ∀  (s' : lf_Z), iv_A s'.1 s'.2.2 → lf_fq [96] 9 true s.1 s.2.2 s'.1 s'.2.2 → Q  s') {M110 : Nat} (hX110 : ∀ (x2 : Int) (s' : lf_Z), iv_A s'.1 s'.2.2 → lf_fq [96] 9 true s.1 s.2.2 s'.1 s'.2.2 → 0 ≤ x2 ∧ x2 ≤ 16 → (x1 = 278 + 42 * s'.1 96 9) → (s'.1 96 9 < 30) → (16 - x2).toNat < M110 → X110 x2 s') (hM110 : (16 - x2).toNat ≤ M110) (hI : iv_A s.1 s.2.2) (bx1 : 278 ≤ x1 ∧ x1 ≤ 1496) (bx2 : 0 ≤ x2 ∧ x2 ≤ 15) (by1 : 280 ≤ y1 ∧ y1 ≤ 1498) (by2 : (-2147483648) ≤ y2 ∧ y2 ≤ 2147483647) (by3 : 0 ≤ y3 ∧ y3 ≤ 32768) (kv0 : x1 = 278 + 42 * s.1 96 9) (kv1 : s.1 96 9 < 30) (kv2 : y1 = x1 + 2) : fm_244_p144 X110 Q x1 x2 y1 y2 y3 s := sorry
theorem sm_244_p110 {X110 : Int → lf_Z → Prop} {Q : lf_Z → Prop} {x1 : Int} {x2 : Int} {s : lf_Z} (hQ : ∀  (s' : lf_Z), iv_A s'.1 s'.2.2 → lf_fq [96] 9 true s.1 s.2.2 s'.1 s'.2.2 → Q  s') {M110 : Nat} (hX110 : ∀ (x2 : Int) (s' : lf_Z), iv_A s'.1 s'.2.2 → lf_fq [96] 9 true s.1 s.2.2 s'.1 s'.2.2 → 0 ≤ x2 ∧ x2 ≤ 16 → (x1 = 278 + 42 * s'.1 96 9) → (s'.1 96 9 < 30) → (16 - x2).toNat < M110 → X110 x2 s') (hM110 : (16 - x2).toNat ≤ M110) (hI : iv_A s.1 s.2.2) (bx1 : 278 ≤ x1 ∧ x1 ≤ 1496) (bx2 : 0 ≤ x2 ∧ x2 ≤ 16) (kv0 : x1 = 278 + 42 * s.1 96 9) (kv1 : s.1 96 9 < 30) : fm_244_p110 Q x1 X110 x2 s := sorry
theorem sm_244_p110L {Q : lf_Z → Prop} {x1 : Int} {x2 : Int} {s : lf_Z} (hQ : ∀  (s' : lf_Z), iv_A s'.1 s'.2.2 → lf_fq [96] 9 true s.1 s.2.2 s'.1 s'.2.2 → Q  s') (hI : iv_A s.1 s.2.2) (bx1 : 278 ≤ x1 ∧ x1 ≤ 1496) (bx2 : 0 ≤ x2 ∧ x2 ≤ 16) (kv0 : x1 = 278 + 42 * s.1 96 9) (kv1 : s.1 96 9 < 30) : fm_244_p110L Q x1 x2 s := by
  intro X110 hX
  have key : ∀ (m9 : Nat) (x2 : Int) (s' : lf_Z), iv_A s'.1 s'.2.2 → lf_fq [96] 9 true s.1 s.2.2 s'.1 s'.2.2 → 0 ≤ x2 ∧ x2 ≤ 16 → (x1 = 278 + 42 * s'.1 96 9) → (s'.1 96 9 < 30) → (16 - x2).toNat < m9 → X110 x2 s' := by
    intro m9
    induction m9 with
    | zero => intro x2 s' _ _ bx2 kv0 kv1 h9; exact absurd h9 (Nat.not_lt_zero _)
    | succ m9 ih => intro x2 s' i7 f7 bx2 kv0 kv1 h9; exact hX _ _ (sm_244_p110 (fun t9 i9 f9 => hQ t9 i9 (lf_fq_tr f7 f9))   (fun x2' t8 i8 f8 bx2' kv0' kv1' h8 => ih x2' t8 i8 (lf_fq_tr f7 f8) bx2' kv0' kv1' (by omega)) (Nat.le_refl _)  i7  bx1 bx2  kv0 kv1)
  exact key _ _ s hI lf_fq_rf bx2 kv0 kv1 (Nat.lt_succ_self _)
theorem sm_244_p58 {Q : lf_Z → Prop} {s : lf_Z} (hQ : ∀  (s' : lf_Z), iv_A s'.1 s'.2.2 → lf_fq [96] 9 true s.1 s.2.2 s'.1 s'.2.2 → Q  s') (hI : iv_A s.1 s.2.2) (kv0 : s.1 96 9 < 30) : fm_244_p58 Q s := sorry
theorem sm_244_p14 {X14 : Int → lf_Z → Prop} {Q : lf_Z → Prop} {x1 : Int} {s : lf_Z} (hQ : ∀  (s' : lf_Z), iv_A s'.1 s'.2.2 → lf_fq [96] 9 true s.1 s.2.2 s'.1 s'.2.2 → Q  s') {M14 : Nat} (hX14 : ∀ (x1 : Int) (s' : lf_Z), iv_A s'.1 s'.2.2 → lf_fq [96] 9 true s.1 s.2.2 s'.1 s'.2.2 → 0 ≤ x1 ∧ x1 ≤ 1218 → (s'.1 96 9 = 30) → (1218 - x1).toNat < M14 → X14 x1 s') (hM14 : (1218 - x1).toNat ≤ M14) (hI : iv_A s.1 s.2.2) (bx1 : 0 ≤ x1 ∧ x1 ≤ 1218) (kv0 : s.1 96 9 = 30) : fm_244_p14 Q X14 x1 s := sorry
theorem sm_244_p14L {Q : lf_Z → Prop} {x1 : Int} {s : lf_Z} (hQ : ∀  (s' : lf_Z), iv_A s'.1 s'.2.2 → lf_fq [96] 9 true s.1 s.2.2 s'.1 s'.2.2 → Q  s') (hI : iv_A s.1 s.2.2) (bx1 : 0 ≤ x1 ∧ x1 ≤ 1218) (kv0 : s.1 96 9 = 30) : fm_244_p14L Q x1 s := by
  intro X14 hX
  have key : ∀ (m9 : Nat) (x1 : Int) (s' : lf_Z), iv_A s'.1 s'.2.2 → lf_fq [96] 9 true s.1 s.2.2 s'.1 s'.2.2 → 0 ≤ x1 ∧ x1 ≤ 1218 → (s'.1 96 9 = 30) → (1218 - x1).toNat < m9 → X14 x1 s' := by
    intro m9
    induction m9 with
    | zero => intro x1 s' _ _ bx1 kv0 h9; exact absurd h9 (Nat.not_lt_zero _)
    | succ m9 ih => intro x1 s' i7 f7 bx1 kv0 h9; exact hX _ _ (sm_244_p14 (fun t9 i9 f9 => hQ t9 i9 (lf_fq_tr f7 f9))   (fun x1' t8 i8 f8 bx1' kv0' h8 => ih x1' t8 i8 (lf_fq_tr f7 f8) bx1' kv0' (by omega)) (Nat.le_refl _)  i7  bx1  kv0)
  exact key _ _ s hI lf_fq_rf bx1 kv0 (Nat.lt_succ_self _)
theorem sm_244 {Q : lf_Z → Prop} {s : lf_Z} (hI : iv_A s.1 s.2.2) (hQ : ∀  (s' : lf_Z), iv_A s'.1 s'.2.2 → lf_fq [96] 9 true s.1 s.2.2 s'.1 s'.2.2 → Q  s') : fm_244 Q s := by
  unfold fm_244
  have b1 : 0 ≤ s.1 96 9 ∧ s.1 96 9 ≤ 30 := iv_rd96 hI (iv_f41 (by omega))
  refine ⟨(show lf_R (s.1 96 9) from lf_Rof (by omega)), ?_⟩
  refine ⟨fun c2 => ?_, fun c2 => ?_⟩
  · skip
    have c2 : s.1 96 9 ≠ 30 := c2
    exact sm_244_p58 hQ hI (show (s.1 96 9) < 30 from by omega)
  · skip
    have c2 : ¬ (s.1 96 9 ≠ 30) := c2
    exact sm_244_p14L hQ hI (show (0 : Int) ≤ 0 ∧ 0 ≤ (1218 : Int) from by omega) (show (s.1 96 9) = 30 from by omega)
-- fm_247 Model.layBunch 95 i i i i
theorem sm_247 {a1 : Int} {a2 : Int} {a3 : Int} {a4 : Int} {Q : lf_Z → Prop} {s : lf_Z} (hI : iv_A s.1 s.2.2) (ba1 : 0 ≤ a1 ∧ a1 ≤ 3) (ba2 : (-2147483648) ≤ a2 ∧ a2 ≤ 2147483647) (ba3 : (-1) ≤ a3 ∧ a3 ≤ 11) (ba4 : (-1) ≤ a4 ∧ a4 ≤ 11) (hQ : ∀  (s' : lf_Z), iv_A s'.1 s'.2.2 → lf_fq [96] 114 true s.1 s.2.2 s'.1 s'.2.2 → Q  s') : fm_247 a1 a2 a3 a4 Q s := sorry
-- fm_240 Model.stray 95 i i
theorem sm_240 {a1 : Int} {a2 : Int} {Q : Int → lf_Z → Prop} {s : lf_Z} (hI : iv_A s.1 s.2.2) (ba1 : (-2147483648) ≤ a1 ∧ a1 ≤ 2147483647) (ba2 : (-2147483648) ≤ a2 ∧ a2 ≤ 2147483647) (hQ : ∀ (r : Int) (s' : lf_Z), iv_A s'.1 s'.2.2 → lf_fq [96] 9 true s.1 s.2.2 s'.1 s'.2.2 → ((-1) ≤ r ∧ r ≤ 3) → Q r s') : fm_240 a1 a2 Q s := by
  unfold fm_240
  refine sm_241 hI (fun r22 q1 => ?_)
  refine sm_183 hI (show (-2147483648 : Int) ≤ a1 ∧ a1 ≤ (2147483647 : Int) from by omega) (show (-1 : Int) ≤ 1 ∧ 1 ≤ (97 : Int) from by omega) (show (-2147483648 : Int) ≤ 24 ∧ 24 ≤ (2147483647 : Int) from by omega) (fun z24 q2 => ?_)
  refine ⟨fun c3 => ?_, fun c3 => ?_⟩
  · skip
    have dc3 := q2.2 c3
    exact hQ (-1) s hI (lf_fq_rf) (show (-1 : Int) ≤ (-1) ∧ (-1) ≤ (3 : Int) from by omega)
  · skip
    have dc3 := q2.1 c3
    refine sm_185 hI (show (-2147483648 : Int) ≤ a2 ∧ a2 ≤ (2147483647 : Int) from by omega) (fun z26 q4 => ?_)
    have b5 : 0 ≤ s.1 96 0 ∧ s.1 96 0 ≤ 12 := iv_rd96 hI (iv_f0 (by omega))
    refine ⟨fun c6 => ?_, fun c6 => ?_⟩
    · skip
      have dc6 := q4.2 c6
      exact hQ (-1) s hI (lf_fq_rf) (show (-1 : Int) ≤ (-1) ∧ (-1) ≤ (3 : Int) from by omega)
    · skip
      have dc6 := q4.1 c6
      refine sm_243 hI (fun r28 q7 => ?_)
      have b8 : (-2147483648) ≤ lf_w (r28 + a1) ∧ lf_w (r28 + a1) ≤ 2147483647 := lf_wB
      refine ⟨fun c9 => ?_, fun c9 => ?_⟩
      · skip
        have c9 : 24 < lf_w (r28 + a1) := c9
        exact hQ (-1) s hI (lf_fq_rf) (show (-1 : Int) ≤ (-1) ∧ (-1) ≤ (3 : Int) from by omega)
      · skip
        have c9 : ¬ (24 < lf_w (r28 + a1)) := c9
        refine ⟨(show lf_R r22 from lf_Rof (by omega)), ?_⟩
        refine ⟨fun c10 => ?_, fun c10 => ?_⟩
        · skip
          have c10 : 0 ≤ r22 := c10
          refine sm_244 hI (fun s30 hI12 fr11 => ?_)
          have fr14 : lf_fq [96] 9 true s.1 s.2.2 s30.1 s30.2.2 := lf_fq_tr (lf_fq_rf) (lf_fq_wk fr11 rfl (by decide) (by decide))
          refine sm_247 hI12 (show (0 : Int) ≤ r22 ∧ r22 ≤ (3 : Int) from by omega) (show (-2147483648 : Int) ≤ a1 ∧ a1 ≤ (2147483647 : Int) from by omega) (show (-1 : Int) ≤ a2 ∧ a2 ≤ (11 : Int) from by omega) (show (-1 : Int) ≤ (-1) ∧ (-1) ≤ (11 : Int) from by omega) (fun s31 hI16 fr15 => ?_)
          have fr18 : lf_fq [96] 9 true s.1 s.2.2 s31.1 s31.2.2 := lf_fq_tr fr14 (lf_fq_wk fr15 rfl (by decide) (by decide))
          exact hQ r22 s31 hI16 fr18 (show (-1 : Int) ≤ r22 ∧ r22 ≤ (3 : Int) from by omega)
        · skip
          have c10 : ¬ (0 ≤ r22) := c10
          exact hQ (-1) s hI (lf_fq_rf) (show (-1 : Int) ≤ (-1) ∧ (-1) ≤ (3 : Int) from by omega)
-- fm_80 Stand.hasBunch 15 i
theorem sm_80 {a1 : Int} {Q : Bool → lf_Z → Prop} {s : lf_Z} (hI : iv_A s.1 s.2.2) (ba1 : (-2147483648) ≤ a1 ∧ a1 ≤ 2147483647) (hQ : ∀ (z : Bool), ((z = true → (0 ≤ a1 ∧ a1 < 4 ∧ 0 < s.1 16 a1)) ∧ (z = false → ¬ (0 ≤ a1 ∧ a1 < 4 ∧ 0 < s.1 16 a1))) → Q z s) : fm_80 a1 Q s := by
  unfold fm_80
  refine ⟨(show lf_R a1 from lf_Rof (by omega)), ?_⟩
  refine ⟨fun c1 => ?_, fun c1 => ?_⟩
  · skip
    have c1 : a1 < 0 := c1
    exact hQ false (lf_pf (by omega))
  · skip
    have c1 : ¬ (a1 < 0) := c1
    refine ⟨fun c2 => ?_, fun c2 => ?_⟩
    · skip
      have c2 : 4 ≤ a1 := c2
      exact hQ false (lf_pf (by omega))
    · skip
      have c2 : ¬ (4 ≤ a1) := c2
      refine ⟨(show (0 : Int) ≤ a1 ∧ a1 < (4 : Int) from by omega), ?_⟩
      have b3 : (-2147483648) ≤ s.1 16 a1 ∧ s.1 16 a1 ≤ 2147483647 := iv_full hI
      refine ⟨(show lf_R (s.1 16 a1) from lf_Rof (by omega)), ?_⟩
      refine ⟨fun c4 => ?_, fun c4 => ?_⟩
      · skip
        have c4 : s.1 16 a1 ≤ 0 := c4
        exact hQ false (lf_pf (by omega))
      · skip
        have c4 : ¬ (s.1 16 a1 ≤ 0) := c4
        exact hQ true (lf_pt (by omega))
-- fm_95 Minutes.doHarm 67
theorem sm_95_p59 {X2 : Int → lf_Z → Prop} {Q : lf_Z → Prop} {x1 : Int} {s : lf_Z} (hQ : ∀  (s' : lf_Z), iv_A s'.1 s'.2.2 → lf_fq [21] 1000000 true s.1 s.2.2 s'.1 s'.2.2 → Q  s') {M2 : Nat} (hX2 : ∀ (x1 : Int) (s' : lf_Z), iv_A s'.1 s'.2.2 → lf_fq [21] 1000000 true s.1 s.2.2 s'.1 s'.2.2 → 0 ≤ x1 ∧ x1 ≤ 4 → (4 - x1).toNat < M2 → X2 x1 s') (hM2 : (4 - x1).toNat ≤ M2) (hI : iv_A s.1 s.2.2) (bx1 : 0 ≤ x1 ∧ x1 ≤ 3) : fm_95_p59 X2 Q x1 s := by
  unfold fm_95_p59
  exact hX2 (x1 + 1) s hI (lf_fq_rf) (show (0 : Int) ≤ x1 + 1 ∧ x1 + 1 ≤ (4 : Int) from by omega) (show (4 - (x1 + 1)).toNat < M2 from by omega)
theorem sm_95_p2 {X2 : Int → lf_Z → Prop} {Q : lf_Z → Prop} {x1 : Int} {s : lf_Z} (hQ : ∀  (s' : lf_Z), iv_A s'.1 s'.2.2 → lf_fq [21] 1000000 true s.1 s.2.2 s'.1 s'.2.2 → Q  s') {M2 : Nat} (hX2 : ∀ (x1 : Int) (s' : lf_Z), iv_A s'.1 s'.2.2 → lf_fq [21] 1000000 true s.1 s.2.2 s'.1 s'.2.2 → 0 ≤ x1 ∧ x1 ≤ 4 → (4 - x1).toNat < M2 → X2 x1 s') (hM2 : (4 - x1).toNat ≤ M2) (hI : iv_A s.1 s.2.2) (bx1 : 0 ≤ x1 ∧ x1 ≤ 4) : fm_95_p2 Q X2 x1 s := by
  unfold fm_95_p2
  refine ⟨(show lf_R x1 from lf_Rof (by omega)), ?_⟩
  refine ⟨fun c1 => ?_, fun c1 => ?_⟩
  · skip
    have c1 : 4 ≤ x1 := c1
    exact hQ s hI (lf_fq_rf)
  · skip
    have c1 : ¬ (4 ≤ x1) := c1
    refine sm_80 hI (show (-2147483648 : Int) ≤ x1 ∧ x1 ≤ (2147483647 : Int) from by omega) (fun z23 q2 => ?_)
    have b3 : (-2147483648) ≤ s.1 16 x1 ∧ s.1 16 x1 ≤ 2147483647 := iv_full hI
    refine ⟨fun c4 => ?_, fun c4 => ?_⟩
    · skip
      have dc4 := q2.2 c4
      exact sm_95_p59 hQ hX2 (show (4 - x1).toNat ≤ M2 from by omega) hI (show (0 : Int) ≤ x1 ∧ x1 ≤ (3 : Int) from by omega)
    · skip
      have dc4 := q2.1 c4
      refine ⟨(show (0 : Int) ≤ x1 ∧ x1 < (4 : Int) from by omega), ?_⟩
      have b5 : (-1) ≤ s.1 17 x1 ∧ s.1 17 x1 ≤ 11 := iv_r17 hI _
      have b6 : s.1 16 x1 ≤ 0 ∨ 0 ≤ s.1 17 x1 := iv_sp hI (by omega) (by omega)
      refine ⟨(show (0 : Int) ≤ s.1 17 x1 ∧ s.1 17 x1 < (12 : Int) from by omega), ?_⟩
      have b7 : (-2147483648) ≤ s.1 21 (s.1 17 x1) ∧ s.1 21 (s.1 17 x1) ≤ 2147483647 := iv_full hI
      have b8 : 0 ≤ s.1 3 (s.1 17 x1) ∧ s.1 3 (s.1 17 x1) ≤ 99 := iv_r3 hI _
      have b9 : (-2147483648) ≤ lf_w ((s.1 16 x1) * (s.1 3 (s.1 17 x1))) ∧ lf_w ((s.1 16 x1) * (s.1 3 (s.1 17 x1))) ≤ 2147483647 := lf_wB
      have b10 : (-2147483648) ≤ lf_w ((s.1 21 (s.1 17 x1)) + (lf_w ((s.1 16 x1) * (s.1 3 (s.1 17 x1))))) ∧ lf_w ((s.1 21 (s.1 17 x1)) + (lf_w ((s.1 16 x1) * (s.1 3 (s.1 17 x1))))) ≤ 2147483647 := lf_wB
      have hI11 : iv_A (lf_up s.1 21 (s.1 17 x1) (lf_w ((s.1 21 (s.1 17 x1)) + (lf_w ((s.1 16 x1) * (s.1 3 (s.1 17 x1))))))) s.2.2 := iv_w21 hI (by omega)
      have fr12 : lf_fq [21] 1000000 true s.1 s.2.2 (lf_up s.1 21 (s.1 17 x1) (lf_w ((s.1 21 (s.1 17 x1)) + (lf_w ((s.1 16 x1) * (s.1 3 (s.1 17 x1))))))) s.2.2 := lf_fq_up (lf_fq_rf) rfl (fun h => absurd h (by decide))
      exact sm_95_p59 (fun t9 i9 f9 => hQ t9 i9 (lf_fq_tr fr12 f9)) (fun p0 t9 i9 f9 => hX2 p0 t9 i9 (lf_fq_tr fr12 f9)) (show (4 - x1).toNat ≤ M2 from by omega) hI11 (show (0 : Int) ≤ x1 ∧ x1 ≤ (3 : Int) from by omega)
theorem sm_95_p2L {Q : lf_Z → Prop} {x1 : Int} {s : lf_Z} (hQ : ∀  (s' : lf_Z), iv_A s'.1 s'.2.2 → lf_fq [21] 1000000 true s.1 s.2.2 s'.1 s'.2.2 → Q  s') (hI : iv_A s.1 s.2.2) (bx1 : 0 ≤ x1 ∧ x1 ≤ 4) : fm_95_p2L Q x1 s := by
  intro X2 hX
  have key : ∀ (m9 : Nat) (x1 : Int) (s' : lf_Z), iv_A s'.1 s'.2.2 → lf_fq [21] 1000000 true s.1 s.2.2 s'.1 s'.2.2 → 0 ≤ x1 ∧ x1 ≤ 4 → (4 - x1).toNat < m9 → X2 x1 s' := by
    intro m9
    induction m9 with
    | zero => intro x1 s' _ _ bx1 h9; exact absurd h9 (Nat.not_lt_zero _)
    | succ m9 ih => intro x1 s' i7 f7 bx1 h9; exact hX _ _ (sm_95_p2 (fun t9 i9 f9 => hQ t9 i9 (lf_fq_tr f7 f9))   (fun x1' t8 i8 f8 bx1' h8 => ih x1' t8 i8 (lf_fq_tr f7 f8) bx1' (by omega)) (Nat.le_refl _)  i7  bx1  )
  exact key _ _ s hI lf_fq_rf bx1 (Nat.lt_succ_self _)
theorem sm_95 {Q : lf_Z → Prop} {s : lf_Z} (hI : iv_A s.1 s.2.2) (hQ : ∀  (s' : lf_Z), iv_A s'.1 s'.2.2 → lf_fq [21] 1000000 true s.1 s.2.2 s'.1 s'.2.2 → Q  s') : fm_95 Q s := by
  unfold fm_95
  exact sm_95_p2L hQ hI (show (0 : Int) ≤ 0 ∧ 0 ≤ (4 : Int) from by omega)
-- fm_96 Minutes.joinBunches 67
theorem sm_96_p97 {X2 : Int → lf_Z → Prop} {Q : lf_Z → Prop} {x1 : Int} {s : lf_Z} (hQ : ∀  (s' : lf_Z), iv_A s'.1 s'.2.2 → lf_fq [16, 17, 18] 1000000 true s.1 s.2.2 s'.1 s'.2.2 → Q  s') {M2 : Nat} (hX2 : ∀ (x1 : Int) (s' : lf_Z), iv_A s'.1 s'.2.2 → lf_fq [16, 17, 18] 1000000 true s.1 s.2.2 s'.1 s'.2.2 → 0 ≤ x1 ∧ x1 ≤ 4 → (4 - x1).toNat < M2 → X2 x1 s') (hM2 : (4 - x1).toNat ≤ M2) (hI : iv_A s.1 s.2.2) (bx1 : 0 ≤ x1 ∧ x1 ≤ 3) : fm_96_p97 X2 Q x1 s := by
  unfold fm_96_p97
  exact hX2 (x1 + 1) s hI (lf_fq_rf) (show (0 : Int) ≤ x1 + 1 ∧ x1 + 1 ≤ (4 : Int) from by omega) (show (4 - (x1 + 1)).toNat < M2 from by omega)
theorem sm_96_p91 {X2 : Int → lf_Z → Prop} {X11 : Int → lf_Z → Prop} {Q : lf_Z → Prop} {x1 : Int} {x2 : Int} {s : lf_Z} (hQ : ∀  (s' : lf_Z), iv_A s'.1 s'.2.2 → lf_fq [16, 17, 18] 1000000 true s.1 s.2.2 s'.1 s'.2.2 → Q  s') {M2 : Nat} (hX2 : ∀ (x1 : Int) (s' : lf_Z), iv_A s'.1 s'.2.2 → lf_fq [16, 17, 18] 1000000 true s.1 s.2.2 s'.1 s'.2.2 → 0 ≤ x1 ∧ x1 ≤ 4 → (4 - x1).toNat < M2 → X2 x1 s') (hM2 : (4 - x1).toNat ≤ M2) {M11 : Nat} (hX11 : ∀ (x2 : Int) (s' : lf_Z), iv_A s'.1 s'.2.2 → lf_fq [16, 17, 18] 1000000 true s.1 s.2.2 s'.1 s'.2.2 → 1 ≤ x2 ∧ x2 ≤ 4 → (4 - x2).toNat < M11 → X11 x2 s') (hM11 : (4 - x2).toNat ≤ M11) (hI : iv_A s.1 s.2.2) (bx1 : 0 ≤ x1 ∧ x1 ≤ 3) (bx2 : 1 ≤ x2 ∧ x2 ≤ 3) : fm_96_p91 X2 X11 Q x1 x2 s := by
  unfold fm_96_p91
  exact hX11 (x2 + 1) s hI (lf_fq_rf) (show (1 : Int) ≤ x2 + 1 ∧ x2 + 1 ≤ (4 : Int) from by omega) (show (4 - (x2 + 1)).toNat < M11 from by omega)
theorem sm_96_p11 {X2 : Int → lf_Z → Prop} {X11 : Int → lf_Z → Prop} {Q : lf_Z → Prop} {x1 : Int} {x2 : Int} {s : lf_Z} (hQ : ∀  (s' : lf_Z), iv_A s'.1 s'.2.2 → lf_fq [16, 17, 18] 1000000 true s.1 s.2.2 s'.1 s'.2.2 → Q  s') {M2 : Nat} (hX2 : ∀ (x1 : Int) (s' : lf_Z), iv_A s'.1 s'.2.2 → lf_fq [16, 17, 18] 1000000 true s.1 s.2.2 s'.1 s'.2.2 → 0 ≤ x1 ∧ x1 ≤ 4 → (4 - x1).toNat < M2 → X2 x1 s') (hM2 : (4 - x1).toNat ≤ M2) {M11 : Nat} (hX11 : ∀ (x2 : Int) (s' : lf_Z), iv_A s'.1 s'.2.2 → lf_fq [16, 17, 18] 1000000 true s.1 s.2.2 s'.1 s'.2.2 → 1 ≤ x2 ∧ x2 ≤ 4 → (4 - x2).toNat < M11 → X11 x2 s') (hM11 : (4 - x2).toNat ≤ M11) (hI : iv_A s.1 s.2.2) (bx1 : 0 ≤ x1 ∧ x1 ≤ 3) (bx2 : 1 ≤ x2 ∧ x2 ≤ 4) : fm_96_p11 X2 Q x1 X11 x2 s := by
  unfold fm_96_p11
  refine ⟨(show lf_R x2 from lf_Rof (by omega)), ?_⟩
  refine ⟨fun c2 => ?_, fun c2 => ?_⟩
  · skip
    have c2 : 4 ≤ x2 := c2
    exact sm_96_p97 hQ hX2 (show (4 - x1).toNat ≤ M2 from by omega) hI (show (0 : Int) ≤ x1 ∧ x1 ≤ (3 : Int) from by omega)
  · skip
    have c2 : ¬ (4 ≤ x2) := c2
    refine sm_80 hI (show (-2147483648 : Int) ≤ x1 ∧ x1 ≤ (2147483647 : Int) from by omega) (fun z24 q3 => ?_)
    have b4 : (-2147483648) ≤ s.1 16 x1 ∧ s.1 16 x1 ≤ 2147483647 := iv_full hI
    refine ⟨fun c5 => ?_, fun c5 => ?_⟩
    · skip
      have dc5 := q3.2 c5
      exact sm_96_p97 hQ hX2 (show (4 - x1).toNat ≤ M2 from by omega) hI (show (0 : Int) ≤ x1 ∧ x1 ≤ (3 : Int) from by omega)
    · skip
      have dc5 := q3.1 c5
      refine sm_80 hI (show (-2147483648 : Int) ≤ x2 ∧ x2 ≤ (2147483647 : Int) from by omega) (fun z26 q6 => ?_)
      have b7 : (-2147483648) ≤ s.1 16 x2 ∧ s.1 16 x2 ≤ 2147483647 := iv_full hI
      refine ⟨fun c8 => ?_, fun c8 => ?_⟩
      · skip
        have dc8 := q6.2 c8
        exact sm_96_p91 hQ hX2 (show (4 - x1).toNat ≤ M2 from by omega) hX11 (show (4 - x2).toNat ≤ M11 from by omega) hI (show (0 : Int) ≤ x1 ∧ x1 ≤ (3 : Int) from by omega) (show (1 : Int) ≤ x2 ∧ x2 ≤ (3 : Int) from by omega)
      · skip
        have dc8 := q6.1 c8
        refine ⟨(show (0 : Int) ≤ x2 ∧ x2 < (4 : Int) from by omega), ?_⟩
        have b9 : (-1) ≤ s.1 17 x2 ∧ s.1 17 x2 ≤ 11 := iv_r17 hI _
        have b10 : s.1 16 x2 ≤ 0 ∨ 0 ≤ s.1 17 x2 := iv_sp hI (by omega) (by omega)
        refine ⟨(show (0 : Int) ≤ x1 ∧ x1 < (4 : Int) from by omega), ?_⟩
        have b11 : (-1) ≤ s.1 17 x1 ∧ s.1 17 x1 ≤ 11 := iv_r17 hI _
        have b12 : s.1 16 x1 ≤ 0 ∨ 0 ≤ s.1 17 x1 := iv_sp hI (by omega) (by omega)
        refine ⟨(show lf_R (s.1 17 x2) from lf_Rof (by omega)), ?_⟩
        refine ⟨(show lf_R (s.1 17 x1) from lf_Rof (by omega)), ?_⟩
        refine ⟨fun c13 => ?_, fun c13 => ?_⟩
        · skip
          have c13 : s.1 17 x2 ≠ s.1 17 x1 := c13
          exact sm_96_p91 hQ hX2 (show (4 - x1).toNat ≤ M2 from by omega) hX11 (show (4 - x2).toNat ≤ M11 from by omega) hI (show (0 : Int) ≤ x1 ∧ x1 ≤ (3 : Int) from by omega) (show (1 : Int) ≤ x2 ∧ x2 ≤ (3 : Int) from by omega)
        · skip
          have c13 : ¬ (s.1 17 x2 ≠ s.1 17 x1) := c13
          have b14 : (-2147483648) ≤ lf_w ((s.1 16 x1) + (s.1 16 x2)) ∧ lf_w ((s.1 16 x1) + (s.1 16 x2)) ≤ 2147483647 := lf_wB
          have hI15 : iv_A (lf_up s.1 16 x1 (lf_w ((s.1 16 x1) + (s.1 16 x2)))) s.2.2 := iv_w16 hI (by omega) (by omega)
          have fr16 : lf_fq [16, 17, 18] 1000000 true s.1 s.2.2 (lf_up s.1 16 x1 (lf_w ((s.1 16 x1) + (s.1 16 x2)))) s.2.2 := lf_fq_up (lf_fq_rf) rfl (fun h => absurd h (by decide))
          refine sm_69 hI15 (show (0 : Int) ≤ x2 ∧ x2 ≤ (3 : Int) from by omega) (show (-2147483648 : Int) ≤ 0 ∧ 0 ≤ (2147483647 : Int) from by omega) (show (-1 : Int) ≤ (-1) ∧ (-1) ≤ (11 : Int) from by omega) (show (-1 : Int) ≤ (-1) ∧ (-1) ≤ (11 : Int) from by omega) (show 0 ≤ 0 ∨ 0 ≤ (-1) from by omega) (fun s31 hI18 fr17 => ?_)
          have fr20 : lf_fq [16, 17, 18] 1000000 true s.1 s.2.2 s31.1 s31.2.2 := lf_fq_tr fr16 (lf_fq_wk fr17 rfl (by decide) (by decide))
          exact sm_96_p91 (fun t9 i9 f9 => hQ t9 i9 (lf_fq_tr fr20 f9)) (fun p0 t9 i9 f9 => hX2 p0 t9 i9 (lf_fq_tr fr20 f9)) (show (4 - x1).toNat ≤ M2 from by omega) (fun p0 t9 i9 f9 => hX11 p0 t9 i9 (lf_fq_tr fr20 f9)) (show (4 - x2).toNat ≤ M11 from by omega) hI18 (show (0 : Int) ≤ x1 ∧ x1 ≤ (3 : Int) from by omega) (show (1 : Int) ≤ x2 ∧ x2 ≤ (3 : Int) from by omega)
theorem sm_96_p11L {X2 : Int → lf_Z → Prop} {Q : lf_Z → Prop} {x1 : Int} {x2 : Int} {s : lf_Z} (hQ : ∀  (s' : lf_Z), iv_A s'.1 s'.2.2 → lf_fq [16, 17, 18] 1000000 true s.1 s.2.2 s'.1 s'.2.2 → Q  s') {M2 : Nat} (hX2 : ∀ (x1 : Int) (s' : lf_Z), iv_A s'.1 s'.2.2 → lf_fq [16, 17, 18] 1000000 true s.1 s.2.2 s'.1 s'.2.2 → 0 ≤ x1 ∧ x1 ≤ 4 → (4 - x1).toNat < M2 → X2 x1 s') (hM2 : (4 - x1).toNat ≤ M2) (hI : iv_A s.1 s.2.2) (bx1 : 0 ≤ x1 ∧ x1 ≤ 3) (bx2 : 1 ≤ x2 ∧ x2 ≤ 4) : fm_96_p11L X2 Q x1 x2 s := by
  intro X11 hX
  have key : ∀ (m9 : Nat) (x2 : Int) (s' : lf_Z), iv_A s'.1 s'.2.2 → lf_fq [16, 17, 18] 1000000 true s.1 s.2.2 s'.1 s'.2.2 → 1 ≤ x2 ∧ x2 ≤ 4 → (4 - x2).toNat < m9 → X11 x2 s' := by
    intro m9
    induction m9 with
    | zero => intro x2 s' _ _ bx2 h9; exact absurd h9 (Nat.not_lt_zero _)
    | succ m9 ih => intro x2 s' i7 f7 bx2 h9; exact hX _ _ (sm_96_p11 (fun t9 i9 f9 => hQ t9 i9 (lf_fq_tr f7 f9))  (fun p0 t9 i9 f9 => hX2 p0 t9 i9 (lf_fq_tr f7 f9)) hM2 (fun x2' t8 i8 f8 bx2' h8 => ih x2' t8 i8 (lf_fq_tr f7 f8) bx2' (by omega)) (Nat.le_refl _)  i7  bx1 bx2  )
  exact key _ _ s hI lf_fq_rf bx2 (Nat.lt_succ_self _)
theorem sm_96_p2 {X2 : Int → lf_Z → Prop} {Q : lf_Z → Prop} {x1 : Int} {s : lf_Z} (hQ : ∀  (s' : lf_Z), iv_A s'.1 s'.2.2 → lf_fq [16, 17, 18] 1000000 true s.1 s.2.2 s'.1 s'.2.2 → Q  s') {M2 : Nat} (hX2 : ∀ (x1 : Int) (s' : lf_Z), iv_A s'.1 s'.2.2 → lf_fq [16, 17, 18] 1000000 true s.1 s.2.2 s'.1 s'.2.2 → 0 ≤ x1 ∧ x1 ≤ 4 → (4 - x1).toNat < M2 → X2 x1 s') (hM2 : (4 - x1).toNat ≤ M2) (hI : iv_A s.1 s.2.2) (bx1 : 0 ≤ x1 ∧ x1 ≤ 4) : fm_96_p2 Q X2 x1 s := by
  unfold fm_96_p2
  refine ⟨(show lf_R x1 from lf_Rof (by omega)), ?_⟩
  refine ⟨fun c1 => ?_, fun c1 => ?_⟩
  · skip
    have c1 : 4 ≤ x1 := c1
    exact hQ s hI (lf_fq_rf)
  · skip
    have c1 : ¬ (4 ≤ x1) := c1
    exact sm_96_p11L hQ hX2 (show (4 - x1).toNat ≤ M2 from by omega) hI (show (0 : Int) ≤ x1 ∧ x1 ≤ (3 : Int) from by omega) (show (1 : Int) ≤ x1 + 1 ∧ x1 + 1 ≤ (4 : Int) from by omega)
theorem sm_96_p2L {Q : lf_Z → Prop} {x1 : Int} {s : lf_Z} (hQ : ∀  (s' : lf_Z), iv_A s'.1 s'.2.2 → lf_fq [16, 17, 18] 1000000 true s.1 s.2.2 s'.1 s'.2.2 → Q  s') (hI : iv_A s.1 s.2.2) (bx1 : 0 ≤ x1 ∧ x1 ≤ 4) : fm_96_p2L Q x1 s := by
  intro X2 hX
  have key : ∀ (m9 : Nat) (x1 : Int) (s' : lf_Z), iv_A s'.1 s'.2.2 → lf_fq [16, 17, 18] 1000000 true s.1 s.2.2 s'.1 s'.2.2 → 0 ≤ x1 ∧ x1 ≤ 4 → (4 - x1).toNat < m9 → X2 x1 s' := by
    intro m9
    induction m9 with
    | zero => intro x1 s' _ _ bx1 h9; exact absurd h9 (Nat.not_lt_zero _)
    | succ m9 ih => intro x1 s' i7 f7 bx1 h9; exact hX _ _ (sm_96_p2 (fun t9 i9 f9 => hQ t9 i9 (lf_fq_tr f7 f9))   (fun x1' t8 i8 f8 bx1' h8 => ih x1' t8 i8 (lf_fq_tr f7 f8) bx1' (by omega)) (Nat.le_refl _)  i7  bx1  )
  exact key _ _ s hI lf_fq_rf bx1 (Nat.lt_succ_self _)
theorem sm_96 {Q : lf_Z → Prop} {s : lf_Z} (hI : iv_A s.1 s.2.2) (hQ : ∀  (s' : lf_Z), iv_A s'.1 s'.2.2 → lf_fq [16, 17, 18] 1000000 true s.1 s.2.2 s'.1 s'.2.2 → Q  s') : fm_96 Q s := by
  unfold fm_96
  exact sm_96_p2L hQ hI (show (0 : Int) ≤ 0 ∧ 0 ≤ (4 : Int) from by omega)
-- fm_76 Land.countWaysAt 1 i
theorem sm_76 {a1 : Int} {Q : Int → lf_Z → Prop} {s : lf_Z} (hI : iv_A s.1 s.2.2) (ba1 : (-2147483648) ≤ a1 ∧ a1 ≤ 2147483647) (hQ : ∀ (r : Int), (0 ≤ r ∧ r ≤ 4) → Q r s) : fm_76 a1 Q s := by
  unfold fm_76
  refine sm_18 hI (show (-2147483648 : Int) ≤ a1 ∧ a1 ≤ (2147483647 : Int) from by omega) (fun z22 q1 => ?_)
  have b2 : 0 ≤ s.1 1 0 ∧ s.1 1 0 ≤ 12 := iv_r1_0 hI
  refine ⟨fun c3 => ?_, fun c3 => ?_⟩
  · skip
    have dc3 := q1.2 c3
    exact hQ 0 (show (0 : Int) ≤ 0 ∧ 0 ≤ (4 : Int) from by omega)
  · skip
    have dc3 := q1.1 c3
    refine ⟨(show (0 : Int) ≤ a1 ∧ a1 < (12 : Int) from by omega), ?_⟩
    have b4 : 0 ≤ s.1 12 a1 ∧ s.1 12 a1 ≤ 4 := iv_r12 hI _
    exact hQ (s.1 12 a1) (show (0 : Int) ≤ s.1 12 a1 ∧ s.1 12 a1 ≤ (4 : Int) from by omega)
-- fm_77 Land.wayAt 1 i i
theorem sm_77 {a1 : Int} {a2 : Int} {Q : Int → lf_Z → Prop} {s : lf_Z} (hI : iv_A s.1 s.2.2) (ba1 : (-2147483648) ≤ a1 ∧ a1 ≤ 2147483647) (ba2 : 0 ≤ a2 ∧ a2 ≤ 3) (hQ : ∀ (r : Int), ((-1) ≤ r ∧ r ≤ 15) → Q r s) : fm_77 a1 a2 Q s := by
  unfold fm_77
  refine sm_18 hI (show (-2147483648 : Int) ≤ a1 ∧ a1 ≤ (2147483647 : Int) from by omega) (fun z22 q1 => ?_)
  have b2 : 0 ≤ s.1 1 0 ∧ s.1 1 0 ≤ 12 := iv_r1_0 hI
  refine ⟨fun c3 => ?_, fun c3 => ?_⟩
  · skip
    have dc3 := q1.2 c3
    exact hQ (-1) (show (-1 : Int) ≤ (-1) ∧ (-1) ≤ (15 : Int) from by omega)
  · skip
    have dc3 := q1.1 c3
    refine ⟨(show lf_R a2 from lf_Rof (by omega)), ?_⟩
    refine ⟨fun c4 => ?_, fun c4 => ?_⟩
    · skip
      have c4 : a2 < 0 := c4
      exfalso
      omega
    · skip
      have c4 : ¬ (a2 < 0) := c4
      refine ⟨(show (0 : Int) ≤ a1 ∧ a1 < (12 : Int) from by omega), ?_⟩
      have b5 : 0 ≤ s.1 12 a1 ∧ s.1 12 a1 ≤ 4 := iv_r12 hI _
      refine ⟨(show lf_R (s.1 12 a1) from lf_Rof (by omega)), ?_⟩
      refine ⟨fun c6 => ?_, fun c6 => ?_⟩
      · skip
        have c6 : a2 < s.1 12 a1 := c6
        refine ⟨(show (0 : Int) ≤ (a1 * 4) + a2 ∧ (a1 * 4) + a2 < (48 : Int) from by omega), ?_⟩
        have b7 : 0 ≤ s.1 11 ((a1 * 4) + a2) ∧ s.1 11 ((a1 * 4) + a2) ≤ 15 := iv_r11 hI _
        exact hQ (s.1 11 ((a1 * 4) + a2)) (show (-1 : Int) ≤ s.1 11 ((a1 * 4) + a2) ∧ s.1 11 ((a1 * 4) + a2) ≤ (15 : Int) from by omega)
      · skip
        have c6 : ¬ (a2 < s.1 12 a1) := c6
        exact hQ (-1) (show (-1 : Int) ≤ (-1) ∧ (-1) ≤ (15 : Int) from by omega)
-- fm_79 Land.hasWay 1 i
theorem sm_79 {a1 : Int} {Q : Bool → lf_Z → Prop} {s : lf_Z} (hI : iv_A s.1 s.2.2) (ba1 : (-2147483648) ≤ a1 ∧ a1 ≤ 2147483647) (hQ : ∀ (z : Bool), ((z = true → (0 ≤ a1 ∧ a1 < s.1 1 1)) ∧ (z = false → ¬ (0 ≤ a1 ∧ a1 < s.1 1 1))) → Q z s) : fm_79 a1 Q s := by
  unfold fm_79
  refine ⟨(show lf_R a1 from lf_Rof (by omega)), ?_⟩
  refine ⟨fun c1 => ?_, fun c1 => ?_⟩
  · skip
    have c1 : a1 < 0 := c1
    exact hQ false (lf_pf (by omega))
  · skip
    have c1 : ¬ (a1 < 0) := c1
    have b2 : 0 ≤ s.1 1 1 ∧ s.1 1 1 ≤ 16 := iv_r1_1 hI
    refine ⟨(show lf_R (s.1 1 1) from lf_Rof (by omega)), ?_⟩
    refine ⟨fun c3 => ?_, fun c3 => ?_⟩
    · skip
      have c3 : s.1 1 1 ≤ a1 := c3
      exact hQ false (lf_pf (by omega))
    · skip
      have c3 : ¬ (s.1 1 1 ≤ a1) := c3
      exact hQ true (lf_pt (by omega))
-- fm_78 Land.otherSide 1 i i
theorem sm_78 {a1 : Int} {a2 : Int} {Q : Int → lf_Z → Prop} {s : lf_Z} (hI : iv_A s.1 s.2.2) (ba1 : (-1) ≤ a1 ∧ a1 ≤ 15) (ba2 : (-2147483648) ≤ a2 ∧ a2 ≤ 2147483647) (hQ : ∀ (r : Int), (((-1) ≤ r ∧ r ≤ 11) ∧ (r = iv_od (s.1 1 1) (s.1 4) (s.1 5) a1 a2)) → Q r s) : fm_78 a1 a2 Q s := by
  unfold fm_78
  refine sm_79 hI (show (-2147483648 : Int) ≤ a1 ∧ a1 ≤ (2147483647 : Int) from by omega) (fun z22 q1 => ?_)
  have b2 : 0 ≤ s.1 1 1 ∧ s.1 1 1 ≤ 16 := iv_r1_1 hI
  refine ⟨fun c3 => ?_, fun c3 => ?_⟩
  · skip
    have dc3 := q1.1 c3
    refine ⟨(show (0 : Int) ≤ a1 ∧ a1 < (16 : Int) from by omega), ?_⟩
    have b4 : 0 ≤ s.1 4 a1 ∧ s.1 4 a1 ≤ 11 := iv_r4 hI _
    refine ⟨(show lf_R (s.1 4 a1) from lf_Rof (by omega)), ?_⟩
    refine ⟨(show lf_R a2 from lf_Rof (by omega)), ?_⟩
    refine ⟨fun c5 => ?_, fun c5 => ?_⟩
    · skip
      have c5 : s.1 4 a1 ≠ a2 := c5
      have b6 : 0 ≤ s.1 5 a1 ∧ s.1 5 a1 ≤ 11 := iv_r5 hI _
      refine ⟨(show lf_R (s.1 5 a1) from lf_Rof (by omega)), ?_⟩
      refine ⟨fun c7 => ?_, fun c7 => ?_⟩
      · skip
        have c7 : s.1 5 a1 ≠ a2 := c7
        exact hQ (-1) ⟨(show (-1 : Int) ≤ (-1) ∧ (-1) ≤ (11 : Int) from by omega), (show (-1) = iv_od (s.1 1 1) (s.1 4) (s.1 5) a1 a2 from by unfold iv_od; (repeat' split) <;> first | rfl | omega | contradiction)⟩
      · skip
        have c7 : ¬ (s.1 5 a1 ≠ a2) := c7
        exact hQ (s.1 4 a1) ⟨(show (-1 : Int) ≤ s.1 4 a1 ∧ s.1 4 a1 ≤ (11 : Int) from by omega), (show s.1 4 a1 = iv_od (s.1 1 1) (s.1 4) (s.1 5) a1 a2 from by unfold iv_od; (repeat' split) <;> first | rfl | omega | contradiction)⟩
    · skip
      have c5 : ¬ (s.1 4 a1 ≠ a2) := c5
      have b8 : 0 ≤ s.1 5 a1 ∧ s.1 5 a1 ≤ 11 := iv_r5 hI _
      exact hQ (s.1 5 a1) ⟨(show (-1 : Int) ≤ s.1 5 a1 ∧ s.1 5 a1 ≤ (11 : Int) from by omega), (show s.1 5 a1 = iv_od (s.1 1 1) (s.1 4) (s.1 5) a1 a2 from by unfold iv_od; (repeat' split) <;> first | rfl | omega | contradiction)⟩
  · skip
    have dc3 := q1.2 c3
    exact hQ (-1) ⟨(show (-1 : Int) ≤ (-1) ∧ (-1) ≤ (11 : Int) from by omega), (show (-1) = iv_od (s.1 1 1) (s.1 4) (s.1 5) a1 a2 from by unfold iv_od; (repeat' split) <;> first | rfl | omega | contradiction)⟩
