-- fm_110 ElevenBullocks.bunch 0 i i
theorem sm_110 {a1 : Int} {a2 : Int} {Q : Int → lf_Z → Prop} {s : lf_Z} (hI : iv_A s.1 s.2.2) (ba1 : (-2147483648) ≤ a1 ∧ a1 ≤ 2147483647) (ba2 : (-2147483648) ≤ a2 ∧ a2 ≤ 2147483647) (hQ : ∀ (r : Int) (s' : lf_Z), iv_A s'.1 s'.2.2 → lf_fq [63, 64, 65, 66] 1000000 true s.1 s.2.2 s'.1 s'.2.2 → ((-2147483648) ≤ r ∧ r ≤ 2147483647) → Q r s') : fm_110 a1 a2 Q s := by
  unfold fm_110
  refine sm_15 hI (show (-2147483648 : Int) ≤ a1 ∧ a1 ≤ (2147483647 : Int) from by omega) (show (-1 : Int) ≤ 0 ∧ 0 ≤ (99 : Int) from by omega) (show (-2147483648 : Int) ≤ 3 ∧ 3 ≤ (2147483647 : Int) from by omega) (fun z22 q1 => ?_)
  refine ⟨fun c2 => ?_, fun c2 => ?_⟩
  · skip
    have dc2 := q1.2 c2
    exact hQ (-2) s hI (lf_fq_rf) (show (-2147483648 : Int) ≤ (-2) ∧ (-2) ≤ (2147483647 : Int) from by omega)
  · skip
    have dc2 := q1.1 c2
    refine sm_15 hI (show (-2147483648 : Int) ≤ a2 ∧ a2 ≤ (2147483647 : Int) from by omega) (show (-1 : Int) ≤ 0 ∧ 0 ≤ (99 : Int) from by omega) (show (-2147483648 : Int) ≤ 3 ∧ 3 ≤ (2147483647 : Int) from by omega) (fun z24 q3 => ?_)
    refine ⟨fun c4 => ?_, fun c4 => ?_⟩
    · skip
      have dc4 := q3.1 c4
      refine ⟨(show lf_R a2 from lf_Rof (by omega)), ?_⟩
      refine ⟨fun c5 => ?_, fun c5 => ?_⟩
      · skip
        replace c5 : a2 ≠ 0 := c5
        refine ⟨(show (0 : Int) ≤ a1 ∧ a1 < (4 : Int) from by omega), ?_⟩
        have b6 : (-2147483648) ≤ s.1 16 a1 ∧ s.1 16 a1 ≤ 2147483647 := iv_full hI
        refine ⟨(show lf_R (s.1 16 a1) from lf_Rof (by omega)), ?_⟩
        refine ⟨fun c7 => ?_, fun c7 => ?_⟩
        · skip
          replace c7 : s.1 16 a1 ≠ 0 := c7
          refine ⟨fun c8 => ?_, fun c8 => ?_⟩
          · skip
            replace c8 : a2 ≠ 3 := c8
            refine ⟨fun c9 => ?_, fun c9 => ?_⟩
            · skip
              replace c9 : a2 ≠ 1 := c9
              have b10 : (-1) ≤ s.1 18 a1 ∧ s.1 18 a1 ≤ 11 := iv_r18 hI _
              exact hQ (s.1 18 a1) s hI (lf_fq_rf) (show (-2147483648 : Int) ≤ s.1 18 a1 ∧ s.1 18 a1 ≤ (2147483647 : Int) from by omega)
            · skip
              replace c9 : ¬ (a2 ≠ 1) := c9
              have b11 : (-1) ≤ s.1 17 a1 ∧ s.1 17 a1 ≤ 11 := iv_r17 hI _
              have b12 : s.1 16 a1 ≤ 0 ∨ 0 ≤ s.1 17 a1 := (by first | exact (show s.1 16 a1 ≤ 0 ∨ 0 ≤ s.1 17 a1 from iv_sp hI (by omega) (by omega)) | exact iv_sp hI (by omega) (by omega))
              exact hQ (s.1 17 a1) s hI (lf_fq_rf) (show (-2147483648 : Int) ≤ s.1 17 a1 ∧ s.1 17 a1 ≤ (2147483647 : Int) from by omega)
          · skip
            replace c8 : ¬ (a2 ≠ 3) := c8
            refine sm_81 hI (show (0 : Int) ≤ a1 ∧ a1 ≤ (3 : Int) from by omega) (fun r29 s28 hI14 fr13 q15 => ?_)
            have fr16 : lf_fq [63, 64, 65, 66] 1000000 true s.1 s.2.2 s28.1 s28.2.2 := lf_fq_tr (lf_fq_rf) (lf_fq_wk fr13 rfl (by decide) (by decide))
            exact hQ r29 s28 hI14 fr16 (show (-2147483648 : Int) ≤ r29 ∧ r29 ≤ (2147483647 : Int) from by omega)
        · skip
          replace c7 : ¬ (s.1 16 a1 ≠ 0) := c7
          exact hQ (-1) s hI (lf_fq_rf) (show (-2147483648 : Int) ≤ (-1) ∧ (-1) ≤ (2147483647 : Int) from by omega)
      · skip
        replace c5 : ¬ (a2 ≠ 0) := c5
        refine ⟨(show (0 : Int) ≤ a1 ∧ a1 < (4 : Int) from by omega), ?_⟩
        have b17 : (-2147483648) ≤ s.1 16 a1 ∧ s.1 16 a1 ≤ 2147483647 := iv_full hI
        exact hQ (s.1 16 a1) s hI (lf_fq_rf) (show (-2147483648 : Int) ≤ s.1 16 a1 ∧ s.1 16 a1 ≤ (2147483647 : Int) from by omega)
    · skip
      have dc4 := q3.2 c4
      exact hQ (-2) s hI (lf_fq_rf) (show (-2147483648 : Int) ≤ (-2) ∧ (-2) ≤ (2147483647 : Int) from by omega)
-- fm_284 Model.bunch 95 i i
theorem sm_284 {a1 : Int} {a2 : Int} {Q : Int → lf_Z → Prop} {s : lf_Z} (hI : iv_A s.1 s.2.2) (ba1 : (-2147483648) ≤ a1 ∧ a1 ≤ 2147483647) (ba2 : (-2147483648) ≤ a2 ∧ a2 ≤ 2147483647) (hQ : ∀ (r : Int) (s' : lf_Z), iv_A s'.1 s'.2.2 → lf_fq [104, 107] 1000000 true s.1 s.2.2 s'.1 s'.2.2 → ((-2) ≤ r ∧ r ≤ 100) → Q r s') : fm_284 a1 a2 Q s := by
  unfold fm_284
  refine sm_183 hI (show (-2147483648 : Int) ≤ a1 ∧ a1 ≤ (2147483647 : Int) from by omega) (show (-1 : Int) ≤ 0 ∧ 0 ≤ (97 : Int) from by omega) (show (-1 : Int) ≤ 3 ∧ 3 ≤ (9999 : Int) from by omega) (fun z22 q1 => ?_)
  refine ⟨fun c2 => ?_, fun c2 => ?_⟩
  · skip
    have dc2 := q1.2 c2
    exact hQ (-2) s hI (lf_fq_rf) (show (-2 : Int) ≤ (-2) ∧ (-2) ≤ (100 : Int) from by omega)
  · skip
    have dc2 := q1.1 c2
    refine sm_183 hI (show (-2147483648 : Int) ≤ a2 ∧ a2 ≤ (2147483647 : Int) from by omega) (show (-1 : Int) ≤ 0 ∧ 0 ≤ (97 : Int) from by omega) (show (-1 : Int) ≤ 3 ∧ 3 ≤ (9999 : Int) from by omega) (fun z24 q3 => ?_)
    refine ⟨fun c4 => ?_, fun c4 => ?_⟩
    · skip
      have dc4 := q3.1 c4
      refine ⟨(show lf_R a2 from lf_Rof (by omega)), ?_⟩
      refine ⟨fun c5 => ?_, fun c5 => ?_⟩
      · skip
        replace c5 : a2 ≠ 0 := c5
        refine sm_242 hI (show (0 : Int) ≤ a1 ∧ a1 ≤ (3 : Int) from by omega) (fun r27 q6 => ?_)
        obtain ⟨q6, q6x⟩ := q6
        replace q6x : r27 = s.1 96 (114 + 3 * a1) := q6x
        refine ⟨(show lf_R r27 from lf_Rof (by omega)), ?_⟩
        refine ⟨fun c7 => ?_, fun c7 => ?_⟩
        · skip
          replace c7 : r27 ≠ 0 := c7
          refine ⟨fun c8 => ?_, fun c8 => ?_⟩
          · skip
            replace c8 : a2 ≠ 1 := c8
            refine ⟨fun c9 => ?_, fun c9 => ?_⟩
            · skip
              replace c9 : a2 ≠ 2 := c9
              refine sm_263 hI (show (0 : Int) ≤ a1 ∧ a1 ≤ (3 : Int) from by omega) (fun r30 s29 hI11 fr10 q12 => ?_)
              have fr13 : lf_fq [104, 107] 1000000 true s.1 s.2.2 s29.1 s29.2.2 := lf_fq_tr (lf_fq_rf) (lf_fq_wk fr10 rfl (by decide) (by decide))
              exact hQ r30 s29 hI11 fr13 (show (-2 : Int) ≤ r30 ∧ r30 ≤ (100 : Int) from by omega)
            · skip
              replace c9 : ¬ (a2 ≠ 2) := c9
              refine sm_256 hI (show (0 : Int) ≤ a1 ∧ a1 ≤ (3 : Int) from by omega) (fun r32 q14 => ?_)
              exact hQ r32 s hI (lf_fq_rf) (show (-2 : Int) ≤ r32 ∧ r32 ≤ (100 : Int) from by omega)
          · skip
            replace c8 : ¬ (a2 ≠ 1) := c8
            refine sm_255 hI (show (0 : Int) ≤ a1 ∧ a1 ≤ (3 : Int) from by omega) (fun r34 q15 => ?_)
            exact hQ r34 s hI (lf_fq_rf) (show (-2 : Int) ≤ r34 ∧ r34 ≤ (100 : Int) from by omega)
        · skip
          replace c7 : ¬ (r27 ≠ 0) := c7
          exact hQ (-1) s hI (lf_fq_rf) (show (-2 : Int) ≤ (-1) ∧ (-1) ≤ (100 : Int) from by omega)
      · skip
        replace c5 : ¬ (a2 ≠ 0) := c5
        refine sm_242 hI (show (0 : Int) ≤ a1 ∧ a1 ≤ (3 : Int) from by omega) (fun r36 q16 => ?_)
        obtain ⟨q16, q16x⟩ := q16
        replace q16x : r36 = s.1 96 (114 + 3 * a1) := q16x
        exact hQ r36 s hI (lf_fq_rf) (show (-2 : Int) ≤ r36 ∧ r36 ≤ (100 : Int) from by omega)
    · skip
      have dc4 := q3.2 c4
      exact hQ (-2) s hI (lf_fq_rf) (show (-2 : Int) ≤ (-2) ∧ (-2) ≤ (100 : Int) from by omega)
-- fm_111 ElevenBullocks.ofPerson 0 i i
theorem sm_111 {a1 : Int} {a2 : Int} {Q : Int → lf_Z → Prop} {s : lf_Z} (hI : iv_A s.1 s.2.2) (ba1 : (-2147483648) ≤ a1 ∧ a1 ≤ 2147483647) (ba2 : (-2147483648) ≤ a2 ∧ a2 ≤ 2147483647) (hQ : ∀ (r : Int), ((-2147483648) ≤ r ∧ r ≤ 2147483647) → Q r s) : fm_111 a1 a2 Q s := by
  unfold fm_111
  refine sm_99 hI (show (-2147483648 : Int) ≤ a1 ∧ a1 ≤ (2147483647 : Int) from by omega) (fun z22 q1 => ?_)
  have b2 : 0 ≤ s.1 1 2 ∧ s.1 1 2 ≤ 6 := iv_r1_2 hI
  refine ⟨fun c3 => ?_, fun c3 => ?_⟩
  · skip
    have dc3 := q1.1 c3
    refine ⟨(show lf_R a2 from lf_Rof (by omega)), ?_⟩
    refine ⟨fun c4 => ?_, fun c4 => ?_, fun c4 => ?_, fun c4 => ?_, fun c4 => ?_, fun c4 => ?_⟩
    · replace c4 : a2 < 0 ∨ 4 < a2 := c4
      exact hQ (-2) (show (-2147483648 : Int) ≤ (-2) ∧ (-2) ≤ (2147483647 : Int) from by omega)
    · replace c4 : a2 = 0 := c4
      refine ⟨(show (0 : Int) ≤ a1 ∧ a1 < (6 : Int) from by omega), ?_⟩
      have b5 : 0 ≤ s.1 7 a1 ∧ s.1 7 a1 ≤ 9 := iv_r7 hI _
      exact hQ (s.1 7 a1) (show (-2147483648 : Int) ≤ s.1 7 a1 ∧ s.1 7 a1 ≤ (2147483647 : Int) from by omega)
    · replace c4 : a2 = 1 := c4
      refine ⟨(show (0 : Int) ≤ a1 ∧ a1 < (6 : Int) from by omega), ?_⟩
      have b6 : 0 ≤ s.1 8 a1 ∧ s.1 8 a1 ≤ 1 := iv_r8 hI _
      refine ⟨(show lf_R (s.1 8 a1) from lf_Rof (by omega)), ?_⟩
      refine ⟨fun c7 => ?_, fun c7 => ?_⟩
      · skip
        replace c7 : s.1 8 a1 = 0 := c7
        exact hQ 0 (show (-2147483648 : Int) ≤ 0 ∧ 0 ≤ (2147483647 : Int) from by omega)
      · skip
        replace c7 : ¬ (s.1 8 a1 = 0) := c7
        exact hQ 1 (show (-2147483648 : Int) ≤ 1 ∧ 1 ≤ (2147483647 : Int) from by omega)
    · replace c4 : a2 = 2 := c4
      refine ⟨(show (0 : Int) ≤ a1 ∧ a1 < (6 : Int) from by omega), ?_⟩
      have b8 : 0 ≤ s.1 9 a1 ∧ s.1 9 a1 ≤ 1 := iv_r9 hI _
      refine ⟨(show lf_R (s.1 9 a1) from lf_Rof (by omega)), ?_⟩
      refine ⟨fun c9 => ?_, fun c9 => ?_⟩
      · skip
        replace c9 : s.1 9 a1 = 0 := c9
        exact hQ 0 (show (-2147483648 : Int) ≤ 0 ∧ 0 ≤ (2147483647 : Int) from by omega)
      · skip
        replace c9 : ¬ (s.1 9 a1 = 0) := c9
        exact hQ 1 (show (-2147483648 : Int) ≤ 1 ∧ 1 ≤ (2147483647 : Int) from by omega)
    · replace c4 : a2 = 3 := c4
      refine ⟨(show (0 : Int) ≤ a1 ∧ a1 < (6 : Int) from by omega), ?_⟩
      have b10 : (-2147483648) ≤ s.1 19 a1 ∧ s.1 19 a1 ≤ 2147483647 := iv_full hI
      exact hQ (s.1 19 a1) (show (-2147483648 : Int) ≤ s.1 19 a1 ∧ s.1 19 a1 ≤ (2147483647 : Int) from by omega)
    · replace c4 : a2 = 4 := c4
      refine ⟨(show (0 : Int) ≤ a1 ∧ a1 < (6 : Int) from by omega), ?_⟩
      have b11 : (-2147483648) ≤ s.1 20 a1 ∧ s.1 20 a1 ≤ 2147483647 := iv_full hI
      exact hQ (s.1 20 a1) (show (-2147483648 : Int) ≤ s.1 20 a1 ∧ s.1 20 a1 ≤ (2147483647 : Int) from by omega)
  · skip
    have dc3 := q1.2 c3
    exact hQ (-2) (show (-2147483648 : Int) ≤ (-2) ∧ (-2) ≤ (2147483647 : Int) from by omega)
-- fm_285 Model.ofPerson 95 i i
theorem sm_285 {a1 : Int} {a2 : Int} {Q : Int → lf_Z → Prop} {s : lf_Z} (hI : iv_A s.1 s.2.2) (ba1 : (-2147483648) ≤ a1 ∧ a1 ≤ 2147483647) (ba2 : (-2147483648) ≤ a2 ∧ a2 ≤ 2147483647) (hQ : ∀ (r : Int), ((-2147483648) ≤ r ∧ r ≤ 2147483647) → Q r s) : fm_285 a1 a2 Q s := by
  unfold fm_285
  refine sm_249 hI (show (-2147483648 : Int) ≤ a1 ∧ a1 ≤ (2147483647 : Int) from by omega) (fun z22 q1 => ?_)
  have b2 : 0 ≤ s.1 96 2 ∧ s.1 96 2 ≤ 6 := iv_rd96 hI (iv_f2103129b (by omega))
  have b3 : s.1 96 2 ≤ 0 ∨ 0 < s.1 96 0 := (show s.1 96 2 ≤ 0 ∨ 0 < s.1 96 0 from iv_l96_2 hI)
  refine ⟨fun c4 => ?_, fun c4 => ?_⟩
  · skip
    have dc4 := q1.2 c4
    exact hQ (-2) (show (-2147483648 : Int) ≤ (-2) ∧ (-2) ≤ (2147483647 : Int) from by omega)
  · skip
    have dc4 := q1.1 c4
    refine sm_183 hI (show (-2147483648 : Int) ≤ a2 ∧ a2 ≤ (2147483647 : Int) from by omega) (show (-1 : Int) ≤ 0 ∧ 0 ≤ (97 : Int) from by omega) (show (-1 : Int) ≤ 4 ∧ 4 ≤ (9999 : Int) from by omega) (fun z24 q5 => ?_)
    refine ⟨fun c6 => ?_, fun c6 => ?_⟩
    · skip
      have dc6 := q5.2 c6
      exact hQ (-2) (show (-2147483648 : Int) ≤ (-2) ∧ (-2) ≤ (2147483647 : Int) from by omega)
    · skip
      have dc6 := q5.1 c6
      refine sm_239c hI (show (0 : Int) ≤ a1 ∧ a1 ≤ (5 : Int) from by omega) (show (0 : Int) ≤ a2 ∧ a2 ≤ (4 : Int) from by omega) (fun r26 q7 => ?_)
      obtain ⟨q7, q7x⟩ := q7
      replace q7x : r26 = s.1 96 (126 + 6 * a1 + a2) := q7x
      exact hQ r26 (show (-2147483648 : Int) ≤ r26 ∧ r26 ≤ (2147483647 : Int) from by omega)
-- fm_113 Land.bitsOfWaysAt 1 i
theorem sm_113_p4 {X4 : Int → Int → lf_Z → Prop} {Q : Int → lf_Z → Prop} {x1 : Int} {x2 : Int} {x3 : Int} {s : lf_Z} (hQ : ∀ (r : Int), ((-2147483648) ≤ r ∧ r ≤ 2147483647) → Q r s) {M4 : Nat} (hX4 : ∀ (x2 : Int) (x3 : Int), (-2147483648) ≤ x2 ∧ x2 ≤ 2147483647 → 0 ≤ x3 ∧ x3 ≤ 4 → (4 - x3).toNat < M4 → X4 x2 x3 s) (hM4 : (4 - x3).toNat ≤ M4) (hI : iv_A s.1 s.2.2) (bx1 : 0 ≤ x1 ∧ x1 ≤ 11) (bx2 : (-2147483648) ≤ x2 ∧ x2 ≤ 2147483647) (bx3 : 0 ≤ x3 ∧ x3 ≤ 4) : fm_113_p4 Q x1 X4 x2 x3 s := by
  unfold fm_113_p4
  refine sm_76 hI (show (-2147483648 : Int) ≤ x1 ∧ x1 ≤ (2147483647 : Int) from by omega) (fun r22 q1 => ?_)
  refine ⟨(show lf_R x3 from lf_Rof (by omega)), ?_⟩
  refine ⟨(show lf_R r22 from lf_Rof (by omega)), ?_⟩
  refine ⟨fun c2 => ?_, fun c2 => ?_⟩
  · skip
    replace c2 : r22 ≤ x3 := c2
    exact hQ x2 (show (-2147483648 : Int) ≤ x2 ∧ x2 ≤ (2147483647 : Int) from by omega)
  · skip
    replace c2 : ¬ (r22 ≤ x3) := c2
    refine sm_77 hI (show (-2147483648 : Int) ≤ x1 ∧ x1 ≤ (2147483647 : Int) from by omega) (show (0 : Int) ≤ x3 ∧ x3 ≤ (3 : Int) from by omega) (fun r26 q3 => ?_)
    have b4 : (-2147483648) ≤ lf_shl 1 r26 ∧ lf_shl 1 r26 ≤ 2147483647 := lf_shlB
    have b5 : (-2147483648) ≤ lf_or x2 (lf_shl 1 r26) ∧ lf_or x2 (lf_shl 1 r26) ≤ 2147483647 := lf_orB
    exact hX4 (lf_or x2 (lf_shl 1 r26)) (x3 + 1) (show (-2147483648 : Int) ≤ lf_or x2 (lf_shl 1 r26) ∧ lf_or x2 (lf_shl 1 r26) ≤ (2147483647 : Int) from by omega) (show (0 : Int) ≤ x3 + 1 ∧ x3 + 1 ≤ (4 : Int) from by omega) (show (4 - (x3 + 1)).toNat < M4 from by omega)
theorem sm_113_p4L {Q : Int → lf_Z → Prop} {x1 : Int} {x2 : Int} {x3 : Int} {s : lf_Z} (hQ : ∀ (r : Int), ((-2147483648) ≤ r ∧ r ≤ 2147483647) → Q r s) (hI : iv_A s.1 s.2.2) (bx1 : 0 ≤ x1 ∧ x1 ≤ 11) (bx2 : (-2147483648) ≤ x2 ∧ x2 ≤ 2147483647) (bx3 : 0 ≤ x3 ∧ x3 ≤ 4) : fm_113_p4L Q x1 x2 x3 s := by
  intro X4 hX
  have key : ∀ (m9 : Nat) (x2 : Int) (x3 : Int), (-2147483648) ≤ x2 ∧ x2 ≤ 2147483647 → 0 ≤ x3 ∧ x3 ≤ 4 → (4 - x3).toNat < m9 → X4 x2 x3 s := by
    intro m9
    induction m9 with
    | zero => intro x2 x3 bx2 bx3 h9; exact absurd h9 (Nat.not_lt_zero _)
    | succ m9 ih => intro x2 x3 bx2 bx3 h9; exact hX _ _ _ (sm_113_p4 hQ   (fun x2' x3' bx2' bx3' h8 => ih x2' x3' bx2' bx3' (by omega)) (Nat.le_refl _)  hI  bx1 bx2 bx3  )
  exact key _ _ _ bx2 bx3   (Nat.lt_succ_self _)
theorem sm_113 {a1 : Int} {Q : Int → lf_Z → Prop} {s : lf_Z} (hI : iv_A s.1 s.2.2) (ba1 : 0 ≤ a1 ∧ a1 ≤ 11) (hQ : ∀ (r : Int), ((-2147483648) ≤ r ∧ r ≤ 2147483647) → Q r s) : fm_113 a1 Q s := by
  unfold fm_113
  exact sm_113_p4L hQ hI (show (0 : Int) ≤ a1 ∧ a1 ≤ (11 : Int) from by omega) (show (-2147483648 : Int) ≤ 0 ∧ 0 ≤ (2147483647 : Int) from by omega) (show (0 : Int) ≤ 0 ∧ 0 ≤ (4 : Int) from by omega)
-- fm_112 ElevenBullocks.ofStretch 0 i i
theorem sm_112 {a1 : Int} {a2 : Int} {Q : Int → lf_Z → Prop} {s : lf_Z} (hI : iv_A s.1 s.2.2) (ba1 : (-2147483648) ≤ a1 ∧ a1 ≤ 2147483647) (ba2 : (-2147483648) ≤ a2 ∧ a2 ≤ 2147483647) (hQ : ∀ (r : Int), ((-2147483648) ≤ r ∧ r ≤ 2147483647) → Q r s) : fm_112 a1 a2 Q s := by
  unfold fm_112
  refine sm_18 hI (show (-2147483648 : Int) ≤ a1 ∧ a1 ≤ (2147483647 : Int) from by omega) (fun z22 q1 => ?_)
  have b2 : 0 ≤ s.1 1 0 ∧ s.1 1 0 ≤ 12 := iv_r1_0 hI
  refine ⟨fun c3 => ?_, fun c3 => ?_⟩
  · skip
    have dc3 := q1.1 c3
    refine ⟨(show lf_R a2 from lf_Rof (by omega)), ?_⟩
    refine ⟨fun c4 => ?_, fun c4 => ?_, fun c4 => ?_, fun c4 => ?_, fun c4 => ?_⟩
    · replace c4 : a2 < 0 ∨ 3 < a2 := c4
      exact hQ (-1) (show (-2147483648 : Int) ≤ (-1) ∧ (-1) ≤ (2147483647 : Int) from by omega)
    · replace c4 : a2 = 0 := c4
      refine ⟨(show (0 : Int) ≤ a1 ∧ a1 < (12 : Int) from by omega), ?_⟩
      have b5 : 0 ≤ s.1 2 a1 ∧ s.1 2 a1 ≤ 3 := iv_r2 hI _
      exact hQ (s.1 2 a1) (show (-2147483648 : Int) ≤ s.1 2 a1 ∧ s.1 2 a1 ≤ (2147483647 : Int) from by omega)
    · replace c4 : a2 = 1 := c4
      refine ⟨(show (0 : Int) ≤ a1 ∧ a1 < (12 : Int) from by omega), ?_⟩
      have b6 : 0 ≤ s.1 3 a1 ∧ s.1 3 a1 ≤ 99 := iv_r3 hI _
      exact hQ (s.1 3 a1) (show (-2147483648 : Int) ≤ s.1 3 a1 ∧ s.1 3 a1 ≤ (2147483647 : Int) from by omega)
    · replace c4 : a2 = 2 := c4
      refine ⟨(show (0 : Int) ≤ a1 ∧ a1 < (12 : Int) from by omega), ?_⟩
      have b7 : (-2147483648) ≤ s.1 21 a1 ∧ s.1 21 a1 ≤ 2147483647 := iv_full hI
      exact hQ (s.1 21 a1) (show (-2147483648 : Int) ≤ s.1 21 a1 ∧ s.1 21 a1 ≤ (2147483647 : Int) from by omega)
    · replace c4 : a2 = 3 := c4
      refine sm_113 hI (show (0 : Int) ≤ a1 ∧ a1 ≤ (11 : Int) from by omega) (fun r28 q8 => ?_)
      exact hQ r28 (show (-2147483648 : Int) ≤ r28 ∧ r28 ≤ (2147483647 : Int) from by omega)
  · skip
    have dc3 := q1.2 c3
    exact hQ (-1) (show (-2147483648 : Int) ≤ (-1) ∧ (-1) ≤ (2147483647 : Int) from by omega)
-- fm_286 Model.ofStretch 95 i i
theorem sm_286 {a1 : Int} {a2 : Int} {Q : Int → lf_Z → Prop} {s : lf_Z} (hI : iv_A s.1 s.2.2) (ba1 : (-2147483648) ≤ a1 ∧ a1 ≤ 2147483647) (ba2 : (-2147483648) ≤ a2 ∧ a2 ≤ 2147483647) (hQ : ∀ (r : Int), ((-2147483648) ≤ r ∧ r ≤ 2147483647) → Q r s) : fm_286 a1 a2 Q s := by
  unfold fm_286
  refine sm_185 hI (show (-2147483648 : Int) ≤ a1 ∧ a1 ≤ (2147483647 : Int) from by omega) (fun z22 q1 => ?_)
  have b2 : 0 ≤ s.1 96 0 ∧ s.1 96 0 ≤ 12 := iv_rd96 hI (iv_f3e1fa21c (by omega))
  refine ⟨fun c3 => ?_, fun c3 => ?_⟩
  · skip
    have dc3 := q1.2 c3
    exact hQ (-1) (show (-2147483648 : Int) ≤ (-1) ∧ (-1) ≤ (2147483647 : Int) from by omega)
  · skip
    have dc3 := q1.1 c3
    refine sm_183 hI (show (-2147483648 : Int) ≤ a2 ∧ a2 ≤ (2147483647 : Int) from by omega) (show (-1 : Int) ≤ 0 ∧ 0 ≤ (97 : Int) from by omega) (show (-1 : Int) ≤ 3 ∧ 3 ≤ (9999 : Int) from by omega) (fun z24 q4 => ?_)
    refine ⟨fun c5 => ?_, fun c5 => ?_⟩
    · skip
      have dc5 := q4.1 c5
      refine ⟨(show lf_R a2 from lf_Rof (by omega)), ?_⟩
      refine ⟨fun c6 => ?_, fun c6 => ?_⟩
      · skip
        replace c6 : a2 ≠ 3 := c6
        refine ⟨(show (0 : Int) ≤ (14 + (3 * a1)) + a2 ∧ (14 + (3 * a1)) + a2 < (1538 : Int) from by omega), ?_⟩
        have b7 : (-2147483648) ≤ s.1 96 ((14 + (3 * a1)) + a2) ∧ s.1 96 ((14 + (3 * a1)) + a2) ≤ 2147483647 := iv_full hI
        exact hQ (s.1 96 ((14 + (3 * a1)) + a2)) (show (-2147483648 : Int) ≤ s.1 96 ((14 + (3 * a1)) + a2) ∧ s.1 96 ((14 + (3 * a1)) + a2) ≤ (2147483647 : Int) from by omega)
      · skip
        replace c6 : ¬ (a2 ≠ 3) := c6
        refine sm_186 hI (show (0 : Int) ≤ a1 ∧ a1 ≤ (11 : Int) from by omega) (fun r28 q8 => ?_)
        exact hQ r28 (show (-2147483648 : Int) ≤ r28 ∧ r28 ≤ (2147483647 : Int) from by omega)
    · skip
      have dc5 := q4.2 c5
      exact hQ (-1) (show (-2147483648 : Int) ≤ (-1) ∧ (-1) ≤ (2147483647 : Int) from by omega)
-- fm_114 ElevenBullocks.ofWay 0 i i
theorem sm_114 {a1 : Int} {a2 : Int} {Q : Int → lf_Z → Prop} {s : lf_Z} (hI : iv_A s.1 s.2.2) (ba1 : (-2147483648) ≤ a1 ∧ a1 ≤ 2147483647) (ba2 : (-2147483648) ≤ a2 ∧ a2 ≤ 2147483647) (hQ : ∀ (r : Int), ((-1) ≤ r ∧ r ≤ 11) → Q r s) : fm_114 a1 a2 Q s := by
  unfold fm_114
  refine sm_79 hI (show (-2147483648 : Int) ≤ a1 ∧ a1 ≤ (2147483647 : Int) from by omega) (fun z22 q1 => ?_)
  have b2 : 0 ≤ s.1 1 1 ∧ s.1 1 1 ≤ 16 := iv_r1_1 hI
  refine ⟨fun c3 => ?_, fun c3 => ?_⟩
  · skip
    have dc3 := q1.1 c3
    refine ⟨(show lf_R a2 from lf_Rof (by omega)), ?_⟩
    refine ⟨fun c4 => ?_, fun c4 => ?_, fun c4 => ?_, fun c4 => ?_, fun c4 => ?_⟩
    · replace c4 : a2 < 0 ∨ 3 < a2 := c4
      exact hQ (-1) (show (-1 : Int) ≤ (-1) ∧ (-1) ≤ (11 : Int) from by omega)
    · replace c4 : a2 = 0 := c4
      refine ⟨(show (0 : Int) ≤ a1 ∧ a1 < (16 : Int) from by omega), ?_⟩
      have b5 : 0 ≤ s.1 4 a1 ∧ s.1 4 a1 ≤ 11 := iv_r4 hI _
      exact hQ (s.1 4 a1) (show (-1 : Int) ≤ s.1 4 a1 ∧ s.1 4 a1 ≤ (11 : Int) from by omega)
    · replace c4 : a2 = 1 := c4
      refine ⟨(show (0 : Int) ≤ a1 ∧ a1 < (16 : Int) from by omega), ?_⟩
      have b6 : 0 ≤ s.1 5 a1 ∧ s.1 5 a1 ≤ 11 := iv_r5 hI _
      exact hQ (s.1 5 a1) (show (-1 : Int) ≤ s.1 5 a1 ∧ s.1 5 a1 ≤ (11 : Int) from by omega)
    · replace c4 : a2 = 2 := c4
      refine ⟨(show (0 : Int) ≤ a1 ∧ a1 < (16 : Int) from by omega), ?_⟩
      have b7 : 0 ≤ s.1 6 a1 ∧ s.1 6 a1 ≤ 1 := iv_r6 hI _
      refine ⟨(show lf_R (s.1 6 a1) from lf_Rof (by omega)), ?_⟩
      refine ⟨fun c8 => ?_, fun c8 => ?_⟩
      · skip
        replace c8 : s.1 6 a1 = 0 := c8
        exact hQ 0 (show (-1 : Int) ≤ 0 ∧ 0 ≤ (11 : Int) from by omega)
      · skip
        replace c8 : ¬ (s.1 6 a1 = 0) := c8
        exact hQ 1 (show (-1 : Int) ≤ 1 ∧ 1 ≤ (11 : Int) from by omega)
    · replace c4 : a2 = 3 := c4
      refine sm_90 hI (show (0 : Int) ≤ a1 ∧ a1 ≤ (15 : Int) from by omega) (fun z29 => ?_)
      refine ⟨fun c10 => ?_, fun c10 => ?_⟩
      · skip
        exact hQ 0 (show (-1 : Int) ≤ 0 ∧ 0 ≤ (11 : Int) from by omega)
      · skip
        exact hQ 1 (show (-1 : Int) ≤ 1 ∧ 1 ≤ (11 : Int) from by omega)
  · skip
    have dc3 := q1.2 c3
    exact hQ (-1) (show (-1 : Int) ≤ (-1) ∧ (-1) ≤ (11 : Int) from by omega)
-- fm_287 Model.ofWay 95 i i
theorem sm_287 {a1 : Int} {a2 : Int} {Q : Int → lf_Z → Prop} {s : lf_Z} (hI : iv_A s.1 s.2.2) (ba1 : (-2147483648) ≤ a1 ∧ a1 ≤ 2147483647) (ba2 : (-2147483648) ≤ a2 ∧ a2 ≤ 2147483647) (hQ : ∀ (r : Int), ((-2147483648) ≤ r ∧ r ≤ 2147483647) → Q r s) : fm_287 a1 a2 Q s := by
  unfold fm_287
  refine sm_251 hI (show (-2147483648 : Int) ≤ a1 ∧ a1 ≤ (2147483647 : Int) from by omega) (fun z22 q1 => ?_)
  have b2 : 0 ≤ s.1 96 1 ∧ s.1 96 1 ≤ 16 := iv_rd96 hI (iv_fd6ad3e54 (by omega))
  have b3 : s.1 96 1 ≤ 0 ∨ 0 < s.1 96 0 := (show s.1 96 1 ≤ 0 ∨ 0 < s.1 96 0 from iv_l96_1 hI)
  refine ⟨fun c4 => ?_, fun c4 => ?_⟩
  · skip
    have dc4 := q1.2 c4
    exact hQ (-1) (show (-2147483648 : Int) ≤ (-1) ∧ (-1) ≤ (2147483647 : Int) from by omega)
  · skip
    have dc4 := q1.1 c4
    refine sm_183 hI (show (-2147483648 : Int) ≤ a2 ∧ a2 ≤ (2147483647 : Int) from by omega) (show (-1 : Int) ≤ 0 ∧ 0 ≤ (97 : Int) from by omega) (show (-1 : Int) ≤ 3 ∧ 3 ≤ (9999 : Int) from by omega) (fun z24 q5 => ?_)
    refine ⟨fun c6 => ?_, fun c6 => ?_⟩
    · skip
      have dc6 := q5.2 c6
      exact hQ (-1) (show (-2147483648 : Int) ≤ (-1) ∧ (-1) ≤ (2147483647 : Int) from by omega)
    · skip
      have dc6 := q5.1 c6
      refine ⟨(show (0 : Int) ≤ (50 + (4 * a1)) + a2 ∧ (50 + (4 * a1)) + a2 < (1538 : Int) from by omega), ?_⟩
      have b7 : (-2147483648) ≤ s.1 96 ((50 + (4 * a1)) + a2) ∧ s.1 96 ((50 + (4 * a1)) + a2) ≤ 2147483647 := iv_full hI
      exact hQ (s.1 96 ((50 + (4 * a1)) + a2)) (show (-2147483648 : Int) ≤ s.1 96 ((50 + (4 * a1)) + a2) ∧ s.1 96 ((50 + (4 * a1)) + a2) ≤ (2147483647 : Int) from by omega)
-- fm_115 ElevenBullocks.takes 0 i i
theorem sm_115_p80 {Q : Int → lf_Z → Prop} {x1 : Int} {x2 : Int} {y0 : Int} {s : lf_Z} (hQ : ∀ (r : Int) (s' : lf_Z), iv_A s'.1 s'.2.2 → lf_fq [63, 64, 65, 66] 1000000 true s.1 s.2.2 s'.1 s'.2.2 → ((-1) ≤ r ∧ r ≤ 1000000) → Q r s') (hI : iv_A s.1 s.2.2) (bx1 : 0 ≤ x1 ∧ x1 ≤ 3) (bx2 : 0 ≤ x2 ∧ x2 ≤ 15) (by0 : 0 ≤ y0 ∧ y0 ≤ 1) : fm_115_p80 Q x1 x2 y0 s := by
  unfold fm_115_p80
  refine ⟨(show (0 : Int) ≤ x1 ∧ x1 < (4 : Int) from by omega), ?_⟩
  have b16 : (-2147483648) ≤ s.1 16 x1 ∧ s.1 16 x1 ≤ 2147483647 := iv_full hI
  have b17 : (-1) ≤ s.1 17 x1 ∧ s.1 17 x1 ≤ 11 := iv_r17 hI _
  have b18 : s.1 16 x1 ≤ 0 ∨ 0 ≤ s.1 17 x1 := (by first | exact (show s.1 16 x1 ≤ 0 ∨ 0 ≤ s.1 17 x1 from iv_sp hI (by omega) (by omega)) | exact iv_sp hI (by omega) (by omega))
  refine sm_91 hI (show (-2147483648 : Int) ≤ s.1 16 x1 ∧ s.1 16 x1 ≤ (2147483647 : Int) from by omega) (show (-1 : Int) ≤ s.1 17 x1 ∧ s.1 17 x1 ≤ (11 : Int) from by omega) (show (0 : Int) ≤ x2 ∧ x2 ≤ (15 : Int) from by omega) (show (0 : Int) ≤ y0 ∧ y0 ≤ (1 : Int) from by omega) (show (0 : Int) ≤ 0 ∧ 0 ≤ (1 : Int) from by omega) (show (-2147483648 : Int) ≤ 0 ∧ 0 ≤ (2147483647 : Int) from by omega) (fun r34 s33 hI20 fr19 q21 => ?_)
  have fr22 : lf_fq [63, 64, 65, 66] 1000000 true s.1 s.2.2 s33.1 s33.2.2 := lf_fq_tr (lf_fq_rf) (lf_fq_wk fr19 rfl (by decide) (by decide))
  exact hQ r34 s33 hI20 fr22 (show (-1 : Int) ≤ r34 ∧ r34 ≤ (1000000 : Int) from by omega)
theorem sm_115 {a1 : Int} {a2 : Int} {Q : Int → lf_Z → Prop} {s : lf_Z} (hI : iv_A s.1 s.2.2) (ba1 : (-2147483648) ≤ a1 ∧ a1 ≤ 2147483647) (ba2 : (-2147483648) ≤ a2 ∧ a2 ≤ 2147483647) (hQ : ∀ (r : Int) (s' : lf_Z), iv_A s'.1 s'.2.2 → lf_fq [63, 64, 65, 66] 1000000 true s.1 s.2.2 s'.1 s'.2.2 → ((-1) ≤ r ∧ r ≤ 1000000) → Q r s') : fm_115 a1 a2 Q s := by
  unfold fm_115
  refine sm_80 hI (show (-2147483648 : Int) ≤ a1 ∧ a1 ≤ (2147483647 : Int) from by omega) (fun z22 q1 => ?_)
  have b2 : (-2147483648) ≤ s.1 16 a1 ∧ s.1 16 a1 ≤ 2147483647 := iv_full hI
  refine ⟨fun c3 => ?_, fun c3 => ?_⟩
  · skip
    have dc3 := q1.2 c3
    exact hQ (-1) s hI (lf_fq_rf) (show (-1 : Int) ≤ (-1) ∧ (-1) ≤ (1000000 : Int) from by omega)
  · skip
    have dc3 := q1.1 c3
    refine sm_89 hI (show (-2147483648 : Int) ≤ a2 ∧ a2 ≤ (2147483647 : Int) from by omega) (fun z24 q4 => ?_)
    have b5 : 0 ≤ s.1 1 1 ∧ s.1 1 1 ≤ 16 := iv_r1_1 hI
    have b6 : 0 ≤ s.1 6 a2 ∧ s.1 6 a2 ≤ 1 := iv_r6 hI _
    refine ⟨fun c7 => ?_, fun c7 => ?_⟩
    · skip
      have dc7 := q4.1 c7
      refine ⟨(show (0 : Int) ≤ a1 ∧ a1 < (4 : Int) from by omega), ?_⟩
      have b8 : (-1) ≤ s.1 17 a1 ∧ s.1 17 a1 ≤ 11 := iv_r17 hI _
      have b9 : s.1 16 a1 ≤ 0 ∨ 0 ≤ s.1 17 a1 := (by first | exact (show s.1 16 a1 ≤ 0 ∨ 0 ≤ s.1 17 a1 from iv_sp hI (by omega) (by omega)) | exact iv_sp hI (by omega) (by omega))
      refine sm_78 hI (show (-1 : Int) ≤ a2 ∧ a2 ≤ (15 : Int) from by omega) (show (-2147483648 : Int) ≤ s.1 17 a1 ∧ s.1 17 a1 ≤ (2147483647 : Int) from by omega) (fun r27 q10 => ?_)
      obtain ⟨q10, q10x⟩ := q10
      replace q10x : r27 = iv_od (s.1 1 1) (s.1 4) (s.1 5) a2 (s.1 17 a1) := q10x
      refine ⟨(show lf_R r27 from lf_Rof (by omega)), ?_⟩
      refine ⟨fun c11 => ?_, fun c11 => ?_⟩
      · skip
        replace c11 : r27 ≠ (-1) := c11
        refine sm_90 hI (show (0 : Int) ≤ a2 ∧ a2 ≤ (15 : Int) from by omega) (fun z30 => ?_)
        refine ⟨fun c13 => ?_, fun c13 => ?_⟩
        · skip
          have b14 : (-1) ≤ s.1 18 a1 ∧ s.1 18 a1 ≤ 11 := iv_r18 hI _
          refine ⟨(show lf_R (s.1 18 a1) from lf_Rof (by omega)), ?_⟩
          refine ⟨fun c15 => ?_, fun c15 => ?_⟩
          · skip
            replace c15 : s.1 18 a1 ≠ r27 := c15
            exact sm_115_p80 hQ hI (show (0 : Int) ≤ a1 ∧ a1 ≤ (3 : Int) from by omega) (show (0 : Int) ≤ a2 ∧ a2 ≤ (15 : Int) from by omega) (show (0 : Int) ≤ 0 ∧ 0 ≤ (1 : Int) from by omega)
          · skip
            replace c15 : ¬ (s.1 18 a1 ≠ r27) := c15
            exact sm_115_p80 hQ hI (show (0 : Int) ≤ a1 ∧ a1 ≤ (3 : Int) from by omega) (show (0 : Int) ≤ a2 ∧ a2 ≤ (15 : Int) from by omega) (show (0 : Int) ≤ 1 ∧ 1 ≤ (1 : Int) from by omega)
        · skip
          exact hQ 0 s hI (lf_fq_rf) (show (-1 : Int) ≤ 0 ∧ 0 ≤ (1000000 : Int) from by omega)
      · skip
        replace c11 : ¬ (r27 ≠ (-1)) := c11
        exact hQ (-1) s hI (lf_fq_rf) (show (-1 : Int) ≤ (-1) ∧ (-1) ≤ (1000000 : Int) from by omega)
    · skip
      have dc7 := q4.2 c7
      exact hQ (-1) s hI (lf_fq_rf) (show (-1 : Int) ≤ (-1) ∧ (-1) ≤ (1000000 : Int) from by omega)
-- fm_288 Model.takes 95 i i
theorem sm_288 {a1 : Int} {a2 : Int} {Q : Int → lf_Z → Prop} {s : lf_Z} (hI : iv_A s.1 s.2.2) (ba1 : (-2147483648) ≤ a1 ∧ a1 ≤ 2147483647) (ba2 : (-2147483648) ≤ a2 ∧ a2 ≤ 2147483647) (hQ : ∀ (r : Int) (s' : lf_Z), iv_A s'.1 s'.2.2 → lf_fq [104, 107] 1000000 true s.1 s.2.2 s'.1 s'.2.2 → ((-1) ≤ r ∧ r ≤ 100) → Q r s') : fm_288 a1 a2 Q s := by
  unfold fm_288
  refine sm_254 hI (show (-2147483648 : Int) ≤ a1 ∧ a1 ≤ (2147483647 : Int) from by omega) (fun z22 q1 => ?_)
  refine ⟨fun c2 => ?_, fun c2 => ?_⟩
  · skip
    have dc2 := q1.2 c2
    exact hQ (-1) s hI (lf_fq_rf) (show (-1 : Int) ≤ (-1) ∧ (-1) ≤ (100 : Int) from by omega)
  · skip
    have dc2 := q1.1 c2
    refine sm_251 hI (show (-2147483648 : Int) ≤ a2 ∧ a2 ≤ (2147483647 : Int) from by omega) (fun z24 q3 => ?_)
    have b4 : 0 ≤ s.1 96 1 ∧ s.1 96 1 ≤ 16 := iv_rd96 hI (iv_fd6ad3e54 (by omega))
    have b5 : s.1 96 1 ≤ 0 ∨ 0 < s.1 96 0 := (show s.1 96 1 ≤ 0 ∨ 0 < s.1 96 0 from iv_l96_1 hI)
    refine ⟨fun c6 => ?_, fun c6 => ?_⟩
    · skip
      have dc6 := q3.2 c6
      exact hQ (-1) s hI (lf_fq_rf) (show (-1 : Int) ≤ (-1) ∧ (-1) ≤ (100 : Int) from by omega)
    · skip
      have dc6 := q3.1 c6
      refine sm_252 hI (show (0 : Int) ≤ a2 ∧ a2 ≤ (15 : Int) from by omega) (fun z26 => ?_)
      refine ⟨fun c8 => ?_, fun c8 => ?_⟩
      · skip
        exact hQ (-1) s hI (lf_fq_rf) (show (-1 : Int) ≤ (-1) ∧ (-1) ≤ (100 : Int) from by omega)
      · skip
        refine sm_255 hI (show (0 : Int) ≤ a1 ∧ a1 ≤ (3 : Int) from by omega) (fun r28 q9 => ?_)
        refine sm_187 hI (show (0 : Int) ≤ a2 ∧ a2 ≤ (15 : Int) from by omega) (show (0 : Int) ≤ r28 ∧ r28 ≤ (11 : Int) from by omega) (fun r30 q10 => ?_)
        obtain ⟨q10, q10x⟩ := q10
        replace q10x : r30 = iv_os (s.1 96) a2 r28 := q10x
        refine ⟨(show lf_R r30 from lf_Rof (by omega)), ?_⟩
        refine ⟨fun c11 => ?_, fun c11 => ?_⟩
        · skip
          replace c11 : 0 ≤ r30 := c11
          refine sm_242 hI (show (0 : Int) ≤ a1 ∧ a1 ≤ (3 : Int) from by omega) (fun r33 q12 => ?_)
          obtain ⟨q12, q12x⟩ := q12
          replace q12x : r33 = s.1 96 (114 + 3 * a1) := q12x
          refine sm_255 hI (show (0 : Int) ≤ a1 ∧ a1 ≤ (3 : Int) from by omega) (fun r35 q13 => ?_)
          refine sm_256 hI (show (0 : Int) ≤ a1 ∧ a1 ≤ (3 : Int) from by omega) (fun r37 q14 => ?_)
          refine sm_273 hI (show (0 : Int) ≤ r33 ∧ r33 ≤ (24 : Int) from by omega) (show (0 : Int) ≤ r35 ∧ r35 ≤ (11 : Int) from by omega) (show (-1 : Int) ≤ r37 ∧ r37 ≤ (11 : Int) from by omega) (show (0 : Int) ≤ a2 ∧ a2 ≤ (15 : Int) from by omega) (fun r39 s38 hI16 fr15 q17 => ?_)
          obtain ⟨q17, q17x⟩ := q17
          replace q17x : r39 ≤ 0 ∨ 0 ≤ iv_os (s.1 96) a2 r35 := q17x
          have fr18 : lf_fq [104, 107] 1000000 true s.1 s.2.2 s38.1 s38.2.2 := lf_fq_tr (lf_fq_rf) (lf_fq_wk fr15 rfl (by decide) (by decide))
          exact hQ r39 s38 hI16 fr18 (show (-1 : Int) ≤ r39 ∧ r39 ≤ (100 : Int) from by omega)
        · skip
          replace c11 : ¬ (0 ≤ r30) := c11
          exact hQ (-1) s hI (lf_fq_rf) (show (-1 : Int) ≤ (-1) ∧ (-1) ≤ (100 : Int) from by omega)
-- fm_118 Walk.begin 68 i i
theorem sm_118 {a1 : Int} {a2 : Int} {Q : lf_Z → Prop} {s : lf_Z} (hI : iv_A s.1 s.2.2) (ba1 : 0 ≤ a1 ∧ a1 ≤ 3) (ba2 : 0 ≤ a2 ∧ a2 ≤ 9) (hQ : ∀  (s' : lf_Z), iv_A s'.1 s'.2.2 → lf_fq [68, 69] 1000000 true s.1 s.2.2 s'.1 s'.2.2 → Q  s') : fm_118 a1 a2 Q s := by
  unfold fm_118
  have hI1 : iv_A (lf_fl s.1 69 256 (-1)) s.2.2 := iv_fl69 hI (by omega)
  have fr2 : lf_fq [68, 69] 1000000 true s.1 s.2.2 (lf_fl s.1 69 256 (-1)) s.2.2 := lf_fq_fl (lf_fq_rf) rfl (by decide)
  refine ⟨(show (0 : Int) ≤ a1 ∧ a1 < (4 : Int) from by omega), ?_⟩
  have b3 : (-2147483648) ≤ (lf_fl s.1 69 256 (-1)) 16 a1 ∧ (lf_fl s.1 69 256 (-1)) 16 a1 ≤ 2147483647 := iv_full hI1
  have b4 : (lf_fl s.1 69 256 (-1)) 16 a1 = s.1 16 a1 := lf_fl_c (by omega)
  have hI5 : iv_A (lf_up (lf_fl s.1 69 256 (-1)) 68 8 ((lf_fl s.1 69 256 (-1)) 16 a1)) s.2.2 := iv_w68_8 hI1 (by omega)
  have fr6 : lf_fq [68, 69] 1000000 true s.1 s.2.2 (lf_up (lf_fl s.1 69 256 (-1)) 68 8 ((lf_fl s.1 69 256 (-1)) 16 a1)) s.2.2 := lf_fq_up fr2 rfl (fun h => absurd h (by decide))
  have hI7 : iv_A (lf_up (lf_up (lf_fl s.1 69 256 (-1)) 68 8 ((lf_fl s.1 69 256 (-1)) 16 a1)) 68 11 a2) s.2.2 := iv_w68_11 hI5 (by omega)
  have fr8 : lf_fq [68, 69] 1000000 true s.1 s.2.2 (lf_up (lf_up (lf_fl s.1 69 256 (-1)) 68 8 ((lf_fl s.1 69 256 (-1)) 16 a1)) 68 11 a2) s.2.2 := lf_fq_up fr6 rfl (fun h => absurd h (by decide))
  have hI9 : iv_A (lf_up (lf_up (lf_up (lf_fl s.1 69 256 (-1)) 68 8 ((lf_fl s.1 69 256 (-1)) 16 a1)) 68 11 a2) 68 9 0) s.2.2 := iv_w68_9 hI7 (by omega)
  have fr10 : lf_fq [68, 69] 1000000 true s.1 s.2.2 (lf_up (lf_up (lf_up (lf_fl s.1 69 256 (-1)) 68 8 ((lf_fl s.1 69 256 (-1)) 16 a1)) 68 11 a2) 68 9 0) s.2.2 := lf_fq_up fr8 rfl (fun h => absurd h (by decide))
  have hI11 : iv_A (lf_up (lf_up (lf_up (lf_up (lf_fl s.1 69 256 (-1)) 68 8 ((lf_fl s.1 69 256 (-1)) 16 a1)) 68 11 a2) 68 9 0) 68 10 0) s.2.2 := iv_w68_10 hI9 (by omega)
  have fr12 : lf_fq [68, 69] 1000000 true s.1 s.2.2 (lf_up (lf_up (lf_up (lf_up (lf_fl s.1 69 256 (-1)) 68 8 ((lf_fl s.1 69 256 (-1)) 16 a1)) 68 11 a2) 68 9 0) 68 10 0) s.2.2 := lf_fq_up fr10 rfl (fun h => absurd h (by decide))
  exact hQ (lf_up (lf_up (lf_up (lf_up (lf_fl s.1 69 256 (-1)) 68 8 ((lf_fl s.1 69 256 (-1)) 16 a1)) 68 11 a2) 68 9 0) 68 10 0, s.2.1, s.2.2) hI11 fr12
-- fm_119 java/util/Arrays.fill w l
theorem sm_119_p6 {X6 : Int → lf_Z → Prop} {Q : lf_Z → Prop} {v0 : Nat} {x1 : Int} {x3 : Int} {x4 : Int} {s : lf_Z} (hQ : ∀  (s' : lf_Z), iv_A s'.1 s'.2.2 → lf_fq [] 1000000 true s.1 s.2.2 s'.1 s'.2.2 → Q  s') {M6 : Nat} (hX6 : ∀ (x3 : Int) (s' : lf_Z), iv_A s'.1 s'.2.2 → lf_fq [] 1000000 true s.1 s.2.2 s'.1 s'.2.2 → 0 ≤ x3 ∧ x3 ≤ 2147483646 → (2147483646 - x3).toNat < M6 → X6 x3 s') (hM6 : (2147483646 - x3).toNat ≤ M6) (hI : iv_A s.1 s.2.2) (bx3 : 0 ≤ x3 ∧ x3 ≤ 2147483646) (bx4 : 156 ≤ x4 ∧ x4 ≤ 156) (hwv0 : v0 = 72 ∨ v0 = 73) : fm_119_p6 Q v0 x1 x4 X6 x3 s := by
  unfold fm_119_p6
  refine ⟨(show lf_R x3 from lf_Rof (by omega)), ?_⟩
  refine ⟨(show lf_R x4 from lf_Rof (by omega)), ?_⟩
  refine ⟨fun c1 => ?_, fun c1 => ?_⟩
  · skip
    replace c1 : x4 ≤ x3 := c1
    exact hQ s hI (lf_fq_rf)
  · skip
    replace c1 : ¬ (x4 ≤ x3) := c1
    refine ⟨(show (0 : Int) ≤ x3 ∧ x3 < (156 : Int) from by omega), ?_⟩
    exact hX6 (x3 + 1) (s.1, lf_up s.2.1 v0 x3 (lf_wl x1), s.2.2) hI (lf_fq_rf) (show (0 : Int) ≤ x3 + 1 ∧ x3 + 1 ≤ (2147483646 : Int) from by omega) (show (2147483646 - (x3 + 1)).toNat < M6 from by omega)
theorem sm_119_p6L {Q : lf_Z → Prop} {v0 : Nat} {x1 : Int} {x3 : Int} {x4 : Int} {s : lf_Z} (hQ : ∀  (s' : lf_Z), iv_A s'.1 s'.2.2 → lf_fq [] 1000000 true s.1 s.2.2 s'.1 s'.2.2 → Q  s') (hI : iv_A s.1 s.2.2) (bx3 : 0 ≤ x3 ∧ x3 ≤ 2147483646) (bx4 : 156 ≤ x4 ∧ x4 ≤ 156) (hwv0 : v0 = 72 ∨ v0 = 73) : fm_119_p6L Q v0 x1 x3 x4 s := by
  intro X6 hX
  have key : ∀ (m9 : Nat) (x3 : Int) (s' : lf_Z), iv_A s'.1 s'.2.2 → lf_fq [] 1000000 true s.1 s.2.2 s'.1 s'.2.2 → 0 ≤ x3 ∧ x3 ≤ 2147483646 → (2147483646 - x3).toNat < m9 → X6 x3 s' := by
    intro m9
    induction m9 with
    | zero => intro x3 s' _ _ bx3 h9; exact absurd h9 (Nat.not_lt_zero _)
    | succ m9 ih => intro x3 s' i7 f7 bx3 h9; exact hX _ _ (sm_119_p6 (fun t9 i9 f9 => hQ t9 i9 (lf_fq_tr f7 f9))   (fun x3' t8 i8 f8 bx3' h8 => ih x3' t8 i8 (lf_fq_tr f7 f8) bx3' (by omega)) (Nat.le_refl _)  i7  bx3 bx4 hwv0 )
  exact key _ _ s hI lf_fq_rf bx3 (Nat.lt_succ_self _)
theorem sm_119 {w0 : Nat} {a1 : Int} {Q : lf_Z → Prop} {s : lf_Z} (hww0 : w0 = 72 ∨ w0 = 73) (hI : iv_A s.1 s.2.2) (hQ : ∀  (s' : lf_Z), iv_A s'.1 s'.2.2 → lf_fq [] 1000000 true s.1 s.2.2 s'.1 s'.2.2 → Q  s') : fm_119 w0 a1 Q s := by
  unfold fm_119
  exact sm_119_p6L hQ hI (show (0 : Int) ≤ 0 ∧ 0 ≤ (2147483646 : Int) from by omega) (show (156 : Int) ≤ 156 ∧ 156 ≤ (156 : Int) from by omega) hww0
-- fm_120 Walk.standOf 68 i
theorem sm_120 {a1 : Int} {Q : Int → lf_Z → Prop} {s : lf_Z} (hI : iv_A s.1 s.2.2) (ba1 : 0 ≤ a1 ∧ a1 ≤ 3) (kp0 : 0 < s.1 16 a1) (hQ : ∀ (r : Int), (0 ≤ r ∧ r ≤ 155) → Q r s) : fm_120 a1 Q s := by
  unfold fm_120
  refine ⟨(show (0 : Int) ≤ a1 ∧ a1 < (4 : Int) from by omega), ?_⟩
  have b1 : (-1) ≤ s.1 17 a1 ∧ s.1 17 a1 ≤ 11 := iv_r17 hI _
  have b2 : s.1 16 a1 ≤ 0 ∨ 0 ≤ s.1 17 a1 := (by first | exact (show s.1 16 a1 ≤ 0 ∨ 0 ≤ s.1 17 a1 from iv_sp hI (by omega) (by omega)) | exact iv_sp hI (by omega) (by omega))
  have b3 : (-1) ≤ s.1 18 a1 ∧ s.1 18 a1 ≤ 11 := iv_r18 hI _
  exact hQ ((((s.1 17 a1) * 13) + (s.1 18 a1)) + 1) (show (0 : Int) ≤ (((s.1 17 a1) * 13) + (s.1 18 a1)) + 1 ∧ (((s.1 17 a1) * 13) + (s.1 18 a1)) + 1 ≤ (155 : Int) from by omega)
-- fm_123 Walk.chanceOf 68 i i i
theorem sm_123_p174 {Q : Int → lf_Z → Prop} {x9 : Int} {s : lf_Z} (hQ : ∀ (r : Int) (s' : lf_Z), iv_A s'.1 s'.2.2 → lf_fq [63, 64, 65, 66, 69] 1000000 true s.1 s.2.2 s'.1 s'.2.2 → ((-2147483648) ≤ r ∧ r ≤ 2147483647) → Q r s') (hI : iv_A s.1 s.2.2) (bx9 : 0 ≤ x9 ∧ x9 ≤ 255) : fm_123_p174 Q x9 s := by
  unfold fm_123_p174
  refine ⟨(show (0 : Int) ≤ x9 ∧ x9 < (256 : Int) from by omega), ?_⟩
  have b24 : (-2147483648) ≤ s.1 69 x9 ∧ s.1 69 x9 ≤ 2147483647 := iv_full hI
  exact hQ (s.1 69 x9) s hI (lf_fq_rf) (show (-2147483648 : Int) ≤ s.1 69 x9 ∧ s.1 69 x9 ≤ (2147483647 : Int) from by omega)
theorem sm_123_p105 {Q : Int → lf_Z → Prop} {x1 : Int} {x2 : Int} {x5 : Int} {x6 : Int} {x7 : Int} {y0 : Int} {s : lf_Z} (hQ : ∀ (r : Int) (s' : lf_Z), iv_A s'.1 s'.2.2 → lf_fq [63, 64, 65, 66, 69] 1000000 true s.1 s.2.2 s'.1 s'.2.2 → ((-2147483648) ≤ r ∧ r ≤ 2147483647) → Q r s') (hI : iv_A s.1 s.2.2) (bx1 : 0 ≤ x1 ∧ x1 ≤ 15) (bx2 : 0 ≤ x2 ∧ x2 ≤ 11) (bx5 : 0 ≤ x5 ∧ x5 ≤ 1) (bx6 : 0 ≤ x6 ∧ x6 ≤ 1) (bx7 : 0 ≤ x7 ∧ x7 ≤ 1) (by0 : 0 ≤ y0 ∧ y0 ≤ 1) : fm_123_p105 Q x1 x2 x5 x6 x7 y0 s := by
  unfold fm_123_p105
  refine ⟨(show (0 : Int) ≤ ((((x1 * 16) + (y0 * 8)) + (x5 * 4)) + (x6 * 2)) + x7 ∧ ((((x1 * 16) + (y0 * 8)) + (x5 * 4)) + (x6 * 2)) + x7 < (256 : Int) from by omega), ?_⟩
  have b22 : (-2147483648) ≤ s.1 69 (((((x1 * 16) + (y0 * 8)) + (x5 * 4)) + (x6 * 2)) + x7) ∧ s.1 69 (((((x1 * 16) + (y0 * 8)) + (x5 * 4)) + (x6 * 2)) + x7) ≤ 2147483647 := iv_full hI
  refine ⟨(show lf_R (s.1 69 (((((x1 * 16) + (y0 * 8)) + (x5 * 4)) + (x6 * 2)) + x7)) from lf_Rof (by omega)), ?_⟩
  refine ⟨fun c23 => ?_, fun c23 => ?_⟩
  · skip
    replace c23 : s.1 69 (((((x1 * 16) + (y0 * 8)) + (x5 * 4)) + (x6 * 2)) + x7) ≠ (-1) := c23
    exact sm_123_p174 hQ hI (show (0 : Int) ≤ ((((x1 * 16) + (y0 * 8)) + (x5 * 4)) + (x6 * 2)) + x7 ∧ ((((x1 * 16) + (y0 * 8)) + (x5 * 4)) + (x6 * 2)) + x7 ≤ (255 : Int) from by omega)
  · skip
    replace c23 : ¬ (s.1 69 (((((x1 * 16) + (y0 * 8)) + (x5 * 4)) + (x6 * 2)) + x7) ≠ (-1)) := c23
    have b25 : (-2147483648) ≤ s.1 68 8 ∧ s.1 68 8 ≤ 2147483647 := iv_full hI
    have b26 : (-2147483648) ≤ s.1 68 11 ∧ s.1 68 11 ≤ 2147483647 := iv_full hI
    have b27 : (-2147483648) ≤ x7 * (s.1 68 11) ∧ x7 * (s.1 68 11) ≤ 2147483647 := lf_mulB (a := x7) (b := (s.1 68 11)) (p := 0) (q := 1) (r := (-2147483648)) (u := 2147483647) (by omega) (by omega) (by decide) (by decide) (by decide) (by decide) (by decide) (by decide) (by decide) (by decide)
    refine sm_91 hI (show (-2147483648 : Int) ≤ s.1 68 8 ∧ s.1 68 8 ≤ (2147483647 : Int) from by omega) (show (-1 : Int) ≤ x2 ∧ x2 ≤ (11 : Int) from by omega) (show (0 : Int) ≤ x1 ∧ x1 ≤ (15 : Int) from by omega) (show (0 : Int) ≤ x5 ∧ x5 ≤ (1 : Int) from by omega) (show (0 : Int) ≤ x6 ∧ x6 ≤ (1 : Int) from by omega) (show (-2147483648 : Int) ≤ x7 * (s.1 68 11) ∧ x7 * (s.1 68 11) ≤ (2147483647 : Int) from by omega) (fun r36 s35 hI29 fr28 q30 => ?_)
    have fr31 : lf_fq [63, 64, 65, 66, 69] 1000000 true s.1 s.2.2 s35.1 s35.2.2 := lf_fq_tr (lf_fq_rf) (lf_fq_wk fr28 rfl (by decide) (by decide))
    have hI32 : iv_A (lf_up s35.1 69 (((((x1 * 16) + (y0 * 8)) + (x5 * 4)) + (x6 * 2)) + x7) r36) s35.2.2 := iv_w69 hI29 (by omega)
    have fr33 : lf_fq [63, 64, 65, 66, 69] 1000000 true s.1 s.2.2 (lf_up s35.1 69 (((((x1 * 16) + (y0 * 8)) + (x5 * 4)) + (x6 * 2)) + x7) r36) s35.2.2 := lf_fq_up fr31 rfl (fun h => absurd h (by decide))
    exact sm_123_p174 (fun r9 t9 i9 f9 => hQ r9 t9 i9 (lf_fq_tr fr33 f9)) hI32 (show (0 : Int) ≤ ((((x1 * 16) + (y0 * 8)) + (x5 * 4)) + (x6 * 2)) + x7 ∧ ((((x1 * 16) + (y0 * 8)) + (x5 * 4)) + (x6 * 2)) + x7 ≤ (255 : Int) from by omega)
theorem sm_123_p64 {Q : Int → lf_Z → Prop} {x1 : Int} {x2 : Int} {x4 : Int} {y0 : Int} {s : lf_Z} (hQ : ∀ (r : Int) (s' : lf_Z), iv_A s'.1 s'.2.2 → lf_fq [63, 64, 65, 66, 69] 1000000 true s.1 s.2.2 s'.1 s'.2.2 → ((-2147483648) ≤ r ∧ r ≤ 2147483647) → Q r s') (hI : iv_A s.1 s.2.2) (bx1 : 0 ≤ x1 ∧ x1 ≤ 15) (bx2 : 0 ≤ x2 ∧ x2 ≤ 11) (bx4 : 0 ≤ x4 ∧ x4 ≤ 11) (by0 : 0 ≤ y0 ∧ y0 ≤ 1) : fm_123_p64 Q x1 x2 x4 y0 s := by
  unfold fm_123_p64
  have b15 : (-2147483648) ≤ s.1 68 10 ∧ s.1 68 10 ≤ 2147483647 := iv_full hI
  have b16 : (-2147483648) ≤ lf_shr (s.1 68 10) x2 ∧ lf_shr (s.1 68 10) x2 ≤ 2147483647 := lf_shrB
  have b17 : 0 ≤ lf_and (lf_shr (s.1 68 10) x2) 1 ∧ lf_and (lf_shr (s.1 68 10) x2) 1 ≤ 1 := lf_andB (by omega) (by omega)
  have b18 : (-2147483648) ≤ lf_shr (s.1 68 10) x4 ∧ lf_shr (s.1 68 10) x4 ≤ 2147483647 := lf_shrB
  have b19 : 0 ≤ lf_and (lf_shr (s.1 68 10) x4) 1 ∧ lf_and (lf_shr (s.1 68 10) x4) 1 ≤ 1 := lf_andB (by omega) (by omega)
  refine ⟨(show (0 : Int) ≤ x1 ∧ x1 < (16 : Int) from by omega), ?_⟩
  have b20 : 0 ≤ s.1 4 x1 ∧ s.1 4 x1 ≤ 11 := iv_r4 hI _
  refine ⟨(show lf_R (s.1 4 x1) from lf_Rof (by omega)), ?_⟩
  refine ⟨(show lf_R x2 from lf_Rof (by omega)), ?_⟩
  refine ⟨fun c21 => ?_, fun c21 => ?_⟩
  · skip
    replace c21 : s.1 4 x1 ≠ x2 := c21
    exact sm_123_p105 hQ hI (show (0 : Int) ≤ x1 ∧ x1 ≤ (15 : Int) from by omega) (show (0 : Int) ≤ x2 ∧ x2 ≤ (11 : Int) from by omega) (show (0 : Int) ≤ y0 ∧ y0 ≤ (1 : Int) from by omega) (show (0 : Int) ≤ lf_and (lf_shr (s.1 68 10) x2) 1 ∧ lf_and (lf_shr (s.1 68 10) x2) 1 ≤ (1 : Int) from by omega) (show (0 : Int) ≤ lf_and (lf_shr (s.1 68 10) x4) 1 ∧ lf_and (lf_shr (s.1 68 10) x4) 1 ≤ (1 : Int) from by omega) (show (0 : Int) ≤ 1 ∧ 1 ≤ (1 : Int) from by omega)
  · skip
    replace c21 : ¬ (s.1 4 x1 ≠ x2) := c21
    exact sm_123_p105 hQ hI (show (0 : Int) ≤ x1 ∧ x1 ≤ (15 : Int) from by omega) (show (0 : Int) ≤ x2 ∧ x2 ≤ (11 : Int) from by omega) (show (0 : Int) ≤ y0 ∧ y0 ≤ (1 : Int) from by omega) (show (0 : Int) ≤ lf_and (lf_shr (s.1 68 10) x2) 1 ∧ lf_and (lf_shr (s.1 68 10) x2) 1 ≤ (1 : Int) from by omega) (show (0 : Int) ≤ lf_and (lf_shr (s.1 68 10) x4) 1 ∧ lf_and (lf_shr (s.1 68 10) x4) 1 ≤ (1 : Int) from by omega) (show (0 : Int) ≤ 0 ∧ 0 ≤ (1 : Int) from by omega)
theorem sm_123 {a1 : Int} {a2 : Int} {a3 : Int} {Q : Int → lf_Z → Prop} {s : lf_Z} (hI : iv_A s.1 s.2.2) (ba1 : (-1) ≤ a1 ∧ a1 ≤ 15) (ba2 : 0 ≤ a2 ∧ a2 ≤ 11) (ba3 : (-1) ≤ a3 ∧ a3 ≤ 11) (hQ : ∀ (r : Int) (s' : lf_Z), iv_A s'.1 s'.2.2 → lf_fq [63, 64, 65, 66, 69] 1000000 true s.1 s.2.2 s'.1 s'.2.2 → (((-2147483648) ≤ r ∧ r ≤ 2147483647) ∧ (r ≤ 0 ∨ 0 ≤ iv_od (s.1 1 1) (s.1 4) (s.1 5) a1 a2)) → Q r s') : fm_123 a1 a2 a3 Q s := by
  unfold fm_123
  refine sm_78 hI (show (-1 : Int) ≤ a1 ∧ a1 ≤ (15 : Int) from by omega) (show (-2147483648 : Int) ≤ a2 ∧ a2 ≤ (2147483647 : Int) from by omega) (fun r22 q1 => ?_)
  obtain ⟨q1, q1x⟩ := q1
  have b2 : 0 ≤ s.1 1 1 ∧ s.1 1 1 ≤ 16 := iv_r1_1 hI
  replace q1x : r22 = iv_od (s.1 1 1) (s.1 4) (s.1 5) a1 a2 := q1x
  refine ⟨(show lf_R r22 from lf_Rof (by omega)), ?_⟩
  refine ⟨fun c3 => ?_, fun c3 => ?_⟩
  · skip
    replace c3 : r22 = (-1) := c3
    exact hQ 0 s hI (lf_fq_rf) ⟨(show (-2147483648 : Int) ≤ 0 ∧ 0 ≤ (2147483647 : Int) from by omega), (show 0 ≤ 0 ∨ 0 ≤ iv_od (s.1 1 1) (s.1 4) (s.1 5) a1 a2 from by omega)⟩
  · skip
    replace c3 : ¬ (r22 = (-1)) := c3
    refine sm_89 hI (show (-2147483648 : Int) ≤ a1 ∧ a1 ≤ (2147483647 : Int) from by omega) (fun z25 q4 => ?_)
    have b5 : 0 ≤ s.1 1 1 ∧ s.1 1 1 ≤ 16 := iv_r1_1 hI
    have b6 : 0 ≤ s.1 6 a1 ∧ s.1 6 a1 ≤ 1 := iv_r6 hI _
    refine ⟨fun c7 => ?_, fun c7 => ?_⟩
    · skip
      have dc7 := q4.2 c7
      exact hQ 0 s hI (lf_fq_rf) ⟨(show (-2147483648 : Int) ≤ 0 ∧ 0 ≤ (2147483647 : Int) from by omega), (show 0 ≤ 0 ∨ 0 ≤ iv_od (s.1 1 1) (s.1 4) (s.1 5) a1 a2 from by omega)⟩
    · skip
      have dc7 := q4.1 c7
      refine sm_90 hI (show (0 : Int) ≤ a1 ∧ a1 ≤ (15 : Int) from by omega) (fun z27 => ?_)
      refine ⟨fun c9 => ?_, fun c9 => ?_⟩
      · skip
        exact hQ 0 s hI (lf_fq_rf) ⟨(show (-2147483648 : Int) ≤ 0 ∧ 0 ≤ (2147483647 : Int) from by omega), (show 0 ≤ 0 ∨ 0 ≤ iv_od (s.1 1 1) (s.1 4) (s.1 5) a1 a2 from by omega)⟩
      · skip
        have b10 : (-2147483648) ≤ s.1 68 9 ∧ s.1 68 9 ≤ 2147483647 := iv_full hI
        have b11 : (-2147483648) ≤ lf_shr (s.1 68 9) a1 ∧ lf_shr (s.1 68 9) a1 ≤ 2147483647 := lf_shrB
        have b12 : 0 ≤ lf_and (lf_shr (s.1 68 9) a1) 1 ∧ lf_and (lf_shr (s.1 68 9) a1) 1 ≤ 1 := lf_andB (by omega) (by omega)
        refine ⟨fun c13 => ?_, fun c13 => ?_⟩
        · skip
          replace c13 : lf_and (lf_shr (s.1 68 9) a1) 1 ≠ 1 := c13
          refine ⟨(show lf_R a3 from lf_Rof (by omega)), ?_⟩
          refine ⟨fun c14 => ?_, fun c14 => ?_⟩
          · skip
            replace c14 : a3 ≠ r22 := c14
            exact sm_123_p64 (fun r9 t9 i9 f9 b9 => hQ r9 t9 i9 (lf_fq_tr (lf_fq_rf) f9) ⟨b9, (show r9 ≤ 0 ∨ 0 ≤ iv_od (s.1 1 1) (s.1 4) (s.1 5) a1 a2 from by omega)⟩) hI (show (0 : Int) ≤ a1 ∧ a1 ≤ (15 : Int) from by omega) (show (0 : Int) ≤ a2 ∧ a2 ≤ (11 : Int) from by omega) (show (0 : Int) ≤ r22 ∧ r22 ≤ (11 : Int) from by omega) (show (0 : Int) ≤ 0 ∧ 0 ≤ (1 : Int) from by omega)
          · skip
            replace c14 : ¬ (a3 ≠ r22) := c14
            exact sm_123_p64 (fun r9 t9 i9 f9 b9 => hQ r9 t9 i9 (lf_fq_tr (lf_fq_rf) f9) ⟨b9, (show r9 ≤ 0 ∨ 0 ≤ iv_od (s.1 1 1) (s.1 4) (s.1 5) a1 a2 from by omega)⟩) hI (show (0 : Int) ≤ a1 ∧ a1 ≤ (15 : Int) from by omega) (show (0 : Int) ≤ a2 ∧ a2 ≤ (11 : Int) from by omega) (show (0 : Int) ≤ r22 ∧ r22 ≤ (11 : Int) from by omega) (show (0 : Int) ≤ 1 ∧ 1 ≤ (1 : Int) from by omega)
        · skip
          replace c13 : ¬ (lf_and (lf_shr (s.1 68 9) a1) 1 ≠ 1) := c13
          exact hQ 0 s hI (lf_fq_rf) ⟨(show (-2147483648 : Int) ≤ 0 ∧ 0 ≤ (2147483647 : Int) from by omega), (show 0 ≤ 0 ∨ 0 ≤ iv_od (s.1 1 1) (s.1 4) (s.1 5) a1 a2 from by omega)⟩
-- fm_122 Walk.moveOddsFrom 68 i
theorem sm_122_p107 {X19 : Int → Int → lf_Z → Prop} {Q : lf_Z → Prop} {x1 : Int} {x2 : Int} {x3 : Int} {x5 : Int} {s : lf_Z} (hQ : ∀  (s' : lf_Z), iv_A s'.1 s'.2.2 → lf_fq [63, 64, 65, 66, 69] 1000000 true s.1 s.2.2 s'.1 s'.2.2 → Q  s') {M19 : Nat} (hX19 : ∀ (x3 : Int) (x5 : Int) (s' : lf_Z), iv_A s'.1 s'.2.2 → lf_fq [63, 64, 65, 66, 69] 1000000 true s.1 s.2.2 s'.1 s'.2.2 → 0 ≤ x5 ∧ x5 ≤ 4 → (4 - x5).toNat < M19 → X19 x3 x5 s') (hM19 : (4 - x5).toNat ≤ M19) (hI : iv_A s.1 s.2.2) (bx1 : 0 ≤ x1 ∧ x1 ≤ 155) (bx2 : 0 ≤ x2 ∧ x2 ≤ 11) (bx5 : 0 ≤ x5 ∧ x5 ≤ 3) : fm_122_p107 X19 Q x1 x2 x3 x5 s := by
  unfold fm_122_p107
  exact hX19 (x3) (x5 + 1) s hI (lf_fq_rf) (show (0 : Int) ≤ x5 + 1 ∧ x5 + 1 ≤ (4 : Int) from by omega) (show (4 - (x5 + 1)).toNat < M19 from by omega)
theorem sm_122_p19 {X19 : Int → Int → lf_Z → Prop} {Q : lf_Z → Prop} {x1 : Int} {x2 : Int} {x3 : Int} {x5 : Int} {s : lf_Z} (hQ : ∀  (s' : lf_Z), iv_A s'.1 s'.2.2 → lf_fq [63, 64, 65, 66, 69] 1000000 true s.1 s.2.2 s'.1 s'.2.2 → Q  s') {M19 : Nat} (hX19 : ∀ (x3 : Int) (x5 : Int) (s' : lf_Z), iv_A s'.1 s'.2.2 → lf_fq [63, 64, 65, 66, 69] 1000000 true s.1 s.2.2 s'.1 s'.2.2 → 0 ≤ x5 ∧ x5 ≤ 4 → (4 - x5).toNat < M19 → X19 x3 x5 s') (hM19 : (4 - x5).toNat ≤ M19) (hI : iv_A s.1 s.2.2) (bx1 : 0 ≤ x1 ∧ x1 ≤ 155) (bx2 : 0 ≤ x2 ∧ x2 ≤ 11) (bx5 : 0 ≤ x5 ∧ x5 ≤ 4) : fm_122_p19 Q x1 x2 X19 x3 x5 s := by
  unfold fm_122_p19
  refine sm_76 hI (show (-2147483648 : Int) ≤ x2 ∧ x2 ≤ (2147483647 : Int) from by omega) (fun r25 q2 => ?_)
  refine ⟨(show lf_R x5 from lf_Rof (by omega)), ?_⟩
  refine ⟨(show lf_R r25 from lf_Rof (by omega)), ?_⟩
  refine ⟨fun c3 => ?_, fun c3 => ?_⟩
  · skip
    replace c3 : r25 ≤ x5 := c3
    obtain ⟨w28, ew28, hww28⟩ := iv_ref1 hI
    refine ⟨w28, ew28, hww28, ?_⟩
    refine ⟨(show (0 : Int) ≤ x1 ∧ x1 < (156 : Int) from by omega), ?_⟩
    exact hQ (s.1, lf_up s.2.1 w28 x1 (lf_wl ((lf_wl (s.2.1 w28 x1)) + (lf_wl x3))), s.2.2) hI (lf_fq_rf)
  · skip
    replace c3 : ¬ (r25 ≤ x5) := c3
    refine sm_77 hI (show (-2147483648 : Int) ≤ x2 ∧ x2 ≤ (2147483647 : Int) from by omega) (show (0 : Int) ≤ x5 ∧ x5 ≤ (3 : Int) from by omega) (fun r31 q4 => ?_)
    refine ⟨(show lf_R x1 from lf_Rof (by omega)), ?_⟩
    have b5 : 0 ≤ x1.tmod 13 ∧ x1.tmod 13 ≤ 12 := lf_tmodP (by omega) (by omega) (by omega)
    refine sm_123 hI (show (-1 : Int) ≤ r31 ∧ r31 ≤ (15 : Int) from by omega) (show (0 : Int) ≤ x2 ∧ x2 ≤ (11 : Int) from by omega) (show (-1 : Int) ≤ (x1.tmod 13) - 1 ∧ (x1.tmod 13) - 1 ≤ (11 : Int) from by omega) (fun r34 s33 hI7 fr6 q8 => ?_)
    obtain ⟨q8, q8x⟩ := q8
    have b9 : 0 ≤ s.1 1 1 ∧ s.1 1 1 ≤ 16 := iv_r1_1 hI
    replace q8x : r34 ≤ 0 ∨ 0 ≤ iv_od (s.1 1 1) (s.1 4) (s.1 5) r31 x2 := q8x
    have fr10 : lf_fq [63, 64, 65, 66, 69] 1000000 true s.1 s.2.2 s33.1 s33.2.2 := lf_fq_tr (lf_fq_rf) (lf_fq_wk fr6 rfl (by decide) (by decide))
    refine ⟨(show lf_R r34 from lf_Rof (by omega)), ?_⟩
    refine ⟨fun c11 => ?_, fun c11 => ?_⟩
    · skip
      replace c11 : r34 ≤ 0 := c11
      exact sm_122_p107 (fun t9 i9 f9 => hQ t9 i9 (lf_fq_tr fr10 f9)) (fun p0 p1 t9 i9 f9 => hX19 p0 p1 t9 i9 (lf_fq_tr fr10 f9)) (show (4 - x5).toNat ≤ M19 from by omega) hI7 (show (0 : Int) ≤ x1 ∧ x1 ≤ (155 : Int) from by omega) (show (0 : Int) ≤ x2 ∧ x2 ≤ (11 : Int) from by omega) (show (0 : Int) ≤ x5 ∧ x5 ≤ (3 : Int) from by omega)
    · skip
      replace c11 : ¬ (r34 ≤ 0) := c11
      obtain ⟨w36, ew36, hww36⟩ := iv_ref1 hI7
      refine ⟨w36, ew36, hww36, ?_⟩
      refine sm_78 hI7 (show (-1 : Int) ≤ r31 ∧ r31 ≤ (15 : Int) from by omega) (show (-2147483648 : Int) ≤ x2 ∧ x2 ≤ (2147483647 : Int) from by omega) (fun r38 q12 => ?_)
      obtain ⟨q12, q12x⟩ := q12
      have b13 : 0 ≤ s33.1 1 1 ∧ s33.1 1 1 ≤ 16 := iv_r1_1 hI7
      have b14 : s33.1 1 1 = s.1 1 1 := congrFun (fr6.1 1 rfl) _
      replace q12x : r38 = iv_od (s33.1 1 1) (s33.1 4) (s33.1 5) r31 x2 := q12x
      have b15 : iv_od (s33.1 1 1) (s33.1 4) (s33.1 5) r31 x2 = iv_od (s.1 1 1) (s.1 4) (s.1 5) r31 x2 := by rw [fr6.1 1 rfl, fr6.1 4 rfl, fr6.1 5 rfl]
      refine ⟨(show (0 : Int) ≤ ((r38 * 13) + x2) + 1 ∧ ((r38 * 13) + x2) + 1 < (156 : Int) from by omega), ?_⟩
      exact sm_122_p107 (fun t9 i9 f9 => hQ t9 i9 (lf_fq_tr fr10 f9)) (fun p0 p1 t9 i9 f9 => hX19 p0 p1 t9 i9 (lf_fq_tr fr10 f9)) (show (4 - x5).toNat ≤ M19 from by omega) hI7 (show (0 : Int) ≤ x1 ∧ x1 ≤ (155 : Int) from by omega) (show (0 : Int) ≤ x2 ∧ x2 ≤ (11 : Int) from by omega) (show (0 : Int) ≤ x5 ∧ x5 ≤ (3 : Int) from by omega)
theorem sm_122_p19L {Q : lf_Z → Prop} {x1 : Int} {x2 : Int} {x3 : Int} {x5 : Int} {s : lf_Z} (hQ : ∀  (s' : lf_Z), iv_A s'.1 s'.2.2 → lf_fq [63, 64, 65, 66, 69] 1000000 true s.1 s.2.2 s'.1 s'.2.2 → Q  s') (hI : iv_A s.1 s.2.2) (bx1 : 0 ≤ x1 ∧ x1 ≤ 155) (bx2 : 0 ≤ x2 ∧ x2 ≤ 11) (bx5 : 0 ≤ x5 ∧ x5 ≤ 4) : fm_122_p19L Q x1 x2 x3 x5 s := by
  intro X19 hX
  have key : ∀ (m9 : Nat) (x3 : Int) (x5 : Int) (s' : lf_Z), iv_A s'.1 s'.2.2 → lf_fq [63, 64, 65, 66, 69] 1000000 true s.1 s.2.2 s'.1 s'.2.2 → 0 ≤ x5 ∧ x5 ≤ 4 → (4 - x5).toNat < m9 → X19 x3 x5 s' := by
    intro m9
    induction m9 with
    | zero => intro x3 x5 s' _ _ bx5 h9; exact absurd h9 (Nat.not_lt_zero _)
    | succ m9 ih => intro x3 x5 s' i7 f7 bx5 h9; exact hX _ _ _ (sm_122_p19 (fun t9 i9 f9 => hQ t9 i9 (lf_fq_tr f7 f9))   (fun x3' x5' t8 i8 f8 bx5' h8 => ih x3' x5' t8 i8 (lf_fq_tr f7 f8) bx5' (by omega)) (Nat.le_refl _)  i7  bx1 bx2 bx5  )
  exact key _ _ _ s hI lf_fq_rf bx5 (Nat.lt_succ_self _)
theorem sm_122 {a1 : Int} {Q : lf_Z → Prop} {s : lf_Z} (hI : iv_A s.1 s.2.2) (ba1 : 0 ≤ a1 ∧ a1 ≤ 155) (hQ : ∀  (s' : lf_Z), iv_A s'.1 s'.2.2 → lf_fq [63, 64, 65, 66, 69] 1000000 true s.1 s.2.2 s'.1 s'.2.2 → Q  s') : fm_122 a1 Q s := by
  unfold fm_122
  refine ⟨(show lf_R a1 from lf_Rof (by omega)), ?_⟩
  have b1 : 0 ≤ a1.tdiv 13 ∧ a1.tdiv 13 ≤ 11 := lf_tdivB (p := 0) (q := 155) (by omega) (by omega) (by decide) (by decide) (by decide)
  obtain ⟨w22, ew22, hww22⟩ := iv_ref0 hI
  refine ⟨w22, ew22, hww22, ?_⟩
  refine ⟨(show (0 : Int) ≤ a1 ∧ a1 < (156 : Int) from by omega), ?_⟩
  exact sm_122_p19L hQ hI (show (0 : Int) ≤ a1 ∧ a1 ≤ (155 : Int) from by omega) (show (0 : Int) ≤ a1.tdiv 13 ∧ a1.tdiv 13 ≤ (11 : Int) from by omega) (show (0 : Int) ≤ 0 ∧ 0 ≤ (4 : Int) from by omega)
-- fm_121 Walk.moveOdds 68
theorem sm_121_p33 {X10 : Int → lf_Z → Prop} {Q : lf_Z → Prop} {x1 : Int} {s : lf_Z} (hQ : ∀  (s' : lf_Z), iv_A s'.1 s'.2.2 → lf_fq [63, 64, 65, 66, 69] 1000000 false s.1 s.2.2 s'.1 s'.2.2 → Q  s') {M10 : Nat} (hX10 : ∀ (x1 : Int) (s' : lf_Z), iv_A s'.1 s'.2.2 → lf_fq [63, 64, 65, 66, 69] 1000000 false s.1 s.2.2 s'.1 s'.2.2 → 0 ≤ x1 ∧ x1 ≤ 156 → (156 - x1).toNat < M10 → X10 x1 s') (hM10 : (156 - x1).toNat ≤ M10) (hI : iv_A s.1 s.2.2) (bx1 : 0 ≤ x1 ∧ x1 ≤ 155) : fm_121_p33 X10 Q x1 s := by
  unfold fm_121_p33
  exact hX10 (x1 + 1) s hI (lf_fq_rf) (show (0 : Int) ≤ x1 + 1 ∧ x1 + 1 ≤ (156 : Int) from by omega) (show (156 - (x1 + 1)).toNat < M10 from by omega)
theorem sm_121_p10 {X10 : Int → lf_Z → Prop} {Q : lf_Z → Prop} {x1 : Int} {s : lf_Z} (hQ : ∀  (s' : lf_Z), iv_A s'.1 s'.2.2 → lf_fq [63, 64, 65, 66, 69] 1000000 false s.1 s.2.2 s'.1 s'.2.2 → Q  s') {M10 : Nat} (hX10 : ∀ (x1 : Int) (s' : lf_Z), iv_A s'.1 s'.2.2 → lf_fq [63, 64, 65, 66, 69] 1000000 false s.1 s.2.2 s'.1 s'.2.2 → 0 ≤ x1 ∧ x1 ≤ 156 → (156 - x1).toNat < M10 → X10 x1 s') (hM10 : (156 - x1).toNat ≤ M10) (hI : iv_A s.1 s.2.2) (bx1 : 0 ≤ x1 ∧ x1 ≤ 156) : fm_121_p10 Q X10 x1 s := by
  unfold fm_121_p10
  refine ⟨(show lf_R x1 from lf_Rof (by omega)), ?_⟩
  refine ⟨fun c5 => ?_, fun c5 => ?_⟩
  · skip
    replace c5 : 156 ≤ x1 := c5
    obtain ⟨w24, ew24, hww24⟩ := iv_ref0 hI
    refine ⟨w24, ew24, hww24, ?_⟩
    obtain ⟨w25, ew25, hww25⟩ := iv_ref1 hI
    refine ⟨w25, ew25, hww25, ?_⟩
    have hI6 : iv_A s.1 (lf_ur s.2.2 0 (some w25)) := iv_uw0 hI hww25
    have fr7 : lf_fq [63, 64, 65, 66, 69] 1000000 false s.1 s.2.2 s.1 (lf_ur s.2.2 0 (some w25)) := lf_fq_pp (lf_fq_rf)
    have hI8 : iv_A s.1 (lf_ur (lf_ur s.2.2 0 (some w25)) 1 (some w24)) := iv_uw1 hI6 hww24
    have fr9 : lf_fq [63, 64, 65, 66, 69] 1000000 false s.1 s.2.2 s.1 (lf_ur (lf_ur s.2.2 0 (some w25)) 1 (some w24)) := lf_fq_pp fr7
    exact hQ (s.1, s.2.1, lf_ur (lf_ur s.2.2 0 (some w25)) 1 (some w24)) hI8 fr9
  · skip
    replace c5 : ¬ (156 ≤ x1) := c5
    obtain ⟨w26, ew26, hww26⟩ := iv_ref0 hI
    refine ⟨w26, ew26, hww26, ?_⟩
    refine ⟨(show (0 : Int) ≤ x1 ∧ x1 < (156 : Int) from by omega), ?_⟩
    refine ⟨fun c10 => ?_, fun c10 => ?_⟩
    · replace c10 : lf_wl (s.2.1 w26 x1) ≤ 0 := c10
      exact sm_121_p33 hQ hX10 (show (156 - x1).toNat ≤ M10 from by omega) hI (show (0 : Int) ≤ x1 ∧ x1 ≤ (155 : Int) from by omega)
    · replace c10 : ¬ (lf_wl (s.2.1 w26 x1) ≤ 0) := c10
      refine sm_122 hI (show (0 : Int) ≤ x1 ∧ x1 ≤ (155 : Int) from by omega) (fun s28 hI12 fr11 => ?_)
      have fr14 : lf_fq [63, 64, 65, 66, 69] 1000000 false s.1 s.2.2 s28.1 s28.2.2 := lf_fq_tr (lf_fq_rf) (lf_fq_wk fr11 rfl (by decide) (by decide))
      exact sm_121_p33 (fun t9 i9 f9 => hQ t9 i9 (lf_fq_tr fr14 f9)) (fun p0 t9 i9 f9 => hX10 p0 t9 i9 (lf_fq_tr fr14 f9)) (show (156 - x1).toNat ≤ M10 from by omega) hI12 (show (0 : Int) ≤ x1 ∧ x1 ≤ (155 : Int) from by omega)
theorem sm_121_p10L {Q : lf_Z → Prop} {x1 : Int} {s : lf_Z} (hQ : ∀  (s' : lf_Z), iv_A s'.1 s'.2.2 → lf_fq [63, 64, 65, 66, 69] 1000000 false s.1 s.2.2 s'.1 s'.2.2 → Q  s') (hI : iv_A s.1 s.2.2) (bx1 : 0 ≤ x1 ∧ x1 ≤ 156) : fm_121_p10L Q x1 s := by
  intro X10 hX
  have key : ∀ (m9 : Nat) (x1 : Int) (s' : lf_Z), iv_A s'.1 s'.2.2 → lf_fq [63, 64, 65, 66, 69] 1000000 false s.1 s.2.2 s'.1 s'.2.2 → 0 ≤ x1 ∧ x1 ≤ 156 → (156 - x1).toNat < m9 → X10 x1 s' := by
    intro m9
    induction m9 with
    | zero => intro x1 s' _ _ bx1 h9; exact absurd h9 (Nat.not_lt_zero _)
    | succ m9 ih => intro x1 s' i7 f7 bx1 h9; exact hX _ _ (sm_121_p10 (fun t9 i9 f9 => hQ t9 i9 (lf_fq_tr f7 f9))   (fun x1' t8 i8 f8 bx1' h8 => ih x1' t8 i8 (lf_fq_tr f7 f8) bx1' (by omega)) (Nat.le_refl _)  i7  bx1  )
  exact key _ _ s hI lf_fq_rf bx1 (Nat.lt_succ_self _)
theorem sm_121 {Q : lf_Z → Prop} {s : lf_Z} (hI : iv_A s.1 s.2.2) (hQ : ∀  (s' : lf_Z), iv_A s'.1 s'.2.2 → lf_fq [63, 64, 65, 66, 69] 1000000 false s.1 s.2.2 s'.1 s'.2.2 → Q  s') : fm_121 Q s := by
  unfold fm_121
  obtain ⟨w21, ew21, hww21⟩ := iv_ref1 hI
  refine ⟨w21, ew21, hww21, ?_⟩
  refine sm_119 hww21 hI (fun s22 hI2 fr1 => ?_)
  have fr4 : lf_fq [63, 64, 65, 66, 69] 1000000 false s.1 s.2.2 s22.1 s22.2.2 := lf_fq_tr (lf_fq_rf) (lf_fq_wk fr1 rfl (by decide) (by decide))
  exact sm_121_p10L (fun t9 i9 f9 => hQ t9 i9 (lf_fq_tr fr4 f9)) hI2 (show (0 : Int) ≤ 0 ∧ 0 ≤ (156 : Int) from by omega)
-- fm_117 Walk.oddsOf 68 i i i
theorem sm_117_p50 {X50 : Int → Int → lf_Z → Prop} {Q : Int → lf_Z → Prop} {x3 : Int} {x4 : Int} {x6 : Int} {s : lf_Z} (hQ : ∀ (r : Int) (s' : lf_Z), iv_A s'.1 s'.2.2 → lf_fq [63, 64, 65, 66, 68, 69] 1000000 false s.1 s.2.2 s'.1 s'.2.2 → Q r s') {M50 : Nat} (hX50 : ∀ (x4 : Int) (x6 : Int) (s' : lf_Z), iv_A s'.1 s'.2.2 → lf_fq [63, 64, 65, 66, 68, 69] 1000000 false s.1 s.2.2 s'.1 s'.2.2 → 0 ≤ x6 ∧ x6 ≤ 13 → (13 - x6).toNat < M50 → X50 x4 x6 s') (hM50 : (13 - x6).toNat ≤ M50) (hI : iv_A s.1 s.2.2) (bx3 : 0 ≤ x3 ∧ x3 ≤ 11) (bx6 : 0 ≤ x6 ∧ x6 ≤ 13) : fm_117_p50 Q x3 X50 x4 x6 s := by
  unfold fm_117_p50
  refine ⟨(show lf_R x6 from lf_Rof (by omega)), ?_⟩
  refine ⟨fun c14 => ?_, fun c14 => ?_⟩
  · skip
    replace c14 : 13 ≤ x6 := c14
    exact hQ (lf_wl x4) s hI (lf_fq_rf)
  · skip
    replace c14 : ¬ (13 ≤ x6) := c14
    obtain ⟨w31, ew31, hww31⟩ := iv_ref0 hI
    refine ⟨w31, ew31, hww31, ?_⟩
    refine ⟨(show (0 : Int) ≤ (x3 * 13) + x6 ∧ (x3 * 13) + x6 < (156 : Int) from by omega), ?_⟩
    exact hX50 (lf_wl ((lf_wl x4) + (lf_wl (s.2.1 w31 ((x3 * 13) + x6))))) (x6 + 1) s hI (lf_fq_rf) (show (0 : Int) ≤ x6 + 1 ∧ x6 + 1 ≤ (13 : Int) from by omega) (show (13 - (x6 + 1)).toNat < M50 from by omega)
theorem sm_117_p50L {Q : Int → lf_Z → Prop} {x3 : Int} {x4 : Int} {x6 : Int} {s : lf_Z} (hQ : ∀ (r : Int) (s' : lf_Z), iv_A s'.1 s'.2.2 → lf_fq [63, 64, 65, 66, 68, 69] 1000000 false s.1 s.2.2 s'.1 s'.2.2 → Q r s') (hI : iv_A s.1 s.2.2) (bx3 : 0 ≤ x3 ∧ x3 ≤ 11) (bx6 : 0 ≤ x6 ∧ x6 ≤ 13) : fm_117_p50L Q x3 x4 x6 s := by
  intro X50 hX
  have key : ∀ (m9 : Nat) (x4 : Int) (x6 : Int) (s' : lf_Z), iv_A s'.1 s'.2.2 → lf_fq [63, 64, 65, 66, 68, 69] 1000000 false s.1 s.2.2 s'.1 s'.2.2 → 0 ≤ x6 ∧ x6 ≤ 13 → (13 - x6).toNat < m9 → X50 x4 x6 s' := by
    intro m9
    induction m9 with
    | zero => intro x4 x6 s' _ _ bx6 h9; exact absurd h9 (Nat.not_lt_zero _)
    | succ m9 ih => intro x4 x6 s' i7 f7 bx6 h9; exact hX _ _ _ (sm_117_p50 (fun r9 t9 i9 f9 => hQ r9 t9 i9 (lf_fq_tr f7 f9))   (fun x4' x6' t8 i8 f8 bx6' h8 => ih x4' x6' t8 i8 (lf_fq_tr f7 f8) bx6' (by omega)) (Nat.le_refl _)  i7  bx3 bx6  )
  exact key _ _ _ s hI lf_fq_rf bx6 (Nat.lt_succ_self _)
theorem sm_117_p28 {X28 : Int → lf_Z → Prop} {Q : Int → lf_Z → Prop} {x2 : Int} {x3 : Int} {x4 : Int} {s : lf_Z} (hQ : ∀ (r : Int) (s' : lf_Z), iv_A s'.1 s'.2.2 → lf_fq [63, 64, 65, 66, 68, 69] 1000000 false s.1 s.2.2 s'.1 s'.2.2 → Q r s') {M28 : Nat} (hX28 : ∀ (x4 : Int) (s' : lf_Z), iv_A s'.1 s'.2.2 → lf_fq [63, 64, 65, 66, 68, 69] 1000000 false s.1 s.2.2 s'.1 s'.2.2 → 0 ≤ x4 ∧ x4 ≤ 4 → (4 - x4).toNat < M28 → X28 x4 s') (hM28 : (4 - x4).toNat ≤ M28) (hI : iv_A s.1 s.2.2) (bx2 : 0 ≤ x2 ∧ x2 ≤ 4) (bx3 : 0 ≤ x3 ∧ x3 ≤ 11) (bx4 : 0 ≤ x4 ∧ x4 ≤ 4) : fm_117_p28 Q x2 x3 X28 x4 s := by
  unfold fm_117_p28
  refine ⟨(show lf_R x4 from lf_Rof (by omega)), ?_⟩
  refine ⟨(show lf_R x2 from lf_Rof (by omega)), ?_⟩
  refine ⟨fun c13 => ?_, fun c13 => ?_⟩
  · skip
    replace c13 : x2 ≤ x4 := c13
    exact sm_117_p50L hQ hI (show (0 : Int) ≤ x3 ∧ x3 ≤ (11 : Int) from by omega) (show (0 : Int) ≤ 0 ∧ 0 ≤ (13 : Int) from by omega)
  · skip
    replace c13 : ¬ (x2 ≤ x4) := c13
    refine sm_121 hI (fun s33 hI16 fr15 => ?_)
    have fr18 : lf_fq [63, 64, 65, 66, 68, 69] 1000000 false s.1 s.2.2 s33.1 s33.2.2 := lf_fq_tr (lf_fq_rf) (lf_fq_wk fr15 rfl (by decide) (by decide))
    exact hX28 (x4 + 1) s33 hI16 fr18 (show (0 : Int) ≤ x4 + 1 ∧ x4 + 1 ≤ (4 : Int) from by omega) (show (4 - (x4 + 1)).toNat < M28 from by omega)
theorem sm_117_p28L {Q : Int → lf_Z → Prop} {x2 : Int} {x3 : Int} {x4 : Int} {s : lf_Z} (hQ : ∀ (r : Int) (s' : lf_Z), iv_A s'.1 s'.2.2 → lf_fq [63, 64, 65, 66, 68, 69] 1000000 false s.1 s.2.2 s'.1 s'.2.2 → Q r s') (hI : iv_A s.1 s.2.2) (bx2 : 0 ≤ x2 ∧ x2 ≤ 4) (bx3 : 0 ≤ x3 ∧ x3 ≤ 11) (bx4 : 0 ≤ x4 ∧ x4 ≤ 4) : fm_117_p28L Q x2 x3 x4 s := by
  intro X28 hX
  have key : ∀ (m9 : Nat) (x4 : Int) (s' : lf_Z), iv_A s'.1 s'.2.2 → lf_fq [63, 64, 65, 66, 68, 69] 1000000 false s.1 s.2.2 s'.1 s'.2.2 → 0 ≤ x4 ∧ x4 ≤ 4 → (4 - x4).toNat < m9 → X28 x4 s' := by
    intro m9
    induction m9 with
    | zero => intro x4 s' _ _ bx4 h9; exact absurd h9 (Nat.not_lt_zero _)
    | succ m9 ih => intro x4 s' i7 f7 bx4 h9; exact hX _ _ (sm_117_p28 (fun r9 t9 i9 f9 => hQ r9 t9 i9 (lf_fq_tr f7 f9))   (fun x4' t8 i8 f8 bx4' h8 => ih x4' t8 i8 (lf_fq_tr f7 f8) bx4' (by omega)) (Nat.le_refl _)  i7  bx2 bx3 bx4  )
  exact key _ _ s hI lf_fq_rf bx4 (Nat.lt_succ_self _)
theorem sm_117 {a1 : Int} {a2 : Int} {a3 : Int} {Q : Int → lf_Z → Prop} {s : lf_Z} (hI : iv_A s.1 s.2.2) (ba1 : 0 ≤ a1 ∧ a1 ≤ 3) (ba2 : 0 ≤ a2 ∧ a2 ≤ 4) (ba3 : 0 ≤ a3 ∧ a3 ≤ 11) (kp0 : 0 < s.1 16 a1) (hQ : ∀ (r : Int) (s' : lf_Z), iv_A s'.1 s'.2.2 → lf_fq [63, 64, 65, 66, 68, 69] 1000000 false s.1 s.2.2 s'.1 s'.2.2 → Q r s') : fm_117 a1 a2 a3 Q s := by
  unfold fm_117
  refine sm_118 hI (show (0 : Int) ≤ a1 ∧ a1 ≤ (3 : Int) from by omega) (show (0 : Int) ≤ 0 ∧ 0 ≤ (9 : Int) from by omega) (fun s21 hI2 fr1 => ?_)
  have fr4 : lf_fq [63, 64, 65, 66, 68, 69] 1000000 false s.1 s.2.2 s21.1 s21.2.2 := lf_fq_tr (lf_fq_rf) (lf_fq_wk fr1 rfl (by decide) (by decide))
  obtain ⟨w22, ew22, hww22⟩ := iv_ref0 hI2
  refine ⟨w22, ew22, hww22, ?_⟩
  refine sm_119 hww22 hI2 (fun s23 hI6 fr5 => ?_)
  have fr8 : lf_fq [63, 64, 65, 66, 68, 69] 1000000 false s.1 s.2.2 s23.1 s23.2.2 := lf_fq_tr fr4 (lf_fq_wk fr5 rfl (by decide) (by decide))
  obtain ⟨w24, ew24, hww24⟩ := iv_ref0 hI6
  refine ⟨w24, ew24, hww24, ?_⟩
  have b9 : (-2147483648) ≤ s23.1 16 a1 ∧ s23.1 16 a1 ≤ 2147483647 := iv_full hI6
  have b10 : s23.1 16 a1 = s21.1 16 a1 := congrFun (fr5.1 16 rfl) _
  have b11 : s21.1 16 a1 = s.1 16 a1 := congrFun (fr1.1 16 rfl) _
  refine sm_120 hI6 (show (0 : Int) ≤ a1 ∧ a1 ≤ (3 : Int) from by omega) (show 0 < (s23.1 16 a1) from by omega) (fun r26 q12 => ?_)
  refine ⟨(show (0 : Int) ≤ r26 ∧ r26 < (156 : Int) from by omega), ?_⟩
  exact sm_117_p28L (fun r9 t9 i9 f9 => hQ r9 t9 i9 (lf_fq_tr fr8 f9)) hI6 (show (0 : Int) ≤ a2 ∧ a2 ≤ (4 : Int) from by omega) (show (0 : Int) ≤ a3 ∧ a3 ≤ (11 : Int) from by omega) (show (0 : Int) ≤ 0 ∧ 0 ≤ (4 : Int) from by omega)
-- fm_124 Walk.oddsOfAll 68 i
theorem sm_124_p5 {X5 : Int → Int → lf_Z → Prop} {Q : Int → lf_Z → Prop} {x1 : Int} {x2 : Int} {x4 : Int} {s : lf_Z} (hQ : ∀ (r : Int), Q r s) {M5 : Nat} (hX5 : ∀ (x2 : Int) (x4 : Int), 0 ≤ x4 ∧ x4 ≤ 4 → (4 - x4).toNat < M5 → X5 x2 x4 s) (hM5 : (4 - x4).toNat ≤ M5) (hI : iv_A s.1 s.2.2) (bx1 : 0 ≤ x1 ∧ x1 ≤ 4) (bx4 : 0 ≤ x4 ∧ x4 ≤ 4) : fm_124_p5 Q x1 X5 x2 x4 s := by
  unfold fm_124_p5
  refine ⟨(show lf_R x4 from lf_Rof (by omega)), ?_⟩
  refine ⟨(show lf_R x1 from lf_Rof (by omega)), ?_⟩
  refine ⟨fun c1 => ?_, fun c1 => ?_⟩
  · skip
    replace c1 : x1 ≤ x4 := c1
    exact hQ (lf_wl x2)
  · skip
    replace c1 : ¬ (x1 ≤ x4) := c1
    exact hX5 (lf_wl ((lf_wl x2) * 10000)) (x4 + 1) (show (0 : Int) ≤ x4 + 1 ∧ x4 + 1 ≤ (4 : Int) from by omega) (show (4 - (x4 + 1)).toNat < M5 from by omega)
theorem sm_124_p5L {Q : Int → lf_Z → Prop} {x1 : Int} {x2 : Int} {x4 : Int} {s : lf_Z} (hQ : ∀ (r : Int), Q r s) (hI : iv_A s.1 s.2.2) (bx1 : 0 ≤ x1 ∧ x1 ≤ 4) (bx4 : 0 ≤ x4 ∧ x4 ≤ 4) : fm_124_p5L Q x1 x2 x4 s := by
  intro X5 hX
  have key : ∀ (m9 : Nat) (x2 : Int) (x4 : Int), 0 ≤ x4 ∧ x4 ≤ 4 → (4 - x4).toNat < m9 → X5 x2 x4 s := by
    intro m9
    induction m9 with
    | zero => intro x2 x4 bx4 h9; exact absurd h9 (Nat.not_lt_zero _)
    | succ m9 ih => intro x2 x4 bx4 h9; exact hX _ _ _ (sm_124_p5 hQ   (fun x2' x4' bx4' h8 => ih x2' x4' bx4' (by omega)) (Nat.le_refl _)  hI  bx1 bx4  )
  exact key _ _ _ bx4   (Nat.lt_succ_self _)
theorem sm_124 {a1 : Int} {Q : Int → lf_Z → Prop} {s : lf_Z} (hI : iv_A s.1 s.2.2) (ba1 : 0 ≤ a1 ∧ a1 ≤ 4) (hQ : ∀ (r : Int), Q r s) : fm_124 a1 Q s := by
  unfold fm_124
  exact sm_124_p5L hQ hI (show (0 : Int) ≤ a1 ∧ a1 ≤ (4 : Int) from by omega) (show (0 : Int) ≤ 0 ∧ 0 ≤ (4 : Int) from by omega)
-- fm_125 ElevenBullocks.inLowestTerms l l i
theorem sm_125_p55 {Q : Int → lf_Z → Prop} {x5 : Int} {y0 : Int} {s : lf_Z} (hQ : ∀ (r : Int), Q r s) (hI : iv_A s.1 s.2.2) : fm_125_p55 Q x5 y0 s := by
  unfold fm_125_p55
  refine ⟨fun c3 => ?_, fun c3 => ?_⟩
  · replace c3 : lf_wl x5 ≠ 0 := c3
    refine ⟨(show (lf_wl x5) ≠ 0 from by omega), ?_⟩
    exact hQ (lf_wl ((lf_wl y0).tdiv (lf_wl x5)))
  · replace c3 : ¬ (lf_wl x5 ≠ 0) := c3
    exact hQ (lf_wl y0)
theorem sm_125_p45 {Q : Int → lf_Z → Prop} {x0 : Int} {x2 : Int} {x4 : Int} {x5 : Int} {s : lf_Z} (hQ : ∀ (r : Int), Q r s) (hI : iv_A s.1 s.2.2) (bx4 : 0 ≤ x4 ∧ x4 ≤ 1) : fm_125_p45 Q x0 x2 x4 x5 s := by
  unfold fm_125_p45
  refine ⟨(show lf_R x4 from lf_Rof (by omega)), ?_⟩
  refine ⟨fun c2 => ?_, fun c2 => ?_⟩
  · skip
    replace c2 : x4 = 0 := c2
    exact sm_125_p55 hQ hI
  · skip
    replace c2 : ¬ (x4 = 0) := c2
    exact sm_125_p55 hQ hI
theorem sm_125_p9 {X9 : Int → Int → Int → lf_Z → Prop} {Q : Int → lf_Z → Prop} {x0 : Int} {x2 : Int} {x4 : Int} {x5 : Int} {x7 : Int} {x9 : Int} {s : lf_Z} (hQ : ∀ (r : Int), Q r s) {M9 : Nat} (hX9 : ∀ (x5 : Int) (x7 : Int) (x9 : Int), 0 ≤ x9 ∧ x9 ≤ 1000 → (1000 - x9).toNat < M9 → X9 x5 x7 x9 s) (hM9 : (1000 - x9).toNat ≤ M9) (hI : iv_A s.1 s.2.2) (bx4 : 0 ≤ x4 ∧ x4 ≤ 1) (bx9 : 0 ≤ x9 ∧ x9 ≤ 1000) : fm_125_p9 Q x0 x2 x4 X9 x5 x7 x9 s := by
  unfold fm_125_p9
  refine ⟨(show lf_R x9 from lf_Rof (by omega)), ?_⟩
  refine ⟨fun c1 => ?_, fun c1 => ?_⟩
  · skip
    replace c1 : 1000 ≤ x9 := c1
    exact sm_125_p45 hQ hI (show (0 : Int) ≤ x4 ∧ x4 ≤ (1 : Int) from by omega)
  · skip
    replace c1 : ¬ (1000 ≤ x9) := c1
    refine ⟨fun c4 => ?_, fun c4 => ?_⟩
    · replace c4 : lf_wl x7 = 0 := c4
      exact sm_125_p45 hQ hI (show (0 : Int) ≤ x4 ∧ x4 ≤ (1 : Int) from by omega)
    · replace c4 : ¬ (lf_wl x7 = 0) := c4
      refine ⟨(show (lf_wl x7) ≠ 0 from by omega), ?_⟩
      exact hX9 (x7) (lf_wl ((lf_wl x5).tmod (lf_wl x7))) (x9 + 1) (show (0 : Int) ≤ x9 + 1 ∧ x9 + 1 ≤ (1000 : Int) from by omega) (show (1000 - (x9 + 1)).toNat < M9 from by omega)
theorem sm_125_p9L {Q : Int → lf_Z → Prop} {x0 : Int} {x2 : Int} {x4 : Int} {x5 : Int} {x7 : Int} {x9 : Int} {s : lf_Z} (hQ : ∀ (r : Int), Q r s) (hI : iv_A s.1 s.2.2) (bx4 : 0 ≤ x4 ∧ x4 ≤ 1) (bx9 : 0 ≤ x9 ∧ x9 ≤ 1000) : fm_125_p9L Q x0 x2 x4 x5 x7 x9 s := by
  intro X9 hX
  have key : ∀ (m9 : Nat) (x5 : Int) (x7 : Int) (x9 : Int), 0 ≤ x9 ∧ x9 ≤ 1000 → (1000 - x9).toNat < m9 → X9 x5 x7 x9 s := by
    intro m9
    induction m9 with
    | zero => intro x5 x7 x9 bx9 h9; exact absurd h9 (Nat.not_lt_zero _)
    | succ m9 ih => intro x5 x7 x9 bx9 h9; exact hX _ _ _ _ (sm_125_p9 hQ   (fun x5' x7' x9' bx9' h8 => ih x5' x7' x9' bx9' (by omega)) (Nat.le_refl _)  hI  bx4 bx9  )
  exact key _ _ _ _ bx9   (Nat.lt_succ_self _)
theorem sm_125 {a0 : Int} {a1 : Int} {a2 : Int} {Q : Int → lf_Z → Prop} {s : lf_Z} (hI : iv_A s.1 s.2.2) (ba2 : 0 ≤ a2 ∧ a2 ≤ 1) (hQ : ∀ (r : Int), Q r s) : fm_125 a0 a1 a2 Q s := by
  unfold fm_125
  exact sm_125_p9L hQ hI (show (0 : Int) ≤ a2 ∧ a2 ≤ (1 : Int) from by omega) (show (0 : Int) ≤ 0 ∧ 0 ≤ (1000 : Int) from by omega)
-- fm_116 ElevenBullocks.where 0 i i i i
theorem sm_116_p31 {Q : Int → lf_Z → Prop} {s : lf_Z} (hQ : ∀ (r : Int) (s' : lf_Z), iv_A s'.1 s'.2.2 → lf_fq [63, 64, 65, 66, 68, 69] 1000000 false s.1 s.2.2 s'.1 s'.2.2 → Q r s') (hI : iv_A s.1 s.2.2) : fm_116_p31 Q s := by
  unfold fm_116_p31
  exact hQ (-1) s hI (lf_fq_rf)
theorem sm_116 {a1 : Int} {a2 : Int} {a3 : Int} {a4 : Int} {Q : Int → lf_Z → Prop} {s : lf_Z} (hI : iv_A s.1 s.2.2) (ba1 : (-2147483648) ≤ a1 ∧ a1 ≤ 2147483647) (ba2 : (-2147483648) ≤ a2 ∧ a2 ≤ 2147483647) (ba3 : (-2147483648) ≤ a3 ∧ a3 ≤ 2147483647) (ba4 : 0 ≤ a4 ∧ a4 ≤ 1) (hQ : ∀ (r : Int) (s' : lf_Z), iv_A s'.1 s'.2.2 → lf_fq [63, 64, 65, 66, 68, 69] 1000000 false s.1 s.2.2 s'.1 s'.2.2 → Q r s') : fm_116 a1 a2 a3 a4 Q s := by
  unfold fm_116
  refine sm_80 hI (show (-2147483648 : Int) ≤ a1 ∧ a1 ≤ (2147483647 : Int) from by omega) (fun z22 q1 => ?_)
  have b2 : (-2147483648) ≤ s.1 16 a1 ∧ s.1 16 a1 ≤ 2147483647 := iv_full hI
  refine ⟨fun c3 => ?_, fun c3 => ?_⟩
  · skip
    have dc3 := q1.2 c3
    exact sm_116_p31 hQ hI
  · skip
    have dc3 := q1.1 c3
    refine sm_15 hI (show (-2147483648 : Int) ≤ a2 ∧ a2 ≤ (2147483647 : Int) from by omega) (show (-1 : Int) ≤ 0 ∧ 0 ≤ (99 : Int) from by omega) (show (-2147483648 : Int) ≤ 4 ∧ 4 ≤ (2147483647 : Int) from by omega) (fun z24 q4 => ?_)
    refine ⟨fun c5 => ?_, fun c5 => ?_⟩
    · skip
      have dc5 := q4.2 c5
      exact sm_116_p31 hQ hI
    · skip
      have dc5 := q4.1 c5
      refine sm_18 hI (show (-2147483648 : Int) ≤ a3 ∧ a3 ≤ (2147483647 : Int) from by omega) (fun z26 q6 => ?_)
      have b7 : 0 ≤ s.1 1 0 ∧ s.1 1 0 ≤ 12 := iv_r1_0 hI
      refine ⟨fun c8 => ?_, fun c8 => ?_⟩
      · skip
        have dc8 := q6.1 c8
        refine sm_117 hI (show (0 : Int) ≤ a1 ∧ a1 ≤ (3 : Int) from by omega) (show (0 : Int) ≤ a2 ∧ a2 ≤ (4 : Int) from by omega) (show (0 : Int) ≤ a3 ∧ a3 ≤ (11 : Int) from by omega) (show 0 < (s.1 16 a1) from by omega) (fun r28 s27 hI10 fr9 => ?_)
        have fr12 : lf_fq [63, 64, 65, 66, 68, 69] 1000000 false s.1 s.2.2 s27.1 s27.2.2 := lf_fq_tr (lf_fq_rf) (lf_fq_wk fr9 rfl (by decide) (by decide))
        refine sm_124 hI10 (show (0 : Int) ≤ a2 ∧ a2 ≤ (4 : Int) from by omega) (fun r30 => ?_)
        refine sm_125 hI10 (show (0 : Int) ≤ a4 ∧ a4 ≤ (1 : Int) from by omega) (fun r32 => ?_)
        exact hQ (lf_wl r32) s27 hI10 fr12
      · skip
        have dc8 := q6.2 c8
        exact sm_116_p31 hQ hI
-- fm_292 Model.common l l
theorem sm_292 {a0 : Int} {a1 : Int} {Q : Int → lf_Z → Prop} {s : lf_Z} (hI : iv_A s.1 s.2.2) (hQ : ∀ (r : Int), (lf_wl a1 = 0 ∨ lf_wl r ≠ 0) → Q r s) : fm_292 a0 a1 Q s := by
  unfold fm_292 fm_292_p6L
  intro X hX
  have key : ∀ (m : Nat) (p q : Int), (lf_wl q).natAbs < m → (lf_wl p ≠ 0 ∨ lf_wl q ≠ 0 ∨ lf_wl a1 = 0) → X p q s := by
    intro m
    induction m with
    | zero => intros; omega
    | succ m ih =>
      intro p q hm hz
      refine hX _ _ _ ?_
      unfold fm_292_p6
      refine ⟨fun c => ?_, fun c => ⟨c, ?_⟩⟩
      · refine hQ (lf_wl p) ?_
        have e : lf_wl (lf_wl p) = lf_wl p := lf_wlI
        omega
      · have hl := Int.natAbs_tmod (lf_wl p) (lf_wl q)
        have hlt : (lf_wl p).natAbs % (lf_wl q).natAbs < (lf_wl q).natAbs := Nat.mod_lt _ (by omega)
        have hr := lf_wlRL q
        have e : lf_wl ((lf_wl p).tmod (lf_wl q)) = (lf_wl p).tmod (lf_wl q) := lf_wlR (by omega)
        refine ih _ _ ?_ (Or.inl c)
        rw [e, e]
        omega
  refine key _ a0 a1 (Nat.lt_succ_self _) ?_
  omega
