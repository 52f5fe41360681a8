-- fm_206 Model.w2 i i
theorem sm_206 {a0 : Int} {a1 : Int} {Q : Int → lf_Z → Prop} {s : lf_Z} (hI : iv_A s.1 s.2.2) (ba0 : 97 ≤ a0 ∧ a0 ≤ 119) (ba1 : 97 ≤ a1 ∧ a1 ≤ 121) (hQ : ∀ (r : Int), Q r s) : fm_206 a0 a1 Q s := by
  unfold fm_206
  refine ⟨(show lf_R a0 from lf_Rof (by omega)), ?_⟩
  refine ⟨(show lf_R a1 from lf_Rof (by omega)), ?_⟩
  exact hQ (lf_lor (lf_lshl a0 8) a1)
-- fm_205 Model.w3 i i i
theorem sm_205 {a0 : Int} {a1 : Int} {a2 : Int} {Q : Int → lf_Z → Prop} {s : lf_Z} (hI : iv_A s.1 s.2.2) (ba0 : 97 ≤ a0 ∧ a0 ≤ 119) (ba1 : 97 ≤ a1 ∧ a1 ≤ 117) (ba2 : 97 ≤ a2 ∧ a2 ≤ 122) (hQ : ∀ (r : Int), Q r s) : fm_205 a0 a1 a2 Q s := by
  unfold fm_205
  refine sm_206 hI (show (97 : Int) ≤ a0 ∧ a0 ≤ (119 : Int) from by omega) (show (97 : Int) ≤ a1 ∧ a1 ≤ (121 : Int) from by omega) (fun r22 => ?_)
  refine ⟨(show lf_R a2 from lf_Rof (by omega)), ?_⟩
  exact hQ (lf_lor (lf_lshl (lf_wl r22) 8) a2)
-- fm_204 Model.w4 i i i i
theorem sm_204 {a0 : Int} {a1 : Int} {a2 : Int} {a3 : Int} {Q : Int → lf_Z → Prop} {s : lf_Z} (hI : iv_A s.1 s.2.2) (ba0 : 97 ≤ a0 ∧ a0 ≤ 116) (ba1 : 97 ≤ a1 ∧ a1 ≤ 117) (ba2 : 97 ≤ a2 ∧ a2 ≤ 122) (ba3 : 97 ≤ a3 ∧ a3 ≤ 117) (hQ : ∀ (r : Int), Q r s) : fm_204 a0 a1 a2 a3 Q s := by
  unfold fm_204
  refine sm_205 hI (show (97 : Int) ≤ a0 ∧ a0 ≤ (119 : Int) from by omega) (show (97 : Int) ≤ a1 ∧ a1 ≤ (117 : Int) from by omega) (show (97 : Int) ≤ a2 ∧ a2 ≤ (122 : Int) from by omega) (fun r22 => ?_)
  refine ⟨(show lf_R a3 from lf_Rof (by omega)), ?_⟩
  exact hQ (lf_lor (lf_lshl (lf_wl r22) 8) a3)
-- fm_207 Model.isWord 95 l
theorem sm_207 {a1 : Int} {Q : Bool → lf_Z → Prop} {s : lf_Z} (hI : iv_A s.1 s.2.2) (hQ : ∀ (z : Bool), ((z = true → (s.1 95 9 = 2)) ∧ (z = false → True)) → Q z s) : fm_207 a1 Q s := by
  unfold fm_207
  have b1 : (-2147483648) ≤ s.1 95 9 ∧ s.1 95 9 ≤ 2147483647 := iv_full hI
  refine ⟨(show lf_R (s.1 95 9) from lf_Rof (by omega)), ?_⟩
  refine ⟨fun c2 => ?_, fun c2 => ?_⟩
  · skip
    replace c2 : s.1 95 9 ≠ 2 := c2
    exact hQ false ⟨fun h => (by cases h), fun _ => trivial⟩
  · skip
    replace c2 : ¬ (s.1 95 9 ≠ 2) := c2
    refine ⟨fun c3 => ?_, fun c3 => ?_⟩
    · replace c3 : lf_wl (s.2.1 95 11) ≠ lf_wl a1 := c3
      exact hQ false ⟨fun h => (by cases h), fun _ => trivial⟩
    · replace c3 : ¬ (lf_wl (s.2.1 95 11) ≠ lf_wl a1) := c3
      exact hQ true ⟨fun _ => by omega, fun _ => trivial⟩
-- fm_208 Model.w5 i i i i i
theorem sm_208 {a0 : Int} {a1 : Int} {a2 : Int} {a3 : Int} {a4 : Int} {Q : Int → lf_Z → Prop} {s : lf_Z} (hI : iv_A s.1 s.2.2) (ba0 : 97 ≤ a0 ∧ a0 ≤ 116) (ba1 : 97 ≤ a1 ∧ a1 ≤ 117) (ba2 : 97 ≤ a2 ∧ a2 ≤ 114) (ba3 : 97 ≤ a3 ∧ a3 ≤ 117) (ba4 : 100 ≤ a4 ∧ a4 ≤ 121) (hQ : ∀ (r : Int), Q r s) : fm_208 a0 a1 a2 a3 a4 Q s := by
  unfold fm_208
  refine sm_204 hI (show (97 : Int) ≤ a0 ∧ a0 ≤ (116 : Int) from by omega) (show (97 : Int) ≤ a1 ∧ a1 ≤ (117 : Int) from by omega) (show (97 : Int) ≤ a2 ∧ a2 ≤ (122 : Int) from by omega) (show (97 : Int) ≤ a3 ∧ a3 ≤ (117 : Int) from by omega) (fun r22 => ?_)
  refine ⟨(show lf_R a4 from lf_Rof (by omega)), ?_⟩
  exact hQ (lf_lor (lf_lshl (lf_wl r22) 8) a4)
-- fm_209 Model.w6 i i i i i i
theorem sm_209 {a0 : Int} {a1 : Int} {a2 : Int} {a3 : Int} {a4 : Int} {a5 : Int} {Q : Int → lf_Z → Prop} {s : lf_Z} (hI : iv_A s.1 s.2.2) (ba0 : 98 ≤ a0 ∧ a0 ≤ 109) (ba1 : 101 ≤ a1 ∧ a1 ≤ 117) (ba2 : 99 ≤ a2 ∧ a2 ≤ 110) (ba3 : 105 ≤ a3 ∧ a3 ≤ 117) (ba4 : 101 ≤ a4 ∧ a4 ≤ 116) (ba5 : 100 ≤ a5 ∧ a5 ≤ 116) (hQ : ∀ (r : Int), Q r s) : fm_209 a0 a1 a2 a3 a4 a5 Q s := by
  unfold fm_209
  refine sm_208 hI (show (97 : Int) ≤ a0 ∧ a0 ≤ (116 : Int) from by omega) (show (97 : Int) ≤ a1 ∧ a1 ≤ (117 : Int) from by omega) (show (97 : Int) ≤ a2 ∧ a2 ≤ (114 : Int) from by omega) (show (97 : Int) ≤ a3 ∧ a3 ≤ (117 : Int) from by omega) (show (100 : Int) ≤ a4 ∧ a4 ≤ (121 : Int) from by omega) (fun r22 => ?_)
  refine ⟨(show lf_R a5 from lf_Rof (by omega)), ?_⟩
  exact hQ (lf_lor (lf_lshl (lf_wl r22) 8) a5)
-- fm_203 Model.sortOf 95
theorem sm_203 {Q : Int → lf_Z → Prop} {s : lf_Z} (hI : iv_A s.1 s.2.2) (hQ : ∀ (r : Int), ((-1) ≤ r ∧ r ≤ 12) → Q r s) : fm_203 Q s := by
  unfold fm_203
  refine sm_204 hI (show (97 : Int) ≤ 112 ∧ 112 ≤ (116 : Int) from by omega) (show (97 : Int) ≤ 97 ∧ 97 ≤ (117 : Int) from by omega) (show (97 : Int) ≤ 99 ∧ 99 ≤ (122 : Int) from by omega) (show (97 : Int) ≤ 101 ∧ 101 ≤ (117 : Int) from by omega) (fun r22 => ?_)
  refine sm_207 hI (fun z24 q2 => ?_)
  have b3 : (-2147483648) ≤ s.1 95 9 ∧ s.1 95 9 ≤ 2147483647 := iv_full hI
  refine ⟨fun c4 => ?_, fun c4 => ?_⟩
  · skip
    have dc4 := q2.2 c4
    refine sm_208 hI (show (97 : Int) ≤ 116 ∧ 116 ≤ (116 : Int) from by omega) (show (97 : Int) ≤ 97 ∧ 97 ≤ (117 : Int) from by omega) (show (97 : Int) ≤ 107 ∧ 107 ≤ (114 : Int) from by omega) (show (97 : Int) ≤ 101 ∧ 101 ≤ (117 : Int) from by omega) (show (100 : Int) ≤ 115 ∧ 115 ≤ (121 : Int) from by omega) (fun r26 => ?_)
    refine sm_207 hI (fun z28 q6 => ?_)
    refine ⟨fun c7 => ?_, fun c7 => ?_⟩
    · skip
      have dc7 := q6.2 c7
      refine sm_204 hI (show (97 : Int) ≤ 112 ∧ 112 ≤ (116 : Int) from by omega) (show (97 : Int) ≤ 97 ∧ 97 ≤ (117 : Int) from by omega) (show (97 : Int) ≤ 121 ∧ 121 ≤ (122 : Int) from by omega) (show (97 : Int) ≤ 115 ∧ 115 ≤ (117 : Int) from by omega) (fun r30 => ?_)
      refine sm_207 hI (fun z32 q9 => ?_)
      refine ⟨fun c10 => ?_, fun c10 => ?_⟩
      · skip
        have dc10 := q9.2 c10
        refine sm_205 hI (show (97 : Int) ≤ 115 ∧ 115 ≤ (119 : Int) from by omega) (show (97 : Int) ≤ 116 ∧ 116 ≤ (117 : Int) from by omega) (show (97 : Int) ≤ 114 ∧ 114 ≤ (122 : Int) from by omega) (fun r34 => ?_)
        refine sm_204 hI (show (97 : Int) ≤ 101 ∧ 101 ≤ (116 : Int) from by omega) (show (97 : Int) ≤ 116 ∧ 116 ≤ (117 : Int) from by omega) (show (97 : Int) ≤ 99 ∧ 99 ≤ (122 : Int) from by omega) (show (97 : Int) ≤ 104 ∧ 104 ≤ (117 : Int) from by omega) (fun r36 => ?_)
        refine sm_207 hI (fun z38 q13 => ?_)
        refine ⟨fun c14 => ?_, fun c14 => ?_⟩
        · skip
          have dc14 := q13.2 c14
          refine sm_205 hI (show (97 : Int) ≤ 119 ∧ 119 ≤ (119 : Int) from by omega) (show (97 : Int) ≤ 97 ∧ 97 ≤ (117 : Int) from by omega) (show (97 : Int) ≤ 121 ∧ 121 ≤ (122 : Int) from by omega) (fun r40 => ?_)
          refine sm_207 hI (fun z42 q16 => ?_)
          refine ⟨fun c17 => ?_, fun c17 => ?_⟩
          · skip
            have dc17 := q16.2 c17
            refine sm_204 hI (show (97 : Int) ≤ 112 ∧ 112 ≤ (116 : Int) from by omega) (show (97 : Int) ≤ 97 ∧ 97 ≤ (117 : Int) from by omega) (show (97 : Int) ≤ 116 ∧ 116 ≤ (122 : Int) from by omega) (show (97 : Int) ≤ 104 ∧ 104 ≤ (117 : Int) from by omega) (fun r44 => ?_)
            refine sm_207 hI (fun z46 q19 => ?_)
            refine ⟨fun c20 => ?_, fun c20 => ?_⟩
            · skip
              have dc20 := q19.2 c20
              refine sm_205 hI (show (97 : Int) ≤ 111 ∧ 111 ≤ (119 : Int) from by omega) (show (97 : Int) ≤ 110 ∧ 110 ≤ (117 : Int) from by omega) (show (97 : Int) ≤ 101 ∧ 101 ≤ (122 : Int) from by omega) (fun r48 => ?_)
              refine sm_207 hI (fun z50 q22 => ?_)
              refine ⟨fun c23 => ?_, fun c23 => ?_⟩
              · skip
                have dc23 := q22.2 c23
                refine sm_208 hI (show (97 : Int) ≤ 115 ∧ 115 ≤ (116 : Int) from by omega) (show (97 : Int) ≤ 116 ∧ 116 ≤ (117 : Int) from by omega) (show (97 : Int) ≤ 114 ∧ 114 ≤ (114 : Int) from by omega) (show (97 : Int) ≤ 97 ∧ 97 ≤ (117 : Int) from by omega) (show (100 : Int) ≤ 121 ∧ 121 ≤ (121 : Int) from by omega) (fun r52 => ?_)
                refine sm_207 hI (fun z54 q25 => ?_)
                refine ⟨fun c26 => ?_, fun c26 => ?_⟩
                · skip
                  have dc26 := q25.2 c26
                  refine sm_204 hI (show (97 : Int) ≤ 115 ∧ 115 ≤ (116 : Int) from by omega) (show (97 : Int) ≤ 101 ∧ 101 ≤ (117 : Int) from by omega) (show (97 : Int) ≤ 110 ∧ 110 ≤ (122 : Int) from by omega) (show (97 : Int) ≤ 100 ∧ 100 ≤ (117 : Int) from by omega) (fun r56 => ?_)
                  refine sm_207 hI (fun z58 q28 => ?_)
                  refine ⟨fun c29 => ?_, fun c29 => ?_⟩
                  · skip
                    have dc29 := q28.2 c29
                    refine sm_204 hI (show (97 : Int) ≤ 115 ∧ 115 ≤ (116 : Int) from by omega) (show (97 : Int) ≤ 104 ∧ 104 ≤ (117 : Int) from by omega) (show (97 : Int) ≤ 117 ∧ 117 ≤ (122 : Int) from by omega) (show (97 : Int) ≤ 116 ∧ 116 ≤ (117 : Int) from by omega) (fun r60 => ?_)
                    refine sm_207 hI (fun z62 q31 => ?_)
                    refine ⟨fun c32 => ?_, fun c32 => ?_⟩
                    · skip
                      have dc32 := q31.2 c32
                      refine sm_204 hI (show (97 : Int) ≤ 111 ∧ 111 ≤ (116 : Int) from by omega) (show (97 : Int) ≤ 112 ∧ 112 ≤ (117 : Int) from by omega) (show (97 : Int) ≤ 101 ∧ 101 ≤ (122 : Int) from by omega) (show (97 : Int) ≤ 110 ∧ 110 ≤ (117 : Int) from by omega) (fun r64 => ?_)
                      refine sm_207 hI (fun z66 q34 => ?_)
                      refine ⟨fun c35 => ?_, fun c35 => ?_⟩
                      · skip
                        have dc35 := q34.2 c35
                        refine sm_208 hI (show (97 : Int) ≤ 115 ∧ 115 ≤ (116 : Int) from by omega) (show (97 : Int) ≤ 112 ∧ 112 ≤ (117 : Int) from by omega) (show (97 : Int) ≤ 108 ∧ 108 ≤ (114 : Int) from by omega) (show (97 : Int) ≤ 105 ∧ 105 ≤ (117 : Int) from by omega) (show (100 : Int) ≤ 116 ∧ 116 ≤ (121 : Int) from by omega) (fun r68 => ?_)
                        refine sm_207 hI (fun z70 q37 => ?_)
                        refine ⟨fun c38 => ?_, fun c38 => ?_⟩
                        · skip
                          have dc38 := q37.2 c38
                          refine sm_209 hI (show (98 : Int) ≤ 109 ∧ 109 ≤ (109 : Int) from by omega) (show (101 : Int) ≤ 105 ∧ 105 ≤ (117 : Int) from by omega) (show (99 : Int) ≤ 110 ∧ 110 ≤ (110 : Int) from by omega) (show (105 : Int) ≤ 117 ∧ 117 ≤ (117 : Int) from by omega) (show (101 : Int) ≤ 116 ∧ 116 ≤ (116 : Int) from by omega) (show (100 : Int) ≤ 101 ∧ 101 ≤ (116 : Int) from by omega) (fun r72 => ?_)
                          refine sm_207 hI (fun z74 q40 => ?_)
                          refine ⟨fun c41 => ?_, fun c41 => ?_⟩
                          · skip
                            have dc41 := q40.2 c41
                            exact hQ (-1) (show (-1 : Int) ≤ (-1) ∧ (-1) ≤ (12 : Int) from by omega)
                          · skip
                            have dc41 := q40.1 c41
                            exact hQ 12 (show (-1 : Int) ≤ 12 ∧ 12 ≤ (12 : Int) from by omega)
                        · skip
                          have dc38 := q37.1 c38
                          exact hQ 11 (show (-1 : Int) ≤ 11 ∧ 11 ≤ (12 : Int) from by omega)
                      · skip
                        have dc35 := q34.1 c35
                        exact hQ 10 (show (-1 : Int) ≤ 10 ∧ 10 ≤ (12 : Int) from by omega)
                    · skip
                      have dc32 := q31.1 c32
                      exact hQ 9 (show (-1 : Int) ≤ 9 ∧ 9 ≤ (12 : Int) from by omega)
                  · skip
                    have dc29 := q28.1 c29
                    exact hQ 8 (show (-1 : Int) ≤ 8 ∧ 8 ≤ (12 : Int) from by omega)
                · skip
                  have dc26 := q25.1 c26
                  exact hQ 7 (show (-1 : Int) ≤ 7 ∧ 7 ≤ (12 : Int) from by omega)
              · skip
                have dc23 := q22.1 c23
                exact hQ 6 (show (-1 : Int) ≤ 6 ∧ 6 ≤ (12 : Int) from by omega)
            · skip
              have dc20 := q19.1 c20
              exact hQ 5 (show (-1 : Int) ≤ 5 ∧ 5 ≤ (12 : Int) from by omega)
          · skip
            have dc17 := q16.1 c17
            exact hQ 4 (show (-1 : Int) ≤ 4 ∧ 4 ≤ (12 : Int) from by omega)
        · skip
          have dc14 := q13.1 c14
          exact hQ 3 (show (-1 : Int) ≤ 3 ∧ 3 ≤ (12 : Int) from by omega)
      · skip
        have dc10 := q9.1 c10
        exact hQ 2 (show (-1 : Int) ≤ 2 ∧ 2 ≤ (12 : Int) from by omega)
    · skip
      have dc7 := q6.1 c7
      exact hQ 1 (show (-1 : Int) ≤ 1 ∧ 1 ≤ (12 : Int) from by omega)
  · skip
    have dc4 := q2.1 c4
    exact hQ 0 (show (-1 : Int) ≤ 0 ∧ 0 ≤ (12 : Int) from by omega)
-- fm_230 Model.nameOf 95
theorem sm_230 {Q : Int → lf_Z → Prop} {s : lf_Z} (hI : iv_A s.1 s.2.2) (hQ : ∀ (r : Int), (((-1) ≤ r ∧ r ≤ 10) ∧ (r = -1 ∨ s.1 95 9 = 2)) → Q r s) : fm_230 Q s := by
  unfold fm_230
  have b1 : (-2147483648) ≤ s.1 95 9 ∧ s.1 95 9 ≤ 2147483647 := iv_full hI
  refine ⟨(show lf_R (s.1 95 9) from lf_Rof (by omega)), ?_⟩
  refine ⟨fun c2 => ?_, fun c2 => ?_⟩
  · skip
    replace c2 : s.1 95 9 = 2 := c2
    refine sm_204 hI (show (97 : Int) ≤ 115 ∧ 115 ≤ (116 : Int) from by omega) (show (97 : Int) ≤ 105 ∧ 105 ≤ (117 : Int) from by omega) (show (97 : Int) ≤ 122 ∧ 122 ≤ (122 : Int) from by omega) (show (97 : Int) ≤ 101 ∧ 101 ≤ (117 : Int) from by omega) (fun r23 => ?_)
    refine ⟨fun c4 => ?_, fun c4 => ?_⟩
    · replace c4 : lf_wl (s.2.1 95 11) ≠ lf_wl r23 := c4
      refine sm_208 hI (show (97 : Int) ≤ 112 ∧ 112 ≤ (116 : Int) from by omega) (show (97 : Int) ≤ 108 ∧ 108 ≤ (117 : Int) from by omega) (show (97 : Int) ≤ 97 ∧ 97 ≤ (114 : Int) from by omega) (show (97 : Int) ≤ 99 ∧ 99 ≤ (117 : Int) from by omega) (show (100 : Int) ≤ 101 ∧ 101 ≤ (121 : Int) from by omega) (fun r25 => ?_)
      refine ⟨fun c6 => ?_, fun c6 => ?_⟩
      · replace c6 : lf_wl (s.2.1 95 11) ≠ lf_wl r25 := c6
        refine sm_204 hI (show (97 : Int) ≤ 107 ∧ 107 ≤ (116 : Int) from by omega) (show (97 : Int) ≤ 105 ∧ 105 ≤ (117 : Int) from by omega) (show (97 : Int) ≤ 110 ∧ 110 ≤ (122 : Int) from by omega) (show (97 : Int) ≤ 100 ∧ 100 ≤ (117 : Int) from by omega) (fun r27 => ?_)
        refine ⟨fun c8 => ?_, fun c8 => ?_⟩
        · replace c8 : lf_wl (s.2.1 95 11) ≠ lf_wl r27 := c8
          refine sm_204 hI (show (97 : Int) ≤ 104 ∧ 104 ≤ (116 : Int) from by omega) (show (97 : Int) ≤ 101 ∧ 101 ≤ (117 : Int) from by omega) (show (97 : Int) ≤ 114 ∧ 114 ≤ (122 : Int) from by omega) (show (97 : Int) ≤ 101 ∧ 101 ≤ (117 : Int) from by omega) (fun r29 => ?_)
          refine ⟨fun c10 => ?_, fun c10 => ?_⟩
          · replace c10 : lf_wl (s.2.1 95 11) ≠ lf_wl r29 := c10
            refine sm_209 hI (show (98 : Int) ≤ 98 ∧ 98 ≤ (109 : Int) from by omega) (show (101 : Int) ≤ 101 ∧ 101 ≤ (117 : Int) from by omega) (show (99 : Int) ≤ 104 ∧ 104 ≤ (110 : Int) from by omega) (show (105 : Int) ≤ 105 ∧ 105 ≤ (117 : Int) from by omega) (show (101 : Int) ≤ 110 ∧ 110 ≤ (116 : Int) from by omega) (show (100 : Int) ≤ 100 ∧ 100 ≤ (116 : Int) from by omega) (fun r31 => ?_)
            refine ⟨fun c12 => ?_, fun c12 => ?_⟩
            · replace c12 : lf_wl (s.2.1 95 11) ≠ lf_wl r31 := c12
              refine sm_208 hI (show (97 : Int) ≤ 97 ∧ 97 ≤ (116 : Int) from by omega) (show (97 : Int) ≤ 104 ∧ 104 ≤ (117 : Int) from by omega) (show (97 : Int) ≤ 101 ∧ 101 ≤ (114 : Int) from by omega) (show (97 : Int) ≤ 97 ∧ 97 ≤ (117 : Int) from by omega) (show (100 : Int) ≤ 100 ∧ 100 ≤ (121 : Int) from by omega) (fun r33 => ?_)
              refine ⟨fun c14 => ?_, fun c14 => ?_⟩
              · replace c14 : lf_wl (s.2.1 95 11) ≠ lf_wl r33 := c14
                refine sm_208 hI (show (97 : Int) ≤ 115 ∧ 115 ≤ (116 : Int) from by omega) (show (97 : Int) ≤ 116 ∧ 116 ≤ (117 : Int) from by omega) (show (97 : Int) ≤ 111 ∧ 111 ≤ (114 : Int) from by omega) (show (97 : Int) ≤ 111 ∧ 111 ≤ (117 : Int) from by omega) (show (100 : Int) ≤ 100 ∧ 100 ≤ (121 : Int) from by omega) (fun r35 => ?_)
                refine ⟨fun c16 => ?_, fun c16 => ?_⟩
                · replace c16 : lf_wl (s.2.1 95 11) ≠ lf_wl r35 := c16
                  refine sm_209 hI (show (98 : Int) ≤ 98 ∧ 98 ≤ (109 : Int) from by omega) (show (101 : Int) ≤ 117 ∧ 117 ≤ (117 : Int) from by omega) (show (99 : Int) ≤ 99 ∧ 99 ≤ (110 : Int) from by omega) (show (105 : Int) ≤ 107 ∧ 107 ≤ (117 : Int) from by omega) (show (101 : Int) ≤ 101 ∧ 101 ≤ (116 : Int) from by omega) (show (100 : Int) ≤ 116 ∧ 116 ≤ (116 : Int) from by omega) (fun r37 => ?_)
                  refine ⟨fun c18 => ?_, fun c18 => ?_⟩
                  · replace c18 : lf_wl (s.2.1 95 11) ≠ lf_wl r37 := c18
                    refine sm_204 hI (show (97 : Int) ≤ 98 ∧ 98 ≤ (116 : Int) from by omega) (show (97 : Int) ≤ 97 ∧ 97 ≤ (117 : Int) from by omega) (show (97 : Int) ≤ 99 ∧ 99 ≤ (122 : Int) from by omega) (show (97 : Int) ≤ 107 ∧ 107 ≤ (117 : Int) from by omega) (fun r39 => ?_)
                    refine ⟨fun c20 => ?_, fun c20 => ?_⟩
                    · replace c20 : lf_wl (s.2.1 95 11) ≠ lf_wl r39 := c20
                      refine sm_205 hI (show (97 : Int) ≤ 119 ∧ 119 ≤ (119 : Int) from by omega) (show (97 : Int) ≤ 97 ∧ 97 ≤ (117 : Int) from by omega) (show (97 : Int) ≤ 121 ∧ 121 ≤ (122 : Int) from by omega) (fun r41 => ?_)
                      refine ⟨fun c22 => ?_, fun c22 => ?_⟩
                      · replace c22 : lf_wl (s.2.1 95 11) ≠ lf_wl r41 := c22
                        refine sm_204 hI (show (97 : Int) ≤ 100 ∧ 100 ≤ (116 : Int) from by omega) (show (97 : Int) ≤ 111 ∧ 111 ≤ (117 : Int) from by omega) (show (97 : Int) ≤ 110 ∧ 110 ≤ (122 : Int) from by omega) (show (97 : Int) ≤ 101 ∧ 101 ≤ (117 : Int) from by omega) (fun r43 => ?_)
                        refine ⟨fun c24 => ?_, fun c24 => ?_⟩
                        · replace c24 : lf_wl (s.2.1 95 11) ≠ lf_wl r43 := c24
                          exact hQ (-1) ⟨(show (-1 : Int) ≤ (-1) ∧ (-1) ≤ (10 : Int) from by omega), (show (-1) = -1 ∨ s.1 95 9 = 2 from by omega)⟩
                        · replace c24 : ¬ (lf_wl (s.2.1 95 11) ≠ lf_wl r43) := c24
                          exact hQ 10 ⟨(show (-1 : Int) ≤ 10 ∧ 10 ≤ (10 : Int) from by omega), (show 10 = -1 ∨ s.1 95 9 = 2 from by omega)⟩
                      · replace c22 : ¬ (lf_wl (s.2.1 95 11) ≠ lf_wl r41) := c22
                        exact hQ 9 ⟨(show (-1 : Int) ≤ 9 ∧ 9 ≤ (10 : Int) from by omega), (show 9 = -1 ∨ s.1 95 9 = 2 from by omega)⟩
                    · replace c20 : ¬ (lf_wl (s.2.1 95 11) ≠ lf_wl r39) := c20
                      exact hQ 8 ⟨(show (-1 : Int) ≤ 8 ∧ 8 ≤ (10 : Int) from by omega), (show 8 = -1 ∨ s.1 95 9 = 2 from by omega)⟩
                  · replace c18 : ¬ (lf_wl (s.2.1 95 11) ≠ lf_wl r37) := c18
                    exact hQ 7 ⟨(show (-1 : Int) ≤ 7 ∧ 7 ≤ (10 : Int) from by omega), (show 7 = -1 ∨ s.1 95 9 = 2 from by omega)⟩
                · replace c16 : ¬ (lf_wl (s.2.1 95 11) ≠ lf_wl r35) := c16
                  exact hQ 6 ⟨(show (-1 : Int) ≤ 6 ∧ 6 ≤ (10 : Int) from by omega), (show 6 = -1 ∨ s.1 95 9 = 2 from by omega)⟩
              · replace c14 : ¬ (lf_wl (s.2.1 95 11) ≠ lf_wl r33) := c14
                exact hQ 5 ⟨(show (-1 : Int) ≤ 5 ∧ 5 ≤ (10 : Int) from by omega), (show 5 = -1 ∨ s.1 95 9 = 2 from by omega)⟩
            · replace c12 : ¬ (lf_wl (s.2.1 95 11) ≠ lf_wl r31) := c12
              exact hQ 4 ⟨(show (-1 : Int) ≤ 4 ∧ 4 ≤ (10 : Int) from by omega), (show 4 = -1 ∨ s.1 95 9 = 2 from by omega)⟩
          · replace c10 : ¬ (lf_wl (s.2.1 95 11) ≠ lf_wl r29) := c10
            exact hQ 3 ⟨(show (-1 : Int) ≤ 3 ∧ 3 ≤ (10 : Int) from by omega), (show 3 = -1 ∨ s.1 95 9 = 2 from by omega)⟩
        · replace c8 : ¬ (lf_wl (s.2.1 95 11) ≠ lf_wl r27) := c8
          exact hQ 2 ⟨(show (-1 : Int) ≤ 2 ∧ 2 ≤ (10 : Int) from by omega), (show 2 = -1 ∨ s.1 95 9 = 2 from by omega)⟩
      · replace c6 : ¬ (lf_wl (s.2.1 95 11) ≠ lf_wl r25) := c6
        exact hQ 1 ⟨(show (-1 : Int) ≤ 1 ∧ 1 ≤ (10 : Int) from by omega), (show 1 = -1 ∨ s.1 95 9 = 2 from by omega)⟩
    · replace c4 : ¬ (lf_wl (s.2.1 95 11) ≠ lf_wl r23) := c4
      exact hQ 0 ⟨(show (-1 : Int) ≤ 0 ∧ 0 ≤ (10 : Int) from by omega), (show 0 = -1 ∨ s.1 95 9 = 2 from by omega)⟩
  · skip
    replace c2 : ¬ (s.1 95 9 = 2) := c2
    exact hQ (-1) ⟨(show (-1 : Int) ≤ (-1) ∧ (-1) ≤ (10 : Int) from by omega), (show (-1) = -1 ∨ s.1 95 9 = 2 from by omega)⟩
-- fm_232 Model.letter 95
theorem sm_232 {Q : Int → lf_Z → Prop} {s : lf_Z} (hI : iv_A s.1 s.2.2) (hQ : ∀ (r : Int), (((-1) ≤ r ∧ r ≤ 25) ∧ ((r = -1 ∧ ¬ (s.1 95 9 = 2 ∧ s.1 95 7 - s.1 95 8 = 1 ∧ s.1 95 8 < s.1 95 4 ∧ 97 ≤ s.1 99 (s.1 95 8) ∧ s.1 99 (s.1 95 8) ≤ 122)) ∨ (r = s.1 99 (s.1 95 8) - 97 ∧ s.1 95 9 = 2 ∧ s.1 95 7 - s.1 95 8 = 1 ∧ s.1 95 8 < s.1 95 4 ∧ 97 ≤ s.1 99 (s.1 95 8) ∧ s.1 99 (s.1 95 8) ≤ 122))) → Q r s) : fm_232 Q s := by
  unfold fm_232
  have b1 : (-2147483648) ≤ s.1 95 9 ∧ s.1 95 9 ≤ 2147483647 := iv_full hI
  refine ⟨(show lf_R (s.1 95 9) from lf_Rof (by omega)), ?_⟩
  refine ⟨fun c2 => ?_, fun c2 => ?_⟩
  · skip
    replace c2 : s.1 95 9 ≠ 2 := c2
    exact hQ (-1) ⟨(show (-1 : Int) ≤ (-1) ∧ (-1) ≤ (25 : Int) from by omega), (show ((-1) = -1 ∧ ¬ (s.1 95 9 = 2 ∧ s.1 95 7 - s.1 95 8 = 1 ∧ s.1 95 8 < s.1 95 4 ∧ 97 ≤ s.1 99 (s.1 95 8) ∧ s.1 99 (s.1 95 8) ≤ 122)) ∨ ((-1) = s.1 99 (s.1 95 8) - 97 ∧ s.1 95 9 = 2 ∧ s.1 95 7 - s.1 95 8 = 1 ∧ s.1 95 8 < s.1 95 4 ∧ 97 ≤ s.1 99 (s.1 95 8) ∧ s.1 99 (s.1 95 8) ≤ 122) from by omega)⟩
  · skip
    replace c2 : ¬ (s.1 95 9 ≠ 2) := c2
    have b3 : 0 ≤ s.1 95 7 ∧ s.1 95 7 ≤ 300 := iv_r95_7 hI
    have b4 : 0 ≤ s.1 95 8 ∧ s.1 95 8 ≤ 300 := iv_r95_8 hI
    refine ⟨(show lf_R ((s.1 95 7) - (s.1 95 8)) from lf_Rof (by omega)), ?_⟩
    refine ⟨fun c5 => ?_, fun c5 => ?_⟩
    · skip
      replace c5 : (s.1 95 7) - (s.1 95 8) ≠ 1 := c5
      exact hQ (-1) ⟨(show (-1 : Int) ≤ (-1) ∧ (-1) ≤ (25 : Int) from by omega), (show ((-1) = -1 ∧ ¬ (s.1 95 9 = 2 ∧ s.1 95 7 - s.1 95 8 = 1 ∧ s.1 95 8 < s.1 95 4 ∧ 97 ≤ s.1 99 (s.1 95 8) ∧ s.1 99 (s.1 95 8) ≤ 122)) ∨ ((-1) = s.1 99 (s.1 95 8) - 97 ∧ s.1 95 9 = 2 ∧ s.1 95 7 - s.1 95 8 = 1 ∧ s.1 95 8 < s.1 95 4 ∧ 97 ≤ s.1 99 (s.1 95 8) ∧ s.1 99 (s.1 95 8) ≤ 122) from by omega)⟩
    · skip
      replace c5 : ¬ ((s.1 95 7) - (s.1 95 8) ≠ 1) := c5
      refine sm_198 hI (show (0 : Int) ≤ s.1 95 8 ∧ s.1 95 8 ≤ (300 : Int) from by omega) (fun r24 q6 => ?_)
      obtain ⟨q6, q6x⟩ := q6
      have b7 : 0 ≤ s.1 95 4 ∧ s.1 95 4 ≤ 300 := iv_r95_4 hI
      replace q6x : (r24 = -1 ∧ s.1 95 4 ≤ (s.1 95 8)) ∨ ((s.1 95 8) < s.1 95 4 ∧ r24 = s.1 99 (s.1 95 8)) := q6x
      refine sm_183 hI (show (-2147483648 : Int) ≤ r24 ∧ r24 ≤ (2147483647 : Int) from by omega) (show (-1 : Int) ≤ 97 ∧ 97 ≤ (97 : Int) from by omega) (show (-1 : Int) ≤ 122 ∧ 122 ≤ (9999 : Int) from by omega) (fun z26 q8 => ?_)
      refine ⟨fun c9 => ?_, fun c9 => ?_⟩
      · skip
        have dc9 := q8.2 c9
        exact hQ (-1) ⟨(show (-1 : Int) ≤ (-1) ∧ (-1) ≤ (25 : Int) from by omega), (show ((-1) = -1 ∧ ¬ (s.1 95 9 = 2 ∧ s.1 95 7 - s.1 95 8 = 1 ∧ s.1 95 8 < s.1 95 4 ∧ 97 ≤ s.1 99 (s.1 95 8) ∧ s.1 99 (s.1 95 8) ≤ 122)) ∨ ((-1) = s.1 99 (s.1 95 8) - 97 ∧ s.1 95 9 = 2 ∧ s.1 95 7 - s.1 95 8 = 1 ∧ s.1 95 8 < s.1 95 4 ∧ 97 ≤ s.1 99 (s.1 95 8) ∧ s.1 99 (s.1 95 8) ≤ 122) from by omega)⟩
      · skip
        have dc9 := q8.1 c9
        refine sm_198 hI (show (0 : Int) ≤ s.1 95 8 ∧ s.1 95 8 ≤ (300 : Int) from by omega) (fun r28 q10 => ?_)
        obtain ⟨q10, q10x⟩ := q10
        have b11 : 0 ≤ s.1 95 4 ∧ s.1 95 4 ≤ 300 := iv_r95_4 hI
        replace q10x : (r28 = -1 ∧ s.1 95 4 ≤ (s.1 95 8)) ∨ ((s.1 95 8) < s.1 95 4 ∧ r28 = s.1 99 (s.1 95 8)) := q10x
        exact hQ (r28 - 97) ⟨(show (-1 : Int) ≤ r28 - 97 ∧ r28 - 97 ≤ (25 : Int) from by omega), (show (r28 - 97 = -1 ∧ ¬ (s.1 95 9 = 2 ∧ s.1 95 7 - s.1 95 8 = 1 ∧ s.1 95 8 < s.1 95 4 ∧ 97 ≤ s.1 99 (s.1 95 8) ∧ s.1 99 (s.1 95 8) ≤ 122)) ∨ (r28 - 97 = s.1 99 (s.1 95 8) - 97 ∧ s.1 95 9 = 2 ∧ s.1 95 7 - s.1 95 8 = 1 ∧ s.1 95 8 < s.1 95 4 ∧ 97 ≤ s.1 99 (s.1 95 8) ∧ s.1 99 (s.1 95 8) ≤ 122) from by omega)⟩
-- fm_225 Model.emit 95 i i
theorem sm_225 {a1 : Int} {a2 : Int} {Q : lf_Z → Prop} {s : lf_Z} (hI : iv_A s.1 s.2.2) (ba1 : 0 ≤ a1 ∧ a1 ≤ 45) (ba2 : (-2147483648) ≤ a2 ∧ a2 ≤ 2147483647) (kp0 : wk_E (s.1 98) (s.1 95 12) (s.1 95 13)) (kp1 : s.1 95 13 ≤ 303) (hQ : ∀  (s' : lf_Z), iv_A s'.1 s'.2.2 → lf_fq [95, 98] 1000000 true s.1 s.2.2 s'.1 s'.2.2 → (s'.1 98 = pz_em (s.1 98) (s.1 95 12 + 97 + 2 * s.1 95 13) a1 a2) → (s'.1 95 13 = s.1 95 13 + 1 ∧ s'.1 95 7 = s.1 95 7 ∧ s'.1 95 8 = s.1 95 8 ∧ s'.1 95 9 = s.1 95 9 ∧ s'.1 95 12 = s.1 95 12 ∧ s'.1 95 19 = s.1 95 19 ∧ s'.1 95 20 = s.1 95 20 ∧ s'.1 95 21 = s.1 95 21 ∧ s'.1 95 22 = s.1 95 22 ∧ s'.1 95 23 = s.1 95 23) → Q  s') : fm_225 a1 a2 Q s := by
  unfold fm_225
  have b1 : 0 ≤ s.1 95 12 ∧ s.1 95 12 ≤ 2115 := iv_r95_12 hI
  have b2 : ((s.1 95 12) = 0 ∨ (s.1 95 12) = 705 ∨ (s.1 95 12) = 1410 ∨ (s.1 95 12) = 2115) := kp0.1
  have b3 : 0 ≤ s.1 95 13 ∧ s.1 95 13 ≤ 304 := iv_r95_13 hI
  have b4 : wk_T (lf_up s.1 98 (((s.1 95 12) + 97) + (2 * (s.1 95 13))) a1 98) := wk_Tw (wk_TA hI) kp0 (by omega) (wk_hr hI) (fun j hj => lf_up_i (by omega))
  refine ⟨(show (0 : Int) ≤ ((s.1 95 12) + 97) + (2 * (s.1 95 13)) ∧ ((s.1 95 12) + 97) + (2 * (s.1 95 13)) < (2820 : Int) from by omega), ?_⟩
  have hI5 : iv_A (lf_up s.1 98 (((s.1 95 12) + 97) + (2 * (s.1 95 13))) a1) s.2.2 := iv_w98c hI kp0.1 (by omega) (by omega) (by first | with_reducible assumption | assumption)
  have fr6 : lf_fq [95, 98] 1000000 true s.1 s.2.2 (lf_up s.1 98 (((s.1 95 12) + 97) + (2 * (s.1 95 13))) a1) s.2.2 := lf_fq_up (lf_fq_rf) rfl (fun h => absurd h (by decide))
  have b7 : wk_T (lf_up (lf_up s.1 98 (((s.1 95 12) + 97) + (2 * (s.1 95 13))) a1) 98 ((((s.1 95 12) + 97) + (2 * (s.1 95 13))) + 1) a2 98) := wk_Tw (wk_TA hI) kp0 (by omega) (wk_hr hI) (fun j hj => (lf_up_i (by omega)).trans (lf_up_i (by omega)))
  refine ⟨(show (0 : Int) ≤ (((s.1 95 12) + 97) + (2 * (s.1 95 13))) + 1 ∧ (((s.1 95 12) + 97) + (2 * (s.1 95 13))) + 1 < (2820 : Int) from by omega), ?_⟩
  have hI8 : iv_A (lf_up (lf_up s.1 98 (((s.1 95 12) + 97) + (2 * (s.1 95 13))) a1) 98 ((((s.1 95 12) + 97) + (2 * (s.1 95 13))) + 1) a2) s.2.2 := iv_w98c hI5 kp0.1 (by omega) (by omega) (by first | with_reducible assumption | assumption)
  have fr9 : lf_fq [95, 98] 1000000 true s.1 s.2.2 (lf_up (lf_up s.1 98 (((s.1 95 12) + 97) + (2 * (s.1 95 13))) a1) 98 ((((s.1 95 12) + 97) + (2 * (s.1 95 13))) + 1) a2) s.2.2 := lf_fq_up fr6 rfl (fun h => absurd h (by decide))
  have hI10 : iv_A (lf_up (lf_up (lf_up s.1 98 (((s.1 95 12) + 97) + (2 * (s.1 95 13))) a1) 98 ((((s.1 95 12) + 97) + (2 * (s.1 95 13))) + 1) a2) 95 13 ((s.1 95 13) + 1)) s.2.2 := iv_w95_13 hI8 (by omega)
  have fr11 : lf_fq [95, 98] 1000000 true s.1 s.2.2 (lf_up (lf_up (lf_up s.1 98 (((s.1 95 12) + 97) + (2 * (s.1 95 13))) a1) 98 ((((s.1 95 12) + 97) + (2 * (s.1 95 13))) + 1) a2) 95 13 ((s.1 95 13) + 1)) s.2.2 := lf_fq_up fr9 rfl (fun h => absurd h (by decide))
  have b12 : ((lf_up (lf_up s.1 98 (((s.1 95 12) + 97) + (2 * (s.1 95 13))) a1) 98 ((((s.1 95 12) + 97) + (2 * (s.1 95 13))) + 1) a2) 98) = pz_em (s.1 98) (s.1 95 12 + 97 + 2 * s.1 95 13) a1 a2 := pz_emE
  exact hQ (lf_up (lf_up (lf_up s.1 98 (((s.1 95 12) + 97) + (2 * (s.1 95 13))) a1) 98 ((((s.1 95 12) + 97) + (2 * (s.1 95 13))) + 1) a2) 95 13 ((s.1 95 13) + 1), s.2.1, s.2.2) hI10 fr11 (show ((lf_up (lf_up s.1 98 (((s.1 95 12) + 97) + (2 * (s.1 95 13))) a1) 98 ((((s.1 95 12) + 97) + (2 * (s.1 95 13))) + 1) a2) 98) = pz_em (s.1 98) (s.1 95 12 + 97 + 2 * s.1 95 13) a1 a2 from by first | with_reducible assumption | assumption) (show ((s.1 95 13) + 1) = s.1 95 13 + 1 ∧ (s.1 95 7) = s.1 95 7 ∧ (s.1 95 8) = s.1 95 8 ∧ (s.1 95 9) = s.1 95 9 ∧ (s.1 95 12) = s.1 95 12 ∧ (s.1 95 19) = s.1 95 19 ∧ (s.1 95 20) = s.1 95 20 ∧ (s.1 95 21) = s.1 95 21 ∧ (s.1 95 22) = s.1 95 22 ∧ (s.1 95 23) = s.1 95 23 from by omega)
-- fm_222 Model.rank i
theorem sm_222 {a0 : Int} {Q : Int → lf_Z → Prop} {s : lf_Z} (hI : iv_A s.1 s.2.2) (ba0 : 0 ≤ a0 ∧ a0 ≤ 45) (hQ : ∀ (r : Int), ((0 ≤ r ∧ r ≤ 7) ∧ (r = pz_rk a0 ∧ ((40 ≤ a0 ∧ r = 0) ∨ (a0 = 22 ∧ r = 1) ∨ (a0 = 21 ∧ r = 2) ∨ (a0 = 20 ∧ r = 3) ∨ (10 ≤ a0 ∧ a0 < 40 ∧ a0 ≠ 20 ∧ a0 ≠ 21 ∧ a0 ≠ 22 ∧ r = 4) ∨ (a0 = 3 ∧ r = 7) ∨ (6 ≤ a0 ∧ a0 < 10 ∧ r = 6) ∨ (a0 < 6 ∧ a0 ≠ 3 ∧ r = 5)))) → Q r s) : fm_222 a0 Q s := by
  unfold fm_222
  refine ⟨(show lf_R a0 from lf_Rof (by omega)), ?_⟩
  refine ⟨fun c1 => ?_, fun c1 => ?_⟩
  · skip
    replace c1 : a0 < 40 := c1
    refine ⟨fun c2 => ?_, fun c2 => ?_⟩
    · skip
      replace c2 : a0 ≠ 22 := c2
      refine ⟨fun c3 => ?_, fun c3 => ?_⟩
      · skip
        replace c3 : a0 ≠ 21 := c3
        refine ⟨fun c4 => ?_, fun c4 => ?_⟩
        · skip
          replace c4 : a0 ≠ 20 := c4
          refine ⟨fun c5 => ?_, fun c5 => ?_⟩
          · skip
            replace c5 : a0 < 10 := c5
            refine ⟨fun c6 => ?_, fun c6 => ?_⟩
            · skip
              replace c6 : a0 ≠ 3 := c6
              refine ⟨fun c7 => ?_, fun c7 => ?_⟩
              · skip
                replace c7 : a0 < 6 := c7
                exact hQ 5 ⟨(show (0 : Int) ≤ 5 ∧ 5 ≤ (7 : Int) from by omega), (show 5 = pz_rk a0 ∧ ((40 ≤ a0 ∧ 5 = 0) ∨ (a0 = 22 ∧ 5 = 1) ∨ (a0 = 21 ∧ 5 = 2) ∨ (a0 = 20 ∧ 5 = 3) ∨ (10 ≤ a0 ∧ a0 < 40 ∧ a0 ≠ 20 ∧ a0 ≠ 21 ∧ a0 ≠ 22 ∧ 5 = 4) ∨ (a0 = 3 ∧ 5 = 7) ∨ (6 ≤ a0 ∧ a0 < 10 ∧ 5 = 6) ∨ (a0 < 6 ∧ a0 ≠ 3 ∧ 5 = 5)) from ⟨by unfold pz_rk; (repeat' split) <;> first | rfl | (exfalso; omega), by omega⟩)⟩
              · skip
                replace c7 : ¬ (a0 < 6) := c7
                exact hQ 6 ⟨(show (0 : Int) ≤ 6 ∧ 6 ≤ (7 : Int) from by omega), (show 6 = pz_rk a0 ∧ ((40 ≤ a0 ∧ 6 = 0) ∨ (a0 = 22 ∧ 6 = 1) ∨ (a0 = 21 ∧ 6 = 2) ∨ (a0 = 20 ∧ 6 = 3) ∨ (10 ≤ a0 ∧ a0 < 40 ∧ a0 ≠ 20 ∧ a0 ≠ 21 ∧ a0 ≠ 22 ∧ 6 = 4) ∨ (a0 = 3 ∧ 6 = 7) ∨ (6 ≤ a0 ∧ a0 < 10 ∧ 6 = 6) ∨ (a0 < 6 ∧ a0 ≠ 3 ∧ 6 = 5)) from ⟨by unfold pz_rk; (repeat' split) <;> first | rfl | (exfalso; omega), by omega⟩)⟩
            · skip
              replace c6 : ¬ (a0 ≠ 3) := c6
              exact hQ 7 ⟨(show (0 : Int) ≤ 7 ∧ 7 ≤ (7 : Int) from by omega), (show 7 = pz_rk a0 ∧ ((40 ≤ a0 ∧ 7 = 0) ∨ (a0 = 22 ∧ 7 = 1) ∨ (a0 = 21 ∧ 7 = 2) ∨ (a0 = 20 ∧ 7 = 3) ∨ (10 ≤ a0 ∧ a0 < 40 ∧ a0 ≠ 20 ∧ a0 ≠ 21 ∧ a0 ≠ 22 ∧ 7 = 4) ∨ (a0 = 3 ∧ 7 = 7) ∨ (6 ≤ a0 ∧ a0 < 10 ∧ 7 = 6) ∨ (a0 < 6 ∧ a0 ≠ 3 ∧ 7 = 5)) from ⟨by unfold pz_rk; (repeat' split) <;> first | rfl | (exfalso; omega), by omega⟩)⟩
          · skip
            replace c5 : ¬ (a0 < 10) := c5
            exact hQ 4 ⟨(show (0 : Int) ≤ 4 ∧ 4 ≤ (7 : Int) from by omega), (show 4 = pz_rk a0 ∧ ((40 ≤ a0 ∧ 4 = 0) ∨ (a0 = 22 ∧ 4 = 1) ∨ (a0 = 21 ∧ 4 = 2) ∨ (a0 = 20 ∧ 4 = 3) ∨ (10 ≤ a0 ∧ a0 < 40 ∧ a0 ≠ 20 ∧ a0 ≠ 21 ∧ a0 ≠ 22 ∧ 4 = 4) ∨ (a0 = 3 ∧ 4 = 7) ∨ (6 ≤ a0 ∧ a0 < 10 ∧ 4 = 6) ∨ (a0 < 6 ∧ a0 ≠ 3 ∧ 4 = 5)) from ⟨by unfold pz_rk; (repeat' split) <;> first | rfl | (exfalso; omega), by omega⟩)⟩
        · skip
          replace c4 : ¬ (a0 ≠ 20) := c4
          exact hQ 3 ⟨(show (0 : Int) ≤ 3 ∧ 3 ≤ (7 : Int) from by omega), (show 3 = pz_rk a0 ∧ ((40 ≤ a0 ∧ 3 = 0) ∨ (a0 = 22 ∧ 3 = 1) ∨ (a0 = 21 ∧ 3 = 2) ∨ (a0 = 20 ∧ 3 = 3) ∨ (10 ≤ a0 ∧ a0 < 40 ∧ a0 ≠ 20 ∧ a0 ≠ 21 ∧ a0 ≠ 22 ∧ 3 = 4) ∨ (a0 = 3 ∧ 3 = 7) ∨ (6 ≤ a0 ∧ a0 < 10 ∧ 3 = 6) ∨ (a0 < 6 ∧ a0 ≠ 3 ∧ 3 = 5)) from ⟨by unfold pz_rk; (repeat' split) <;> first | rfl | (exfalso; omega), by omega⟩)⟩
      · skip
        replace c3 : ¬ (a0 ≠ 21) := c3
        exact hQ 2 ⟨(show (0 : Int) ≤ 2 ∧ 2 ≤ (7 : Int) from by omega), (show 2 = pz_rk a0 ∧ ((40 ≤ a0 ∧ 2 = 0) ∨ (a0 = 22 ∧ 2 = 1) ∨ (a0 = 21 ∧ 2 = 2) ∨ (a0 = 20 ∧ 2 = 3) ∨ (10 ≤ a0 ∧ a0 < 40 ∧ a0 ≠ 20 ∧ a0 ≠ 21 ∧ a0 ≠ 22 ∧ 2 = 4) ∨ (a0 = 3 ∧ 2 = 7) ∨ (6 ≤ a0 ∧ a0 < 10 ∧ 2 = 6) ∨ (a0 < 6 ∧ a0 ≠ 3 ∧ 2 = 5)) from ⟨by unfold pz_rk; (repeat' split) <;> first | rfl | (exfalso; omega), by omega⟩)⟩
    · skip
      replace c2 : ¬ (a0 ≠ 22) := c2
      exact hQ 1 ⟨(show (0 : Int) ≤ 1 ∧ 1 ≤ (7 : Int) from by omega), (show 1 = pz_rk a0 ∧ ((40 ≤ a0 ∧ 1 = 0) ∨ (a0 = 22 ∧ 1 = 1) ∨ (a0 = 21 ∧ 1 = 2) ∨ (a0 = 20 ∧ 1 = 3) ∨ (10 ≤ a0 ∧ a0 < 40 ∧ a0 ≠ 20 ∧ a0 ≠ 21 ∧ a0 ≠ 22 ∧ 1 = 4) ∨ (a0 = 3 ∧ 1 = 7) ∨ (6 ≤ a0 ∧ a0 < 10 ∧ 1 = 6) ∨ (a0 < 6 ∧ a0 ≠ 3 ∧ 1 = 5)) from ⟨by unfold pz_rk; (repeat' split) <;> first | rfl | (exfalso; omega), by omega⟩)⟩
  · skip
    replace c1 : ¬ (a0 < 40) := c1
    exact hQ 0 ⟨(show (0 : Int) ≤ 0 ∧ 0 ≤ (7 : Int) from by omega), (show 0 = pz_rk a0 ∧ ((40 ≤ a0 ∧ 0 = 0) ∨ (a0 = 22 ∧ 0 = 1) ∨ (a0 = 21 ∧ 0 = 2) ∨ (a0 = 20 ∧ 0 = 3) ∨ (10 ≤ a0 ∧ a0 < 40 ∧ a0 ≠ 20 ∧ a0 ≠ 21 ∧ a0 ≠ 22 ∧ 0 = 4) ∨ (a0 = 3 ∧ 0 = 7) ∨ (6 ≤ a0 ∧ a0 < 10 ∧ 0 = 6) ∨ (a0 < 6 ∧ a0 ≠ 3 ∧ 0 = 5)) from ⟨by unfold pz_rk; (repeat' split) <;> first | rfl | (exfalso; omega), by omega⟩)⟩
-- fm_224 Model.settle 95 i
theorem sm_224_p76 {X0 : lf_Z → Prop} {Q : lf_Z → Prop} {x1 : Int} {s : lf_Z} {s0 : lf_Z} (hQ : ∀  (s' : lf_Z), iv_A s'.1 s'.2.2 → lf_fq [95, 98] 1000000 true s.1 s.2.2 s'.1 s'.2.2 → (pz_R (s'.1 100) (s'.1 98) (s'.1 95 12) (s'.1 95 13) (s'.1 95 19) (s'.1 95 20) (s'.1 95 21) (s'.1 95 22) (s'.1 95 8) (s0.1 98 (s0.1 95 12)) (x1) (pz_op (s0.1 100) (s0.1 95 19))) → (s'.1 95 13 + s'.1 95 19 = s0.1 95 13 + s0.1 95 19 ∧ s'.1 95 19 ≤ s0.1 95 19 ∧ s'.1 95 7 = s0.1 95 7 ∧ s'.1 95 8 = s0.1 95 8 ∧ s'.1 95 9 = s0.1 95 9 ∧ s'.1 95 12 = s0.1 95 12 ∧ s'.1 95 21 = s0.1 95 21 ∧ s'.1 95 22 = s0.1 95 22 ∧ s'.1 95 23 = s0.1 95 23) → (pz_op (s'.1 100) (s'.1 95 19) = pz_op (s0.1 100) (s0.1 95 19)) → (s'.1 95 19 ≤ 0 ∨ pz_rk (s'.1 100 (s'.1 95 19 - 1)) < x1) → Q  s') {M0 : Nat} (hX0 : ∀ (s' : lf_Z), iv_A s'.1 s'.2.2 → lf_fq [95, 98] 1000000 true s.1 s.2.2 s'.1 s'.2.2 → (1 ≤ x1) → (pz_W (s'.1 100) (s'.1 98) (s'.1 95 12) (s'.1 95 13) (s'.1 95 19) (s'.1 95 20) (s'.1 95 21) (s'.1 95 22) (s'.1 95 8) (s0.1 98 (s0.1 95 12)) (x1)) → (s'.1 95 13 + s'.1 95 19 = s0.1 95 13 + s0.1 95 19 ∧ s'.1 95 19 ≤ s0.1 95 19 ∧ s'.1 95 7 = s0.1 95 7 ∧ s'.1 95 8 = s0.1 95 8 ∧ s'.1 95 9 = s0.1 95 9 ∧ s'.1 95 12 = s0.1 95 12 ∧ s'.1 95 21 = s0.1 95 21 ∧ s'.1 95 22 = s0.1 95 22 ∧ s'.1 95 23 = s0.1 95 23) → (pz_op (s'.1 100) (s'.1 95 19) = pz_op (s0.1 100) (s0.1 95 19)) → (s'.1 100 = s0.1 100) → (s'.1 95 19).toNat < M0 → X0 s') (hM0 : (s.1 95 19 + 1).toNat ≤ M0) (hI : iv_A s.1 s.2.2) (bx1 : 0 ≤ x1 ∧ x1 ≤ 7) (kv0 : 1 ≤ x1) (kv1 : pz_W (s.1 100) (s.1 98) (s.1 95 12) (s.1 95 13) (s.1 95 19) (s.1 95 20 - 1) (s.1 95 21) (s.1 95 22) (s.1 95 8) (s0.1 98 (s0.1 95 12)) (x1)) (kv2 : s.1 95 13 + s.1 95 19 = s0.1 95 13 + s0.1 95 19 ∧ s.1 95 19 ≤ s0.1 95 19 ∧ s.1 95 7 = s0.1 95 7 ∧ s.1 95 8 = s0.1 95 8 ∧ s.1 95 9 = s0.1 95 9 ∧ s.1 95 12 = s0.1 95 12 ∧ s.1 95 21 = s0.1 95 21 ∧ s.1 95 22 = s0.1 95 22 ∧ s.1 95 23 = s0.1 95 23) (kv3 : pz_op (s.1 100) (s.1 95 19) = pz_op (s0.1 100) (s0.1 95 19)) (kv4 : s.1 100 = s0.1 100) (kv5 : 1 ≤ s.1 95 20) : fm_224_p76 X0 Q x1 s := by
  unfold fm_224_p76
  have b62 : 0 ≤ s.1 95 20 ∧ s.1 95 20 ≤ 8 := iv_r95_20 hI
  have hI63 : iv_A (lf_up s.1 95 20 ((s.1 95 20) - 1)) s.2.2 := iv_w95_20 hI (by omega)
  have fr64 : lf_fq [95, 98] 1000000 true s.1 s.2.2 (lf_up s.1 95 20 ((s.1 95 20) - 1)) s.2.2 := lf_fq_up (lf_fq_rf) rfl (fun h => absurd h (by decide))
  have b65 : 0 ≤ s.1 95 12 ∧ s.1 95 12 ≤ 2115 := (show 0 ≤ (lf_up s.1 95 20 ((s.1 95 20) - 1)) 95 12 ∧ (lf_up s.1 95 20 ((s.1 95 20) - 1)) 95 12 ≤ 2115 from iv_r95_12 hI63)
  have b66 : (lf_up s.1 95 20 ((s.1 95 20) - 1)) 95 12 = s.1 95 12 := lf_up_i (by omega)
  have b67 : 0 ≤ s.1 95 13 ∧ s.1 95 13 ≤ 304 := (show 0 ≤ (lf_up s.1 95 20 ((s.1 95 20) - 1)) 95 13 ∧ (lf_up s.1 95 20 ((s.1 95 20) - 1)) 95 13 ≤ 304 from iv_r95_13 hI63)
  have b68 : (lf_up s.1 95 20 ((s.1 95 20) - 1)) 95 13 = s.1 95 13 := lf_up_i (by omega)
  have b69 : 0 ≤ s.1 95 19 ∧ s.1 95 19 ≤ 160 := (show 0 ≤ (lf_up s.1 95 20 ((s.1 95 20) - 1)) 95 19 ∧ (lf_up s.1 95 20 ((s.1 95 20) - 1)) 95 19 ≤ 160 from iv_r95_19 hI63)
  have b70 : (lf_up s.1 95 20 ((s.1 95 20) - 1)) 95 19 = s.1 95 19 := lf_up_i (by omega)
  have b71 : 0 ≤ s.1 95 21 ∧ s.1 95 21 ≤ 8 := (show 0 ≤ (lf_up s.1 95 20 ((s.1 95 20) - 1)) 95 21 ∧ (lf_up s.1 95 20 ((s.1 95 20) - 1)) 95 21 ≤ 8 from iv_r95_21 hI63)
  have b72 : (lf_up s.1 95 20 ((s.1 95 20) - 1)) 95 21 = s.1 95 21 := lf_up_i (by omega)
  have b73 : 0 ≤ s.1 95 22 ∧ s.1 95 22 ≤ 80 := (show 0 ≤ (lf_up s.1 95 20 ((s.1 95 20) - 1)) 95 22 ∧ (lf_up s.1 95 20 ((s.1 95 20) - 1)) 95 22 ≤ 80 from iv_r95_22 hI63)
  have b74 : (lf_up s.1 95 20 ((s.1 95 20) - 1)) 95 22 = s.1 95 22 := lf_up_i (by omega)
  have b75 : 0 ≤ s.1 95 8 ∧ s.1 95 8 ≤ 300 := (show 0 ≤ (lf_up s.1 95 20 ((s.1 95 20) - 1)) 95 8 ∧ (lf_up s.1 95 20 ((s.1 95 20) - 1)) 95 8 ≤ 300 from iv_r95_8 hI63)
  have b76 : (lf_up s.1 95 20 ((s.1 95 20) - 1)) 95 8 = s.1 95 8 := lf_up_i (by omega)
  have b77 : 0 ≤ s.1 95 7 ∧ s.1 95 7 ≤ 300 := (show 0 ≤ (lf_up s.1 95 20 ((s.1 95 20) - 1)) 95 7 ∧ (lf_up s.1 95 20 ((s.1 95 20) - 1)) 95 7 ≤ 300 from iv_r95_7 hI63)
  have b78 : (lf_up s.1 95 20 ((s.1 95 20) - 1)) 95 7 = s.1 95 7 := lf_up_i (by omega)
  have b79 : (-2147483648) ≤ s.1 95 9 ∧ s.1 95 9 ≤ 2147483647 := (show (-2147483648) ≤ (lf_up s.1 95 20 ((s.1 95 20) - 1)) 95 9 ∧ (lf_up s.1 95 20 ((s.1 95 20) - 1)) 95 9 ≤ 2147483647 from iv_full hI63)
  have b80 : (lf_up s.1 95 20 ((s.1 95 20) - 1)) 95 9 = s.1 95 9 := lf_up_i (by omega)
  have b81 : 0 ≤ s.1 95 23 ∧ s.1 95 23 ≤ 1 := (show 0 ≤ (lf_up s.1 95 20 ((s.1 95 20) - 1)) 95 23 ∧ (lf_up s.1 95 20 ((s.1 95 20) - 1)) 95 23 ≤ 1 from iv_r95_23 hI63)
  have b82 : (lf_up s.1 95 20 ((s.1 95 20) - 1)) 95 23 = s.1 95 23 := lf_up_i (by omega)
  have b83 : pz_W ((s.1 100)) ((s.1 98)) ((s.1 95 12)) ((s.1 95 13)) ((s.1 95 19)) (((s.1 95 20) - 1)) ((s.1 95 21)) ((s.1 95 22)) ((s.1 95 8)) (s0.1 98 (s0.1 95 12)) (x1) := by first | with_reducible assumption | exact pz_cW rfl rfl (by first | with_reducible assumption | assumption) rfl rfl rfl (by omega) rfl rfl rfl rfl rfl
  have b84 : (s.1 100) = s0.1 100 := by first | with_reducible assumption | rfl
  exact hX0  (lf_up s.1 95 20 ((s.1 95 20) - 1), s.2.1, s.2.2) hI63 fr64 (show 1 ≤ x1 from by omega) (show pz_W ((s.1 100)) ((s.1 98)) ((s.1 95 12)) ((s.1 95 13)) ((s.1 95 19)) (((s.1 95 20) - 1)) ((s.1 95 21)) ((s.1 95 22)) ((s.1 95 8)) (s0.1 98 (s0.1 95 12)) (x1) from by first | with_reducible assumption | assumption) (show (s.1 95 13) + (s.1 95 19) = s0.1 95 13 + s0.1 95 19 ∧ (s.1 95 19) ≤ s0.1 95 19 ∧ (s.1 95 7) = s0.1 95 7 ∧ (s.1 95 8) = s0.1 95 8 ∧ (s.1 95 9) = s0.1 95 9 ∧ (s.1 95 12) = s0.1 95 12 ∧ (s.1 95 21) = s0.1 95 21 ∧ (s.1 95 22) = s0.1 95 22 ∧ (s.1 95 23) = s0.1 95 23 from by omega) (show pz_op ((s.1 100)) ((s.1 95 19)) = pz_op (s0.1 100) (s0.1 95 19) from by omega) (show (s.1 100) = s0.1 100 from by first | with_reducible assumption | assumption) (show ((s.1 95 19)).toNat < M0 from by omega)
set_option maxHeartbeats 8000000 in
theorem sm_224_p0 {X0 : lf_Z → Prop} {Q : lf_Z → Prop} {x1 : Int} {s : lf_Z} {s0 : lf_Z} (hQ : ∀  (s' : lf_Z), iv_A s'.1 s'.2.2 → lf_fq [95, 98] 1000000 true s.1 s.2.2 s'.1 s'.2.2 → (pz_R (s'.1 100) (s'.1 98) (s'.1 95 12) (s'.1 95 13) (s'.1 95 19) (s'.1 95 20) (s'.1 95 21) (s'.1 95 22) (s'.1 95 8) (s0.1 98 (s0.1 95 12)) (x1) (pz_op (s0.1 100) (s0.1 95 19))) → (s'.1 95 13 + s'.1 95 19 = s0.1 95 13 + s0.1 95 19 ∧ s'.1 95 19 ≤ s0.1 95 19 ∧ s'.1 95 7 = s0.1 95 7 ∧ s'.1 95 8 = s0.1 95 8 ∧ s'.1 95 9 = s0.1 95 9 ∧ s'.1 95 12 = s0.1 95 12 ∧ s'.1 95 21 = s0.1 95 21 ∧ s'.1 95 22 = s0.1 95 22 ∧ s'.1 95 23 = s0.1 95 23) → (pz_op (s'.1 100) (s'.1 95 19) = pz_op (s0.1 100) (s0.1 95 19)) → (s'.1 95 19 ≤ 0 ∨ pz_rk (s'.1 100 (s'.1 95 19 - 1)) < x1) → Q  s') {M0 : Nat} (hX0 : ∀ (s' : lf_Z), iv_A s'.1 s'.2.2 → lf_fq [95, 98] 1000000 true s.1 s.2.2 s'.1 s'.2.2 → (1 ≤ x1) → (pz_W (s'.1 100) (s'.1 98) (s'.1 95 12) (s'.1 95 13) (s'.1 95 19) (s'.1 95 20) (s'.1 95 21) (s'.1 95 22) (s'.1 95 8) (s0.1 98 (s0.1 95 12)) (x1)) → (s'.1 95 13 + s'.1 95 19 = s0.1 95 13 + s0.1 95 19 ∧ s'.1 95 19 ≤ s0.1 95 19 ∧ s'.1 95 7 = s0.1 95 7 ∧ s'.1 95 8 = s0.1 95 8 ∧ s'.1 95 9 = s0.1 95 9 ∧ s'.1 95 12 = s0.1 95 12 ∧ s'.1 95 21 = s0.1 95 21 ∧ s'.1 95 22 = s0.1 95 22 ∧ s'.1 95 23 = s0.1 95 23) → (pz_op (s'.1 100) (s'.1 95 19) = pz_op (s0.1 100) (s0.1 95 19)) → (s'.1 100 = s0.1 100) → (s'.1 95 19).toNat < M0 → X0 s') (hM0 : (s.1 95 19).toNat ≤ M0) (hI : iv_A s.1 s.2.2) (bx1 : 0 ≤ x1 ∧ x1 ≤ 7) (kv0 : 1 ≤ x1) (kv1 : pz_W (s.1 100) (s.1 98) (s.1 95 12) (s.1 95 13) (s.1 95 19) (s.1 95 20) (s.1 95 21) (s.1 95 22) (s.1 95 8) (s0.1 98 (s0.1 95 12)) (x1)) (kv2 : s.1 95 13 + s.1 95 19 = s0.1 95 13 + s0.1 95 19 ∧ s.1 95 19 ≤ s0.1 95 19 ∧ s.1 95 7 = s0.1 95 7 ∧ s.1 95 8 = s0.1 95 8 ∧ s.1 95 9 = s0.1 95 9 ∧ s.1 95 12 = s0.1 95 12 ∧ s.1 95 21 = s0.1 95 21 ∧ s.1 95 22 = s0.1 95 22 ∧ s.1 95 23 = s0.1 95 23) (kv3 : pz_op (s.1 100) (s.1 95 19) = pz_op (s0.1 100) (s0.1 95 19)) (kv4 : s.1 100 = s0.1 100) : fm_224_p0 Q x1 X0 s := by
  unfold fm_224_p0
  have b13 : 0 ≤ s.1 95 19 ∧ s.1 95 19 ≤ 160 := iv_r95_19 hI
  have b14 : 0 ≤ s.1 95 20 ∧ s.1 95 20 ≤ 8 := iv_r95_20 hI
  have b15 : 0 ≤ s.1 95 21 ∧ s.1 95 21 ≤ 8 := iv_r95_21 hI
  have b16 : 0 ≤ s.1 95 13 ∧ s.1 95 13 ≤ 304 := iv_r95_13 hI
  have b17 : 0 ≤ s.1 95 8 ∧ s.1 95 8 ≤ 300 := iv_r95_8 hI
  have b18 : 0 ≤ s.1 95 22 ∧ s.1 95 22 ≤ 80 := iv_r95_22 hI
  have b19 : 0 ≤ s.1 95 12 ∧ s.1 95 12 ≤ 2115 := iv_r95_12 hI
  have b20 : 0 ≤ (s.1 95 19) ∧ (s.1 95 19) ≤ 6 * (s.1 95 20) + 5 ∧ 0 ≤ (s.1 95 20) ∧ 0 ≤ (s.1 95 21) ∧ (s.1 95 21) ≤ (s.1 95 20) ∧ 0 ≤ (s.1 95 13) ∧ (s.1 95 13) + (s.1 95 19) ≤ (s.1 95 8) ∧ 4 * (s.1 95 22) + 3 * pz_4 ((s.1 100)) ((s.1 95 19)) ≤ (s.1 95 8) ∧ 0 ≤ pz_4 ((s.1 100)) ((s.1 95 19)) ∧ (s.1 98) ((s.1 95 12)) = s0.1 98 (s0.1 95 12) ∧ 0 ≤ s0.1 98 (s0.1 95 12) ∧ s0.1 98 (s0.1 95 12) < 24 := pz_Wn2 kv1
  refine ⟨(show lf_R (s.1 95 19) from lf_Rof (by omega)), ?_⟩
  refine ⟨fun c21 => ?_, fun c21 => ?_⟩
  · skip
    replace c21 : s.1 95 19 ≤ 0 := c21
    have b22 : pz_R ((s.1 100)) ((s.1 98)) ((s.1 95 12)) ((s.1 95 13)) ((s.1 95 19)) ((s.1 95 20)) ((s.1 95 21)) ((s.1 95 22)) ((s.1 95 8)) (s0.1 98 (s0.1 95 12)) (x1) (pz_op (s0.1 100) (s0.1 95 19)) := pz_Wend kv1 (by omega) (by omega) (by omega)
    exact hQ s hI (lf_fq_rf) (show pz_R ((s.1 100)) ((s.1 98)) ((s.1 95 12)) ((s.1 95 13)) ((s.1 95 19)) ((s.1 95 20)) ((s.1 95 21)) ((s.1 95 22)) ((s.1 95 8)) (s0.1 98 (s0.1 95 12)) (x1) (pz_op (s0.1 100) (s0.1 95 19)) from by first | with_reducible assumption | assumption) (show (s.1 95 13) + (s.1 95 19) = s0.1 95 13 + s0.1 95 19 ∧ (s.1 95 19) ≤ s0.1 95 19 ∧ (s.1 95 7) = s0.1 95 7 ∧ (s.1 95 8) = s0.1 95 8 ∧ (s.1 95 9) = s0.1 95 9 ∧ (s.1 95 12) = s0.1 95 12 ∧ (s.1 95 21) = s0.1 95 21 ∧ (s.1 95 22) = s0.1 95 22 ∧ (s.1 95 23) = s0.1 95 23 from by omega) (show pz_op ((s.1 100)) ((s.1 95 19)) = pz_op (s0.1 100) (s0.1 95 19) from by omega) (show (s.1 95 19) ≤ 0 ∨ pz_rk ((s.1 100) ((s.1 95 19) - 1)) < x1 from by omega)
  · skip
    replace c21 : ¬ (s.1 95 19 ≤ 0) := c21
    refine ⟨(show (0 : Int) ≤ (s.1 95 19) - 1 ∧ (s.1 95 19) - 1 < (160 : Int) from by omega), ?_⟩
    have b23 : 0 ≤ s.1 100 ((s.1 95 19) - 1) ∧ s.1 100 ((s.1 95 19) - 1) ≤ 45 := iv_r100 hI _
    refine sm_222 hI (show (0 : Int) ≤ s.1 100 ((s.1 95 19) - 1) ∧ s.1 100 ((s.1 95 19) - 1) ≤ (45 : Int) from by omega) (fun r24 q24 => ?_)
    obtain ⟨q24, q24x⟩ := q24
    replace q24x : r24 = pz_rk (s.1 100 ((s.1 95 19) - 1)) ∧ ((40 ≤ (s.1 100 ((s.1 95 19) - 1)) ∧ r24 = 0) ∨ ((s.1 100 ((s.1 95 19) - 1)) = 22 ∧ r24 = 1) ∨ ((s.1 100 ((s.1 95 19) - 1)) = 21 ∧ r24 = 2) ∨ ((s.1 100 ((s.1 95 19) - 1)) = 20 ∧ r24 = 3) ∨ (10 ≤ (s.1 100 ((s.1 95 19) - 1)) ∧ (s.1 100 ((s.1 95 19) - 1)) < 40 ∧ (s.1 100 ((s.1 95 19) - 1)) ≠ 20 ∧ (s.1 100 ((s.1 95 19) - 1)) ≠ 21 ∧ (s.1 100 ((s.1 95 19) - 1)) ≠ 22 ∧ r24 = 4) ∨ ((s.1 100 ((s.1 95 19) - 1)) = 3 ∧ r24 = 7) ∨ (6 ≤ (s.1 100 ((s.1 95 19) - 1)) ∧ (s.1 100 ((s.1 95 19) - 1)) < 10 ∧ r24 = 6) ∨ ((s.1 100 ((s.1 95 19) - 1)) < 6 ∧ (s.1 100 ((s.1 95 19) - 1)) ≠ 3 ∧ r24 = 5)) := q24x
    refine ⟨(show lf_R r24 from lf_Rof (by omega)), ?_⟩
    refine ⟨(show lf_R x1 from lf_Rof (by omega)), ?_⟩
    refine ⟨fun c25 => ?_, fun c25 => ?_⟩
    · skip
      replace c25 : r24 < x1 := c25
      have b26 : pz_R ((s.1 100)) ((s.1 98)) ((s.1 95 12)) ((s.1 95 13)) ((s.1 95 19)) ((s.1 95 20)) ((s.1 95 21)) ((s.1 95 22)) ((s.1 95 8)) (s0.1 98 (s0.1 95 12)) (x1) (pz_op (s0.1 100) (s0.1 95 19)) := pz_Wend kv1 (by omega) (by omega) (by omega)
      exact hQ s hI (lf_fq_rf) (show pz_R ((s.1 100)) ((s.1 98)) ((s.1 95 12)) ((s.1 95 13)) ((s.1 95 19)) ((s.1 95 20)) ((s.1 95 21)) ((s.1 95 22)) ((s.1 95 8)) (s0.1 98 (s0.1 95 12)) (x1) (pz_op (s0.1 100) (s0.1 95 19)) from by first | with_reducible assumption | assumption) (show (s.1 95 13) + (s.1 95 19) = s0.1 95 13 + s0.1 95 19 ∧ (s.1 95 19) ≤ s0.1 95 19 ∧ (s.1 95 7) = s0.1 95 7 ∧ (s.1 95 8) = s0.1 95 8 ∧ (s.1 95 9) = s0.1 95 9 ∧ (s.1 95 12) = s0.1 95 12 ∧ (s.1 95 21) = s0.1 95 21 ∧ (s.1 95 22) = s0.1 95 22 ∧ (s.1 95 23) = s0.1 95 23 from by omega) (show pz_op ((s.1 100)) ((s.1 95 19)) = pz_op (s0.1 100) (s0.1 95 19) from by omega) (show (s.1 95 19) ≤ 0 ∨ pz_rk ((s.1 100) ((s.1 95 19) - 1)) < x1 from by omega)
    · skip
      replace c25 : ¬ (r24 < x1) := c25
      have b27 : pz_W ((s.1 100)) (pz_em ((s.1 98)) ((s.1 95 12) + 97 + 2 * (s.1 95 13)) ((s.1 100) ((s.1 95 19) - 1)) 0) ((s.1 95 12)) ((s.1 95 13) + 1) ((s.1 95 19) - 1) ((s.1 95 20) - pz_vo ((s.1 100) ((s.1 95 19) - 1))) ((s.1 95 21)) ((s.1 95 22)) ((s.1 95 8)) (s0.1 98 (s0.1 95 12)) (x1) := (pz_Wpop kv1 (by omega) (by omega) (by omega)).1
      have b28 : pz_op ((s.1 100)) ((s.1 95 19) - 1) = pz_op ((s.1 100)) ((s.1 95 19)) := (pz_Wpop kv1 (by omega) (by omega) (by omega)).2.1
      have b29 : (pz_vo ((s.1 100) ((s.1 95 19) - 1)) = 1 ∧ ((s.1 100) ((s.1 95 19) - 1) = 3 ∨ (s.1 100) ((s.1 95 19) - 1) = 20 ∨ 40 ≤ (s.1 100) ((s.1 95 19) - 1))) ∨ (pz_vo ((s.1 100) ((s.1 95 19) - 1)) = 0 ∧ (s.1 100) ((s.1 95 19) - 1) ≠ 3 ∧ (s.1 100) ((s.1 95 19) - 1) ≠ 20 ∧ (s.1 100) ((s.1 95 19) - 1) < 40) := (pz_vE _).1
      have b30 : (s.1 100) ((s.1 95 19) - 1) < 40 := (pz_Wpop kv1 (by omega) (by omega) (by omega)).2.2
      have b31 : pz_vo ((s.1 100) ((s.1 95 19) - 1)) ≤ (s.1 95 20) := pz_WV kv1 (by omega)
      have b32 : wk_E ((s.1 98)) ((s.1 95 12)) ((s.1 95 13)) := pz_WE kv1
      have hI33 : iv_A (lf_up s.1 95 19 ((s.1 95 19) - 1)) s.2.2 := iv_w95_19 hI (by omega)
      have fr34 : lf_fq [95, 98] 1000000 true s.1 s.2.2 (lf_up s.1 95 19 ((s.1 95 19) - 1)) s.2.2 := lf_fq_up (lf_fq_rf) rfl (fun h => absurd h (by decide))
      refine ⟨(show (0 : Int) ≤ (s.1 95 19) - 1 ∧ (s.1 95 19) - 1 < (160 : Int) from by omega), ?_⟩
      have b37 : (lf_up s.1 95 19 ((s.1 95 19) - 1)) 95 12 = s.1 95 12 := lf_up_i (by omega)
      have b38 : (lf_up s.1 95 19 ((s.1 95 19) - 1)) 95 13 = s.1 95 13 := lf_up_i (by omega)
      refine sm_225 hI33 (show (0 : Int) ≤ s.1 100 ((s.1 95 19) - 1) ∧ s.1 100 ((s.1 95 19) - 1) ≤ (45 : Int) from by omega) (show (-2147483648 : Int) ≤ 0 ∧ 0 ≤ (2147483647 : Int) from by omega) (show wk_E ((s.1 98)) ((s.1 95 12)) ((s.1 95 13)) from by first | with_reducible assumption | assumption) (show (s.1 95 13) ≤ 303 from by omega) (fun s28 hI36 fr35 ps40 ps41 => ?_)
      replace ps40 : s28.1 98 = pz_em ((s.1 98)) ((s.1 95 12) + 97 + 2 * (s.1 95 13)) (s.1 100 ((s.1 95 19) - 1)) 0 := ps40
      replace ps41 : s28.1 95 13 = (s.1 95 13) + 1 ∧ s28.1 95 7 = (s.1 95 7) ∧ s28.1 95 8 = (s.1 95 8) ∧ s28.1 95 9 = (s.1 95 9) ∧ s28.1 95 12 = (s.1 95 12) ∧ s28.1 95 19 = ((s.1 95 19) - 1) ∧ s28.1 95 20 = (s.1 95 20) ∧ s28.1 95 21 = (s.1 95 21) ∧ s28.1 95 22 = (s.1 95 22) ∧ s28.1 95 23 = (s.1 95 23) := ps41
      have fr42 : lf_fq [95, 98] 1000000 true s.1 s.2.2 s28.1 s28.2.2 := lf_fq_tr fr34 (lf_fq_wk fr35 rfl (by decide) (by decide))
      have b43 : (s28.1 100) = s.1 100 := fr35.1 100 rfl
      have b44 : 0 ≤ s28.1 95 19 ∧ s28.1 95 19 ≤ 160 := iv_r95_19 hI36
      have b45 : pz_op ((s28.1 100)) ((s28.1 95 19)) = pz_op (s.1 100) (s.1 95 19 - 1) := lf_c2 pz_op (fr35.1 100 rfl) (by omega)
      have b46 : 0 ≤ s28.1 95 12 ∧ s28.1 95 12 ≤ 2115 := iv_r95_12 hI36
      have b47 : 0 ≤ s28.1 95 13 ∧ s28.1 95 13 ≤ 304 := iv_r95_13 hI36
      have b48 : 0 ≤ s28.1 95 21 ∧ s28.1 95 21 ≤ 8 := iv_r95_21 hI36
      have b49 : 0 ≤ s28.1 95 22 ∧ s28.1 95 22 ≤ 80 := iv_r95_22 hI36
      have b50 : 0 ≤ s28.1 95 8 ∧ s28.1 95 8 ≤ 300 := iv_r95_8 hI36
      have b51 : pz_W ((s28.1 100)) ((s28.1 98)) ((s28.1 95 12)) ((s28.1 95 13)) ((s28.1 95 19)) (s.1 95 20 - pz_vo (s.1 100 (s.1 95 19 - 1))) ((s28.1 95 21)) ((s28.1 95 22)) ((s28.1 95 8)) (s0.1 98 (s0.1 95 12)) (x1) := pz_cW (show (s28.1 100) = s.1 100 from fr35.1 100 rfl) ps40 (by first | with_reducible assumption | assumption) (by omega) (by omega) (by omega) rfl (by omega) (by omega) (by omega) rfl rfl
      have b52 : (s28.1 100) = s0.1 100 := (fr35.1 100 rfl).trans kv4
      have b53 : (s28.1 100) ((s28.1 95 19)) = s.1 100 (s.1 95 19 - 1) := lf_c2 id (fr35.1 100 rfl) (by omega)
      refine ⟨(show (0 : Int) ≤ s28.1 95 19 ∧ s28.1 95 19 < (160 : Int) from by omega), ?_⟩
      have b54 : 0 ≤ s28.1 100 (s28.1 95 19) ∧ s28.1 100 (s28.1 95 19) ≤ 45 := iv_r100 hI36 _
      have b55 : s28.1 100 (s28.1 95 19) = s.1 100 (s28.1 95 19) := congrFun (fr35.1 100 rfl) _
      refine ⟨(show lf_R (s28.1 100 (s28.1 95 19)) from lf_Rof (by omega)), ?_⟩
      refine ⟨fun c56 => ?_, fun c56 => ?_⟩
      · skip
        replace c56 : s28.1 100 (s28.1 95 19) = 3 := c56
        have b57 : 0 ≤ s28.1 95 20 ∧ s28.1 95 20 ≤ 8 := iv_r95_20 hI36
        have b58 : 0 ≤ s28.1 95 7 ∧ s28.1 95 7 ≤ 300 := iv_r95_7 hI36
        have b59 : (-2147483648) ≤ s28.1 95 9 ∧ s28.1 95 9 ≤ 2147483647 := iv_full hI36
        have b60 : 0 ≤ s28.1 95 23 ∧ s28.1 95 23 ≤ 1 := iv_r95_23 hI36
        have b61 : pz_W ((s28.1 100)) ((s28.1 98)) ((s28.1 95 12)) ((s28.1 95 13)) ((s28.1 95 19)) ((s28.1 95 20) - 1) ((s28.1 95 21)) ((s28.1 95 22)) ((s28.1 95 8)) (s0.1 98 (s0.1 95 12)) (x1) := by first | with_reducible assumption | exact pz_cW rfl rfl (by first | with_reducible assumption | assumption) rfl rfl rfl (by omega) rfl rfl rfl rfl rfl
        exact sm_224_p76 (s0 := s0) (fun t9 i9 f9 => hQ t9 i9 (lf_fq_tr fr42 f9)) (fun  t9 i9 f9 => hX0  t9 i9 (lf_fq_tr fr42 f9)) (show ((s28.1 95 19) + 1).toNat ≤ M0 from by omega) hI36 (show (0 : Int) ≤ x1 ∧ x1 ≤ (7 : Int) from by omega) (show 1 ≤ x1 from by omega) (show pz_W ((s28.1 100)) ((s28.1 98)) ((s28.1 95 12)) ((s28.1 95 13)) ((s28.1 95 19)) ((s28.1 95 20) - 1) ((s28.1 95 21)) ((s28.1 95 22)) ((s28.1 95 8)) (s0.1 98 (s0.1 95 12)) (x1) from by first | with_reducible assumption | assumption) (show (s28.1 95 13) + (s28.1 95 19) = s0.1 95 13 + s0.1 95 19 ∧ (s28.1 95 19) ≤ s0.1 95 19 ∧ (s28.1 95 7) = s0.1 95 7 ∧ (s28.1 95 8) = s0.1 95 8 ∧ (s28.1 95 9) = s0.1 95 9 ∧ (s28.1 95 12) = s0.1 95 12 ∧ (s28.1 95 21) = s0.1 95 21 ∧ (s28.1 95 22) = s0.1 95 22 ∧ (s28.1 95 23) = s0.1 95 23 from by omega) (show pz_op ((s28.1 100)) ((s28.1 95 19)) = pz_op (s0.1 100) (s0.1 95 19) from by omega) (show (s28.1 100) = s0.1 100 from by first | with_reducible assumption | assumption) (show 1 ≤ (s28.1 95 20) from by omega)
      · skip
        replace c56 : ¬ (s28.1 100 (s28.1 95 19) = 3) := c56
        refine ⟨fun c85 => ?_, fun c85 => ?_⟩
        · skip
          replace c85 : s28.1 100 (s28.1 95 19) ≠ 20 := c85
          have b86 : 0 ≤ s28.1 95 20 ∧ s28.1 95 20 ≤ 8 := iv_r95_20 hI36
          have b87 : 0 ≤ s28.1 95 7 ∧ s28.1 95 7 ≤ 300 := iv_r95_7 hI36
          have b88 : (-2147483648) ≤ s28.1 95 9 ∧ s28.1 95 9 ≤ 2147483647 := iv_full hI36
          have b89 : 0 ≤ s28.1 95 23 ∧ s28.1 95 23 ≤ 1 := iv_r95_23 hI36
          have b90 : pz_W ((s28.1 100)) ((s28.1 98)) ((s28.1 95 12)) ((s28.1 95 13)) ((s28.1 95 19)) ((s28.1 95 20)) ((s28.1 95 21)) ((s28.1 95 22)) ((s28.1 95 8)) (s0.1 98 (s0.1 95 12)) (x1) := by first | with_reducible assumption | exact pz_cW rfl rfl (by first | with_reducible assumption | assumption) rfl rfl rfl (by omega) rfl rfl rfl rfl rfl
          exact hX0  s28 hI36 fr42 (show 1 ≤ x1 from by omega) (show pz_W ((s28.1 100)) ((s28.1 98)) ((s28.1 95 12)) ((s28.1 95 13)) ((s28.1 95 19)) ((s28.1 95 20)) ((s28.1 95 21)) ((s28.1 95 22)) ((s28.1 95 8)) (s0.1 98 (s0.1 95 12)) (x1) from by first | with_reducible assumption | assumption) (show (s28.1 95 13) + (s28.1 95 19) = s0.1 95 13 + s0.1 95 19 ∧ (s28.1 95 19) ≤ s0.1 95 19 ∧ (s28.1 95 7) = s0.1 95 7 ∧ (s28.1 95 8) = s0.1 95 8 ∧ (s28.1 95 9) = s0.1 95 9 ∧ (s28.1 95 12) = s0.1 95 12 ∧ (s28.1 95 21) = s0.1 95 21 ∧ (s28.1 95 22) = s0.1 95 22 ∧ (s28.1 95 23) = s0.1 95 23 from by omega) (show pz_op ((s28.1 100)) ((s28.1 95 19)) = pz_op (s0.1 100) (s0.1 95 19) from by omega) (show (s28.1 100) = s0.1 100 from by first | with_reducible assumption | assumption) (show ((s28.1 95 19)).toNat < M0 from by omega)
        · skip
          replace c85 : ¬ (s28.1 100 (s28.1 95 19) ≠ 20) := c85
          have b91 : 0 ≤ s28.1 95 20 ∧ s28.1 95 20 ≤ 8 := iv_r95_20 hI36
          have b92 : 0 ≤ s28.1 95 7 ∧ s28.1 95 7 ≤ 300 := iv_r95_7 hI36
          have b93 : (-2147483648) ≤ s28.1 95 9 ∧ s28.1 95 9 ≤ 2147483647 := iv_full hI36
          have b94 : 0 ≤ s28.1 95 23 ∧ s28.1 95 23 ≤ 1 := iv_r95_23 hI36
          have b95 : pz_W ((s28.1 100)) ((s28.1 98)) ((s28.1 95 12)) ((s28.1 95 13)) ((s28.1 95 19)) ((s28.1 95 20) - 1) ((s28.1 95 21)) ((s28.1 95 22)) ((s28.1 95 8)) (s0.1 98 (s0.1 95 12)) (x1) := by first | with_reducible assumption | exact pz_cW rfl rfl (by first | with_reducible assumption | assumption) rfl rfl rfl (by omega) rfl rfl rfl rfl rfl
          exact sm_224_p76 (s0 := s0) (fun t9 i9 f9 => hQ t9 i9 (lf_fq_tr fr42 f9)) (fun  t9 i9 f9 => hX0  t9 i9 (lf_fq_tr fr42 f9)) (show ((s28.1 95 19) + 1).toNat ≤ M0 from by omega) hI36 (show (0 : Int) ≤ x1 ∧ x1 ≤ (7 : Int) from by omega) (show 1 ≤ x1 from by omega) (show pz_W ((s28.1 100)) ((s28.1 98)) ((s28.1 95 12)) ((s28.1 95 13)) ((s28.1 95 19)) ((s28.1 95 20) - 1) ((s28.1 95 21)) ((s28.1 95 22)) ((s28.1 95 8)) (s0.1 98 (s0.1 95 12)) (x1) from by first | with_reducible assumption | assumption) (show (s28.1 95 13) + (s28.1 95 19) = s0.1 95 13 + s0.1 95 19 ∧ (s28.1 95 19) ≤ s0.1 95 19 ∧ (s28.1 95 7) = s0.1 95 7 ∧ (s28.1 95 8) = s0.1 95 8 ∧ (s28.1 95 9) = s0.1 95 9 ∧ (s28.1 95 12) = s0.1 95 12 ∧ (s28.1 95 21) = s0.1 95 21 ∧ (s28.1 95 22) = s0.1 95 22 ∧ (s28.1 95 23) = s0.1 95 23 from by omega) (show pz_op ((s28.1 100)) ((s28.1 95 19)) = pz_op (s0.1 100) (s0.1 95 19) from by omega) (show (s28.1 100) = s0.1 100 from by first | with_reducible assumption | assumption) (show 1 ≤ (s28.1 95 20) from by omega)
theorem sm_224_p0L {Q : lf_Z → Prop} {x1 : Int} {s : lf_Z} {s0 : lf_Z} (hQ : ∀  (s' : lf_Z), iv_A s'.1 s'.2.2 → lf_fq [95, 98] 1000000 true s.1 s.2.2 s'.1 s'.2.2 → (pz_R (s'.1 100) (s'.1 98) (s'.1 95 12) (s'.1 95 13) (s'.1 95 19) (s'.1 95 20) (s'.1 95 21) (s'.1 95 22) (s'.1 95 8) (s0.1 98 (s0.1 95 12)) (x1) (pz_op (s0.1 100) (s0.1 95 19))) → (s'.1 95 13 + s'.1 95 19 = s0.1 95 13 + s0.1 95 19 ∧ s'.1 95 19 ≤ s0.1 95 19 ∧ s'.1 95 7 = s0.1 95 7 ∧ s'.1 95 8 = s0.1 95 8 ∧ s'.1 95 9 = s0.1 95 9 ∧ s'.1 95 12 = s0.1 95 12 ∧ s'.1 95 21 = s0.1 95 21 ∧ s'.1 95 22 = s0.1 95 22 ∧ s'.1 95 23 = s0.1 95 23) → (pz_op (s'.1 100) (s'.1 95 19) = pz_op (s0.1 100) (s0.1 95 19)) → (s'.1 95 19 ≤ 0 ∨ pz_rk (s'.1 100 (s'.1 95 19 - 1)) < x1) → Q  s') (hI : iv_A s.1 s.2.2) (bx1 : 0 ≤ x1 ∧ x1 ≤ 7) (kv0 : 1 ≤ x1) (kv1 : pz_W (s.1 100) (s.1 98) (s.1 95 12) (s.1 95 13) (s.1 95 19) (s.1 95 20) (s.1 95 21) (s.1 95 22) (s.1 95 8) (s0.1 98 (s0.1 95 12)) (x1)) (kv2 : s.1 95 13 + s.1 95 19 = s0.1 95 13 + s0.1 95 19 ∧ s.1 95 19 ≤ s0.1 95 19 ∧ s.1 95 7 = s0.1 95 7 ∧ s.1 95 8 = s0.1 95 8 ∧ s.1 95 9 = s0.1 95 9 ∧ s.1 95 12 = s0.1 95 12 ∧ s.1 95 21 = s0.1 95 21 ∧ s.1 95 22 = s0.1 95 22 ∧ s.1 95 23 = s0.1 95 23) (kv3 : pz_op (s.1 100) (s.1 95 19) = pz_op (s0.1 100) (s0.1 95 19)) (kv4 : s.1 100 = s0.1 100) : fm_224_p0L Q x1 s := by
  intro X0 hX
  have key : ∀ (m9 : Nat) (s' : lf_Z), iv_A s'.1 s'.2.2 → lf_fq [95, 98] 1000000 true s.1 s.2.2 s'.1 s'.2.2 → (1 ≤ x1) → (pz_W (s'.1 100) (s'.1 98) (s'.1 95 12) (s'.1 95 13) (s'.1 95 19) (s'.1 95 20) (s'.1 95 21) (s'.1 95 22) (s'.1 95 8) (s0.1 98 (s0.1 95 12)) (x1)) → (s'.1 95 13 + s'.1 95 19 = s0.1 95 13 + s0.1 95 19 ∧ s'.1 95 19 ≤ s0.1 95 19 ∧ s'.1 95 7 = s0.1 95 7 ∧ s'.1 95 8 = s0.1 95 8 ∧ s'.1 95 9 = s0.1 95 9 ∧ s'.1 95 12 = s0.1 95 12 ∧ s'.1 95 21 = s0.1 95 21 ∧ s'.1 95 22 = s0.1 95 22 ∧ s'.1 95 23 = s0.1 95 23) → (pz_op (s'.1 100) (s'.1 95 19) = pz_op (s0.1 100) (s0.1 95 19)) → (s'.1 100 = s0.1 100) → (s'.1 95 19).toNat < m9 → X0 s' := by
    intro m9
    induction m9 with
    | zero => intro  s' _ _ kv0 kv1 kv2 kv3 kv4 h9; exact absurd h9 (Nat.not_lt_zero _)
    | succ m9 ih => intro  s' i7 f7 kv0 kv1 kv2 kv3 kv4 h9; exact hX  _ (sm_224_p0 (s0 := s0) (fun t9 i9 f9 => hQ t9 i9 (lf_fq_tr f7 f9))   (fun  t8 i8 f8 kv0' kv1' kv2' kv3' kv4' h8 => ih  t8 i8 (lf_fq_tr f7 f8) kv0' kv1' kv2' kv3' kv4' (by omega)) (Nat.le_refl _)  i7  bx1  kv0 kv1 kv2 kv3 kv4)
  exact key _  s hI lf_fq_rf kv0 kv1 kv2 kv3 kv4 (Nat.lt_succ_self _)
theorem sm_224 {a1 : Int} {Q : lf_Z → Prop} {s : lf_Z} (hI : iv_A s.1 s.2.2) (ba1 : 0 ≤ a1 ∧ a1 ≤ 7) (kp0 : 1 ≤ a1) (kp1 : pz_W (s.1 100) (s.1 98) (s.1 95 12) (s.1 95 13) (s.1 95 19) (s.1 95 20) (s.1 95 21) (s.1 95 22) (s.1 95 8) (s.1 98 (s.1 95 12)) (a1)) (kp2 : s.1 95 8 ≤ 300) (hQ : ∀  (s' : lf_Z), iv_A s'.1 s'.2.2 → lf_fq [95, 98] 1000000 true s.1 s.2.2 s'.1 s'.2.2 → (pz_R (s'.1 100) (s'.1 98) (s'.1 95 12) (s'.1 95 13) (s'.1 95 19) (s'.1 95 20) (s'.1 95 21) (s'.1 95 22) (s'.1 95 8) (s.1 98 (s.1 95 12)) (a1) (pz_op (s.1 100) (s.1 95 19))) → (s'.1 95 13 + s'.1 95 19 = s.1 95 13 + s.1 95 19 ∧ s'.1 95 19 ≤ s.1 95 19 ∧ s'.1 95 7 = s.1 95 7 ∧ s'.1 95 8 = s.1 95 8 ∧ s'.1 95 9 = s.1 95 9 ∧ s'.1 95 12 = s.1 95 12 ∧ s'.1 95 21 = s.1 95 21 ∧ s'.1 95 22 = s.1 95 22 ∧ s'.1 95 23 = s.1 95 23) → (pz_op (s'.1 100) (s'.1 95 19) = pz_op (s.1 100) (s.1 95 19)) → (s'.1 95 19 ≤ 0 ∨ pz_rk (s'.1 100 (s'.1 95 19 - 1)) < a1) → Q  s') : fm_224 a1 Q s := by
  unfold fm_224
  have b1 : 0 ≤ s.1 95 12 ∧ s.1 95 12 ≤ 2115 := iv_r95_12 hI
  have b2 : 0 ≤ s.1 95 13 ∧ s.1 95 13 ≤ 304 := iv_r95_13 hI
  have b3 : 0 ≤ s.1 95 19 ∧ s.1 95 19 ≤ 160 := iv_r95_19 hI
  have b4 : 0 ≤ s.1 95 20 ∧ s.1 95 20 ≤ 8 := iv_r95_20 hI
  have b5 : 0 ≤ s.1 95 21 ∧ s.1 95 21 ≤ 8 := iv_r95_21 hI
  have b6 : 0 ≤ s.1 95 22 ∧ s.1 95 22 ≤ 80 := iv_r95_22 hI
  have b7 : 0 ≤ s.1 95 8 ∧ s.1 95 8 ≤ 300 := iv_r95_8 hI
  have b8 : 0 ≤ s.1 95 7 ∧ s.1 95 7 ≤ 300 := iv_r95_7 hI
  have b9 : (-2147483648) ≤ s.1 95 9 ∧ s.1 95 9 ≤ 2147483647 := iv_full hI
  have b10 : 0 ≤ s.1 95 23 ∧ s.1 95 23 ≤ 1 := iv_r95_23 hI
  have b11 : pz_W ((s.1 100)) ((s.1 98)) ((s.1 95 12)) ((s.1 95 13)) ((s.1 95 19)) ((s.1 95 20)) ((s.1 95 21)) ((s.1 95 22)) ((s.1 95 8)) (s.1 98 (s.1 95 12)) (a1) := by first | with_reducible assumption | exact pz_cW rfl rfl (by first | with_reducible assumption | assumption) rfl rfl rfl (by omega) rfl rfl rfl rfl rfl
  have b12 : (s.1 100) = s.1 100 := by first | with_reducible assumption | rfl
  exact sm_224_p0L (s0 := s) hQ hI (show (0 : Int) ≤ a1 ∧ a1 ≤ (7 : Int) from by omega) (show 1 ≤ a1 from by omega) (show pz_W ((s.1 100)) ((s.1 98)) ((s.1 95 12)) ((s.1 95 13)) ((s.1 95 19)) ((s.1 95 20)) ((s.1 95 21)) ((s.1 95 22)) ((s.1 95 8)) (s.1 98 (s.1 95 12)) (a1) from by first | with_reducible assumption | assumption) (show (s.1 95 13) + (s.1 95 19) = s.1 95 13 + s.1 95 19 ∧ (s.1 95 19) ≤ s.1 95 19 ∧ (s.1 95 7) = s.1 95 7 ∧ (s.1 95 8) = s.1 95 8 ∧ (s.1 95 9) = s.1 95 9 ∧ (s.1 95 12) = s.1 95 12 ∧ (s.1 95 21) = s.1 95 21 ∧ (s.1 95 22) = s.1 95 22 ∧ (s.1 95 23) = s.1 95 23 from by omega) (show pz_op ((s.1 100)) ((s.1 95 19)) = pz_op (s.1 100) (s.1 95 19) from by omega) (show (s.1 100) = s.1 100 from by first | with_reducible assumption | assumption)
-- fm_233 Model.one 95 i i
theorem sm_233 {a1 : Int} {a2 : Int} {Q : lf_Z → Prop} {s : lf_Z} (hI : iv_A s.1 s.2.2) (ba1 : 0 ≤ a1 ∧ a1 ≤ 31) (ba2 : (-2147483648) ≤ a2 ∧ a2 ≤ 2147483647) (kp0 : pz_Y (s.1 100) (s.1 98) (s.1 95 12) (s.1 95 13) (s.1 95 19) (s.1 95 20) (s.1 95 21) (s.1 95 22) (s.1 95 8) (s.1 98 (s.1 95 12)) (0) (0)) (kp1 : s.1 95 9 ≠ 0 ∧ s.1 95 8 < s.1 95 7) (kp2 : a1 = 0 ∨ (a1 = 1 ∧ 0 ≤ a2 ∧ a2 < 11) ∨ (a1 = 31 ∧ 0 ≤ a2 ∧ a2 < 80)) (hQ : ∀  (s' : lf_Z), iv_A s'.1 s'.2.2 → lf_fq [95, 98] 1000000 true s.1 s.2.2 s'.1 s'.2.2 → (pz_Y (s'.1 100) (s'.1 98) (s'.1 95 12) (s'.1 95 13) (s'.1 95 19) (s'.1 95 20) (s'.1 95 21) (s'.1 95 22) (s'.1 95 8) (s.1 98 (s.1 95 12)) (1) (0)) → (s.1 95 8 < s'.1 95 8 ∧ (s'.1 95 9 = 0 ∨ s'.1 95 8 < s'.1 95 7) ∧ s'.1 95 23 = 1) → (s'.1 95 12 = s.1 95 12) → Q  s') : fm_233 a1 a2 Q s := by
  unfold fm_233
  have b1 : 0 ≤ s.1 95 19 ∧ s.1 95 19 ≤ 160 := iv_r95_19 hI
  have b2 : 0 ≤ s.1 95 20 ∧ s.1 95 20 ≤ 8 := iv_r95_20 hI
  have b3 : 0 ≤ s.1 95 21 ∧ s.1 95 21 ≤ 8 := iv_r95_21 hI
  have b4 : 0 ≤ s.1 95 13 ∧ s.1 95 13 ≤ 304 := iv_r95_13 hI
  have b5 : 0 ≤ s.1 95 8 ∧ s.1 95 8 ≤ 300 := iv_r95_8 hI
  have b6 : 0 ≤ s.1 95 22 ∧ s.1 95 22 ≤ 80 := iv_r95_22 hI
  have b7 : 0 ≤ s.1 95 12 ∧ s.1 95 12 ≤ 2115 := iv_r95_12 hI
  have b8 : 0 ≤ (s.1 95 19) ∧ (s.1 95 19) ≤ 6 * (s.1 95 20) + 5 ∧ 0 ≤ (s.1 95 20) ∧ 0 ≤ (s.1 95 21) ∧ (s.1 95 21) ≤ (s.1 95 20) ∧ 0 ≤ (s.1 95 13) ∧ (s.1 95 13) + (s.1 95 19) ≤ (s.1 95 8) ∧ 4 * (s.1 95 22) + 3 * pz_4 ((s.1 100)) ((s.1 95 19)) ≤ (s.1 95 8) ∧ 0 ≤ pz_4 ((s.1 100)) ((s.1 95 19)) ∧ (s.1 98) ((s.1 95 12)) = (s.1 98) ((s.1 95 12)) ∧ 0 ≤ (s.1 98) ((s.1 95 12)) ∧ (s.1 98) ((s.1 95 12)) < 24 := pz_Yn2 kp0
  have b9 : wk_E ((s.1 98)) ((s.1 95 12)) ((s.1 95 13)) := pz_YE kp0
  have b10 : (s.1 95 8) ≤ 300 := (iv_r95_8 hI).2
  refine sm_225 hI (show (0 : Int) ≤ a1 ∧ a1 ≤ (45 : Int) from by omega) (show (-2147483648 : Int) ≤ a2 ∧ a2 ≤ (2147483647 : Int) from by omega) (show wk_E ((s.1 98)) ((s.1 95 12)) ((s.1 95 13)) from by first | with_reducible assumption | assumption) (show (s.1 95 13) ≤ 303 from by omega) (fun s21 hI12 fr11 ps14 ps15 => ?_)
  replace ps14 : s21.1 98 = pz_em ((s.1 98)) ((s.1 95 12) + 97 + 2 * (s.1 95 13)) a1 a2 := ps14
  replace ps15 : s21.1 95 13 = (s.1 95 13) + 1 ∧ s21.1 95 7 = (s.1 95 7) ∧ s21.1 95 8 = (s.1 95 8) ∧ s21.1 95 9 = (s.1 95 9) ∧ s21.1 95 12 = (s.1 95 12) ∧ s21.1 95 19 = (s.1 95 19) ∧ s21.1 95 20 = (s.1 95 20) ∧ s21.1 95 21 = (s.1 95 21) ∧ s21.1 95 22 = (s.1 95 22) ∧ s21.1 95 23 = (s.1 95 23) := ps15
  have fr16 : lf_fq [95, 98] 1000000 true s.1 s.2.2 s21.1 s21.2.2 := lf_fq_tr (lf_fq_rf) (lf_fq_wk fr11 rfl (by decide) (by decide))
  have b17 : 0 ≤ s21.1 95 12 ∧ s21.1 95 12 ≤ 2115 := iv_r95_12 hI12
  have b18 : 0 ≤ s21.1 95 13 ∧ s21.1 95 13 ≤ 304 := iv_r95_13 hI12
  have b19 : 0 ≤ s21.1 95 19 ∧ s21.1 95 19 ≤ 160 := iv_r95_19 hI12
  have b20 : 0 ≤ s21.1 95 20 ∧ s21.1 95 20 ≤ 8 := iv_r95_20 hI12
  have b21 : 0 ≤ s21.1 95 21 ∧ s21.1 95 21 ≤ 8 := iv_r95_21 hI12
  have b22 : 0 ≤ s21.1 95 22 ∧ s21.1 95 22 ≤ 80 := iv_r95_22 hI12
  have b23 : pz_Y ((s21.1 100)) ((s21.1 98)) ((s21.1 95 12)) ((s21.1 95 13)) ((s21.1 95 19)) ((s21.1 95 20)) ((s21.1 95 21)) ((s21.1 95 22)) (s.1 95 8 + 1) (s.1 98 (s.1 95 12)) (1) (0) := pz_cg (fr11.1 100 rfl) ps14 (pz_Yval kp0 (by omega)) (by omega) (by omega) (by omega) (by omega) (by omega) (by omega) (by omega) rfl rfl rfl
  refine sm_197 hI12 (fun s22 hI25 fr24 ps27 ps28 => ?_)
  replace ps27 : (s21.1 95 7) ≤ s22.1 95 8 ∧ (s22.1 95 9 = 0 ∨ s22.1 95 8 < s22.1 95 7) := ps27
  replace ps28 : s22.1 95 12 = (s21.1 95 12) ∧ s22.1 95 13 = (s21.1 95 13) ∧ s22.1 95 19 = (s21.1 95 19) ∧ s22.1 95 20 = (s21.1 95 20) ∧ s22.1 95 21 = (s21.1 95 21) ∧ s22.1 95 22 = (s21.1 95 22) ∧ s22.1 95 23 = (s21.1 95 23) := ps28
  have fr29 : lf_fq [95, 98] 1000000 true s.1 s.2.2 s22.1 s22.2.2 := lf_fq_tr fr16 (lf_fq_wk fr24 rfl (by decide) (by decide))
  have b30 : 0 ≤ s22.1 95 12 ∧ s22.1 95 12 ≤ 2115 := iv_r95_12 hI25
  have b31 : 0 ≤ s22.1 95 13 ∧ s22.1 95 13 ≤ 304 := iv_r95_13 hI25
  have b32 : 0 ≤ s22.1 95 19 ∧ s22.1 95 19 ≤ 160 := iv_r95_19 hI25
  have b33 : 0 ≤ s22.1 95 20 ∧ s22.1 95 20 ≤ 8 := iv_r95_20 hI25
  have b34 : 0 ≤ s22.1 95 21 ∧ s22.1 95 21 ≤ 8 := iv_r95_21 hI25
  have b35 : 0 ≤ s22.1 95 22 ∧ s22.1 95 22 ≤ 80 := iv_r95_22 hI25
  have b36 : 0 ≤ s22.1 95 8 ∧ s22.1 95 8 ≤ 300 := iv_r95_8 hI25
  have b37 : pz_Y ((s22.1 100)) ((s22.1 98)) ((s22.1 95 12)) ((s22.1 95 13)) ((s22.1 95 19)) ((s22.1 95 20)) ((s22.1 95 21)) ((s22.1 95 22)) ((s22.1 95 8)) (s.1 98 (s.1 95 12)) (1) (0) := pz_cg (fr24.1 100 rfl) (fr24.1 98 rfl) (by first | with_reducible assumption | assumption) (by omega) (by omega) (by omega) (by omega) (by omega) (by omega) (by omega) (by omega) rfl rfl
  have hI38 : iv_A (lf_up s22.1 95 23 1) s22.2.2 := iv_w95_23 hI25 (by omega)
  have fr39 : lf_fq [95, 98] 1000000 true s.1 s.2.2 (lf_up s22.1 95 23 1) s22.2.2 := lf_fq_up fr29 rfl (fun h => absurd h (by decide))
  have b40 : (lf_up s22.1 95 23 1) 95 12 = s22.1 95 12 := lf_up_i (by omega)
  have b41 : (s22.1 98) ((s22.1 95 12)) = s.1 98 (s.1 95 12) := (by first | with_reducible assumption | assumption : pz_Y ((s22.1 100)) ((s22.1 98)) ((s22.1 95 12)) ((s22.1 95 13)) ((s22.1 95 19)) ((s22.1 95 20)) ((s22.1 95 21)) ((s22.1 95 22)) ((s22.1 95 8)) (s.1 98 (s.1 95 12)) (1) (0)).2.2.2
  have b42 : (lf_up s22.1 95 23 1) 95 13 = s22.1 95 13 := lf_up_i (by omega)
  have b43 : (lf_up s22.1 95 23 1) 95 19 = s22.1 95 19 := lf_up_i (by omega)
  have b44 : (lf_up s22.1 95 23 1) 95 20 = s22.1 95 20 := lf_up_i (by omega)
  have b45 : (lf_up s22.1 95 23 1) 95 21 = s22.1 95 21 := lf_up_i (by omega)
  have b46 : (lf_up s22.1 95 23 1) 95 22 = s22.1 95 22 := lf_up_i (by omega)
  have b47 : (lf_up s22.1 95 23 1) 95 8 = s22.1 95 8 := lf_up_i (by omega)
  have b48 : pz_W ((s22.1 100)) ((s22.1 98)) ((s22.1 95 12)) ((s22.1 95 13)) ((s22.1 95 19)) ((s22.1 95 20)) ((s22.1 95 21)) ((s22.1 95 22)) ((s22.1 95 8)) ((s22.1 98) ((s22.1 95 12))) (7) := pz_Wi (pz_Ym (by first | with_reducible assumption | assumption)) (by omega)
  have b49 : (s22.1 95 8) ≤ 300 := (iv_r95_8 hI38).2
  refine sm_224 hI38 (show (0 : Int) ≤ 7 ∧ 7 ≤ (7 : Int) from by omega) (show 1 ≤ 7 from by omega) (show pz_W ((s22.1 100)) ((s22.1 98)) ((s22.1 95 12)) ((s22.1 95 13)) ((s22.1 95 19)) ((s22.1 95 20)) ((s22.1 95 21)) ((s22.1 95 22)) ((s22.1 95 8)) ((s22.1 98) ((s22.1 95 12))) (7) from by first | with_reducible assumption | assumption) (show (s22.1 95 8) ≤ 300 from by omega) (fun s23 hI51 fr50 ps53 ps54 ps55 ps56 => ?_)
  replace ps53 : pz_R (s23.1 100) (s23.1 98) (s23.1 95 12) (s23.1 95 13) (s23.1 95 19) (s23.1 95 20) (s23.1 95 21) (s23.1 95 22) (s23.1 95 8) ((s22.1 98) ((s22.1 95 12))) (7) (pz_op ((s22.1 100)) ((s22.1 95 19))) := ps53
  replace ps54 : s23.1 95 13 + s23.1 95 19 = (s22.1 95 13) + (s22.1 95 19) ∧ s23.1 95 19 ≤ (s22.1 95 19) ∧ s23.1 95 7 = (s22.1 95 7) ∧ s23.1 95 8 = (s22.1 95 8) ∧ s23.1 95 9 = (s22.1 95 9) ∧ s23.1 95 12 = (s22.1 95 12) ∧ s23.1 95 21 = (s22.1 95 21) ∧ s23.1 95 22 = (s22.1 95 22) ∧ s23.1 95 23 = 1 := ps54
  replace ps55 : pz_op (s23.1 100) (s23.1 95 19) = pz_op ((s22.1 100)) ((s22.1 95 19)) := ps55
  replace ps56 : s23.1 95 19 ≤ 0 ∨ pz_rk (s23.1 100 (s23.1 95 19 - 1)) < 7 := ps56
  have fr57 : lf_fq [95, 98] 1000000 true s.1 s.2.2 s23.1 s23.2.2 := lf_fq_tr fr39 (lf_fq_wk fr50 rfl (by decide) (by decide))
  have b58 : 0 ≤ s23.1 95 12 ∧ s23.1 95 12 ≤ 2115 := iv_r95_12 hI51
  have b59 : 0 ≤ s23.1 95 13 ∧ s23.1 95 13 ≤ 304 := iv_r95_13 hI51
  have b60 : 0 ≤ s23.1 95 19 ∧ s23.1 95 19 ≤ 160 := iv_r95_19 hI51
  have b61 : 0 ≤ s23.1 95 20 ∧ s23.1 95 20 ≤ 8 := iv_r95_20 hI51
  have b62 : 0 ≤ s23.1 95 21 ∧ s23.1 95 21 ≤ 8 := iv_r95_21 hI51
  have b63 : 0 ≤ s23.1 95 22 ∧ s23.1 95 22 ≤ 80 := iv_r95_22 hI51
  have b64 : 0 ≤ s23.1 95 8 ∧ s23.1 95 8 ≤ 300 := iv_r95_8 hI51
  have b65 : pz_Y ((s23.1 100)) ((s23.1 98)) ((s23.1 95 12)) ((s23.1 95 13)) ((s23.1 95 19)) ((s23.1 95 20)) ((s23.1 95 21)) ((s23.1 95 22)) ((s23.1 95 8)) (s.1 98 (s.1 95 12)) (1) (0) := pz_Yk (pz_R1 ps53 (by omega)) (by omega)
  exact hQ s23 hI51 fr57 (show pz_Y ((s23.1 100)) ((s23.1 98)) ((s23.1 95 12)) ((s23.1 95 13)) ((s23.1 95 19)) ((s23.1 95 20)) ((s23.1 95 21)) ((s23.1 95 22)) ((s23.1 95 8)) (s.1 98 (s.1 95 12)) (1) (0) from by first | with_reducible assumption | assumption) (show s.1 95 8 < (s23.1 95 8) ∧ ((s23.1 95 9) = 0 ∨ (s23.1 95 8) < (s23.1 95 7)) ∧ (s23.1 95 23) = 1 from by omega) (show (s23.1 95 12) = s.1 95 12 from by omega)
-- fm_220 Model.openAt 95
theorem sm_220_p7 {X7 : Int → lf_Z → Prop} {Q : Int → lf_Z → Prop} {x1 : Int} {s : lf_Z} {s0 : lf_Z} (hQ : ∀ (r : Int), (((r < 0 ∧ pz_op (s.1 100) (s.1 95 19) = -1) ∨ (0 ≤ r ∧ r < s.1 95 19 ∧ pz_op (s.1 100) (s.1 95 19) = s.1 100 (r) ∧ 40 ≤ s.1 100 (r))) ∧ (s.1 95 19 ≤ 0 ∨ s.1 100 (s.1 95 19 - 1) < 40 ∨ r = s.1 95 19 - 1)) → ((-1) ≤ r ∧ r ≤ 159) → Q r s) {M7 : Nat} (hX7 : ∀ (x1 : Int), (-1) ≤ x1 ∧ x1 ≤ 159 → (pz_op (s.1 100) (s.1 95 19) = pz_oq (s.1 100) (x1)) → (x1 < s.1 95 19) → (s.1 95 19 ≤ 0 ∨ s.1 100 (s.1 95 19 - 1) < 40 ∨ x1 = s.1 95 19 - 1) → (x1 - (-1)).toNat < M7 → X7 x1 s) (hM7 : (x1 - (-1)).toNat ≤ M7) (hI : iv_A s.1 s.2.2) (bx1 : (-1) ≤ x1 ∧ x1 ≤ 159) (kv0 : pz_op (s.1 100) (s.1 95 19) = pz_oq (s.1 100) (x1)) (kv1 : x1 < s.1 95 19) (kv2 : s.1 95 19 ≤ 0 ∨ s.1 100 (s.1 95 19 - 1) < 40 ∨ x1 = s.1 95 19 - 1) : fm_220_p7 Q X7 x1 s := by
  unfold fm_220_p7
  have b3 : (x1 < 0 → pz_oq ((s.1 100)) x1 = -1) ∧ (0 ≤ x1 → (40 ≤ (s.1 100 x1) → pz_oq ((s.1 100)) x1 = (s.1 100 x1)) ∧ ((s.1 100 x1) < 40 → pz_oq ((s.1 100)) x1 = pz_oq ((s.1 100)) (x1 + -1))) := pz_oqA _ _
  have b4 : 0 ≤ s.1 95 19 ∧ s.1 95 19 ≤ 160 := iv_r95_19 hI
  have b5 : x1 ≠ (s.1 95 19) - 1 ∨ (s.1 100 x1) = (s.1 100) ((s.1 95 19) - 1) := lf_eqx
  refine ⟨(show lf_R x1 from lf_Rof (by omega)), ?_⟩
  refine ⟨fun c6 => ?_, fun c6 => ?_⟩
  · skip
    replace c6 : x1 < 0 := c6
    exact hQ x1 (show ((x1 < 0 ∧ pz_op ((s.1 100)) ((s.1 95 19)) = -1) ∨ (0 ≤ x1 ∧ x1 < (s.1 95 19) ∧ pz_op ((s.1 100)) ((s.1 95 19)) = (s.1 100) (x1) ∧ 40 ≤ (s.1 100) (x1))) ∧ ((s.1 95 19) ≤ 0 ∨ (s.1 100) ((s.1 95 19) - 1) < 40 ∨ x1 = (s.1 95 19) - 1) from by omega) (show (-1 : Int) ≤ x1 ∧ x1 ≤ (159 : Int) from by omega)
  · skip
    replace c6 : ¬ (x1 < 0) := c6
    refine ⟨(show (0 : Int) ≤ x1 ∧ x1 < (160 : Int) from by omega), ?_⟩
    have b7 : 0 ≤ s.1 100 x1 ∧ s.1 100 x1 ≤ 45 := iv_r100 hI _
    refine ⟨(show lf_R (s.1 100 x1) from lf_Rof (by omega)), ?_⟩
    refine ⟨fun c8 => ?_, fun c8 => ?_⟩
    · skip
      replace c8 : 40 ≤ s.1 100 x1 := c8
      exact hQ x1 (show ((x1 < 0 ∧ pz_op ((s.1 100)) ((s.1 95 19)) = -1) ∨ (0 ≤ x1 ∧ x1 < (s.1 95 19) ∧ pz_op ((s.1 100)) ((s.1 95 19)) = (s.1 100) (x1) ∧ 40 ≤ (s.1 100) (x1))) ∧ ((s.1 95 19) ≤ 0 ∨ (s.1 100) ((s.1 95 19) - 1) < 40 ∨ x1 = (s.1 95 19) - 1) from by omega) (show (-1 : Int) ≤ x1 ∧ x1 ≤ (159 : Int) from by omega)
    · skip
      replace c8 : ¬ (40 ≤ s.1 100 x1) := c8
      have b9 : pz_op ((s.1 100)) ((s.1 95 19)) = pz_oq ((s.1 100)) ((s.1 95 19) - 1) := pz_oqE
      exact hX7 (x1 + (-1)) (show (-1 : Int) ≤ x1 + (-1) ∧ x1 + (-1) ≤ (159 : Int) from by omega) (show pz_op ((s.1 100)) ((s.1 95 19)) = pz_oq ((s.1 100)) ((x1 + (-1))) from by omega) (show (x1 + (-1)) < (s.1 95 19) from by omega) (show (s.1 95 19) ≤ 0 ∨ (s.1 100) ((s.1 95 19) - 1) < 40 ∨ (x1 + (-1)) = (s.1 95 19) - 1 from by omega) (show ((x1 + (-1)) - (-1)).toNat < M7 from by omega)
theorem sm_220_p7L {Q : Int → lf_Z → Prop} {x1 : Int} {s : lf_Z} {s0 : lf_Z} (hQ : ∀ (r : Int), (((r < 0 ∧ pz_op (s.1 100) (s.1 95 19) = -1) ∨ (0 ≤ r ∧ r < s.1 95 19 ∧ pz_op (s.1 100) (s.1 95 19) = s.1 100 (r) ∧ 40 ≤ s.1 100 (r))) ∧ (s.1 95 19 ≤ 0 ∨ s.1 100 (s.1 95 19 - 1) < 40 ∨ r = s.1 95 19 - 1)) → ((-1) ≤ r ∧ r ≤ 159) → Q r s) (hI : iv_A s.1 s.2.2) (bx1 : (-1) ≤ x1 ∧ x1 ≤ 159) (kv0 : pz_op (s.1 100) (s.1 95 19) = pz_oq (s.1 100) (x1)) (kv1 : x1 < s.1 95 19) (kv2 : s.1 95 19 ≤ 0 ∨ s.1 100 (s.1 95 19 - 1) < 40 ∨ x1 = s.1 95 19 - 1) : fm_220_p7L Q x1 s := by
  intro X7 hX
  have key : ∀ (m9 : Nat) (x1 : Int), (-1) ≤ x1 ∧ x1 ≤ 159 → (pz_op (s.1 100) (s.1 95 19) = pz_oq (s.1 100) (x1)) → (x1 < s.1 95 19) → (s.1 95 19 ≤ 0 ∨ s.1 100 (s.1 95 19 - 1) < 40 ∨ x1 = s.1 95 19 - 1) → (x1 - (-1)).toNat < m9 → X7 x1 s := by
    intro m9
    induction m9 with
    | zero => intro x1 bx1 kv0 kv1 kv2 h9; exact absurd h9 (Nat.not_lt_zero _)
    | succ m9 ih => intro x1 bx1 kv0 kv1 kv2 h9; exact hX _ _ (sm_220_p7 (s0 := s0) hQ   (fun x1' bx1' kv0' kv1' kv2' h8 => ih x1' bx1' kv0' kv1' kv2' (by omega)) (Nat.le_refl _)  hI  bx1  kv0 kv1 kv2)
  exact key _ _ bx1  kv0 kv1 kv2 (Nat.lt_succ_self _)
theorem sm_220 {Q : Int → lf_Z → Prop} {s : lf_Z} (hI : iv_A s.1 s.2.2) (hQ : ∀ (r : Int), (((r < 0 ∧ pz_op (s.1 100) (s.1 95 19) = -1) ∨ (0 ≤ r ∧ r < s.1 95 19 ∧ pz_op (s.1 100) (s.1 95 19) = s.1 100 (r) ∧ 40 ≤ s.1 100 (r))) ∧ (s.1 95 19 ≤ 0 ∨ s.1 100 (s.1 95 19 - 1) < 40 ∨ r = s.1 95 19 - 1)) → ((-1) ≤ r ∧ r ≤ 159) → Q r s) : fm_220 Q s := by
  unfold fm_220
  have b1 : 0 ≤ s.1 95 19 ∧ s.1 95 19 ≤ 160 := iv_r95_19 hI
  have b2 : pz_op ((s.1 100)) ((s.1 95 19)) = pz_oq ((s.1 100)) ((s.1 95 19) - 1) := pz_oqE
  exact sm_220_p7L (s0 := s) hQ hI (show (-1 : Int) ≤ (s.1 95 19) - 1 ∧ (s.1 95 19) - 1 ≤ (159 : Int) from by omega) (show pz_op ((s.1 100)) ((s.1 95 19)) = pz_oq ((s.1 100)) (((s.1 95 19) - 1)) from by omega) (show ((s.1 95 19) - 1) < (s.1 95 19) from by omega) (show (s.1 95 19) ≤ 0 ∨ (s.1 100) ((s.1 95 19) - 1) < 40 ∨ ((s.1 95 19) - 1) = (s.1 95 19) - 1 from by omega)
