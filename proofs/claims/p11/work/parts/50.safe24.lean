-- fm_327 Model.about 95 i
theorem sm_327 {a1 : Int} {Q : Int → lf_Z → Prop} {s : lf_Z} (hI : iv_A s.1 s.2.2) (ba1 : (-2147483648) ≤ a1 ∧ a1 ≤ 2147483647) (hQ : ∀ (r : Int), ((-2147483648) ≤ r ∧ r ≤ 2147483647) → Q r s) : fm_327 a1 Q s := by
  unfold fm_327
  refine ⟨(show lf_R a1 from lf_Rof (by omega)), ?_⟩
  refine ⟨fun c1 => ?_, fun c1 => ?_⟩
  · skip
    replace c1 : a1 ≠ 4 := c1
    refine ⟨fun c2 => ?_, fun c2 => ?_⟩
    · skip
      replace c2 : a1 ≠ 5 := c2
      refine sm_183 hI (show (-2147483648 : Int) ≤ a1 ∧ a1 ≤ (2147483647 : Int) from by omega) (show (-1 : Int) ≤ 0 ∧ 0 ≤ (97 : Int) from by omega) (show (-1 : Int) ≤ 11 ∧ 11 ≤ (9999 : Int) from by omega) (fun z23 q3 => ?_)
      refine ⟨fun c4 => ?_, fun c4 => ?_⟩
      · skip
        have dc4 := q3.2 c4
        refine ⟨fun c5 => ?_, fun c5 => ?_⟩
        · skip
          replace c5 : a1 ≠ 12 := c5
          exact hQ (-2) (show (-2147483648 : Int) ≤ (-2) ∧ (-2) ≤ (2147483647 : Int) from by omega)
        · skip
          replace c5 : ¬ (a1 ≠ 12) := c5
          have b6 : 0 ≤ s.1 95 4 ∧ s.1 95 4 ≤ 300 := iv_r95_4 hI
          exact hQ (s.1 95 4) (show (-2147483648 : Int) ≤ s.1 95 4 ∧ s.1 95 4 ≤ (2147483647 : Int) from by omega)
      · skip
        have dc4 := q3.1 c4
        refine ⟨(show (0 : Int) ≤ a1 ∧ a1 < (1538 : Int) from by omega), ?_⟩
        have b7 : (-2147483648) ≤ s.1 96 a1 ∧ s.1 96 a1 ≤ 2147483647 := iv_full hI
        exact hQ (s.1 96 a1) (show (-2147483648 : Int) ≤ s.1 96 a1 ∧ s.1 96 a1 ≤ (2147483647 : Int) from by omega)
    · skip
      replace c2 : ¬ (a1 ≠ 5) := c2
      refine sm_279 hI (fun r26 q8 => ?_)
      exact hQ r26 (show (-2147483648 : Int) ≤ r26 ∧ r26 ≤ (2147483647 : Int) from by omega)
  · skip
    replace c1 : ¬ (a1 ≠ 4) := c1
    refine sm_243 hI (fun r28 ps10 q9 => ?_)
    replace ps10 : r28 = (s.1 96 114) + (s.1 96 117) + (s.1 96 120) + (s.1 96 123) := ps10
    exact hQ r28 (show (-2147483648 : Int) ≤ r28 ∧ r28 ≤ (2147483647 : Int) from by omega)
