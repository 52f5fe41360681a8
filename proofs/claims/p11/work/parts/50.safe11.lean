-- fm_81 Laws.paceOf 63 i
theorem sm_81_p89 {Q : Int → lf_Z → Prop} {y1 : Int} {y2 : Int} {s : lf_Z} (hQ : ∀ (r : Int) (s' : lf_Z), iv_A s'.1 s'.2.2 → lf_fq [63, 64, 65, 66] 1000000 true s.1 s.2.2 s'.1 s'.2.2 → (0 ≤ r ∧ r ≤ 1000000) → Q r s') (hI : iv_A s.1 s.2.2) (by1 : 4 ≤ y1 ∧ y1 ≤ 4) (by2 : 0 ≤ y2 ∧ y2 ≤ 6) (kv0 : s.2.2 3 ≠ none) : fm_81_p89 Q y1 y2 s := by
  unfold fm_81_p89
  refine ⟨(show (0 : Int) ≤ y1 ∧ y1 < (11 : Int) from by omega), ?_⟩
  have hI17 : iv_A (lf_up s.1 64 y1 y2) s.2.2 := iv_w64 hI (by omega)
  have fr18 : lf_fq [63, 64, 65, 66] 1000000 true s.1 s.2.2 (lf_up s.1 64 y1 y2) s.2.2 := lf_fq_up (lf_fq_rf) rfl (fun h => absurd h (by decide))
  refine ⟨fun et33 => ?_, fun t33 et33 => ?_⟩
  · skip
    exact absurd et33 kv0
  · have htt33 : t33 < 4 := iv_t3 hI17 et33
    refine ⟨htt33, ?_⟩
    refine sm_84b htt33 hI17 (show (0 : Int) ≤ 0 ∧ 0 ≤ (2 : Int) from by omega) (fun r39 s38 hI26 fr25 q27 => ?_)
    have fr28 : lf_fq [63, 64, 65, 66] 1000000 true s.1 s.2.2 s38.1 s38.2.2 := lf_fq_tr fr18 (lf_fq_wk fr25 rfl (by decide) (by decide))
    have n29 : s38.2.2 3 ≠ none := lf_fq_n3 fr25 rfl kv0
    refine sm_55 hI26 (show (-2147483648 : Int) ≤ r39 ∧ r39 ≤ (2147483647 : Int) from by omega) (show (0 : Int) ≤ 0 ∧ 0 ≤ (0 : Int) from by omega) (show (2 : Int) ≤ 2 ∧ 2 ≤ (1000000 : Int) from by omega) (fun r41 q30 => ?_)
    obtain ⟨q30, q30x⟩ := q30
    replace q30x : 0 ≤ r41 ∧ (r41 ≤ 2 ∨ r41 ≤ 0) := q30x
    exact hQ r41 s38 hI26 fr28 (show (0 : Int) ≤ r41 ∧ r41 ≤ (1000000 : Int) from by omega)
theorem sm_81 {a1 : Int} {Q : Int → lf_Z → Prop} {s : lf_Z} (hI : iv_A s.1 s.2.2) (ba1 : 0 ≤ a1 ∧ a1 ≤ 3) (hQ : ∀ (r : Int) (s' : lf_Z), iv_A s'.1 s'.2.2 → lf_fq [63, 64, 65, 66] 1000000 true s.1 s.2.2 s'.1 s'.2.2 → (0 ≤ r ∧ r ≤ 1000000) → Q r s') : fm_81 a1 Q s := by
  unfold fm_81
  refine ⟨fun et21 => ?_, fun t21 et21 => ?_⟩
  · skip
    exact hQ 1 s hI (lf_fq_rf) (show (0 : Int) ≤ 1 ∧ 1 ≤ (1000000 : Int) from by omega)
  · have htt21 : t21 < 4 := iv_t3 hI et21
    refine ⟨htt21, ?_⟩
    have n3t21 : s.2.2 3 ≠ none := lf_sn3 et21
    refine ⟨fun et22 => ?_, fun t22 et22 => ?_⟩
    · skip
      exact absurd et22 n3t21
    · have htt22 : t22 < 4 := iv_t3 hI et22
      refine ⟨htt22, ?_⟩
      refine sm_40 htt22 hI (show (0 : Int) ≤ 0 ∧ 0 ≤ (12 : Int) from by omega) (fun z24 => ?_)
      refine ⟨fun c2 => ?_, fun c2 => ?_⟩
      · skip
        exact hQ 1 s hI (lf_fq_rf) (show (0 : Int) ≤ 1 ∧ 1 ≤ (1000000 : Int) from by omega)
      · skip
        refine sm_80 hI (show (-2147483648 : Int) ≤ a1 ∧ a1 ≤ (2147483647 : Int) from by omega) (fun z26 q3 => ?_)
        have b4 : (-2147483648) ≤ s.1 16 a1 ∧ s.1 16 a1 ≤ 2147483647 := iv_full hI
        refine ⟨fun c5 => ?_, fun c5 => ?_⟩
        · skip
          have dc5 := q3.1 c5
          refine ⟨(show (0 : Int) ≤ a1 ∧ a1 < (4 : Int) from by omega), ?_⟩
          have b6 : (-1) ≤ s.1 17 a1 ∧ s.1 17 a1 ≤ 11 := iv_r17 hI _
          have b7 : s.1 16 a1 ≤ 0 ∨ 0 ≤ s.1 17 a1 := (by first | exact (show s.1 16 a1 ≤ 0 ∨ 0 ≤ s.1 17 a1 from iv_sp hI (by omega) (by omega)) | exact iv_sp hI (by omega) (by omega))
          refine sm_82 hI (show (-2147483648 : Int) ≤ s.1 16 a1 ∧ s.1 16 a1 ≤ (2147483647 : Int) from by omega) (show (-1 : Int) ≤ s.1 17 a1 ∧ s.1 17 a1 ≤ (11 : Int) from by omega) (show (0 : Int) ≤ 0 ∧ 0 ≤ (1 : Int) from by omega) (fun s28 hI9 fr8 => ?_)
          have fr11 : lf_fq [63, 64, 65, 66] 1000000 true s.1 s.2.2 s28.1 s28.2.2 := lf_fq_tr (lf_fq_rf) (lf_fq_wk fr8 rfl (by decide) (by decide))
          have n12 : s28.2.2 3 ≠ none := lf_fq_n3 fr8 rfl n3t21
          have b13 : (-1) ≤ s28.1 18 a1 ∧ s28.1 18 a1 ≤ 11 := iv_r18 hI9 _
          have b14 : s28.1 18 a1 = s.1 18 a1 := congrFun (fr8.1 18 rfl) _
          refine ⟨(show lf_R (s28.1 18 a1) from lf_Rof (by omega)), ?_⟩
          refine ⟨fun c15 => ?_, fun c15 => ?_⟩
          · skip
            replace c15 : s28.1 18 a1 ≠ (-1) := c15
            refine sm_83 hI9 (show (-1 : Int) ≤ s28.1 18 a1 ∧ s28.1 18 a1 ≤ (11 : Int) from by omega) (fun r31 q16 => ?_)
            exact sm_81_p89 (fun r9 t9 i9 f9 => hQ r9 t9 i9 (lf_fq_tr fr11 f9)) hI9 (show (4 : Int) ≤ 4 ∧ 4 ≤ (4 : Int) from by omega) (show (0 : Int) ≤ r31 ∧ r31 ≤ (6 : Int) from by omega) n12
          · skip
            replace c15 : ¬ (s28.1 18 a1 ≠ (-1)) := c15
            exact sm_81_p89 (fun r9 t9 i9 f9 => hQ r9 t9 i9 (lf_fq_tr fr11 f9)) hI9 (show (4 : Int) ≤ 4 ∧ 4 ≤ (4 : Int) from by omega) (show (0 : Int) ≤ 0 ∧ 0 ≤ (6 : Int) from by omega) n12
        · skip
          have dc5 := q3.2 c5
          exact hQ 1 s hI (lf_fq_rf) (show (0 : Int) ≤ 1 ∧ 1 ≤ (1000000 : Int) from by omega)
-- fm_75 Land.distance 1 i i
theorem sm_75 {a1 : Int} {a2 : Int} {Q : Int → lf_Z → Prop} {s : lf_Z} (hI : iv_A s.1 s.2.2) (ba1 : (-2147483648) ≤ a1 ∧ a1 ≤ 2147483647) (ba2 : (-2147483648) ≤ a2 ∧ a2 ≤ 2147483647) (hQ : ∀ (r : Int), ((0 ≤ r ∧ r ≤ 1000) ∧ (1000 ≤ r ∨ (0 ≤ a1 ∧ a1 < s.1 1 0 ∧ 0 ≤ a2 ∧ a2 < s.1 1 0))) → Q r s) : fm_75 a1 a2 Q s := by
  unfold fm_75
  refine sm_18 hI (show (-2147483648 : Int) ≤ a1 ∧ a1 ≤ (2147483647 : Int) from by omega) (fun z22 q1 => ?_)
  have b2 : 0 ≤ s.1 1 0 ∧ s.1 1 0 ≤ 12 := iv_r1_0 hI
  refine ⟨fun c3 => ?_, fun c3 => ?_⟩
  · skip
    have dc3 := q1.2 c3
    exact hQ 1000 ⟨(show (0 : Int) ≤ 1000 ∧ 1000 ≤ (1000 : Int) from by omega), (show 1000 ≤ 1000 ∨ (0 ≤ a1 ∧ a1 < s.1 1 0 ∧ 0 ≤ a2 ∧ a2 < s.1 1 0) from by omega)⟩
  · skip
    have dc3 := q1.1 c3
    refine sm_18 hI (show (-2147483648 : Int) ≤ a2 ∧ a2 ≤ (2147483647 : Int) from by omega) (fun z24 q4 => ?_)
    refine ⟨fun c5 => ?_, fun c5 => ?_⟩
    · skip
      have dc5 := q4.2 c5
      exact hQ 1000 ⟨(show (0 : Int) ≤ 1000 ∧ 1000 ≤ (1000 : Int) from by omega), (show 1000 ≤ 1000 ∨ (0 ≤ a1 ∧ a1 < s.1 1 0 ∧ 0 ≤ a2 ∧ a2 < s.1 1 0) from by omega)⟩
    · skip
      have dc5 := q4.1 c5
      refine ⟨(show (0 : Int) ≤ (a1 * 12) + a2 ∧ (a1 * 12) + a2 < (144 : Int) from by omega), ?_⟩
      have b6 : 0 ≤ s.1 13 ((a1 * 12) + a2) ∧ s.1 13 ((a1 * 12) + a2) ≤ 1000 := iv_r13 hI _
      exact hQ (s.1 13 ((a1 * 12) + a2)) ⟨(show (0 : Int) ≤ s.1 13 ((a1 * 12) + a2) ∧ s.1 13 ((a1 * 12) + a2) ≤ (1000 : Int) from by omega), (show 1000 ≤ s.1 13 ((a1 * 12) + a2) ∨ (0 ≤ a1 ∧ a1 < s.1 1 0 ∧ 0 ≤ a2 ∧ a2 < s.1 1 0) from by omega)⟩
-- fm_74 Land.nextTowards 1 i i
theorem sm_74_p73 {X13 : Int → Int → lf_Z → Prop} {Q : Int → lf_Z → Prop} {x1 : Int} {x2 : Int} {x3 : Int} {x4 : Int} {x5 : Int} {s : lf_Z} (hQ : ∀ (r : Int), ((-1) ≤ r ∧ r ≤ 11) → Q r s) {M13 : Nat} (hX13 : ∀ (x3 : Int) (x5 : Int), (-1) ≤ x3 ∧ x3 ≤ 11 → 0 ≤ x5 ∧ x5 ≤ 4 → (4 - x5).toNat < M13 → X13 x3 x5 s) (hM13 : (4 - x5).toNat ≤ M13) (hI : iv_A s.1 s.2.2) (bx1 : (-2147483648) ≤ x1 ∧ x1 ≤ 2147483647) (bx2 : (-2147483648) ≤ x2 ∧ x2 ≤ 2147483647) (bx3 : (-1) ≤ x3 ∧ x3 ≤ 11) (bx4 : 0 ≤ x4 ∧ x4 ≤ 999) (bx5 : 0 ≤ x5 ∧ x5 ≤ 3) : fm_74_p73 X13 Q x1 x2 x3 x4 x5 s := by
  unfold fm_74_p73
  exact hX13 (x3) (x5 + 1) (show (-1 : Int) ≤ x3 ∧ x3 ≤ (11 : Int) from by omega) (show (0 : Int) ≤ x5 + 1 ∧ x5 + 1 ≤ (4 : Int) from by omega) (show (4 - (x5 + 1)).toNat < M13 from by omega)
theorem sm_74_p70 {X13 : Int → Int → lf_Z → Prop} {Q : Int → lf_Z → Prop} {x1 : Int} {x2 : Int} {x4 : Int} {x5 : Int} {x6 : Int} {s : lf_Z} (hQ : ∀ (r : Int), ((-1) ≤ r ∧ r ≤ 11) → Q r s) {M13 : Nat} (hX13 : ∀ (x3 : Int) (x5 : Int), (-1) ≤ x3 ∧ x3 ≤ 11 → 0 ≤ x5 ∧ x5 ≤ 4 → (4 - x5).toNat < M13 → X13 x3 x5 s) (hM13 : (4 - x5).toNat ≤ M13) (hI : iv_A s.1 s.2.2) (bx1 : (-2147483648) ≤ x1 ∧ x1 ≤ 2147483647) (bx2 : (-2147483648) ≤ x2 ∧ x2 ≤ 2147483647) (bx4 : 1 ≤ x4 ∧ x4 ≤ 999) (bx5 : 0 ≤ x5 ∧ x5 ≤ 3) (bx6 : (-1) ≤ x6 ∧ x6 ≤ 11) : fm_74_p70 X13 Q x1 x2 x4 x5 x6 s := by
  unfold fm_74_p70
  exact sm_74_p73 hQ hX13 (show (4 - x5).toNat ≤ M13 from by omega) hI (show (-2147483648 : Int) ≤ x1 ∧ x1 ≤ (2147483647 : Int) from by omega) (show (-2147483648 : Int) ≤ x2 ∧ x2 ≤ (2147483647 : Int) from by omega) (show (-1 : Int) ≤ x6 ∧ x6 ≤ (11 : Int) from by omega) (show (0 : Int) ≤ x4 ∧ x4 ≤ (999 : Int) from by omega) (show (0 : Int) ≤ x5 ∧ x5 ≤ (3 : Int) from by omega)
theorem sm_74_p13 {X13 : Int → Int → lf_Z → Prop} {Q : Int → lf_Z → Prop} {x1 : Int} {x2 : Int} {x3 : Int} {x4 : Int} {x5 : Int} {s : lf_Z} (hQ : ∀ (r : Int), ((-1) ≤ r ∧ r ≤ 11) → Q r s) {M13 : Nat} (hX13 : ∀ (x3 : Int) (x5 : Int), (-1) ≤ x3 ∧ x3 ≤ 11 → 0 ≤ x5 ∧ x5 ≤ 4 → (4 - x5).toNat < M13 → X13 x3 x5 s) (hM13 : (4 - x5).toNat ≤ M13) (hI : iv_A s.1 s.2.2) (bx1 : (-2147483648) ≤ x1 ∧ x1 ≤ 2147483647) (bx2 : (-2147483648) ≤ x2 ∧ x2 ≤ 2147483647) (bx3 : (-1) ≤ x3 ∧ x3 ≤ 11) (bx4 : 0 ≤ x4 ∧ x4 ≤ 1000) (bx5 : 0 ≤ x5 ∧ x5 ≤ 4) : fm_74_p13 Q x1 x2 x4 X13 x3 x5 s := by
  unfold fm_74_p13
  refine sm_76 hI (show (-2147483648 : Int) ≤ x1 ∧ x1 ≤ (2147483647 : Int) from by omega) (fun r24 q3 => ?_)
  refine ⟨(show lf_R x5 from lf_Rof (by omega)), ?_⟩
  refine ⟨(show lf_R r24 from lf_Rof (by omega)), ?_⟩
  refine ⟨fun c4 => ?_, fun c4 => ?_⟩
  · skip
    replace c4 : r24 ≤ x5 := c4
    exact hQ x3 (show (-1 : Int) ≤ x3 ∧ x3 ≤ (11 : Int) from by omega)
  · skip
    replace c4 : ¬ (r24 ≤ x5) := c4
    refine ⟨(show lf_R x4 from lf_Rof (by omega)), ?_⟩
    refine ⟨fun c5 => ?_, fun c5 => ?_⟩
    · skip
      replace c5 : 1000 ≤ x4 := c5
      exact hQ x3 (show (-1 : Int) ≤ x3 ∧ x3 ≤ (11 : Int) from by omega)
    · skip
      replace c5 : ¬ (1000 ≤ x4) := c5
      refine sm_77 hI (show (-2147483648 : Int) ≤ x1 ∧ x1 ≤ (2147483647 : Int) from by omega) (show (0 : Int) ≤ x5 ∧ x5 ≤ (3 : Int) from by omega) (fun r29 q6 => ?_)
      refine sm_78 hI (show (-1 : Int) ≤ r29 ∧ r29 ≤ (15 : Int) from by omega) (show (-2147483648 : Int) ≤ x1 ∧ x1 ≤ (2147483647 : Int) from by omega) (fun r31 q7 => ?_)
      obtain ⟨q7, q7x⟩ := q7
      have b8 : 0 ≤ s.1 1 1 ∧ s.1 1 1 ≤ 16 := iv_r1_1 hI
      replace q7x : r31 = iv_od (s.1 1 1) (s.1 4) (s.1 5) r29 x1 := q7x
      refine sm_75 hI (show (-2147483648 : Int) ≤ r31 ∧ r31 ≤ (2147483647 : Int) from by omega) (show (-2147483648 : Int) ≤ x2 ∧ x2 ≤ (2147483647 : Int) from by omega) (fun r33 q9 => ?_)
      obtain ⟨q9, q9x⟩ := q9
      have b10 : 0 ≤ s.1 1 0 ∧ s.1 1 0 ≤ 12 := iv_r1_0 hI
      replace q9x : 1000 ≤ r33 ∨ (0 ≤ r31 ∧ r31 < s.1 1 0 ∧ 0 ≤ x2 ∧ x2 < s.1 1 0) := q9x
      refine ⟨(show lf_R r33 from lf_Rof (by omega)), ?_⟩
      refine ⟨(show lf_R (x4 - 1) from lf_Rof (by omega)), ?_⟩
      refine ⟨fun c11 => ?_, fun c11 => ?_⟩
      · skip
        replace c11 : r33 ≠ x4 - 1 := c11
        exact sm_74_p73 hQ hX13 (show (4 - x5).toNat ≤ M13 from by omega) hI (show (-2147483648 : Int) ≤ x1 ∧ x1 ≤ (2147483647 : Int) from by omega) (show (-2147483648 : Int) ≤ x2 ∧ x2 ≤ (2147483647 : Int) from by omega) (show (-1 : Int) ≤ x3 ∧ x3 ≤ (11 : Int) from by omega) (show (0 : Int) ≤ x4 ∧ x4 ≤ (999 : Int) from by omega) (show (0 : Int) ≤ x5 ∧ x5 ≤ (3 : Int) from by omega)
      · skip
        replace c11 : ¬ (r33 ≠ x4 - 1) := c11
        refine ⟨(show lf_R x3 from lf_Rof (by omega)), ?_⟩
        refine ⟨fun c12 => ?_, fun c12 => ?_⟩
        · skip
          replace c12 : x3 = (-1) := c12
          exact sm_74_p70 hQ hX13 (show (4 - x5).toNat ≤ M13 from by omega) hI (show (-2147483648 : Int) ≤ x1 ∧ x1 ≤ (2147483647 : Int) from by omega) (show (-2147483648 : Int) ≤ x2 ∧ x2 ≤ (2147483647 : Int) from by omega) (show (1 : Int) ≤ x4 ∧ x4 ≤ (999 : Int) from by omega) (show (0 : Int) ≤ x5 ∧ x5 ≤ (3 : Int) from by omega) (show (-1 : Int) ≤ r31 ∧ r31 ≤ (11 : Int) from by omega)
        · skip
          replace c12 : ¬ (x3 = (-1)) := c12
          refine ⟨(show lf_R r31 from lf_Rof (by omega)), ?_⟩
          refine ⟨fun c13 => ?_, fun c13 => ?_⟩
          · skip
            replace c13 : x3 ≤ r31 := c13
            exact sm_74_p73 hQ hX13 (show (4 - x5).toNat ≤ M13 from by omega) hI (show (-2147483648 : Int) ≤ x1 ∧ x1 ≤ (2147483647 : Int) from by omega) (show (-2147483648 : Int) ≤ x2 ∧ x2 ≤ (2147483647 : Int) from by omega) (show (-1 : Int) ≤ x3 ∧ x3 ≤ (11 : Int) from by omega) (show (0 : Int) ≤ x4 ∧ x4 ≤ (999 : Int) from by omega) (show (0 : Int) ≤ x5 ∧ x5 ≤ (3 : Int) from by omega)
          · skip
            replace c13 : ¬ (x3 ≤ r31) := c13
            exact sm_74_p70 hQ hX13 (show (4 - x5).toNat ≤ M13 from by omega) hI (show (-2147483648 : Int) ≤ x1 ∧ x1 ≤ (2147483647 : Int) from by omega) (show (-2147483648 : Int) ≤ x2 ∧ x2 ≤ (2147483647 : Int) from by omega) (show (1 : Int) ≤ x4 ∧ x4 ≤ (999 : Int) from by omega) (show (0 : Int) ≤ x5 ∧ x5 ≤ (3 : Int) from by omega) (show (-1 : Int) ≤ r31 ∧ r31 ≤ (11 : Int) from by omega)
theorem sm_74_p13L {Q : Int → lf_Z → Prop} {x1 : Int} {x2 : Int} {x3 : Int} {x4 : Int} {x5 : Int} {s : lf_Z} (hQ : ∀ (r : Int), ((-1) ≤ r ∧ r ≤ 11) → Q r s) (hI : iv_A s.1 s.2.2) (bx1 : (-2147483648) ≤ x1 ∧ x1 ≤ 2147483647) (bx2 : (-2147483648) ≤ x2 ∧ x2 ≤ 2147483647) (bx3 : (-1) ≤ x3 ∧ x3 ≤ 11) (bx4 : 0 ≤ x4 ∧ x4 ≤ 1000) (bx5 : 0 ≤ x5 ∧ x5 ≤ 4) : fm_74_p13L Q x1 x2 x3 x4 x5 s := by
  intro X13 hX
  have key : ∀ (m9 : Nat) (x3 : Int) (x5 : Int), (-1) ≤ x3 ∧ x3 ≤ 11 → 0 ≤ x5 ∧ x5 ≤ 4 → (4 - x5).toNat < m9 → X13 x3 x5 s := by
    intro m9
    induction m9 with
    | zero => intro x3 x5 bx3 bx5 h9; exact absurd h9 (Nat.not_lt_zero _)
    | succ m9 ih => intro x3 x5 bx3 bx5 h9; exact hX _ _ _ (sm_74_p13 hQ   (fun x3' x5' bx3' bx5' h8 => ih x3' x5' bx3' bx5' (by omega)) (Nat.le_refl _)  hI  bx1 bx2 bx3 bx4 bx5  )
  exact key _ _ _ bx3 bx5   (Nat.lt_succ_self _)
theorem sm_74 {a1 : Int} {a2 : Int} {Q : Int → lf_Z → Prop} {s : lf_Z} (hI : iv_A s.1 s.2.2) (ba1 : (-2147483648) ≤ a1 ∧ a1 ≤ 2147483647) (ba2 : (-2147483648) ≤ a2 ∧ a2 ≤ 2147483647) (hQ : ∀ (r : Int), ((-1) ≤ r ∧ r ≤ 11) → Q r s) : fm_74 a1 a2 Q s := by
  unfold fm_74
  refine sm_75 hI (show (-2147483648 : Int) ≤ a1 ∧ a1 ≤ (2147483647 : Int) from by omega) (show (-2147483648 : Int) ≤ a2 ∧ a2 ≤ (2147483647 : Int) from by omega) (fun r22 q1 => ?_)
  obtain ⟨q1, q1x⟩ := q1
  have b2 : 0 ≤ s.1 1 0 ∧ s.1 1 0 ≤ 12 := iv_r1_0 hI
  replace q1x : 1000 ≤ r22 ∨ (0 ≤ a1 ∧ a1 < s.1 1 0 ∧ 0 ≤ a2 ∧ a2 < s.1 1 0) := q1x
  exact sm_74_p13L hQ hI (show (-2147483648 : Int) ≤ a1 ∧ a1 ≤ (2147483647 : Int) from by omega) (show (-2147483648 : Int) ≤ a2 ∧ a2 ≤ (2147483647 : Int) from by omega) (show (-1 : Int) ≤ (-1) ∧ (-1) ≤ (11 : Int) from by omega) (show (0 : Int) ≤ r22 ∧ r22 ≤ (1000 : Int) from by omega) (show (0 : Int) ≤ 0 ∧ 0 ≤ (4 : Int) from by omega)
-- fm_73 Minutes.goOn 67 i
theorem sm_73 {a1 : Int} {Q : lf_Z → Prop} {s : lf_Z} (hI : iv_A s.1 s.2.2) (ba1 : 0 ≤ a1 ∧ a1 ≤ 5) (hQ : ∀  (s' : lf_Z), iv_A s'.1 s'.2.2 → lf_fq [19] 1000000 true s.1 s.2.2 s'.1 s'.2.2 → Q  s') : fm_73 a1 Q s := by
  unfold fm_73
  refine ⟨(show (0 : Int) ≤ a1 ∧ a1 < (6 : Int) from by omega), ?_⟩
  have b1 : (-2147483648) ≤ s.1 20 a1 ∧ s.1 20 a1 ≤ 2147483647 := iv_full hI
  refine ⟨(show lf_R (s.1 20 a1) from lf_Rof (by omega)), ?_⟩
  refine ⟨fun c2 => ?_, fun c2 => ?_⟩
  · skip
    replace c2 : s.1 20 a1 = (-1) := c2
    exact hQ s hI (lf_fq_rf)
  · skip
    replace c2 : ¬ (s.1 20 a1 = (-1)) := c2
    have b3 : (-2147483648) ≤ s.1 19 a1 ∧ s.1 19 a1 ≤ 2147483647 := iv_full hI
    refine ⟨(show lf_R (s.1 19 a1) from lf_Rof (by omega)), ?_⟩
    refine ⟨fun c4 => ?_, fun c4 => ?_⟩
    · skip
      replace c4 : s.1 20 a1 ≠ s.1 19 a1 := c4
      refine sm_74 hI (show (-2147483648 : Int) ≤ s.1 19 a1 ∧ s.1 19 a1 ≤ (2147483647 : Int) from by omega) (show (-2147483648 : Int) ≤ s.1 20 a1 ∧ s.1 20 a1 ≤ (2147483647 : Int) from by omega) (fun r25 q5 => ?_)
      refine ⟨(show lf_R r25 from lf_Rof (by omega)), ?_⟩
      refine ⟨fun c6 => ?_, fun c6 => ?_⟩
      · skip
        replace c6 : r25 = (-1) := c6
        exact hQ s hI (lf_fq_rf)
      · skip
        replace c6 : ¬ (r25 = (-1)) := c6
        have hI7 : iv_A (lf_up s.1 19 a1 r25) s.2.2 := iv_w19 hI (by omega)
        have fr8 : lf_fq [19] 1000000 true s.1 s.2.2 (lf_up s.1 19 a1 r25) s.2.2 := lf_fq_up (lf_fq_rf) rfl (fun h => absurd h (by decide))
        exact hQ (lf_up s.1 19 a1 r25, s.2.1, s.2.2) hI7 fr8
    · skip
      replace c4 : ¬ (s.1 20 a1 ≠ s.1 19 a1) := c4
      exact hQ s hI (lf_fq_rf)
-- fm_72 Minutes.pass 67
theorem sm_72_p74 {X43 : Int → lf_Z → Prop} {X74 : Int → lf_Z → Prop} {Q : lf_Z → Prop} {x1 : Int} {x2 : Int} {x3 : Int} {s : lf_Z} (hQ : ∀  (s' : lf_Z), iv_A s'.1 s'.2.2 → lf_fq [15, 16, 17, 18, 19, 21, 63, 64, 65, 66] 1000000 true s.1 s.2.2 s'.1 s'.2.2 → Q  s') {M43 : Nat} (hX43 : ∀ (x1 : Int) (s' : lf_Z), iv_A s'.1 s'.2.2 → lf_fq [15, 16, 17, 18, 19, 21, 63, 64, 65, 66] 1000000 true s.1 s.2.2 s'.1 s'.2.2 → 0 ≤ x1 ∧ x1 ≤ 4 → (4 - x1).toNat < M43 → X43 x1 s') (hM43 : (4 - x1).toNat ≤ M43) {M74 : Nat} (hX74 : ∀ (x3 : Int) (s' : lf_Z), iv_A s'.1 s'.2.2 → lf_fq [15, 16, 17, 18, 19, 21, 63, 64, 65, 66] 1000000 true s.1 s.2.2 s'.1 s'.2.2 → 0 ≤ x3 ∧ x3 ≤ 2147483646 → (2147483646 - x3).toNat < M74 → X74 x3 s') (hM74 : (2147483646 - x3).toNat ≤ M74) (hI : iv_A s.1 s.2.2) (bx1 : 0 ≤ x1 ∧ x1 ≤ 3) (bx2 : 0 ≤ x2 ∧ x2 ≤ 1000000) (bx3 : 0 ≤ x3 ∧ x3 ≤ 2147483646) : fm_72_p74 X43 Q x1 x2 X74 x3 s := by
  unfold fm_72_p74
  refine ⟨(show lf_R x3 from lf_Rof (by omega)), ?_⟩
  refine ⟨(show lf_R x2 from lf_Rof (by omega)), ?_⟩
  refine ⟨fun c21 => ?_, fun c21 => ?_⟩
  · skip
    replace c21 : x2 ≤ x3 := c21
    exact hX43 (x1 + 1) s hI (lf_fq_rf) (show (0 : Int) ≤ x1 + 1 ∧ x1 + 1 ≤ (4 : Int) from by omega) (show (4 - (x1 + 1)).toNat < M43 from by omega)
  · skip
    replace c21 : ¬ (x2 ≤ x3) := c21
    refine sm_88 hI (show (0 : Int) ≤ x1 ∧ x1 ≤ (3 : Int) from by omega) (fun s30 hI23 fr22 => ?_)
    have fr25 : lf_fq [15, 16, 17, 18, 19, 21, 63, 64, 65, 66] 1000000 true s.1 s.2.2 s30.1 s30.2.2 := lf_fq_tr (lf_fq_rf) (lf_fq_wk fr22 rfl (by decide) (by decide))
    exact hX74 (x3 + 1) s30 hI23 fr25 (show (0 : Int) ≤ x3 + 1 ∧ x3 + 1 ≤ (2147483646 : Int) from by omega) (show (2147483646 - (x3 + 1)).toNat < M74 from by omega)
theorem sm_72_p74L {X43 : Int → lf_Z → Prop} {Q : lf_Z → Prop} {x1 : Int} {x2 : Int} {x3 : Int} {s : lf_Z} (hQ : ∀  (s' : lf_Z), iv_A s'.1 s'.2.2 → lf_fq [15, 16, 17, 18, 19, 21, 63, 64, 65, 66] 1000000 true s.1 s.2.2 s'.1 s'.2.2 → Q  s') {M43 : Nat} (hX43 : ∀ (x1 : Int) (s' : lf_Z), iv_A s'.1 s'.2.2 → lf_fq [15, 16, 17, 18, 19, 21, 63, 64, 65, 66] 1000000 true s.1 s.2.2 s'.1 s'.2.2 → 0 ≤ x1 ∧ x1 ≤ 4 → (4 - x1).toNat < M43 → X43 x1 s') (hM43 : (4 - x1).toNat ≤ M43) (hI : iv_A s.1 s.2.2) (bx1 : 0 ≤ x1 ∧ x1 ≤ 3) (bx2 : 0 ≤ x2 ∧ x2 ≤ 1000000) (bx3 : 0 ≤ x3 ∧ x3 ≤ 2147483646) : fm_72_p74L X43 Q x1 x2 x3 s := by
  intro X74 hX
  have key : ∀ (m9 : Nat) (x3 : Int) (s' : lf_Z), iv_A s'.1 s'.2.2 → lf_fq [15, 16, 17, 18, 19, 21, 63, 64, 65, 66] 1000000 true s.1 s.2.2 s'.1 s'.2.2 → 0 ≤ x3 ∧ x3 ≤ 2147483646 → (2147483646 - x3).toNat < m9 → X74 x3 s' := by
    intro m9
    induction m9 with
    | zero => intro x3 s' _ _ bx3 h9; exact absurd h9 (Nat.not_lt_zero _)
    | succ m9 ih => intro x3 s' i7 f7 bx3 h9; exact hX _ _ (sm_72_p74 (fun t9 i9 f9 => hQ t9 i9 (lf_fq_tr f7 f9))  (fun p0 t9 i9 f9 => hX43 p0 t9 i9 (lf_fq_tr f7 f9)) hM43 (fun x3' t8 i8 f8 bx3' h8 => ih x3' t8 i8 (lf_fq_tr f7 f8) bx3' (by omega)) (Nat.le_refl _)  i7  bx1 bx2 bx3  )
  exact key _ _ s hI lf_fq_rf bx3 (Nat.lt_succ_self _)
theorem sm_72_p71 {X43 : Int → lf_Z → Prop} {Q : lf_Z → Prop} {x1 : Int} {y0 : Int} {s : lf_Z} (hQ : ∀  (s' : lf_Z), iv_A s'.1 s'.2.2 → lf_fq [15, 16, 17, 18, 19, 21, 63, 64, 65, 66] 1000000 true s.1 s.2.2 s'.1 s'.2.2 → Q  s') {M43 : Nat} (hX43 : ∀ (x1 : Int) (s' : lf_Z), iv_A s'.1 s'.2.2 → lf_fq [15, 16, 17, 18, 19, 21, 63, 64, 65, 66] 1000000 true s.1 s.2.2 s'.1 s'.2.2 → 0 ≤ x1 ∧ x1 ≤ 4 → (4 - x1).toNat < M43 → X43 x1 s') (hM43 : (4 - x1).toNat ≤ M43) (hI : iv_A s.1 s.2.2) (bx1 : 0 ≤ x1 ∧ x1 ≤ 3) (by0 : 0 ≤ y0 ∧ y0 ≤ 1000000) : fm_72_p71 X43 Q x1 y0 s := by
  unfold fm_72_p71
  exact sm_72_p74L hQ hX43 (show (4 - x1).toNat ≤ M43 from by omega) hI (show (0 : Int) ≤ x1 ∧ x1 ≤ (3 : Int) from by omega) (show (0 : Int) ≤ y0 ∧ y0 ≤ (1000000 : Int) from by omega) (show (0 : Int) ≤ 0 ∧ 0 ≤ (2147483646 : Int) from by omega)
theorem sm_72_p43 {X43 : Int → lf_Z → Prop} {Q : lf_Z → Prop} {x1 : Int} {s : lf_Z} (hQ : ∀  (s' : lf_Z), iv_A s'.1 s'.2.2 → lf_fq [15, 16, 17, 18, 19, 21, 63, 64, 65, 66] 1000000 true s.1 s.2.2 s'.1 s'.2.2 → Q  s') {M43 : Nat} (hX43 : ∀ (x1 : Int) (s' : lf_Z), iv_A s'.1 s'.2.2 → lf_fq [15, 16, 17, 18, 19, 21, 63, 64, 65, 66] 1000000 true s.1 s.2.2 s'.1 s'.2.2 → 0 ≤ x1 ∧ x1 ≤ 4 → (4 - x1).toNat < M43 → X43 x1 s') (hM43 : (4 - x1).toNat ≤ M43) (hI : iv_A s.1 s.2.2) (bx1 : 0 ≤ x1 ∧ x1 ≤ 4) : fm_72_p43 Q X43 x1 s := by
  unfold fm_72_p43
  refine ⟨(show lf_R x1 from lf_Rof (by omega)), ?_⟩
  refine ⟨fun c3 => ?_, fun c3 => ?_⟩
  · skip
    replace c3 : 4 ≤ x1 := c3
    refine sm_95 hI (fun s24 hI5 fr4 => ?_)
    have fr7 : lf_fq [15, 16, 17, 18, 19, 21, 63, 64, 65, 66] 1000000 true s.1 s.2.2 s24.1 s24.2.2 := lf_fq_tr (lf_fq_rf) (lf_fq_wk fr4 rfl (by decide) (by decide))
    refine sm_96 hI5 (fun s25 hI9 fr8 => ?_)
    have fr11 : lf_fq [15, 16, 17, 18, 19, 21, 63, 64, 65, 66] 1000000 true s.1 s.2.2 s25.1 s25.2.2 := lf_fq_tr fr7 (lf_fq_wk fr8 rfl (by decide) (by decide))
    have b12 : (-2147483648) ≤ s25.1 15 7 ∧ s25.1 15 7 ≤ 2147483647 := iv_full hI9
    have b13 : s25.1 15 7 = s24.1 15 7 := congrFun (fr8.1 15 rfl) _
    have b14 : s24.1 15 7 = s.1 15 7 := congrFun (fr4.1 15 rfl) _
    have b15 : (-2147483648) ≤ lf_w ((s25.1 15 7) + 1) ∧ lf_w ((s25.1 15 7) + 1) ≤ 2147483647 := lf_wB
    have hI16 : iv_A (lf_up s25.1 15 7 (lf_w ((s25.1 15 7) + 1))) s25.2.2 := iv_w15_7 hI9 (by omega)
    have fr17 : lf_fq [15, 16, 17, 18, 19, 21, 63, 64, 65, 66] 1000000 true s.1 s.2.2 (lf_up s25.1 15 7 (lf_w ((s25.1 15 7) + 1))) s25.2.2 := lf_fq_up fr11 rfl (fun h => absurd h (by decide))
    exact hQ (lf_up s25.1 15 7 (lf_w ((s25.1 15 7) + 1)), s25.2.1, s25.2.2) hI16 fr17
  · skip
    replace c3 : ¬ (4 ≤ x1) := c3
    refine sm_80 hI (show (-2147483648 : Int) ≤ x1 ∧ x1 ≤ (2147483647 : Int) from by omega) (fun z27 q18 => ?_)
    have b19 : (-2147483648) ≤ s.1 16 x1 ∧ s.1 16 x1 ≤ 2147483647 := iv_full hI
    refine ⟨fun c20 => ?_, fun c20 => ?_⟩
    · skip
      have dc20 := q18.2 c20
      exact sm_72_p71 hQ hX43 (show (4 - x1).toNat ≤ M43 from by omega) hI (show (0 : Int) ≤ x1 ∧ x1 ≤ (3 : Int) from by omega) (show (0 : Int) ≤ 0 ∧ 0 ≤ (1000000 : Int) from by omega)
    · skip
      have dc20 := q18.1 c20
      refine sm_81 hI (show (0 : Int) ≤ x1 ∧ x1 ≤ (3 : Int) from by omega) (fun r32 s31 hI27 fr26 q28 => ?_)
      have fr29 : lf_fq [15, 16, 17, 18, 19, 21, 63, 64, 65, 66] 1000000 true s.1 s.2.2 s31.1 s31.2.2 := lf_fq_tr (lf_fq_rf) (lf_fq_wk fr26 rfl (by decide) (by decide))
      exact sm_72_p71 (fun t9 i9 f9 => hQ t9 i9 (lf_fq_tr fr29 f9)) (fun p0 t9 i9 f9 => hX43 p0 t9 i9 (lf_fq_tr fr29 f9)) (show (4 - x1).toNat ≤ M43 from by omega) hI27 (show (0 : Int) ≤ x1 ∧ x1 ≤ (3 : Int) from by omega) (show (0 : Int) ≤ r32 ∧ r32 ≤ (1000000 : Int) from by omega)
theorem sm_72_p43L {Q : lf_Z → Prop} {x1 : Int} {s : lf_Z} (hQ : ∀  (s' : lf_Z), iv_A s'.1 s'.2.2 → lf_fq [15, 16, 17, 18, 19, 21, 63, 64, 65, 66] 1000000 true s.1 s.2.2 s'.1 s'.2.2 → Q  s') (hI : iv_A s.1 s.2.2) (bx1 : 0 ≤ x1 ∧ x1 ≤ 4) : fm_72_p43L Q x1 s := by
  intro X43 hX
  have key : ∀ (m9 : Nat) (x1 : Int) (s' : lf_Z), iv_A s'.1 s'.2.2 → lf_fq [15, 16, 17, 18, 19, 21, 63, 64, 65, 66] 1000000 true s.1 s.2.2 s'.1 s'.2.2 → 0 ≤ x1 ∧ x1 ≤ 4 → (4 - x1).toNat < m9 → X43 x1 s' := by
    intro m9
    induction m9 with
    | zero => intro x1 s' _ _ bx1 h9; exact absurd h9 (Nat.not_lt_zero _)
    | succ m9 ih => intro x1 s' i7 f7 bx1 h9; exact hX _ _ (sm_72_p43 (fun t9 i9 f9 => hQ t9 i9 (lf_fq_tr f7 f9))   (fun x1' t8 i8 f8 bx1' h8 => ih x1' t8 i8 (lf_fq_tr f7 f8) bx1' (by omega)) (Nat.le_refl _)  i7  bx1  )
  exact key _ _ s hI lf_fq_rf bx1 (Nat.lt_succ_self _)
theorem sm_72_p35 {X2 : Int → lf_Z → Prop} {Q : lf_Z → Prop} {x1 : Int} {s : lf_Z} (hQ : ∀  (s' : lf_Z), iv_A s'.1 s'.2.2 → lf_fq [15, 16, 17, 18, 19, 21, 63, 64, 65, 66] 1000000 true s.1 s.2.2 s'.1 s'.2.2 → Q  s') {M2 : Nat} (hX2 : ∀ (x1 : Int) (s' : lf_Z), iv_A s'.1 s'.2.2 → lf_fq [15, 16, 17, 18, 19, 21, 63, 64, 65, 66] 1000000 true s.1 s.2.2 s'.1 s'.2.2 → 0 ≤ x1 ∧ x1 ≤ 6 → (6 - x1).toNat < M2 → X2 x1 s') (hM2 : (6 - x1).toNat ≤ M2) (hI : iv_A s.1 s.2.2) (bx1 : 0 ≤ x1 ∧ x1 ≤ 5) : fm_72_p35 X2 Q x1 s := by
  unfold fm_72_p35
  exact hX2 (x1 + 1) s hI (lf_fq_rf) (show (0 : Int) ≤ x1 + 1 ∧ x1 + 1 ≤ (6 : Int) from by omega) (show (6 - (x1 + 1)).toNat < M2 from by omega)
theorem sm_72_p2 {X2 : Int → lf_Z → Prop} {Q : lf_Z → Prop} {x1 : Int} {s : lf_Z} (hQ : ∀  (s' : lf_Z), iv_A s'.1 s'.2.2 → lf_fq [15, 16, 17, 18, 19, 21, 63, 64, 65, 66] 1000000 true s.1 s.2.2 s'.1 s'.2.2 → Q  s') {M2 : Nat} (hX2 : ∀ (x1 : Int) (s' : lf_Z), iv_A s'.1 s'.2.2 → lf_fq [15, 16, 17, 18, 19, 21, 63, 64, 65, 66] 1000000 true s.1 s.2.2 s'.1 s'.2.2 → 0 ≤ x1 ∧ x1 ≤ 6 → (6 - x1).toNat < M2 → X2 x1 s') (hM2 : (6 - x1).toNat ≤ M2) (hI : iv_A s.1 s.2.2) (bx1 : 0 ≤ x1 ∧ x1 ≤ 6) : fm_72_p2 Q X2 x1 s := by
  unfold fm_72_p2
  have b1 : 0 ≤ s.1 1 2 ∧ s.1 1 2 ≤ 6 := iv_r1_2 hI
  refine ⟨(show lf_R x1 from lf_Rof (by omega)), ?_⟩
  refine ⟨(show lf_R (s.1 1 2) from lf_Rof (by omega)), ?_⟩
  refine ⟨fun c2 => ?_, fun c2 => ?_⟩
  · skip
    replace c2 : s.1 1 2 ≤ x1 := c2
    exact sm_72_p43L hQ hI (show (0 : Int) ≤ 0 ∧ 0 ≤ (4 : Int) from by omega)
  · skip
    replace c2 : ¬ (s.1 1 2 ≤ x1) := c2
    refine sm_73 hI (show (0 : Int) ≤ x1 ∧ x1 ≤ (5 : Int) from by omega) (fun s33 hI31 fr30 => ?_)
    have fr33 : lf_fq [15, 16, 17, 18, 19, 21, 63, 64, 65, 66] 1000000 true s.1 s.2.2 s33.1 s33.2.2 := lf_fq_tr (lf_fq_rf) (lf_fq_wk fr30 rfl (by decide) (by decide))
    refine ⟨(show (0 : Int) ≤ x1 ∧ x1 < (6 : Int) from by omega), ?_⟩
    have b34 : 0 ≤ s33.1 8 x1 ∧ s33.1 8 x1 ≤ 1 := iv_r8 hI31 _
    have b35 : s33.1 8 x1 = s.1 8 x1 := congrFun (fr30.1 8 rfl) _
    refine ⟨(show lf_R (s33.1 8 x1) from lf_Rof (by omega)), ?_⟩
    refine ⟨fun c36 => ?_, fun c36 => ?_⟩
    · skip
      replace c36 : s33.1 8 x1 = 0 := c36
      exact sm_72_p35 (fun t9 i9 f9 => hQ t9 i9 (lf_fq_tr fr33 f9)) (fun p0 t9 i9 f9 => hX2 p0 t9 i9 (lf_fq_tr fr33 f9)) (show (6 - x1).toNat ≤ M2 from by omega) hI31 (show (0 : Int) ≤ x1 ∧ x1 ≤ (5 : Int) from by omega)
    · skip
      replace c36 : ¬ (s33.1 8 x1 = 0) := c36
      refine sm_73 hI31 (show (0 : Int) ≤ x1 ∧ x1 ≤ (5 : Int) from by omega) (fun s36 hI38 fr37 => ?_)
      have fr40 : lf_fq [15, 16, 17, 18, 19, 21, 63, 64, 65, 66] 1000000 true s.1 s.2.2 s36.1 s36.2.2 := lf_fq_tr fr33 (lf_fq_wk fr37 rfl (by decide) (by decide))
      exact sm_72_p35 (fun t9 i9 f9 => hQ t9 i9 (lf_fq_tr fr40 f9)) (fun p0 t9 i9 f9 => hX2 p0 t9 i9 (lf_fq_tr fr40 f9)) (show (6 - x1).toNat ≤ M2 from by omega) hI38 (show (0 : Int) ≤ x1 ∧ x1 ≤ (5 : Int) from by omega)
theorem sm_72_p2L {Q : lf_Z → Prop} {x1 : Int} {s : lf_Z} (hQ : ∀  (s' : lf_Z), iv_A s'.1 s'.2.2 → lf_fq [15, 16, 17, 18, 19, 21, 63, 64, 65, 66] 1000000 true s.1 s.2.2 s'.1 s'.2.2 → Q  s') (hI : iv_A s.1 s.2.2) (bx1 : 0 ≤ x1 ∧ x1 ≤ 6) : fm_72_p2L Q x1 s := by
  intro X2 hX
  have key : ∀ (m9 : Nat) (x1 : Int) (s' : lf_Z), iv_A s'.1 s'.2.2 → lf_fq [15, 16, 17, 18, 19, 21, 63, 64, 65, 66] 1000000 true s.1 s.2.2 s'.1 s'.2.2 → 0 ≤ x1 ∧ x1 ≤ 6 → (6 - x1).toNat < m9 → X2 x1 s' := by
    intro m9
    induction m9 with
    | zero => intro x1 s' _ _ bx1 h9; exact absurd h9 (Nat.not_lt_zero _)
    | succ m9 ih => intro x1 s' i7 f7 bx1 h9; exact hX _ _ (sm_72_p2 (fun t9 i9 f9 => hQ t9 i9 (lf_fq_tr f7 f9))   (fun x1' t8 i8 f8 bx1' h8 => ih x1' t8 i8 (lf_fq_tr f7 f8) bx1' (by omega)) (Nat.le_refl _)  i7  bx1  )
  exact key _ _ s hI lf_fq_rf bx1 (Nat.lt_succ_self _)
theorem sm_72 {Q : lf_Z → Prop} {s : lf_Z} (hI : iv_A s.1 s.2.2) (hQ : ∀  (s' : lf_Z), iv_A s'.1 s'.2.2 → lf_fq [15, 16, 17, 18, 19, 21, 63, 64, 65, 66] 1000000 true s.1 s.2.2 s'.1 s'.2.2 → Q  s') : fm_72 Q s := by
  unfold fm_72
  exact sm_72_p2L hQ hI (show (0 : Int) ≤ 0 ∧ 0 ≤ (6 : Int) from by omega)
-- fm_71 ElevenBullocks.passMinutes 0 i
theorem sm_71_p2 {X2 : Int → lf_Z → Prop} {Q : Bool → lf_Z → Prop} {x1 : Int} {x2 : Int} {s : lf_Z} (hQ : ∀ (z : Bool) (s' : lf_Z), iv_A s'.1 s'.2.2 → lf_fq [15, 16, 17, 18, 19, 21, 22, 23, 24, 63, 64, 65, 66] 1000000 true s.1 s.2.2 s'.1 s'.2.2 → Q z s') {M2 : Nat} (hX2 : ∀ (x2 : Int) (s' : lf_Z), iv_A s'.1 s'.2.2 → lf_fq [15, 16, 17, 18, 19, 21, 22, 23, 24, 63, 64, 65, 66] 1000000 true s.1 s.2.2 s'.1 s'.2.2 → 0 ≤ x2 ∧ x2 ≤ 2147483647 → (2147483647 - x2).toNat < M2 → X2 x2 s') (hM2 : (2147483647 - x2).toNat ≤ M2) (hI : iv_A s.1 s.2.2) (bx1 : (-2147483648) ≤ x1 ∧ x1 ≤ 2147483647) (bx2 : 0 ≤ x2 ∧ x2 ≤ 2147483647) : fm_71_p2 Q x1 X2 x2 s := by
  unfold fm_71_p2
  refine ⟨(show lf_R x2 from lf_Rof (by omega)), ?_⟩
  refine ⟨(show lf_R x1 from lf_Rof (by omega)), ?_⟩
  refine ⟨fun c1 => ?_, fun c1 => ?_⟩
  · skip
    replace c1 : x1 ≤ x2 := c1
    exact hQ true s hI (lf_fq_rf)
  · skip
    replace c1 : ¬ (x1 ≤ x2) := c1
    have b2 : (-2147483648) ≤ s.1 15 7 ∧ s.1 15 7 ≤ 2147483647 := iv_full hI
    refine ⟨(show lf_R (s.1 15 7) from lf_Rof (by omega)), ?_⟩
    refine ⟨fun c3 => ?_, fun c3 => ?_⟩
    · skip
      replace c3 : s.1 15 7 < 999 := c3
      have b4 : 0 ≤ s.1 1 2 ∧ s.1 1 2 ≤ 6 := iv_r1_2 hI
      refine sm_67 hI (show (0 : Int) ≤ s.1 1 2 ∧ s.1 1 2 ≤ (6 : Int) from by omega) (fun s24 hI6 fr5 => ?_)
      have fr8 : lf_fq [15, 16, 17, 18, 19, 21, 22, 23, 24, 63, 64, 65, 66] 1000000 true s.1 s.2.2 s24.1 s24.2.2 := lf_fq_tr (lf_fq_rf) (lf_fq_wk fr5 rfl (by decide) (by decide))
      refine sm_72 hI6 (fun s25 hI10 fr9 => ?_)
      have fr12 : lf_fq [15, 16, 17, 18, 19, 21, 22, 23, 24, 63, 64, 65, 66] 1000000 true s.1 s.2.2 s25.1 s25.2.2 := lf_fq_tr fr8 (lf_fq_wk fr9 rfl (by decide) (by decide))
      exact hX2 (x2 + 1) s25 hI10 fr12 (show (0 : Int) ≤ x2 + 1 ∧ x2 + 1 ≤ (2147483647 : Int) from by omega) (show (2147483647 - (x2 + 1)).toNat < M2 from by omega)
    · skip
      replace c3 : ¬ (s.1 15 7 < 999) := c3
      exact hQ false s hI (lf_fq_rf)
theorem sm_71_p2L {Q : Bool → lf_Z → Prop} {x1 : Int} {x2 : Int} {s : lf_Z} (hQ : ∀ (z : Bool) (s' : lf_Z), iv_A s'.1 s'.2.2 → lf_fq [15, 16, 17, 18, 19, 21, 22, 23, 24, 63, 64, 65, 66] 1000000 true s.1 s.2.2 s'.1 s'.2.2 → Q z s') (hI : iv_A s.1 s.2.2) (bx1 : (-2147483648) ≤ x1 ∧ x1 ≤ 2147483647) (bx2 : 0 ≤ x2 ∧ x2 ≤ 2147483647) : fm_71_p2L Q x1 x2 s := by
  intro X2 hX
  have key : ∀ (m9 : Nat) (x2 : Int) (s' : lf_Z), iv_A s'.1 s'.2.2 → lf_fq [15, 16, 17, 18, 19, 21, 22, 23, 24, 63, 64, 65, 66] 1000000 true s.1 s.2.2 s'.1 s'.2.2 → 0 ≤ x2 ∧ x2 ≤ 2147483647 → (2147483647 - x2).toNat < m9 → X2 x2 s' := by
    intro m9
    induction m9 with
    | zero => intro x2 s' _ _ bx2 h9; exact absurd h9 (Nat.not_lt_zero _)
    | succ m9 ih => intro x2 s' i7 f7 bx2 h9; exact hX _ _ (sm_71_p2 (fun r9 t9 i9 f9 => hQ r9 t9 i9 (lf_fq_tr f7 f9))   (fun x2' t8 i8 f8 bx2' h8 => ih x2' t8 i8 (lf_fq_tr f7 f8) bx2' (by omega)) (Nat.le_refl _)  i7  bx1 bx2  )
  exact key _ _ s hI lf_fq_rf bx2 (Nat.lt_succ_self _)
theorem sm_71 {a1 : Int} {Q : Bool → lf_Z → Prop} {s : lf_Z} (hI : iv_A s.1 s.2.2) (ba1 : (-2147483648) ≤ a1 ∧ a1 ≤ 2147483647) (hQ : ∀ (z : Bool) (s' : lf_Z), iv_A s'.1 s'.2.2 → lf_fq [15, 16, 17, 18, 19, 21, 22, 23, 24, 63, 64, 65, 66] 1000000 true s.1 s.2.2 s'.1 s'.2.2 → Q z s') : fm_71 a1 Q s := by
  unfold fm_71
  exact sm_71_p2L hQ hI (show (-2147483648 : Int) ≤ a1 ∧ a1 ≤ (2147483647 : Int) from by omega) (show (0 : Int) ≤ 0 ∧ 0 ≤ (2147483647 : Int) from by omega)
-- fm_65b Stand.sum 21
theorem sm_65b_p10 {X10 : Int → Int → lf_Z → Prop} {Q : Int → lf_Z → Prop} {x1 : Int} {x3 : Int} {x4 : Int} {s : lf_Z} (hQ : ∀ (r : Int), ((-2147483648) ≤ r ∧ r ≤ 2147483647) → Q r s) {M10 : Nat} (hX10 : ∀ (x1 : Int) (x4 : Int), (-2147483648) ≤ x1 ∧ x1 ≤ 2147483647 → 0 ≤ x4 ∧ x4 ≤ 12 → (12 - x4).toNat < M10 → X10 x1 x4 s) (hM10 : (12 - x4).toNat ≤ M10) (hI : iv_A s.1 s.2.2) (bx1 : (-2147483648) ≤ x1 ∧ x1 ≤ 2147483647) (bx3 : 12 ≤ x3 ∧ x3 ≤ 12) (bx4 : 0 ≤ x4 ∧ x4 ≤ 12) : fm_65b_p10 Q x3 X10 x1 x4 s := by
  unfold fm_65b_p10
  refine ⟨(show lf_R x4 from lf_Rof (by omega)), ?_⟩
  refine ⟨(show lf_R x3 from lf_Rof (by omega)), ?_⟩
  refine ⟨fun c1 => ?_, fun c1 => ?_⟩
  · skip
    replace c1 : x3 ≤ x4 := c1
    exact hQ x1 (show (-2147483648 : Int) ≤ x1 ∧ x1 ≤ (2147483647 : Int) from by omega)
  · skip
    replace c1 : ¬ (x3 ≤ x4) := c1
    refine ⟨(show (0 : Int) ≤ x4 ∧ x4 < (12 : Int) from by omega), ?_⟩
    have b2 : (-2147483648) ≤ s.1 21 x4 ∧ s.1 21 x4 ≤ 2147483647 := iv_full hI
    have b3 : (-2147483648) ≤ lf_w (x1 + (s.1 21 x4)) ∧ lf_w (x1 + (s.1 21 x4)) ≤ 2147483647 := lf_wB
    exact hX10 (lf_w (x1 + (s.1 21 x4))) (x4 + 1) (show (-2147483648 : Int) ≤ lf_w (x1 + (s.1 21 x4)) ∧ lf_w (x1 + (s.1 21 x4)) ≤ (2147483647 : Int) from by omega) (show (0 : Int) ≤ x4 + 1 ∧ x4 + 1 ≤ (12 : Int) from by omega) (show (12 - (x4 + 1)).toNat < M10 from by omega)
theorem sm_65b_p10L {Q : Int → lf_Z → Prop} {x1 : Int} {x3 : Int} {x4 : Int} {s : lf_Z} (hQ : ∀ (r : Int), ((-2147483648) ≤ r ∧ r ≤ 2147483647) → Q r s) (hI : iv_A s.1 s.2.2) (bx1 : (-2147483648) ≤ x1 ∧ x1 ≤ 2147483647) (bx3 : 12 ≤ x3 ∧ x3 ≤ 12) (bx4 : 0 ≤ x4 ∧ x4 ≤ 12) : fm_65b_p10L Q x1 x3 x4 s := by
  intro X10 hX
  have key : ∀ (m9 : Nat) (x1 : Int) (x4 : Int), (-2147483648) ≤ x1 ∧ x1 ≤ 2147483647 → 0 ≤ x4 ∧ x4 ≤ 12 → (12 - x4).toNat < m9 → X10 x1 x4 s := by
    intro m9
    induction m9 with
    | zero => intro x1 x4 bx1 bx4 h9; exact absurd h9 (Nat.not_lt_zero _)
    | succ m9 ih => intro x1 x4 bx1 bx4 h9; exact hX _ _ _ (sm_65b_p10 hQ   (fun x1' x4' bx1' bx4' h8 => ih x1' x4' bx1' bx4' (by omega)) (Nat.le_refl _)  hI  bx1 bx3 bx4  )
  exact key _ _ _ bx1 bx4   (Nat.lt_succ_self _)
theorem sm_65b {Q : Int → lf_Z → Prop} {s : lf_Z} (hI : iv_A s.1 s.2.2) (hQ : ∀ (r : Int), ((-2147483648) ≤ r ∧ r ≤ 2147483647) → Q r s) : fm_65b Q s := by
  unfold fm_65b
  exact sm_65b_p10L hQ hI (show (-2147483648 : Int) ≤ 0 ∧ 0 ≤ (2147483647 : Int) from by omega) (show (12 : Int) ≤ 12 ∧ 12 ≤ (12 : Int) from by omega) (show (0 : Int) ≤ 0 ∧ 0 ≤ (12 : Int) from by omega)
-- fm_97 Stand.allDone 15
theorem sm_97 {Q : Int → lf_Z → Prop} {s : lf_Z} (hI : iv_A s.1 s.2.2) (hQ : ∀ (r : Int), ((-2147483648) ≤ r ∧ r ≤ 2147483647) → Q r s) : fm_97 Q s := by
  unfold fm_97
  refine sm_65b hI (fun r22 q1 => ?_)
  exact hQ r22 (show (-2147483648 : Int) ≤ r22 ∧ r22 ≤ (2147483647 : Int) from by omega)
-- fm_70 ElevenBullocks.minute 0 i
theorem sm_70 {a1 : Int} {Q : Int → lf_Z → Prop} {s : lf_Z} (hI : iv_A s.1 s.2.2) (ba1 : (-2147483648) ≤ a1 ∧ a1 ≤ 2147483647) (hQ : ∀ (r : Int) (s' : lf_Z), iv_A s'.1 s'.2.2 → lf_fq [15, 16, 17, 18, 19, 21, 22, 23, 24, 63, 64, 65, 66] 1000000 true s.1 s.2.2 s'.1 s'.2.2 → ((-2147483648) ≤ r ∧ r ≤ 2147483647) → Q r s') : fm_70 a1 Q s := by
  unfold fm_70
  refine sm_15 hI (show (-2147483648 : Int) ≤ a1 ∧ a1 ≤ (2147483647 : Int) from by omega) (show (-1 : Int) ≤ 1 ∧ 1 ≤ (99 : Int) from by omega) (show (-2147483648 : Int) ≤ 60 ∧ 60 ≤ (2147483647 : Int) from by omega) (fun z22 q1 => ?_)
  refine ⟨fun c2 => ?_, fun c2 => ?_⟩
  · skip
    have dc2 := q1.2 c2
    exact hQ (-1) s hI (lf_fq_rf) (show (-2147483648 : Int) ≤ (-1) ∧ (-1) ≤ (2147483647 : Int) from by omega)
  · skip
    have dc2 := q1.1 c2
    have b3 : (-2147483648) ≤ s.1 15 7 ∧ s.1 15 7 ≤ 2147483647 := iv_full hI
    have b4 : (-2147483648) ≤ lf_w ((s.1 15 7) + a1) ∧ lf_w ((s.1 15 7) + a1) ≤ 2147483647 := lf_wB
    refine ⟨fun c5 => ?_, fun c5 => ?_⟩
    · skip
      replace c5 : lf_w ((s.1 15 7) + a1) ≤ 999 := c5
      refine sm_71 hI (show (-2147483648 : Int) ≤ a1 ∧ a1 ≤ (2147483647 : Int) from by omega) (fun z24 s23 hI7 fr6 => ?_)
      have fr9 : lf_fq [15, 16, 17, 18, 19, 21, 22, 23, 24, 63, 64, 65, 66] 1000000 true s.1 s.2.2 s23.1 s23.2.2 := lf_fq_tr (lf_fq_rf) (lf_fq_wk fr6 rfl (by decide) (by decide))
      refine sm_97 hI7 (fun r26 q10 => ?_)
      exact hQ r26 s23 hI7 fr9 (show (-2147483648 : Int) ≤ r26 ∧ r26 ≤ (2147483647 : Int) from by omega)
    · skip
      replace c5 : ¬ (lf_w ((s.1 15 7) + a1) ≤ 999) := c5
      exact hQ (-1) s hI (lf_fq_rf) (show (-2147483648 : Int) ≤ (-1) ∧ (-1) ≤ (2147483647 : Int) from by omega)
-- fm_255 Model.atOf 95 i
theorem sm_255 {a1 : Int} {Q : Int → lf_Z → Prop} {s : lf_Z} (hI : iv_A s.1 s.2.2) (ba1 : 0 ≤ a1 ∧ a1 ≤ 3) (hQ : ∀ (r : Int), (0 ≤ r ∧ r ≤ 11) → Q r s) : fm_255 a1 Q s := by
  unfold fm_255
  refine ⟨(show (0 : Int) ≤ (114 + (3 * a1)) + 1 ∧ (114 + (3 * a1)) + 1 < (1538 : Int) from by omega), ?_⟩
  have b1 : 0 ≤ s.1 96 ((114 + (3 * a1)) + 1) ∧ s.1 96 ((114 + (3 * a1)) + 1) ≤ 11 := iv_rd96 hI (iv_f4d82ee43 (a1) (by omega) (by omega))
  exact hQ (s.1 96 ((114 + (3 * a1)) + 1)) (show (0 : Int) ≤ s.1 96 ((114 + (3 * a1)) + 1) ∧ s.1 96 ((114 + (3 * a1)) + 1) ≤ (11 : Int) from by omega)
-- fm_278 Model.join 95
theorem sm_278_p79 {X2 : Int → lf_Z → Prop} {X11 : Int → lf_Z → Prop} {Q : lf_Z → Prop} {x1 : Int} {x2 : Int} {s : lf_Z} (hQ : ∀  (s' : lf_Z), iv_A s'.1 s'.2.2 → lf_fq [96, 1006] 114 true s.1 s.2.2 s'.1 s'.2.2 → Q  s') {M2 : Nat} (hX2 : ∀ (x1 : Int) (s' : lf_Z), iv_A s'.1 s'.2.2 → lf_fq [96, 1006] 114 true s.1 s.2.2 s'.1 s'.2.2 → 0 ≤ x1 ∧ x1 ≤ 4 → (4 - x1).toNat < M2 → X2 x1 s') (hM2 : (4 - x1).toNat ≤ M2) {M11 : Nat} (hX11 : ∀ (x2 : Int) (s' : lf_Z), iv_A s'.1 s'.2.2 → lf_fq [96, 1006] 114 true s.1 s.2.2 s'.1 s'.2.2 → 1 ≤ x2 ∧ x2 ≤ 4 → (x1 < x2) → (4 - x2).toNat < M11 → X11 x2 s') (hM11 : (4 - x2).toNat ≤ M11) (hI : iv_A s.1 s.2.2) (bx1 : 0 ≤ x1 ∧ x1 ≤ 3) (bx2 : 1 ≤ x2 ∧ x2 ≤ 3) (kv0 : x1 < x2) : fm_278_p79 X2 X11 Q x1 x2 s := by
  unfold fm_278_p79
  exact hX11 (x2 + 1) s hI (lf_fq_rf) (show (1 : Int) ≤ x2 + 1 ∧ x2 + 1 ≤ (4 : Int) from by omega) (show x1 < (x2 + 1) from by omega) (show (4 - (x2 + 1)).toNat < M11 from by omega)
theorem sm_278_p11 {X2 : Int → lf_Z → Prop} {X11 : Int → lf_Z → Prop} {Q : lf_Z → Prop} {x1 : Int} {x2 : Int} {s : lf_Z} (hQ : ∀  (s' : lf_Z), iv_A s'.1 s'.2.2 → lf_fq [96, 1006] 114 true s.1 s.2.2 s'.1 s'.2.2 → Q  s') {M2 : Nat} (hX2 : ∀ (x1 : Int) (s' : lf_Z), iv_A s'.1 s'.2.2 → lf_fq [96, 1006] 114 true s.1 s.2.2 s'.1 s'.2.2 → 0 ≤ x1 ∧ x1 ≤ 4 → (4 - x1).toNat < M2 → X2 x1 s') (hM2 : (4 - x1).toNat ≤ M2) {M11 : Nat} (hX11 : ∀ (x2 : Int) (s' : lf_Z), iv_A s'.1 s'.2.2 → lf_fq [96, 1006] 114 true s.1 s.2.2 s'.1 s'.2.2 → 1 ≤ x2 ∧ x2 ≤ 4 → (x1 < x2) → (4 - x2).toNat < M11 → X11 x2 s') (hM11 : (4 - x2).toNat ≤ M11) (hI : iv_A s.1 s.2.2) (bx1 : 0 ≤ x1 ∧ x1 ≤ 3) (bx2 : 1 ≤ x2 ∧ x2 ≤ 4) (kv0 : x1 < x2) : fm_278_p11 X2 Q x1 X11 x2 s := by
  unfold fm_278_p11
  refine ⟨(show lf_R x2 from lf_Rof (by omega)), ?_⟩
  refine ⟨fun c2 => ?_, fun c2 => ?_⟩
  · skip
    replace c2 : 4 ≤ x2 := c2
    exact hX2 (x1 + 1) s hI (lf_fq_rf) (show (0 : Int) ≤ x1 + 1 ∧ x1 + 1 ≤ (4 : Int) from by omega) (show (4 - (x1 + 1)).toNat < M2 from by omega)
  · skip
    replace c2 : ¬ (4 ≤ x2) := c2
    refine sm_242 hI (show (0 : Int) ≤ x1 ∧ x1 ≤ (3 : Int) from by omega) (fun r24 q3 => ?_)
    obtain ⟨q3, q3x⟩ := q3
    replace q3x : r24 = s.1 96 (114 + 3 * x1) := q3x
    refine ⟨(show lf_R r24 from lf_Rof (by omega)), ?_⟩
    refine ⟨fun c4 => ?_, fun c4 => ?_⟩
    · skip
      replace c4 : r24 = 0 := c4
      exact sm_278_p79 hQ hX2 (show (4 - x1).toNat ≤ M2 from by omega) hX11 (show (4 - x2).toNat ≤ M11 from by omega) hI (show (0 : Int) ≤ x1 ∧ x1 ≤ (3 : Int) from by omega) (show (1 : Int) ≤ x2 ∧ x2 ≤ (3 : Int) from by omega) (show x1 < x2 from by omega)
    · skip
      replace c4 : ¬ (r24 = 0) := c4
      refine sm_242 hI (show (0 : Int) ≤ x2 ∧ x2 ≤ (3 : Int) from by omega) (fun r27 q5 => ?_)
      obtain ⟨q5, q5x⟩ := q5
      replace q5x : r27 = s.1 96 (114 + 3 * x2) := q5x
      refine ⟨(show lf_R r27 from lf_Rof (by omega)), ?_⟩
      refine ⟨fun c6 => ?_, fun c6 => ?_⟩
      · skip
        replace c6 : r27 = 0 := c6
        exact sm_278_p79 hQ hX2 (show (4 - x1).toNat ≤ M2 from by omega) hX11 (show (4 - x2).toNat ≤ M11 from by omega) hI (show (0 : Int) ≤ x1 ∧ x1 ≤ (3 : Int) from by omega) (show (1 : Int) ≤ x2 ∧ x2 ≤ (3 : Int) from by omega) (show x1 < x2 from by omega)
      · skip
        replace c6 : ¬ (r27 = 0) := c6
        refine sm_255 hI (show (0 : Int) ≤ x1 ∧ x1 ≤ (3 : Int) from by omega) (fun r30 q7 => ?_)
        refine sm_255 hI (show (0 : Int) ≤ x2 ∧ x2 ≤ (3 : Int) from by omega) (fun r32 q8 => ?_)
        refine ⟨(show lf_R r30 from lf_Rof (by omega)), ?_⟩
        refine ⟨(show lf_R r32 from lf_Rof (by omega)), ?_⟩
        refine ⟨fun c9 => ?_, fun c9 => ?_⟩
        · skip
          replace c9 : r30 = r32 := c9
          refine ⟨(show (0 : Int) ≤ 114 + (3 * x1) ∧ 114 + (3 * x1) < (1538 : Int) from by omega), ?_⟩
          have b10 : 0 ≤ s.1 96 (114 + (3 * x1)) ∧ s.1 96 (114 + (3 * x1)) ≤ 24 := iv_rd96 hI (iv_f3318a158 (x1) (by omega) (by omega))
          refine sm_242 hI (show (0 : Int) ≤ x2 ∧ x2 ≤ (3 : Int) from by omega) (fun r37 q11 => ?_)
          obtain ⟨q11, q11x⟩ := q11
          replace q11x : r37 = s.1 96 (114 + 3 * x2) := q11x
          have fr12 : lf_fq [96, 1006] 114 true s.1 s.2.2 (lf_up s.1 96 (114 + (3 * x1)) ((s.1 96 (114 + (3 * x1))) + r37)) s.2.2 := lf_fq_up (lf_fq_rf) rfl (fun _ => ⟨by omega, fr_o (Or.inr (fr_n0 (by omega))) (Or.inr (fr_n1 (by omega))) (Or.inr (fr_n2 (by omega))) (Or.inr (fr_n3 (by omega))) (Or.inr (fr_n4 (by omega))) (Or.inr (fr_n5 (by omega))) (Or.inl rfl)⟩)
          refine ⟨(show (0 : Int) ≤ 114 + (3 * x2) ∧ 114 + (3 * x2) < (1538 : Int) from by omega), ?_⟩
          have hI13 : iv_A (lf_up (lf_up s.1 96 (114 + (3 * x1)) ((s.1 96 (114 + (3 * x1))) + r37)) 96 (114 + (3 * x2)) 0) s.2.2 := iv_jn hI (by omega) (by omega) (by omega) (by omega)
          have fr14 : lf_fq [96, 1006] 114 true s.1 s.2.2 (lf_up (lf_up s.1 96 (114 + (3 * x1)) ((s.1 96 (114 + (3 * x1))) + r37)) 96 (114 + (3 * x2)) 0) s.2.2 := lf_fq_up fr12 rfl (fun _ => ⟨by omega, fr_o (Or.inr (fr_n0 (by omega))) (Or.inr (fr_n1 (by omega))) (Or.inr (fr_n2 (by omega))) (Or.inr (fr_n3 (by omega))) (Or.inr (fr_n4 (by omega))) (Or.inr (fr_n5 (by omega))) (Or.inl rfl)⟩)
          exact sm_278_p79 (fun t9 i9 f9 => hQ t9 i9 (lf_fq_tr fr14 f9)) (fun p0 t9 i9 f9 => hX2 p0 t9 i9 (lf_fq_tr fr14 f9)) (show (4 - x1).toNat ≤ M2 from by omega) (fun p0 t9 i9 f9 => hX11 p0 t9 i9 (lf_fq_tr fr14 f9)) (show (4 - x2).toNat ≤ M11 from by omega) hI13 (show (0 : Int) ≤ x1 ∧ x1 ≤ (3 : Int) from by omega) (show (1 : Int) ≤ x2 ∧ x2 ≤ (3 : Int) from by omega) (show x1 < x2 from by omega)
        · skip
          replace c9 : ¬ (r30 = r32) := c9
          exact sm_278_p79 hQ hX2 (show (4 - x1).toNat ≤ M2 from by omega) hX11 (show (4 - x2).toNat ≤ M11 from by omega) hI (show (0 : Int) ≤ x1 ∧ x1 ≤ (3 : Int) from by omega) (show (1 : Int) ≤ x2 ∧ x2 ≤ (3 : Int) from by omega) (show x1 < x2 from by omega)
theorem sm_278_p11L {X2 : Int → lf_Z → Prop} {Q : lf_Z → Prop} {x1 : Int} {x2 : Int} {s : lf_Z} (hQ : ∀  (s' : lf_Z), iv_A s'.1 s'.2.2 → lf_fq [96, 1006] 114 true s.1 s.2.2 s'.1 s'.2.2 → Q  s') {M2 : Nat} (hX2 : ∀ (x1 : Int) (s' : lf_Z), iv_A s'.1 s'.2.2 → lf_fq [96, 1006] 114 true s.1 s.2.2 s'.1 s'.2.2 → 0 ≤ x1 ∧ x1 ≤ 4 → (4 - x1).toNat < M2 → X2 x1 s') (hM2 : (4 - x1).toNat ≤ M2) (hI : iv_A s.1 s.2.2) (bx1 : 0 ≤ x1 ∧ x1 ≤ 3) (bx2 : 1 ≤ x2 ∧ x2 ≤ 4) (kv0 : x1 < x2) : fm_278_p11L X2 Q x1 x2 s := by
  intro X11 hX
  have key : ∀ (m9 : Nat) (x2 : Int) (s' : lf_Z), iv_A s'.1 s'.2.2 → lf_fq [96, 1006] 114 true s.1 s.2.2 s'.1 s'.2.2 → 1 ≤ x2 ∧ x2 ≤ 4 → (x1 < x2) → (4 - x2).toNat < m9 → X11 x2 s' := by
    intro m9
    induction m9 with
    | zero => intro x2 s' _ _ bx2 kv0 h9; exact absurd h9 (Nat.not_lt_zero _)
    | succ m9 ih => intro x2 s' i7 f7 bx2 kv0 h9; exact hX _ _ (sm_278_p11 (fun t9 i9 f9 => hQ t9 i9 (lf_fq_tr f7 f9))  (fun p0 t9 i9 f9 => hX2 p0 t9 i9 (lf_fq_tr f7 f9)) hM2 (fun x2' t8 i8 f8 bx2' kv0' h8 => ih x2' t8 i8 (lf_fq_tr f7 f8) bx2' kv0' (by omega)) (Nat.le_refl _)  i7  bx1 bx2  kv0)
  exact key _ _ s hI lf_fq_rf bx2 kv0 (Nat.lt_succ_self _)
theorem sm_278_p2 {X2 : Int → lf_Z → Prop} {Q : lf_Z → Prop} {x1 : Int} {s : lf_Z} (hQ : ∀  (s' : lf_Z), iv_A s'.1 s'.2.2 → lf_fq [96, 1006] 114 true s.1 s.2.2 s'.1 s'.2.2 → Q  s') {M2 : Nat} (hX2 : ∀ (x1 : Int) (s' : lf_Z), iv_A s'.1 s'.2.2 → lf_fq [96, 1006] 114 true s.1 s.2.2 s'.1 s'.2.2 → 0 ≤ x1 ∧ x1 ≤ 4 → (4 - x1).toNat < M2 → X2 x1 s') (hM2 : (4 - x1).toNat ≤ M2) (hI : iv_A s.1 s.2.2) (bx1 : 0 ≤ x1 ∧ x1 ≤ 4) : fm_278_p2 Q X2 x1 s := by
  unfold fm_278_p2
  refine ⟨(show lf_R x1 from lf_Rof (by omega)), ?_⟩
  refine ⟨fun c1 => ?_, fun c1 => ?_⟩
  · skip
    replace c1 : 4 ≤ x1 := c1
    exact hQ s hI (lf_fq_rf)
  · skip
    replace c1 : ¬ (4 ≤ x1) := c1
    exact sm_278_p11L hQ hX2 (show (4 - x1).toNat ≤ M2 from by omega) hI (show (0 : Int) ≤ x1 ∧ x1 ≤ (3 : Int) from by omega) (show (1 : Int) ≤ x1 + 1 ∧ x1 + 1 ≤ (4 : Int) from by omega) (show x1 < (x1 + 1) from by omega)
theorem sm_278_p2L {Q : lf_Z → Prop} {x1 : Int} {s : lf_Z} (hQ : ∀  (s' : lf_Z), iv_A s'.1 s'.2.2 → lf_fq [96, 1006] 114 true s.1 s.2.2 s'.1 s'.2.2 → Q  s') (hI : iv_A s.1 s.2.2) (bx1 : 0 ≤ x1 ∧ x1 ≤ 4) : fm_278_p2L Q x1 s := by
  intro X2 hX
  have key : ∀ (m9 : Nat) (x1 : Int) (s' : lf_Z), iv_A s'.1 s'.2.2 → lf_fq [96, 1006] 114 true s.1 s.2.2 s'.1 s'.2.2 → 0 ≤ x1 ∧ x1 ≤ 4 → (4 - x1).toNat < m9 → X2 x1 s' := by
    intro m9
    induction m9 with
    | zero => intro x1 s' _ _ bx1 h9; exact absurd h9 (Nat.not_lt_zero _)
    | succ m9 ih => intro x1 s' i7 f7 bx1 h9; exact hX _ _ (sm_278_p2 (fun t9 i9 f9 => hQ t9 i9 (lf_fq_tr f7 f9))   (fun x1' t8 i8 f8 bx1' h8 => ih x1' t8 i8 (lf_fq_tr f7 f8) bx1' (by omega)) (Nat.le_refl _)  i7  bx1  )
  exact key _ _ s hI lf_fq_rf bx1 (Nat.lt_succ_self _)
theorem sm_278 {Q : lf_Z → Prop} {s : lf_Z} (hI : iv_A s.1 s.2.2) (hQ : ∀  (s' : lf_Z), iv_A s'.1 s'.2.2 → lf_fq [96, 1006] 114 true s.1 s.2.2 s'.1 s'.2.2 → Q  s') : fm_278 Q s := by
  unfold fm_278
  exact sm_278_p2L hQ hI (show (0 : Int) ≤ 0 ∧ 0 ≤ (4 : Int) from by omega)
-- fm_277 Model.harmOf 95 i
theorem sm_277 {a1 : Int} {Q : Int → lf_Z → Prop} {s : lf_Z} (hI : iv_A s.1 s.2.2) (ba1 : 0 ≤ a1 ∧ a1 ≤ 11) (hQ : ∀ (r : Int), (0 ≤ r ∧ r ≤ 99) → Q r s) : fm_277 a1 Q s := by
  unfold fm_277
  refine ⟨(show (0 : Int) ≤ (14 + (3 * a1)) + 1 ∧ (14 + (3 * a1)) + 1 < (1538 : Int) from by omega), ?_⟩
  have b1 : 0 ≤ s.1 96 ((14 + (3 * a1)) + 1) ∧ s.1 96 ((14 + (3 * a1)) + 1) ≤ 99 := iv_rd96 hI (iv_fc43a0ff9 (a1) (by omega) (by omega))
  exact hQ (s.1 96 ((14 + (3 * a1)) + 1)) (show (0 : Int) ≤ s.1 96 ((14 + (3 * a1)) + 1) ∧ s.1 96 ((14 + (3 * a1)) + 1) ≤ (99 : Int) from by omega)
-- fm_265 Model.kindOf 95 i
theorem sm_265 {a1 : Int} {Q : Int → lf_Z → Prop} {s : lf_Z} (hI : iv_A s.1 s.2.2) (ba1 : 0 ≤ a1 ∧ a1 ≤ 11) (hQ : ∀ (r : Int), (0 ≤ r ∧ r ≤ 3) → Q r s) : fm_265 a1 Q s := by
  unfold fm_265
  refine ⟨(show (0 : Int) ≤ 14 + (3 * a1) ∧ 14 + (3 * a1) < (1538 : Int) from by omega), ?_⟩
  have b1 : 0 ≤ s.1 96 (14 + (3 * a1)) ∧ s.1 96 (14 + (3 * a1)) ≤ 3 := iv_rd96 hI (iv_f6fd1d1ad (a1) (by omega) (by omega))
  exact hQ (s.1 96 (14 + (3 * a1))) (show (0 : Int) ≤ s.1 96 (14 + (3 * a1)) ∧ s.1 96 (14 + (3 * a1)) ≤ (3 : Int) from by omega)
-- fm_266 Model.peopleAt 95 i
theorem sm_266_p45 {X19 : Int → Int → lf_Z → Prop} {Q : Int → lf_Z → Prop} {x1 : Int} {x3 : Int} {y0 : Int} {y1 : Int} {s : lf_Z} (hQ : ∀ (r : Int), ((-2147483648) ≤ r ∧ r ≤ 2147483647) → Q r s) {M19 : Nat} (hX19 : ∀ (x2 : Int) (x3 : Int), (-2147483648) ≤ x2 ∧ x2 ≤ 2147483647 → 0 ≤ x3 ∧ x3 ≤ 6 → (6 - x3).toNat < M19 → X19 x2 x3 s) (hM19 : (6 - x3).toNat ≤ M19) (hI : iv_A s.1 s.2.2) (bx1 : (-1) ≤ x1 ∧ x1 ≤ 11) (bx3 : 0 ≤ x3 ∧ x3 ≤ 5) (by0 : (-2147483648) ≤ y0 ∧ y0 ≤ 2147483647) (by1 : 0 ≤ y1 ∧ y1 ≤ 1) : fm_266_p45 X19 Q x1 x3 y0 y1 s := by
  unfold fm_266_p45
  have b9 : (-2147483648) ≤ lf_w (y0 + y1) ∧ lf_w (y0 + y1) ≤ 2147483647 := lf_wB
  exact hX19 (lf_w (y0 + y1)) (x3 + 1) (show (-2147483648 : Int) ≤ lf_w (y0 + y1) ∧ lf_w (y0 + y1) ≤ (2147483647 : Int) from by omega) (show (0 : Int) ≤ x3 + 1 ∧ x3 + 1 ≤ (6 : Int) from by omega) (show (6 - (x3 + 1)).toNat < M19 from by omega)
theorem sm_266_p19 {X19 : Int → Int → lf_Z → Prop} {Q : Int → lf_Z → Prop} {x1 : Int} {x2 : Int} {x3 : Int} {s : lf_Z} (hQ : ∀ (r : Int), ((-2147483648) ≤ r ∧ r ≤ 2147483647) → Q r s) {M19 : Nat} (hX19 : ∀ (x2 : Int) (x3 : Int), (-2147483648) ≤ x2 ∧ x2 ≤ 2147483647 → 0 ≤ x3 ∧ x3 ≤ 6 → (6 - x3).toNat < M19 → X19 x2 x3 s) (hM19 : (6 - x3).toNat ≤ M19) (hI : iv_A s.1 s.2.2) (bx1 : (-1) ≤ x1 ∧ x1 ≤ 11) (bx2 : (-2147483648) ≤ x2 ∧ x2 ≤ 2147483647) (bx3 : 0 ≤ x3 ∧ x3 ≤ 6) : fm_266_p19 Q x1 X19 x2 x3 s := by
  unfold fm_266_p19
  have b4 : 0 ≤ s.1 96 2 ∧ s.1 96 2 ≤ 6 := iv_rd96 hI (iv_f2103129b (by omega))
  have b5 : s.1 96 2 ≤ 0 ∨ 0 < s.1 96 0 := (show s.1 96 2 ≤ 0 ∨ 0 < s.1 96 0 from iv_l96_2 hI)
  refine ⟨(show lf_R x3 from lf_Rof (by omega)), ?_⟩
  refine ⟨(show lf_R (s.1 96 2) from lf_Rof (by omega)), ?_⟩
  refine ⟨fun c6 => ?_, fun c6 => ?_⟩
  · skip
    replace c6 : s.1 96 2 ≤ x3 := c6
    exact hQ x2 (show (-2147483648 : Int) ≤ x2 ∧ x2 ≤ (2147483647 : Int) from by omega)
  · skip
    replace c6 : ¬ (s.1 96 2 ≤ x3) := c6
    refine sm_239 hI (show (0 : Int) ≤ x3 ∧ x3 ≤ (5 : Int) from by omega) (fun r26 q7 => ?_)
    obtain ⟨q7, q7x⟩ := q7
    replace q7x : r26 = s.1 96 (126 + 6 * x3 + 3) := q7x
    refine ⟨(show lf_R r26 from lf_Rof (by omega)), ?_⟩
    refine ⟨(show lf_R x1 from lf_Rof (by omega)), ?_⟩
    refine ⟨fun c8 => ?_, fun c8 => ?_⟩
    · skip
      replace c8 : r26 ≠ x1 := c8
      exact sm_266_p45 hQ hX19 (show (6 - x3).toNat ≤ M19 from by omega) hI (show (-1 : Int) ≤ x1 ∧ x1 ≤ (11 : Int) from by omega) (show (0 : Int) ≤ x3 ∧ x3 ≤ (5 : Int) from by omega) (show (-2147483648 : Int) ≤ x2 ∧ x2 ≤ (2147483647 : Int) from by omega) (show (0 : Int) ≤ 0 ∧ 0 ≤ (1 : Int) from by omega)
    · skip
      replace c8 : ¬ (r26 ≠ x1) := c8
      exact sm_266_p45 hQ hX19 (show (6 - x3).toNat ≤ M19 from by omega) hI (show (-1 : Int) ≤ x1 ∧ x1 ≤ (11 : Int) from by omega) (show (0 : Int) ≤ x3 ∧ x3 ≤ (5 : Int) from by omega) (show (-2147483648 : Int) ≤ x2 ∧ x2 ≤ (2147483647 : Int) from by omega) (show (0 : Int) ≤ 1 ∧ 1 ≤ (1 : Int) from by omega)
theorem sm_266_p19L {Q : Int → lf_Z → Prop} {x1 : Int} {x2 : Int} {x3 : Int} {s : lf_Z} (hQ : ∀ (r : Int), ((-2147483648) ≤ r ∧ r ≤ 2147483647) → Q r s) (hI : iv_A s.1 s.2.2) (bx1 : (-1) ≤ x1 ∧ x1 ≤ 11) (bx2 : (-2147483648) ≤ x2 ∧ x2 ≤ 2147483647) (bx3 : 0 ≤ x3 ∧ x3 ≤ 6) : fm_266_p19L Q x1 x2 x3 s := by
  intro X19 hX
  have key : ∀ (m9 : Nat) (x2 : Int) (x3 : Int), (-2147483648) ≤ x2 ∧ x2 ≤ 2147483647 → 0 ≤ x3 ∧ x3 ≤ 6 → (6 - x3).toNat < m9 → X19 x2 x3 s := by
    intro m9
    induction m9 with
    | zero => intro x2 x3 bx2 bx3 h9; exact absurd h9 (Nat.not_lt_zero _)
    | succ m9 ih => intro x2 x3 bx2 bx3 h9; exact hX _ _ _ (sm_266_p19 hQ   (fun x2' x3' bx2' bx3' h8 => ih x2' x3' bx2' bx3' (by omega)) (Nat.le_refl _)  hI  bx1 bx2 bx3  )
  exact key _ _ _ bx2 bx3   (Nat.lt_succ_self _)
theorem sm_266_p16 {Q : Int → lf_Z → Prop} {x1 : Int} {y0 : Int} {s : lf_Z} (hQ : ∀ (r : Int), ((-2147483648) ≤ r ∧ r ≤ 2147483647) → Q r s) (hI : iv_A s.1 s.2.2) (bx1 : (-1) ≤ x1 ∧ x1 ≤ 11) (by0 : 0 ≤ y0 ∧ y0 ≤ 1) : fm_266_p16 Q x1 y0 s := by
  unfold fm_266_p16
  exact sm_266_p19L hQ hI (show (-1 : Int) ≤ x1 ∧ x1 ≤ (11 : Int) from by omega) (show (-2147483648 : Int) ≤ y0 ∧ y0 ≤ (2147483647 : Int) from by omega) (show (0 : Int) ≤ 0 ∧ 0 ≤ (6 : Int) from by omega)
theorem sm_266 {a1 : Int} {Q : Int → lf_Z → Prop} {s : lf_Z} (hI : iv_A s.1 s.2.2) (ba1 : (-1) ≤ a1 ∧ a1 ≤ 11) (hQ : ∀ (r : Int), ((-2147483648) ≤ r ∧ r ≤ 2147483647) → Q r s) : fm_266 a1 Q s := by
  unfold fm_266
  have b1 : (-2147483648) ≤ s.1 95 29 ∧ s.1 95 29 ≤ 2147483647 := iv_full hI
  refine sm_210 hI (show (-2147483648 : Int) ≤ s.1 95 29 ∧ s.1 95 29 ≤ (2147483647 : Int) from by omega) (show (-1 : Int) ≤ a1 ∧ a1 ≤ (15 : Int) from by omega) (fun z22 q2 => ?_)
  refine ⟨fun c3 => ?_, fun c3 => ?_⟩
  · skip
    have dc3 := q2.2 c3
    exact sm_266_p16 hQ hI (show (-1 : Int) ≤ a1 ∧ a1 ≤ (11 : Int) from by omega) (show (0 : Int) ≤ 0 ∧ 0 ≤ (1 : Int) from by omega)
  · skip
    have dc3 := q2.1 c3
    exact sm_266_p16 hQ hI (show (-1 : Int) ≤ a1 ∧ a1 ≤ (11 : Int) from by omega) (show (0 : Int) ≤ 1 ∧ 1 ≤ (1 : Int) from by omega)
-- fm_264 Model.name 95 i i
theorem sm_264 {a1 : Int} {a2 : Int} {Q : lf_Z → Prop} {s : lf_Z} (hI : iv_A s.1 s.2.2) (ba1 : 0 ≤ a1 ∧ a1 ≤ 24) (ba2 : 0 ≤ a2 ∧ a2 ≤ 11) (hQ : ∀  (s' : lf_Z), iv_A s'.1 s'.2.2 → lf_fq [104] 1000000 true s.1 s.2.2 s'.1 s'.2.2 → Q  s') : fm_264 a1 a2 Q s := by
  unfold fm_264
  have hI1 : iv_A (lf_up s.1 104 0 a1) s.2.2 := iv_w104 hI (by omega)
  have fr2 : lf_fq [104] 1000000 true s.1 s.2.2 (lf_up s.1 104 0 a1) s.2.2 := lf_fq_up (lf_fq_rf) rfl (fun h => absurd h (by decide))
  have hI3 : iv_A (lf_up (lf_up s.1 104 0 a1) 104 1 a2) s.2.2 := iv_w104 hI1 (by omega)
  have fr4 : lf_fq [104] 1000000 true s.1 s.2.2 (lf_up (lf_up s.1 104 0 a1) 104 1 a2) s.2.2 := lf_fq_up fr2 rfl (fun h => absurd h (by decide))
  refine sm_265 hI3 (show (0 : Int) ≤ a2 ∧ a2 ≤ (11 : Int) from by omega) (fun r22 q5 => ?_)
  have hI6 : iv_A (lf_up (lf_up (lf_up s.1 104 0 a1) 104 1 a2) 104 2 r22) s.2.2 := iv_w104 hI3 (by omega)
  have fr7 : lf_fq [104] 1000000 true s.1 s.2.2 (lf_up (lf_up (lf_up s.1 104 0 a1) 104 1 a2) 104 2 r22) s.2.2 := lf_fq_up fr4 rfl (fun h => absurd h (by decide))
  refine sm_266 hI6 (show (-1 : Int) ≤ a2 ∧ a2 ≤ (11 : Int) from by omega) (fun r24 q8 => ?_)
  have hI9 : iv_A (lf_up (lf_up (lf_up (lf_up s.1 104 0 a1) 104 1 a2) 104 2 r22) 104 3 r24) s.2.2 := iv_w104 hI6 (by omega)
  have fr10 : lf_fq [104] 1000000 true s.1 s.2.2 (lf_up (lf_up (lf_up (lf_up s.1 104 0 a1) 104 1 a2) 104 2 r22) 104 3 r24) s.2.2 := lf_fq_up fr7 rfl (fun h => absurd h (by decide))
  exact hQ (lf_up (lf_up (lf_up (lf_up s.1 104 0 a1) 104 1 a2) 104 2 r22) 104 3 r24, s.2.1, s.2.2) hI9 fr10
-- fm_256 Model.cameOf 95 i
theorem sm_256 {a1 : Int} {Q : Int → lf_Z → Prop} {s : lf_Z} (hI : iv_A s.1 s.2.2) (ba1 : 0 ≤ a1 ∧ a1 ≤ 3) (hQ : ∀ (r : Int), ((-1) ≤ r ∧ r ≤ 11) → Q r s) : fm_256 a1 Q s := by
  unfold fm_256
  refine ⟨(show (0 : Int) ≤ (114 + (3 * a1)) + 2 ∧ (114 + (3 * a1)) + 2 < (1538 : Int) from by omega), ?_⟩
  have b1 : (-1) ≤ s.1 96 ((114 + (3 * a1)) + 2) ∧ s.1 96 ((114 + (3 * a1)) + 2) ≤ 11 := iv_rd96 hI (iv_fb3fd00de (a1) (by omega) (by omega))
  exact hQ (s.1 96 ((114 + (3 * a1)) + 2)) (show (-1 : Int) ≤ s.1 96 ((114 + (3 * a1)) + 2) ∧ s.1 96 ((114 + (3 * a1)) + 2) ≤ (11 : Int) from by omega)
-- fm_271 Model.isAsked i l l
theorem sm_271 {a0 : Int} {a1 : Int} {a2 : Int} {Q : Bool → lf_Z → Prop} {s : lf_Z} (hI : iv_A s.1 s.2.2) (ba0 : 10 ≤ a0 ∧ a0 ≤ 19) (hQ : ∀ (z : Bool), Q z s) : fm_271 a0 a1 a2 Q s := by
  unfold fm_271
  refine ⟨(show lf_R a0 from lf_Rof (by omega)), ?_⟩
  refine ⟨fun c1 => ?_, fun c1 => ?_⟩
  · skip
    replace c1 : a0 ≠ 10 := c1
    refine ⟨fun c2 => ?_, fun c2 => ?_⟩
    · skip
      replace c2 : a0 ≠ 11 := c2
      refine ⟨fun c3 => ?_, fun c3 => ?_⟩
      · skip
        replace c3 : a0 ≠ 12 := c3
        refine ⟨fun c4 => ?_, fun c4 => ?_⟩
        · skip
          replace c4 : a0 ≠ 13 := c4
          refine ⟨fun c5 => ?_, fun c5 => ?_⟩
          · skip
            replace c5 : a0 ≠ 14 := c5
            refine ⟨fun c6 => ?_, fun c6 => ?_⟩
            · replace c6 : lf_wl a1 = lf_wl a2 := c6
              exact hQ false
            · replace c6 : ¬ (lf_wl a1 = lf_wl a2) := c6
              exact hQ true
          · skip
            replace c5 : ¬ (a0 ≠ 14) := c5
            refine ⟨fun c7 => ?_, fun c7 => ?_⟩
            · replace c7 : lf_wl a1 ≠ lf_wl a2 := c7
              exact hQ false
            · replace c7 : ¬ (lf_wl a1 ≠ lf_wl a2) := c7
              exact hQ true
        · skip
          replace c4 : ¬ (a0 ≠ 13) := c4
          refine ⟨fun c8 => ?_, fun c8 => ?_⟩
          · replace c8 : lf_wl a1 < lf_wl a2 := c8
            exact hQ false
          · replace c8 : ¬ (lf_wl a1 < lf_wl a2) := c8
            exact hQ true
      · skip
        replace c3 : ¬ (a0 ≠ 12) := c3
        refine ⟨fun c9 => ?_, fun c9 => ?_⟩
        · replace c9 : lf_wl a1 ≤ lf_wl a2 := c9
          exact hQ false
        · replace c9 : ¬ (lf_wl a1 ≤ lf_wl a2) := c9
          exact hQ true
    · skip
      replace c2 : ¬ (a0 ≠ 11) := c2
      refine ⟨fun c10 => ?_, fun c10 => ?_⟩
      · replace c10 : lf_wl a2 < lf_wl a1 := c10
        exact hQ false
      · replace c10 : ¬ (lf_wl a2 < lf_wl a1) := c10
        exact hQ true
  · skip
    replace c1 : ¬ (a0 ≠ 10) := c1
    refine ⟨fun c11 => ?_, fun c11 => ?_⟩
    · replace c11 : lf_wl a2 ≤ lf_wl a1 := c11
      exact hQ false
    · replace c11 : ¬ (lf_wl a2 ≤ lf_wl a1) := c11
      exact hQ true
-- fm_270 Model.clip l
theorem sm_270 {a0 : Int} {Q : Int → lf_Z → Prop} {s : lf_Z} (hI : iv_A s.1 s.2.2) (hQ : ∀ (r : Int), Q r s) : fm_270 a0 Q s := by
  unfold fm_270
  refine ⟨fun c1 => ?_, fun c1 => ?_⟩
  · replace c1 : lf_wl a0 ≤ 1000000 := c1
    refine ⟨fun c2 => ?_, fun c2 => ?_⟩
    · replace c2 : (-1000000) ≤ lf_wl a0 := c2
      exact hQ (lf_wl a0)
    · replace c2 : ¬ ((-1000000) ≤ lf_wl a0) := c2
      exact hQ (-1000000)
  · replace c1 : ¬ (lf_wl a0 ≤ 1000000) := c1
    exact hQ 1000000
-- fm_269 Model.two i l l
theorem sm_269 {a0 : Int} {a1 : Int} {a2 : Int} {Q : Int → lf_Z → Prop} {s : lf_Z} (hI : iv_A s.1 s.2.2) (ba0 : 4 ≤ a0 ∧ a0 ≤ 9) (hQ : ∀ (r : Int), Q r s) : fm_269 a0 a1 a2 Q s := by
  unfold fm_269
  refine ⟨(show lf_R a0 from lf_Rof (by omega)), ?_⟩
  refine ⟨fun c1 => ?_, fun c1 => ?_, fun c1 => ?_, fun c1 => ?_⟩
  · replace c1 : a0 < 4 ∨ 6 < a0 := c1
    refine ⟨fun c2 => ?_, fun c2 => ?_⟩
    · replace c2 : lf_wl a2 ≠ 0 := c2
      refine ⟨(show (lf_wl a2) ≠ 0 from by omega), ?_⟩
      refine sm_270 hI (fun r24 => ?_)
      exact hQ (lf_wl r24)
    · replace c2 : ¬ (lf_wl a2 ≠ 0) := c2
      exact hQ 0
  · replace c1 : a0 = 4 := c1
    refine sm_270 hI (fun r26 => ?_)
    exact hQ (lf_wl r26)
  · replace c1 : a0 = 5 := c1
    refine sm_270 hI (fun r28 => ?_)
    exact hQ (lf_wl r28)
  · replace c1 : a0 = 6 := c1
    refine sm_270 hI (fun r30 => ?_)
    exact hQ (lf_wl r30)
-- fm_268 Model.worked 95 i i
theorem sm_268_p437 {X38 : Int → Int → Int → lf_Z → Prop} {Q : Int → lf_Z → Prop} {x3 : Int} {x4 : Int} {x5 : Int} {x6 : Int} {x7 : Int} {s : lf_Z} (hQ : ∀ (r : Int) (s' : lf_Z), iv_A s'.1 s'.2.2 → lf_fq [107] 1000000 true s.1 s.2.2 s'.1 s'.2.2 → ((-2147483648) ≤ r ∧ r ≤ 2147483647) → Q r s') {M38 : Nat} (hX38 : ∀ (x5 : Int) (x6 : Int) (x7 : Int) (s' : lf_Z), iv_A s'.1 s'.2.2 → lf_fq [107] 1000000 true s.1 s.2.2 s'.1 s'.2.2 → 0 ≤ x5 ∧ x5 ≤ 304 → 0 ≤ x6 ∧ x6 ≤ 304 → 0 ≤ x7 ∧ x7 ≤ 304 → (wk_O (s'.1 98) (x3) (x4)) → (0 ≤ s'.1 98 (x3 + 1) ∧ s'.1 98 (x3 + 1) ≤ x7 ∧ s'.1 98 (x3 + 2) ≤ 304 ∧ 0 ≤ x5 ∧ 0 ≤ x6 ∧ x5 ≤ x7 ∧ x6 ≤ x7 ∧ x7 ≤ s'.1 98 (x3 + 2)) → (x5 = wkN (s'.1 98) (x4) (s'.1 98 (x3 + 1)) (x7) ∧ x6 = wkT (s'.1 98) (x4) (s'.1 98 (x3 + 1)) (x7)) → (304 - x7).toNat < M38 → X38 x5 x6 x7 s') (hM38 : (304 - x7).toNat ≤ M38) (hI : iv_A s.1 s.2.2) (bx3 : 1 ≤ x3 ∧ x3 ≤ 2208) (bx4 : 97 ≤ x4 ∧ x4 ≤ 2212) (bx5 : 0 ≤ x5 ∧ x5 ≤ 304) (bx6 : 0 ≤ x6 ∧ x6 ≤ 304) (bx7 : 0 ≤ x7 ∧ x7 ≤ 303) (kv0 : wk_O (s.1 98) (x3) (x4)) (kv1 : 0 ≤ s.1 98 (x3 + 1) ∧ s.1 98 (x3 + 1) ≤ x7 ∧ s.1 98 (x3 + 2) ≤ 304 ∧ 0 ≤ x5 ∧ 0 ≤ x6 ∧ x7 < s.1 98 (x3 + 2)) (kv2 : x5 ≤ x7 + 1 ∧ x6 ≤ x7 + 1) (kv3 : x5 = wkN (s.1 98) (x4) (s.1 98 (x3 + 1)) (x7 + 1) ∧ x6 = wkT (s.1 98) (x4) (s.1 98 (x3 + 1)) (x7 + 1)) : fm_268_p437 X38 Q x3 x4 x5 x6 x7 s := by
  unfold fm_268_p437
  have b13 : wkN ((s.1 98)) (x4) ((s.1 98) (x3 + 1)) ((s.1 98) (x3 + 1)) = 0 ∧ wkT ((s.1 98)) (x4) ((s.1 98) (x3 + 1)) ((s.1 98) (x3 + 1)) = 0 := ⟨wkN_0, wkT_0⟩
  exact hX38 (x5) (x6) (x7 + 1) s hI (lf_fq_rf) (show (0 : Int) ≤ x5 ∧ x5 ≤ (304 : Int) from by omega) (show (0 : Int) ≤ x6 ∧ x6 ≤ (304 : Int) from by omega) (show (0 : Int) ≤ x7 + 1 ∧ x7 + 1 ≤ (304 : Int) from by omega) (show wk_O ((s.1 98)) (x3) (x4) from by first | with_reducible assumption | assumption) (show 0 ≤ (s.1 98) (x3 + 1) ∧ (s.1 98) (x3 + 1) ≤ (x7 + 1) ∧ (s.1 98) (x3 + 2) ≤ 304 ∧ 0 ≤ x5 ∧ 0 ≤ x6 ∧ x5 ≤ (x7 + 1) ∧ x6 ≤ (x7 + 1) ∧ (x7 + 1) ≤ (s.1 98) (x3 + 2) from by omega) (show x5 = wkN ((s.1 98)) (x4) ((s.1 98) (x3 + 1)) ((x7 + 1)) ∧ x6 = wkT ((s.1 98)) (x4) ((s.1 98) (x3 + 1)) ((x7 + 1)) from by omega) (show (304 - (x7 + 1)).toNat < M38 from by omega)
theorem sm_268_p135 {X38 : Int → Int → Int → lf_Z → Prop} {Q : Int → lf_Z → Prop} {x3 : Int} {x4 : Int} {x5 : Int} {x6 : Int} {x7 : Int} {y1 : Int} {y2 : Int} {s : lf_Z} (hQ : ∀ (r : Int) (s' : lf_Z), iv_A s'.1 s'.2.2 → lf_fq [107] 1000000 true s.1 s.2.2 s'.1 s'.2.2 → ((-2147483648) ≤ r ∧ r ≤ 2147483647) → Q r s') {M38 : Nat} (hX38 : ∀ (x5 : Int) (x6 : Int) (x7 : Int) (s' : lf_Z), iv_A s'.1 s'.2.2 → lf_fq [107] 1000000 true s.1 s.2.2 s'.1 s'.2.2 → 0 ≤ x5 ∧ x5 ≤ 304 → 0 ≤ x6 ∧ x6 ≤ 304 → 0 ≤ x7 ∧ x7 ≤ 304 → (wk_O (s'.1 98) (x3) (x4)) → (0 ≤ s'.1 98 (x3 + 1) ∧ s'.1 98 (x3 + 1) ≤ x7 ∧ s'.1 98 (x3 + 2) ≤ 304 ∧ 0 ≤ x5 ∧ 0 ≤ x6 ∧ x5 ≤ x7 ∧ x6 ≤ x7 ∧ x7 ≤ s'.1 98 (x3 + 2)) → (x5 = wkN (s'.1 98) (x4) (s'.1 98 (x3 + 1)) (x7) ∧ x6 = wkT (s'.1 98) (x4) (s'.1 98 (x3 + 1)) (x7)) → (304 - x7).toNat < M38 → X38 x5 x6 x7 s') (hM38 : (304 - x7).toNat ≤ M38) (hI : iv_A s.1 s.2.2) (bx3 : 1 ≤ x3 ∧ x3 ≤ 2208) (bx4 : 97 ≤ x4 ∧ x4 ≤ 2212) (bx5 : 0 ≤ x5 ∧ x5 ≤ 304) (bx6 : 0 ≤ x6 ∧ x6 ≤ 304) (bx7 : 0 ≤ x7 ∧ x7 ≤ 303) (by1 : 0 ≤ y1 ∧ y1 ≤ 304) (kv0 : wk_O (s.1 98) (x3) (x4)) (kv1 : 0 ≤ s.1 98 (x3 + 1) ∧ s.1 98 (x3 + 1) ≤ x7 ∧ s.1 98 (x3 + 2) ≤ 304 ∧ 0 ≤ x5 ∧ 0 ≤ x6 ∧ x7 < s.1 98 (x3 + 2)) (kv2 : x5 ≤ x7 ∧ x6 ≤ x7 ∧ y1 = x5) (kv3 : x5 + 1 = wkN (s.1 98) (x4) (s.1 98 (x3 + 1)) (x7 + 1) ∧ x6 = wkT (s.1 98) (x4) (s.1 98 (x3 + 1)) (x7 + 1)) : fm_268_p135 X38 Q x3 x4 x5 x6 x7 y1 y2 s := by
  unfold fm_268_p135
  refine ⟨(show (0 : Int) ≤ y1 ∧ y1 < (330 : Int) from by omega), ?_⟩
  exact sm_268_p437 hQ hX38 (show (304 - x7).toNat ≤ M38 from by omega) hI (show (1 : Int) ≤ x3 ∧ x3 ≤ (2208 : Int) from by omega) (show (97 : Int) ≤ x4 ∧ x4 ≤ (2212 : Int) from by omega) (show (0 : Int) ≤ x5 + 1 ∧ x5 + 1 ≤ (304 : Int) from by omega) (show (0 : Int) ≤ x6 ∧ x6 ≤ (304 : Int) from by omega) (show (0 : Int) ≤ x7 ∧ x7 ≤ (303 : Int) from by omega) (show wk_O ((s.1 98)) (x3) (x4) from by first | with_reducible assumption | assumption) (show 0 ≤ (s.1 98) (x3 + 1) ∧ (s.1 98) (x3 + 1) ≤ x7 ∧ (s.1 98) (x3 + 2) ≤ 304 ∧ 0 ≤ (x5 + 1) ∧ 0 ≤ x6 ∧ x7 < (s.1 98) (x3 + 2) from by omega) (show (x5 + 1) ≤ x7 + 1 ∧ x6 ≤ x7 + 1 from by omega) (show (x5 + 1) = wkN ((s.1 98)) (x4) ((s.1 98) (x3 + 1)) (x7 + 1) ∧ x6 = wkT ((s.1 98)) (x4) ((s.1 98) (x3 + 1)) (x7 + 1) from by omega)
theorem sm_268_p94 {X38 : Int → Int → Int → lf_Z → Prop} {Q : Int → lf_Z → Prop} {x3 : Int} {x4 : Int} {x5 : Int} {x6 : Int} {x7 : Int} {x8 : Int} {x9 : Int} {s : lf_Z} (hQ : ∀ (r : Int) (s' : lf_Z), iv_A s'.1 s'.2.2 → lf_fq [107] 1000000 true s.1 s.2.2 s'.1 s'.2.2 → ((-2147483648) ≤ r ∧ r ≤ 2147483647) → Q r s') {M38 : Nat} (hX38 : ∀ (x5 : Int) (x6 : Int) (x7 : Int) (s' : lf_Z), iv_A s'.1 s'.2.2 → lf_fq [107] 1000000 true s.1 s.2.2 s'.1 s'.2.2 → 0 ≤ x5 ∧ x5 ≤ 304 → 0 ≤ x6 ∧ x6 ≤ 304 → 0 ≤ x7 ∧ x7 ≤ 304 → (wk_O (s'.1 98) (x3) (x4)) → (0 ≤ s'.1 98 (x3 + 1) ∧ s'.1 98 (x3 + 1) ≤ x7 ∧ s'.1 98 (x3 + 2) ≤ 304 ∧ 0 ≤ x5 ∧ 0 ≤ x6 ∧ x5 ≤ x7 ∧ x6 ≤ x7 ∧ x7 ≤ s'.1 98 (x3 + 2)) → (x5 = wkN (s'.1 98) (x4) (s'.1 98 (x3 + 1)) (x7) ∧ x6 = wkT (s'.1 98) (x4) (s'.1 98 (x3 + 1)) (x7)) → (304 - x7).toNat < M38 → X38 x5 x6 x7 s') (hM38 : (304 - x7).toNat ≤ M38) (hI : iv_A s.1 s.2.2) (bx3 : 1 ≤ x3 ∧ x3 ≤ 2208) (bx4 : 97 ≤ x4 ∧ x4 ≤ 2212) (bx5 : 0 ≤ x5 ∧ x5 ≤ 304) (bx6 : 0 ≤ x6 ∧ x6 ≤ 304) (bx7 : 0 ≤ x7 ∧ x7 ≤ 303) (bx8 : (-2147483648) ≤ x8 ∧ x8 ≤ 31) (bx9 : (-2147483648) ≤ x9 ∧ x9 ≤ 2147483647) (kv0 : wk_O (s.1 98) (x3) (x4)) (kv1 : 0 ≤ s.1 98 (x3 + 1) ∧ s.1 98 (x3 + 1) ≤ x7 ∧ s.1 98 (x3 + 2) ≤ 304 ∧ 0 ≤ x5 ∧ 0 ≤ x6 ∧ x7 < s.1 98 (x3 + 2)) (kv2 : x5 ≤ x7 ∧ x6 ≤ x7) (kv3 : x5 + 1 = wkN (s.1 98) (x4) (s.1 98 (x3 + 1)) (x7 + 1) ∧ x6 = wkT (s.1 98) (x4) (s.1 98 (x3 + 1)) (x7 + 1)) (kv4 : x8 = 0 ∨ (x8 = 1 ∧ 0 ≤ x9 ∧ x9 < 11) ∨ (x8 ≠ 1 ∧ 0 ≤ x9 ∧ x9 < 80)) : fm_268_p94 X38 Q x3 x4 x5 x6 x7 x8 x9 s := by
  unfold fm_268_p94
  refine ⟨(show lf_R x8 from lf_Rof (by omega)), ?_⟩
  refine ⟨fun c11 => ?_, fun c11 => ?_⟩
  · skip
    replace c11 : x8 ≠ 0 := c11
    refine ⟨fun c12 => ?_, fun c12 => ?_⟩
    · skip
      replace c12 : x8 ≠ 1 := c12
      refine ⟨(show (0 : Int) ≤ x9 ∧ x9 < (80 : Int) from by omega), ?_⟩
      exact sm_268_p135 hQ hX38 (show (304 - x7).toNat ≤ M38 from by omega) hI (show (1 : Int) ≤ x3 ∧ x3 ≤ (2208 : Int) from by omega) (show (97 : Int) ≤ x4 ∧ x4 ≤ (2212 : Int) from by omega) (show (0 : Int) ≤ x5 ∧ x5 ≤ (304 : Int) from by omega) (show (0 : Int) ≤ x6 ∧ x6 ≤ (304 : Int) from by omega) (show (0 : Int) ≤ x7 ∧ x7 ≤ (303 : Int) from by omega) (show (0 : Int) ≤ x5 ∧ x5 ≤ (304 : Int) from by omega) (show wk_O ((s.1 98)) (x3) (x4) from by first | with_reducible assumption | assumption) (show 0 ≤ (s.1 98) (x3 + 1) ∧ (s.1 98) (x3 + 1) ≤ x7 ∧ (s.1 98) (x3 + 2) ≤ 304 ∧ 0 ≤ x5 ∧ 0 ≤ x6 ∧ x7 < (s.1 98) (x3 + 2) from by omega) (show x5 ≤ x7 ∧ x6 ≤ x7 ∧ x5 = x5 from by omega) (show x5 + 1 = wkN ((s.1 98)) (x4) ((s.1 98) (x3 + 1)) (x7 + 1) ∧ x6 = wkT ((s.1 98)) (x4) ((s.1 98) (x3 + 1)) (x7 + 1) from by omega)
    · skip
      replace c12 : ¬ (x8 ≠ 1) := c12
      refine ⟨(show (0 : Int) ≤ x9 ∧ x9 < (11 : Int) from by omega), ?_⟩
      have b14 : (-2147483648) ≤ s.1 104 x9 ∧ s.1 104 x9 ≤ 2147483647 := iv_full hI
      refine ⟨(show lf_R (s.1 104 x9) from lf_Rof (by omega)), ?_⟩
      exact sm_268_p135 hQ hX38 (show (304 - x7).toNat ≤ M38 from by omega) hI (show (1 : Int) ≤ x3 ∧ x3 ≤ (2208 : Int) from by omega) (show (97 : Int) ≤ x4 ∧ x4 ≤ (2212 : Int) from by omega) (show (0 : Int) ≤ x5 ∧ x5 ≤ (304 : Int) from by omega) (show (0 : Int) ≤ x6 ∧ x6 ≤ (304 : Int) from by omega) (show (0 : Int) ≤ x7 ∧ x7 ≤ (303 : Int) from by omega) (show (0 : Int) ≤ x5 ∧ x5 ≤ (304 : Int) from by omega) (show wk_O ((s.1 98)) (x3) (x4) from by first | with_reducible assumption | assumption) (show 0 ≤ (s.1 98) (x3 + 1) ∧ (s.1 98) (x3 + 1) ≤ x7 ∧ (s.1 98) (x3 + 2) ≤ 304 ∧ 0 ≤ x5 ∧ 0 ≤ x6 ∧ x7 < (s.1 98) (x3 + 2) from by omega) (show x5 ≤ x7 ∧ x6 ≤ x7 ∧ x5 = x5 from by omega) (show x5 + 1 = wkN ((s.1 98)) (x4) ((s.1 98) (x3 + 1)) (x7 + 1) ∧ x6 = wkT ((s.1 98)) (x4) ((s.1 98) (x3 + 1)) (x7 + 1) from by omega)
  · skip
    replace c11 : ¬ (x8 ≠ 0) := c11
    refine ⟨(show lf_R x9 from lf_Rof (by omega)), ?_⟩
    exact sm_268_p135 hQ hX38 (show (304 - x7).toNat ≤ M38 from by omega) hI (show (1 : Int) ≤ x3 ∧ x3 ≤ (2208 : Int) from by omega) (show (97 : Int) ≤ x4 ∧ x4 ≤ (2212 : Int) from by omega) (show (0 : Int) ≤ x5 ∧ x5 ≤ (304 : Int) from by omega) (show (0 : Int) ≤ x6 ∧ x6 ≤ (304 : Int) from by omega) (show (0 : Int) ≤ x7 ∧ x7 ≤ (303 : Int) from by omega) (show (0 : Int) ≤ x5 ∧ x5 ≤ (304 : Int) from by omega) (show wk_O ((s.1 98)) (x3) (x4) from by first | with_reducible assumption | assumption) (show 0 ≤ (s.1 98) (x3 + 1) ∧ (s.1 98) (x3 + 1) ≤ x7 ∧ (s.1 98) (x3 + 2) ≤ 304 ∧ 0 ≤ x5 ∧ 0 ≤ x6 ∧ x7 < (s.1 98) (x3 + 2) from by omega) (show x5 ≤ x7 ∧ x6 ≤ x7 ∧ x5 = x5 from by omega) (show x5 + 1 = wkN ((s.1 98)) (x4) ((s.1 98) (x3 + 1)) (x7 + 1) ∧ x6 = wkT ((s.1 98)) (x4) ((s.1 98) (x3 + 1)) (x7 + 1) from by omega)
theorem sm_268_p436 {X38 : Int → Int → Int → lf_Z → Prop} {Q : Int → lf_Z → Prop} {x3 : Int} {x4 : Int} {x5 : Int} {x6 : Int} {x7 : Int} {y1 : Int} {y2 : Int} {s : lf_Z} (hQ : ∀ (r : Int) (s' : lf_Z), iv_A s'.1 s'.2.2 → lf_fq [107] 1000000 true s.1 s.2.2 s'.1 s'.2.2 → ((-2147483648) ≤ r ∧ r ≤ 2147483647) → Q r s') {M38 : Nat} (hX38 : ∀ (x5 : Int) (x6 : Int) (x7 : Int) (s' : lf_Z), iv_A s'.1 s'.2.2 → lf_fq [107] 1000000 true s.1 s.2.2 s'.1 s'.2.2 → 0 ≤ x5 ∧ x5 ≤ 304 → 0 ≤ x6 ∧ x6 ≤ 304 → 0 ≤ x7 ∧ x7 ≤ 304 → (wk_O (s'.1 98) (x3) (x4)) → (0 ≤ s'.1 98 (x3 + 1) ∧ s'.1 98 (x3 + 1) ≤ x7 ∧ s'.1 98 (x3 + 2) ≤ 304 ∧ 0 ≤ x5 ∧ 0 ≤ x6 ∧ x5 ≤ x7 ∧ x6 ≤ x7 ∧ x7 ≤ s'.1 98 (x3 + 2)) → (x5 = wkN (s'.1 98) (x4) (s'.1 98 (x3 + 1)) (x7) ∧ x6 = wkT (s'.1 98) (x4) (s'.1 98 (x3 + 1)) (x7)) → (304 - x7).toNat < M38 → X38 x5 x6 x7 s') (hM38 : (304 - x7).toNat ≤ M38) (hI : iv_A s.1 s.2.2) (bx3 : 1 ≤ x3 ∧ x3 ≤ 2208) (bx4 : 97 ≤ x4 ∧ x4 ≤ 2212) (bx5 : 0 ≤ x5 ∧ x5 ≤ 304) (bx6 : 0 ≤ x6 ∧ x6 ≤ 304) (bx7 : 0 ≤ x7 ∧ x7 ≤ 303) (by1 : (-2) ≤ y1 ∧ y1 ≤ 302) (by2 : 0 ≤ y2 ∧ y2 ≤ 1) (kv0 : wk_O (s.1 98) (x3) (x4)) (kv1 : 0 ≤ s.1 98 (x3 + 1) ∧ s.1 98 (x3 + 1) ≤ x7 ∧ s.1 98 (x3 + 2) ≤ 304 ∧ 0 ≤ x5 ∧ 0 ≤ x6 ∧ x7 < s.1 98 (x3 + 2)) (kv2 : x5 ≤ x7 + 1 ∧ x6 ≤ x7 + 1) (kv3 : x5 = wkN (s.1 98) (x4) (s.1 98 (x3 + 1)) (x7 + 1) ∧ x6 = wkT (s.1 98) (x4) (s.1 98 (x3 + 1)) (x7 + 1)) (kv4 : y1 = x6 - 1 ∧ 1 ≤ x6) : fm_268_p436 X38 Q x3 x4 x5 x6 x7 y1 y2 s := by
  unfold fm_268_p436
  refine ⟨(show (0 : Int) ≤ y1 ∧ y1 < (330 : Int) from by omega), ?_⟩
  refine ⟨(show y2 = 0 ∨ y2 = 1 from by omega), ?_⟩
  have hI26 : iv_A (lf_up s.1 107 y1 y2) s.2.2 := iv_w107 hI (by omega)
  have fr27 : lf_fq [107] 1000000 true s.1 s.2.2 (lf_up s.1 107 y1 y2) s.2.2 := lf_fq_up (lf_fq_rf) rfl (fun h => absurd h (by decide))
  exact sm_268_p437 (fun r9 t9 i9 f9 => hQ r9 t9 i9 (lf_fq_tr fr27 f9)) (fun p0 p1 p2 t9 i9 f9 => hX38 p0 p1 p2 t9 i9 (lf_fq_tr fr27 f9)) (show (304 - x7).toNat ≤ M38 from by omega) hI26 (show (1 : Int) ≤ x3 ∧ x3 ≤ (2208 : Int) from by omega) (show (97 : Int) ≤ x4 ∧ x4 ≤ (2212 : Int) from by omega) (show (0 : Int) ≤ x5 ∧ x5 ≤ (304 : Int) from by omega) (show (0 : Int) ≤ x6 ∧ x6 ≤ (304 : Int) from by omega) (show (0 : Int) ≤ x7 ∧ x7 ≤ (303 : Int) from by omega) (show wk_O ((s.1 98)) (x3) (x4) from by first | with_reducible assumption | assumption) (show 0 ≤ (s.1 98) (x3 + 1) ∧ (s.1 98) (x3 + 1) ≤ x7 ∧ (s.1 98) (x3 + 2) ≤ 304 ∧ 0 ≤ x5 ∧ 0 ≤ x6 ∧ x7 < (s.1 98) (x3 + 2) from by omega) (show x5 ≤ x7 + 1 ∧ x6 ≤ x7 + 1 from by omega) (show x5 = wkN ((s.1 98)) (x4) ((s.1 98) (x3 + 1)) (x7 + 1) ∧ x6 = wkT ((s.1 98)) (x4) ((s.1 98) (x3 + 1)) (x7 + 1) from by omega)
theorem sm_268_p431 {X38 : Int → Int → Int → lf_Z → Prop} {Q : Int → lf_Z → Prop} {x3 : Int} {x4 : Int} {x5 : Int} {x6 : Int} {x7 : Int} {y1 : Int} {s : lf_Z} (hQ : ∀ (r : Int) (s' : lf_Z), iv_A s'.1 s'.2.2 → lf_fq [107] 1000000 true s.1 s.2.2 s'.1 s'.2.2 → ((-2147483648) ≤ r ∧ r ≤ 2147483647) → Q r s') {M38 : Nat} (hX38 : ∀ (x5 : Int) (x6 : Int) (x7 : Int) (s' : lf_Z), iv_A s'.1 s'.2.2 → lf_fq [107] 1000000 true s.1 s.2.2 s'.1 s'.2.2 → 0 ≤ x5 ∧ x5 ≤ 304 → 0 ≤ x6 ∧ x6 ≤ 304 → 0 ≤ x7 ∧ x7 ≤ 304 → (wk_O (s'.1 98) (x3) (x4)) → (0 ≤ s'.1 98 (x3 + 1) ∧ s'.1 98 (x3 + 1) ≤ x7 ∧ s'.1 98 (x3 + 2) ≤ 304 ∧ 0 ≤ x5 ∧ 0 ≤ x6 ∧ x5 ≤ x7 ∧ x6 ≤ x7 ∧ x7 ≤ s'.1 98 (x3 + 2)) → (x5 = wkN (s'.1 98) (x4) (s'.1 98 (x3 + 1)) (x7) ∧ x6 = wkT (s'.1 98) (x4) (s'.1 98 (x3 + 1)) (x7)) → (304 - x7).toNat < M38 → X38 x5 x6 x7 s') (hM38 : (304 - x7).toNat ≤ M38) (hI : iv_A s.1 s.2.2) (bx3 : 1 ≤ x3 ∧ x3 ≤ 2208) (bx4 : 97 ≤ x4 ∧ x4 ≤ 2212) (bx5 : 0 ≤ x5 ∧ x5 ≤ 304) (bx6 : 0 ≤ x6 ∧ x6 ≤ 304) (bx7 : 0 ≤ x7 ∧ x7 ≤ 303) (by1 : (-2) ≤ y1 ∧ y1 ≤ 302) (kv0 : wk_O (s.1 98) (x3) (x4)) (kv1 : 0 ≤ s.1 98 (x3 + 1) ∧ s.1 98 (x3 + 1) ≤ x7 ∧ s.1 98 (x3 + 2) ≤ 304 ∧ 0 ≤ x5 ∧ 0 ≤ x6 ∧ x7 < s.1 98 (x3 + 2)) (kv2 : x5 ≤ x7 + 1 ∧ x6 ≤ x7 + 1) (kv3 : x5 = wkN (s.1 98) (x4) (s.1 98 (x3 + 1)) (x7 + 1) ∧ x6 = wkT (s.1 98) (x4) (s.1 98 (x3 + 1)) (x7 + 1)) (kv4 : y1 = x6 - 1 ∧ 1 ≤ x6) : fm_268_p431 X38 Q x3 x4 x5 x6 x7 y1 s := by
  unfold fm_268_p431
  exact sm_268_p436 hQ hX38 (show (304 - x7).toNat ≤ M38 from by omega) hI (show (1 : Int) ≤ x3 ∧ x3 ≤ (2208 : Int) from by omega) (show (97 : Int) ≤ x4 ∧ x4 ≤ (2212 : Int) from by omega) (show (0 : Int) ≤ x5 ∧ x5 ≤ (304 : Int) from by omega) (show (0 : Int) ≤ x6 ∧ x6 ≤ (304 : Int) from by omega) (show (0 : Int) ≤ x7 ∧ x7 ≤ (303 : Int) from by omega) (show (-2 : Int) ≤ y1 ∧ y1 ≤ (302 : Int) from by omega) (show (0 : Int) ≤ 1 ∧ 1 ≤ (1 : Int) from by omega) (show wk_O ((s.1 98)) (x3) (x4) from by first | with_reducible assumption | assumption) (show 0 ≤ (s.1 98) (x3 + 1) ∧ (s.1 98) (x3 + 1) ≤ x7 ∧ (s.1 98) (x3 + 2) ≤ 304 ∧ 0 ≤ x5 ∧ 0 ≤ x6 ∧ x7 < (s.1 98) (x3 + 2) from by omega) (show x5 ≤ x7 + 1 ∧ x6 ≤ x7 + 1 from by omega) (show x5 = wkN ((s.1 98)) (x4) ((s.1 98) (x3 + 1)) (x7 + 1) ∧ x6 = wkT ((s.1 98)) (x4) ((s.1 98) (x3 + 1)) (x7 + 1) from by omega) (show y1 = x6 - 1 ∧ 1 ≤ x6 from by omega)
theorem sm_268_p405 {X38 : Int → Int → Int → lf_Z → Prop} {Q : Int → lf_Z → Prop} {x3 : Int} {x4 : Int} {x5 : Int} {x6 : Int} {x7 : Int} {y1 : Int} {s : lf_Z} (hQ : ∀ (r : Int) (s' : lf_Z), iv_A s'.1 s'.2.2 → lf_fq [107] 1000000 true s.1 s.2.2 s'.1 s'.2.2 → ((-2147483648) ≤ r ∧ r ≤ 2147483647) → Q r s') {M38 : Nat} (hX38 : ∀ (x5 : Int) (x6 : Int) (x7 : Int) (s' : lf_Z), iv_A s'.1 s'.2.2 → lf_fq [107] 1000000 true s.1 s.2.2 s'.1 s'.2.2 → 0 ≤ x5 ∧ x5 ≤ 304 → 0 ≤ x6 ∧ x6 ≤ 304 → 0 ≤ x7 ∧ x7 ≤ 304 → (wk_O (s'.1 98) (x3) (x4)) → (0 ≤ s'.1 98 (x3 + 1) ∧ s'.1 98 (x3 + 1) ≤ x7 ∧ s'.1 98 (x3 + 2) ≤ 304 ∧ 0 ≤ x5 ∧ 0 ≤ x6 ∧ x5 ≤ x7 ∧ x6 ≤ x7 ∧ x7 ≤ s'.1 98 (x3 + 2)) → (x5 = wkN (s'.1 98) (x4) (s'.1 98 (x3 + 1)) (x7) ∧ x6 = wkT (s'.1 98) (x4) (s'.1 98 (x3 + 1)) (x7)) → (304 - x7).toNat < M38 → X38 x5 x6 x7 s') (hM38 : (304 - x7).toNat ≤ M38) (hI : iv_A s.1 s.2.2) (bx3 : 1 ≤ x3 ∧ x3 ≤ 2208) (bx4 : 97 ≤ x4 ∧ x4 ≤ 2212) (bx5 : 0 ≤ x5 ∧ x5 ≤ 304) (bx6 : 0 ≤ x6 ∧ x6 ≤ 304) (bx7 : 0 ≤ x7 ∧ x7 ≤ 303) (by1 : (-2) ≤ y1 ∧ y1 ≤ 302) (kv0 : wk_O (s.1 98) (x3) (x4)) (kv1 : 0 ≤ s.1 98 (x3 + 1) ∧ s.1 98 (x3 + 1) ≤ x7 ∧ s.1 98 (x3 + 2) ≤ 304 ∧ 0 ≤ x5 ∧ 0 ≤ x6 ∧ x7 < s.1 98 (x3 + 2)) (kv2 : x5 ≤ x7 + 1 ∧ x6 ≤ x7 + 1) (kv3 : x5 = wkN (s.1 98) (x4) (s.1 98 (x3 + 1)) (x7 + 1) ∧ x6 = wkT (s.1 98) (x4) (s.1 98 (x3 + 1)) (x7 + 1)) (kv4 : y1 = x6 - 1 ∧ 1 ≤ x6) : fm_268_p405 X38 Q x3 x4 x5 x6 x7 y1 s := by
  unfold fm_268_p405
  exact sm_268_p436 hQ hX38 (show (304 - x7).toNat ≤ M38 from by omega) hI (show (1 : Int) ≤ x3 ∧ x3 ≤ (2208 : Int) from by omega) (show (97 : Int) ≤ x4 ∧ x4 ≤ (2212 : Int) from by omega) (show (0 : Int) ≤ x5 ∧ x5 ≤ (304 : Int) from by omega) (show (0 : Int) ≤ x6 ∧ x6 ≤ (304 : Int) from by omega) (show (0 : Int) ≤ x7 ∧ x7 ≤ (303 : Int) from by omega) (show (-2 : Int) ≤ y1 ∧ y1 ≤ (302 : Int) from by omega) (show (0 : Int) ≤ 0 ∧ 0 ≤ (1 : Int) from by omega) (show wk_O ((s.1 98)) (x3) (x4) from by first | with_reducible assumption | assumption) (show 0 ≤ (s.1 98) (x3 + 1) ∧ (s.1 98) (x3 + 1) ≤ x7 ∧ (s.1 98) (x3 + 2) ≤ 304 ∧ 0 ≤ x5 ∧ 0 ≤ x6 ∧ x7 < (s.1 98) (x3 + 2) from by omega) (show x5 ≤ x7 + 1 ∧ x6 ≤ x7 + 1 from by omega) (show x5 = wkN ((s.1 98)) (x4) ((s.1 98) (x3 + 1)) (x7 + 1) ∧ x6 = wkT ((s.1 98)) (x4) ((s.1 98) (x3 + 1)) (x7 + 1) from by omega) (show y1 = x6 - 1 ∧ 1 ≤ x6 from by omega)
theorem sm_268_p357 {X38 : Int → Int → Int → lf_Z → Prop} {Q : Int → lf_Z → Prop} {x3 : Int} {x4 : Int} {x5 : Int} {x6 : Int} {x7 : Int} {y1 : Int} {y2 : Int} {s : lf_Z} (hQ : ∀ (r : Int) (s' : lf_Z), iv_A s'.1 s'.2.2 → lf_fq [107] 1000000 true s.1 s.2.2 s'.1 s'.2.2 → ((-2147483648) ≤ r ∧ r ≤ 2147483647) → Q r s') {M38 : Nat} (hX38 : ∀ (x5 : Int) (x6 : Int) (x7 : Int) (s' : lf_Z), iv_A s'.1 s'.2.2 → lf_fq [107] 1000000 true s.1 s.2.2 s'.1 s'.2.2 → 0 ≤ x5 ∧ x5 ≤ 304 → 0 ≤ x6 ∧ x6 ≤ 304 → 0 ≤ x7 ∧ x7 ≤ 304 → (wk_O (s'.1 98) (x3) (x4)) → (0 ≤ s'.1 98 (x3 + 1) ∧ s'.1 98 (x3 + 1) ≤ x7 ∧ s'.1 98 (x3 + 2) ≤ 304 ∧ 0 ≤ x5 ∧ 0 ≤ x6 ∧ x5 ≤ x7 ∧ x6 ≤ x7 ∧ x7 ≤ s'.1 98 (x3 + 2)) → (x5 = wkN (s'.1 98) (x4) (s'.1 98 (x3 + 1)) (x7) ∧ x6 = wkT (s'.1 98) (x4) (s'.1 98 (x3 + 1)) (x7)) → (304 - x7).toNat < M38 → X38 x5 x6 x7 s') (hM38 : (304 - x7).toNat ≤ M38) (hI : iv_A s.1 s.2.2) (bx3 : 1 ≤ x3 ∧ x3 ≤ 2208) (bx4 : 97 ≤ x4 ∧ x4 ≤ 2212) (bx5 : 0 ≤ x5 ∧ x5 ≤ 304) (bx6 : 0 ≤ x6 ∧ x6 ≤ 304) (bx7 : 0 ≤ x7 ∧ x7 ≤ 303) (by1 : (-1) ≤ y1 ∧ y1 ≤ 303) (by2 : 0 ≤ y2 ∧ y2 ≤ 1) (kv0 : wk_O (s.1 98) (x3) (x4)) (kv1 : 0 ≤ s.1 98 (x3 + 1) ∧ s.1 98 (x3 + 1) ≤ x7 ∧ s.1 98 (x3 + 2) ≤ 304 ∧ 0 ≤ x5 ∧ 0 ≤ x6 ∧ x7 < s.1 98 (x3 + 2)) (kv2 : x5 ≤ x7 + 1 ∧ x6 ≤ x7 + 1) (kv3 : x5 = wkN (s.1 98) (x4) (s.1 98 (x3 + 1)) (x7 + 1) ∧ x6 = wkT (s.1 98) (x4) (s.1 98 (x3 + 1)) (x7 + 1)) (kv4 : y1 = x6 - 1 ∧ 1 ≤ x6) : fm_268_p357 X38 Q x3 x4 x5 x6 x7 y1 y2 s := by
  unfold fm_268_p357
  refine ⟨(show (0 : Int) ≤ y1 ∧ y1 < (330 : Int) from by omega), ?_⟩
  refine ⟨(show y2 = 0 ∨ y2 = 1 from by omega), ?_⟩
  have hI37 : iv_A (lf_up s.1 107 y1 y2) s.2.2 := iv_w107 hI (by omega)
  have fr38 : lf_fq [107] 1000000 true s.1 s.2.2 (lf_up s.1 107 y1 y2) s.2.2 := lf_fq_up (lf_fq_rf) rfl (fun h => absurd h (by decide))
  exact sm_268_p437 (fun r9 t9 i9 f9 => hQ r9 t9 i9 (lf_fq_tr fr38 f9)) (fun p0 p1 p2 t9 i9 f9 => hX38 p0 p1 p2 t9 i9 (lf_fq_tr fr38 f9)) (show (304 - x7).toNat ≤ M38 from by omega) hI37 (show (1 : Int) ≤ x3 ∧ x3 ≤ (2208 : Int) from by omega) (show (97 : Int) ≤ x4 ∧ x4 ≤ (2212 : Int) from by omega) (show (0 : Int) ≤ x5 ∧ x5 ≤ (304 : Int) from by omega) (show (0 : Int) ≤ x6 ∧ x6 ≤ (304 : Int) from by omega) (show (0 : Int) ≤ x7 ∧ x7 ≤ (303 : Int) from by omega) (show wk_O ((s.1 98)) (x3) (x4) from by first | with_reducible assumption | assumption) (show 0 ≤ (s.1 98) (x3 + 1) ∧ (s.1 98) (x3 + 1) ≤ x7 ∧ (s.1 98) (x3 + 2) ≤ 304 ∧ 0 ≤ x5 ∧ 0 ≤ x6 ∧ x7 < (s.1 98) (x3 + 2) from by omega) (show x5 ≤ x7 + 1 ∧ x6 ≤ x7 + 1 from by omega) (show x5 = wkN ((s.1 98)) (x4) ((s.1 98) (x3 + 1)) (x7 + 1) ∧ x6 = wkT ((s.1 98)) (x4) ((s.1 98) (x3 + 1)) (x7 + 1) from by omega)
theorem sm_268_p38 {X38 : Int → Int → Int → lf_Z → Prop} {Q : Int → lf_Z → Prop} {x3 : Int} {x4 : Int} {x5 : Int} {x6 : Int} {x7 : Int} {s : lf_Z} (hQ : ∀ (r : Int) (s' : lf_Z), iv_A s'.1 s'.2.2 → lf_fq [107] 1000000 true s.1 s.2.2 s'.1 s'.2.2 → ((-2147483648) ≤ r ∧ r ≤ 2147483647) → Q r s') {M38 : Nat} (hX38 : ∀ (x5 : Int) (x6 : Int) (x7 : Int) (s' : lf_Z), iv_A s'.1 s'.2.2 → lf_fq [107] 1000000 true s.1 s.2.2 s'.1 s'.2.2 → 0 ≤ x5 ∧ x5 ≤ 304 → 0 ≤ x6 ∧ x6 ≤ 304 → 0 ≤ x7 ∧ x7 ≤ 304 → (wk_O (s'.1 98) (x3) (x4)) → (0 ≤ s'.1 98 (x3 + 1) ∧ s'.1 98 (x3 + 1) ≤ x7 ∧ s'.1 98 (x3 + 2) ≤ 304 ∧ 0 ≤ x5 ∧ 0 ≤ x6 ∧ x5 ≤ x7 ∧ x6 ≤ x7 ∧ x7 ≤ s'.1 98 (x3 + 2)) → (x5 = wkN (s'.1 98) (x4) (s'.1 98 (x3 + 1)) (x7) ∧ x6 = wkT (s'.1 98) (x4) (s'.1 98 (x3 + 1)) (x7)) → (304 - x7).toNat < M38 → X38 x5 x6 x7 s') (hM38 : (304 - x7).toNat ≤ M38) (hI : iv_A s.1 s.2.2) (bx3 : 1 ≤ x3 ∧ x3 ≤ 2208) (bx4 : 97 ≤ x4 ∧ x4 ≤ 2212) (bx5 : 0 ≤ x5 ∧ x5 ≤ 304) (bx6 : 0 ≤ x6 ∧ x6 ≤ 304) (bx7 : 0 ≤ x7 ∧ x7 ≤ 304) (kv0 : wk_O (s.1 98) (x3) (x4)) (kv1 : 0 ≤ s.1 98 (x3 + 1) ∧ s.1 98 (x3 + 1) ≤ x7 ∧ s.1 98 (x3 + 2) ≤ 304 ∧ 0 ≤ x5 ∧ 0 ≤ x6 ∧ x5 ≤ x7 ∧ x6 ≤ x7 ∧ x7 ≤ s.1 98 (x3 + 2)) (kv2 : x5 = wkN (s.1 98) (x4) (s.1 98 (x3 + 1)) (x7) ∧ x6 = wkT (s.1 98) (x4) (s.1 98 (x3 + 1)) (x7)) : fm_268_p38 Q x3 x4 X38 x5 x6 x7 s := by
  unfold fm_268_p38
  refine ⟨(show (0 : Int) ≤ x3 + 2 ∧ x3 + 2 < (2820 : Int) from by omega), ?_⟩
  have b4 : (-2147483648) ≤ s.1 98 (x3 + 2) ∧ s.1 98 (x3 + 2) ≤ 2147483647 := iv_full hI
  refine ⟨(show lf_R x7 from lf_Rof (by omega)), ?_⟩
  refine ⟨(show lf_R (s.1 98 (x3 + 2)) from lf_Rof (by omega)), ?_⟩
  refine ⟨fun c5 => ?_, fun c5 => ?_⟩
  · skip
    replace c5 : s.1 98 (x3 + 2) ≤ x7 := c5
    have b6 : (-2147483648) ≤ lf_w (lf_wl (s.2.1 106 0)) ∧ lf_w (lf_wl (s.2.1 106 0)) ≤ 2147483647 := lf_wB
    exact hQ (lf_w (lf_wl (s.2.1 106 0))) s hI (lf_fq_rf) (show (-2147483648 : Int) ≤ lf_w (lf_wl (s.2.1 106 0)) ∧ lf_w (lf_wl (s.2.1 106 0)) ≤ (2147483647 : Int) from by omega)
  · skip
    replace c5 : ¬ (s.1 98 (x3 + 2) ≤ x7) := c5
    refine ⟨(show (0 : Int) ≤ x4 + (2 * x7) ∧ x4 + (2 * x7) < (2820 : Int) from by omega), ?_⟩
    have b7 : (-2147483648) ≤ s.1 98 (x4 + (2 * x7)) ∧ s.1 98 (x4 + (2 * x7)) ≤ 2147483647 := iv_full hI
    refine ⟨(show (0 : Int) ≤ (x4 + (2 * x7)) + 1 ∧ (x4 + (2 * x7)) + 1 < (2820 : Int) from by omega), ?_⟩
    have b8 : (-2147483648) ≤ s.1 98 ((x4 + (2 * x7)) + 1) ∧ s.1 98 ((x4 + (2 * x7)) + 1) ≤ 2147483647 := iv_full hI
    refine ⟨(show lf_R (s.1 98 (x4 + (2 * x7))) from lf_Rof (by omega)), ?_⟩
    refine ⟨fun c9 => ?_, fun c9 => ?_⟩
    · skip
      replace c9 : s.1 98 (x4 + (2 * x7)) ≤ 1 := c9
      have b10 : (((s.1 98 (x4 + (2 * x7))) = 0 ∨ ((s.1 98 (x4 + (2 * x7))) = 1 ∧ 0 ≤ (s.1 98 ((x4 + (2 * x7)) + 1)) ∧ (s.1 98 ((x4 + (2 * x7)) + 1)) < 11) ∨ ((s.1 98 (x4 + (2 * x7))) ≠ 1 ∧ 0 ≤ (s.1 98 ((x4 + (2 * x7)) + 1)) ∧ (s.1 98 ((x4 + (2 * x7)) + 1)) < 80))) ∧ wkN ((s.1 98)) (x4) ((s.1 98) (x3 + 1)) (x7 + 1) = wkN ((s.1 98)) (x4) ((s.1 98) (x3 + 1)) (x7) + 1 ∧ wkT ((s.1 98)) (x4) ((s.1 98) (x3 + 1)) (x7 + 1) = wkT ((s.1 98)) (x4) ((s.1 98) (x3 + 1)) (x7) + 0 := wk_sv kv0 (by omega) (by omega) (by omega)
      exact sm_268_p94 hQ hX38 (show (304 - x7).toNat ≤ M38 from by omega) hI (show (1 : Int) ≤ x3 ∧ x3 ≤ (2208 : Int) from by omega) (show (97 : Int) ≤ x4 ∧ x4 ≤ (2212 : Int) from by omega) (show (0 : Int) ≤ x5 ∧ x5 ≤ (304 : Int) from by omega) (show (0 : Int) ≤ x6 ∧ x6 ≤ (304 : Int) from by omega) (show (0 : Int) ≤ x7 ∧ x7 ≤ (303 : Int) from by omega) (show (-2147483648 : Int) ≤ s.1 98 (x4 + (2 * x7)) ∧ s.1 98 (x4 + (2 * x7)) ≤ (31 : Int) from by omega) (show (-2147483648 : Int) ≤ s.1 98 ((x4 + (2 * x7)) + 1) ∧ s.1 98 ((x4 + (2 * x7)) + 1) ≤ (2147483647 : Int) from by omega) (show wk_O ((s.1 98)) (x3) (x4) from by first | with_reducible assumption | assumption) (show 0 ≤ (s.1 98) (x3 + 1) ∧ (s.1 98) (x3 + 1) ≤ x7 ∧ (s.1 98) (x3 + 2) ≤ 304 ∧ 0 ≤ x5 ∧ 0 ≤ x6 ∧ x7 < (s.1 98) (x3 + 2) from by omega) (show x5 ≤ x7 ∧ x6 ≤ x7 from by omega) (show x5 + 1 = wkN ((s.1 98)) (x4) ((s.1 98) (x3 + 1)) (x7 + 1) ∧ x6 = wkT ((s.1 98)) (x4) ((s.1 98) (x3 + 1)) (x7 + 1) from by omega) (show (s.1 98 (x4 + (2 * x7))) = 0 ∨ ((s.1 98 (x4 + (2 * x7))) = 1 ∧ 0 ≤ (s.1 98 ((x4 + (2 * x7)) + 1)) ∧ (s.1 98 ((x4 + (2 * x7)) + 1)) < 11) ∨ ((s.1 98 (x4 + (2 * x7))) ≠ 1 ∧ 0 ≤ (s.1 98 ((x4 + (2 * x7)) + 1)) ∧ (s.1 98 ((x4 + (2 * x7)) + 1)) < 80) from by omega)
    · skip
      replace c9 : ¬ (s.1 98 (x4 + (2 * x7)) ≤ 1) := c9
      refine ⟨fun c15 => ?_, fun c15 => ?_⟩
      · skip
        replace c15 : s.1 98 (x4 + (2 * x7)) ≠ 31 := c15
        refine ⟨fun c16 => ?_, fun c16 => ?_⟩
        · skip
          replace c16 : s.1 98 (x4 + (2 * x7)) ≠ 2 := c16
          refine ⟨fun c17 => ?_, fun c17 => ?_⟩
          · skip
            replace c17 : s.1 98 (x4 + (2 * x7)) ≠ 30 := c17
            refine ⟨fun c18 => ?_, fun c18 => ?_⟩
            · skip
              replace c18 : s.1 98 (x4 + (2 * x7)) ≠ 3 := c18
              refine ⟨fun c19 => ?_, fun c19 => ?_⟩
              · skip
                replace c19 : 10 ≤ s.1 98 (x4 + (2 * x7)) := c19
                refine ⟨fun c20 => ?_, fun c20 => ?_⟩
                · skip
                  replace c20 : 20 ≤ s.1 98 (x4 + (2 * x7)) := c20
                  refine ⟨fun c21 => ?_, fun c21 => ?_⟩
                  · skip
                    replace c21 : s.1 98 (x4 + (2 * x7)) ≠ 20 := c21
                    have b22 : (2 ≤ wkT ((s.1 98)) (x4) ((s.1 98) (x3 + 1)) (x7)) ∧ wkN ((s.1 98)) (x4) ((s.1 98) (x3 + 1)) (x7 + 1) = wkN ((s.1 98)) (x4) ((s.1 98) (x3 + 1)) (x7) + 0 ∧ wkT ((s.1 98)) (x4) ((s.1 98) (x3 + 1)) (x7 + 1) = wkT ((s.1 98)) (x4) ((s.1 98) (x3 + 1)) (x7) + -1 := wk_s21 kv0 (by omega) (by omega) (by omega)
                    refine ⟨fun c23 => ?_, fun c23 => ?_⟩
                    · skip
                      replace c23 : s.1 98 (x4 + (2 * x7)) ≠ 21 := c23
                      refine ⟨(show (0 : Int) ≤ (x6 + (-1)) - 1 ∧ (x6 + (-1)) - 1 < (330 : Int) from by omega), ?_⟩
                      have b24 : 0 ≤ s.1 107 ((x6 + (-1)) - 1) ∧ s.1 107 ((x6 + (-1)) - 1) ≤ 1 := iv_r107 hI _
                      refine ⟨(show lf_R (s.1 107 ((x6 + (-1)) - 1)) from lf_Rof (by omega)), ?_⟩
                      refine ⟨fun c25 => ?_, fun c25 => ?_⟩
                      · skip
                        replace c25 : s.1 107 ((x6 + (-1)) - 1) ≠ 0 := c25
                        exact sm_268_p431 hQ hX38 (show (304 - x7).toNat ≤ M38 from by omega) hI (show (1 : Int) ≤ x3 ∧ x3 ≤ (2208 : Int) from by omega) (show (97 : Int) ≤ x4 ∧ x4 ≤ (2212 : Int) from by omega) (show (0 : Int) ≤ x5 ∧ x5 ≤ (304 : Int) from by omega) (show (0 : Int) ≤ x6 + (-1) ∧ x6 + (-1) ≤ (304 : Int) from by omega) (show (0 : Int) ≤ x7 ∧ x7 ≤ (303 : Int) from by omega) (show (-2 : Int) ≤ (x6 + (-1)) - 1 ∧ (x6 + (-1)) - 1 ≤ (302 : Int) from by omega) (show wk_O ((s.1 98)) (x3) (x4) from by first | with_reducible assumption | assumption) (show 0 ≤ (s.1 98) (x3 + 1) ∧ (s.1 98) (x3 + 1) ≤ x7 ∧ (s.1 98) (x3 + 2) ≤ 304 ∧ 0 ≤ x5 ∧ 0 ≤ (x6 + (-1)) ∧ x7 < (s.1 98) (x3 + 2) from by omega) (show x5 ≤ x7 + 1 ∧ (x6 + (-1)) ≤ x7 + 1 from by omega) (show x5 = wkN ((s.1 98)) (x4) ((s.1 98) (x3 + 1)) (x7 + 1) ∧ (x6 + (-1)) = wkT ((s.1 98)) (x4) ((s.1 98) (x3 + 1)) (x7 + 1) from by omega) (show ((x6 + (-1)) - 1) = (x6 + (-1)) - 1 ∧ 1 ≤ (x6 + (-1)) from by omega)
                      · skip
                        replace c25 : ¬ (s.1 107 ((x6 + (-1)) - 1) ≠ 0) := c25
                        refine ⟨(show (0 : Int) ≤ x6 + (-1) ∧ x6 + (-1) < (330 : Int) from by omega), ?_⟩
                        have b28 : 0 ≤ s.1 107 (x6 + (-1)) ∧ s.1 107 (x6 + (-1)) ≤ 1 := iv_r107 hI _
                        refine ⟨(show lf_R (s.1 107 (x6 + (-1))) from lf_Rof (by omega)), ?_⟩
                        refine ⟨fun c29 => ?_, fun c29 => ?_⟩
                        · skip
                          replace c29 : s.1 107 (x6 + (-1)) = 0 := c29
                          exact sm_268_p436 hQ hX38 (show (304 - x7).toNat ≤ M38 from by omega) hI (show (1 : Int) ≤ x3 ∧ x3 ≤ (2208 : Int) from by omega) (show (97 : Int) ≤ x4 ∧ x4 ≤ (2212 : Int) from by omega) (show (0 : Int) ≤ x5 ∧ x5 ≤ (304 : Int) from by omega) (show (0 : Int) ≤ x6 + (-1) ∧ x6 + (-1) ≤ (304 : Int) from by omega) (show (0 : Int) ≤ x7 ∧ x7 ≤ (303 : Int) from by omega) (show (-2 : Int) ≤ (x6 + (-1)) - 1 ∧ (x6 + (-1)) - 1 ≤ (302 : Int) from by omega) (show (0 : Int) ≤ 0 ∧ 0 ≤ (1 : Int) from by omega) (show wk_O ((s.1 98)) (x3) (x4) from by first | with_reducible assumption | assumption) (show 0 ≤ (s.1 98) (x3 + 1) ∧ (s.1 98) (x3 + 1) ≤ x7 ∧ (s.1 98) (x3 + 2) ≤ 304 ∧ 0 ≤ x5 ∧ 0 ≤ (x6 + (-1)) ∧ x7 < (s.1 98) (x3 + 2) from by omega) (show x5 ≤ x7 + 1 ∧ (x6 + (-1)) ≤ x7 + 1 from by omega) (show x5 = wkN ((s.1 98)) (x4) ((s.1 98) (x3 + 1)) (x7 + 1) ∧ (x6 + (-1)) = wkT ((s.1 98)) (x4) ((s.1 98) (x3 + 1)) (x7 + 1) from by omega) (show ((x6 + (-1)) - 1) = (x6 + (-1)) - 1 ∧ 1 ≤ (x6 + (-1)) from by omega)
                        · skip
                          replace c29 : ¬ (s.1 107 (x6 + (-1)) = 0) := c29
                          exact sm_268_p431 hQ hX38 (show (304 - x7).toNat ≤ M38 from by omega) hI (show (1 : Int) ≤ x3 ∧ x3 ≤ (2208 : Int) from by omega) (show (97 : Int) ≤ x4 ∧ x4 ≤ (2212 : Int) from by omega) (show (0 : Int) ≤ x5 ∧ x5 ≤ (304 : Int) from by omega) (show (0 : Int) ≤ x6 + (-1) ∧ x6 + (-1) ≤ (304 : Int) from by omega) (show (0 : Int) ≤ x7 ∧ x7 ≤ (303 : Int) from by omega) (show (-2 : Int) ≤ (x6 + (-1)) - 1 ∧ (x6 + (-1)) - 1 ≤ (302 : Int) from by omega) (show wk_O ((s.1 98)) (x3) (x4) from by first | with_reducible assumption | assumption) (show 0 ≤ (s.1 98) (x3 + 1) ∧ (s.1 98) (x3 + 1) ≤ x7 ∧ (s.1 98) (x3 + 2) ≤ 304 ∧ 0 ≤ x5 ∧ 0 ≤ (x6 + (-1)) ∧ x7 < (s.1 98) (x3 + 2) from by omega) (show x5 ≤ x7 + 1 ∧ (x6 + (-1)) ≤ x7 + 1 from by omega) (show x5 = wkN ((s.1 98)) (x4) ((s.1 98) (x3 + 1)) (x7 + 1) ∧ (x6 + (-1)) = wkT ((s.1 98)) (x4) ((s.1 98) (x3 + 1)) (x7 + 1) from by omega) (show ((x6 + (-1)) - 1) = (x6 + (-1)) - 1 ∧ 1 ≤ (x6 + (-1)) from by omega)
                    · skip
                      replace c23 : ¬ (s.1 98 (x4 + (2 * x7)) ≠ 21) := c23
                      refine ⟨(show (0 : Int) ≤ (x6 + (-1)) - 1 ∧ (x6 + (-1)) - 1 < (330 : Int) from by omega), ?_⟩
                      have b30 : 0 ≤ s.1 107 ((x6 + (-1)) - 1) ∧ s.1 107 ((x6 + (-1)) - 1) ≤ 1 := iv_r107 hI _
                      refine ⟨(show lf_R (s.1 107 ((x6 + (-1)) - 1)) from lf_Rof (by omega)), ?_⟩
                      refine ⟨fun c31 => ?_, fun c31 => ?_⟩
                      · skip
                        replace c31 : s.1 107 ((x6 + (-1)) - 1) = 0 := c31
                        exact sm_268_p405 hQ hX38 (show (304 - x7).toNat ≤ M38 from by omega) hI (show (1 : Int) ≤ x3 ∧ x3 ≤ (2208 : Int) from by omega) (show (97 : Int) ≤ x4 ∧ x4 ≤ (2212 : Int) from by omega) (show (0 : Int) ≤ x5 ∧ x5 ≤ (304 : Int) from by omega) (show (0 : Int) ≤ x6 + (-1) ∧ x6 + (-1) ≤ (304 : Int) from by omega) (show (0 : Int) ≤ x7 ∧ x7 ≤ (303 : Int) from by omega) (show (-2 : Int) ≤ (x6 + (-1)) - 1 ∧ (x6 + (-1)) - 1 ≤ (302 : Int) from by omega) (show wk_O ((s.1 98)) (x3) (x4) from by first | with_reducible assumption | assumption) (show 0 ≤ (s.1 98) (x3 + 1) ∧ (s.1 98) (x3 + 1) ≤ x7 ∧ (s.1 98) (x3 + 2) ≤ 304 ∧ 0 ≤ x5 ∧ 0 ≤ (x6 + (-1)) ∧ x7 < (s.1 98) (x3 + 2) from by omega) (show x5 ≤ x7 + 1 ∧ (x6 + (-1)) ≤ x7 + 1 from by omega) (show x5 = wkN ((s.1 98)) (x4) ((s.1 98) (x3 + 1)) (x7 + 1) ∧ (x6 + (-1)) = wkT ((s.1 98)) (x4) ((s.1 98) (x3 + 1)) (x7 + 1) from by omega) (show ((x6 + (-1)) - 1) = (x6 + (-1)) - 1 ∧ 1 ≤ (x6 + (-1)) from by omega)
                      · skip
                        replace c31 : ¬ (s.1 107 ((x6 + (-1)) - 1) = 0) := c31
                        refine ⟨(show (0 : Int) ≤ x6 + (-1) ∧ x6 + (-1) < (330 : Int) from by omega), ?_⟩
                        have b32 : 0 ≤ s.1 107 (x6 + (-1)) ∧ s.1 107 (x6 + (-1)) ≤ 1 := iv_r107 hI _
                        refine ⟨(show lf_R (s.1 107 (x6 + (-1))) from lf_Rof (by omega)), ?_⟩
                        refine ⟨fun c33 => ?_, fun c33 => ?_⟩
                        · skip
                          replace c33 : s.1 107 (x6 + (-1)) = 0 := c33
                          exact sm_268_p405 hQ hX38 (show (304 - x7).toNat ≤ M38 from by omega) hI (show (1 : Int) ≤ x3 ∧ x3 ≤ (2208 : Int) from by omega) (show (97 : Int) ≤ x4 ∧ x4 ≤ (2212 : Int) from by omega) (show (0 : Int) ≤ x5 ∧ x5 ≤ (304 : Int) from by omega) (show (0 : Int) ≤ x6 + (-1) ∧ x6 + (-1) ≤ (304 : Int) from by omega) (show (0 : Int) ≤ x7 ∧ x7 ≤ (303 : Int) from by omega) (show (-2 : Int) ≤ (x6 + (-1)) - 1 ∧ (x6 + (-1)) - 1 ≤ (302 : Int) from by omega) (show wk_O ((s.1 98)) (x3) (x4) from by first | with_reducible assumption | assumption) (show 0 ≤ (s.1 98) (x3 + 1) ∧ (s.1 98) (x3 + 1) ≤ x7 ∧ (s.1 98) (x3 + 2) ≤ 304 ∧ 0 ≤ x5 ∧ 0 ≤ (x6 + (-1)) ∧ x7 < (s.1 98) (x3 + 2) from by omega) (show x5 ≤ x7 + 1 ∧ (x6 + (-1)) ≤ x7 + 1 from by omega) (show x5 = wkN ((s.1 98)) (x4) ((s.1 98) (x3 + 1)) (x7 + 1) ∧ (x6 + (-1)) = wkT ((s.1 98)) (x4) ((s.1 98) (x3 + 1)) (x7 + 1) from by omega) (show ((x6 + (-1)) - 1) = (x6 + (-1)) - 1 ∧ 1 ≤ (x6 + (-1)) from by omega)
                        · skip
                          replace c33 : ¬ (s.1 107 (x6 + (-1)) = 0) := c33
                          exact sm_268_p436 hQ hX38 (show (304 - x7).toNat ≤ M38 from by omega) hI (show (1 : Int) ≤ x3 ∧ x3 ≤ (2208 : Int) from by omega) (show (97 : Int) ≤ x4 ∧ x4 ≤ (2212 : Int) from by omega) (show (0 : Int) ≤ x5 ∧ x5 ≤ (304 : Int) from by omega) (show (0 : Int) ≤ x6 + (-1) ∧ x6 + (-1) ≤ (304 : Int) from by omega) (show (0 : Int) ≤ x7 ∧ x7 ≤ (303 : Int) from by omega) (show (-2 : Int) ≤ (x6 + (-1)) - 1 ∧ (x6 + (-1)) - 1 ≤ (302 : Int) from by omega) (show (0 : Int) ≤ 1 ∧ 1 ≤ (1 : Int) from by omega) (show wk_O ((s.1 98)) (x3) (x4) from by first | with_reducible assumption | assumption) (show 0 ≤ (s.1 98) (x3 + 1) ∧ (s.1 98) (x3 + 1) ≤ x7 ∧ (s.1 98) (x3 + 2) ≤ 304 ∧ 0 ≤ x5 ∧ 0 ≤ (x6 + (-1)) ∧ x7 < (s.1 98) (x3 + 2) from by omega) (show x5 ≤ x7 + 1 ∧ (x6 + (-1)) ≤ x7 + 1 from by omega) (show x5 = wkN ((s.1 98)) (x4) ((s.1 98) (x3 + 1)) (x7 + 1) ∧ (x6 + (-1)) = wkT ((s.1 98)) (x4) ((s.1 98) (x3 + 1)) (x7 + 1) from by omega) (show ((x6 + (-1)) - 1) = (x6 + (-1)) - 1 ∧ 1 ≤ (x6 + (-1)) from by omega)
                  · skip
                    replace c21 : ¬ (s.1 98 (x4 + (2 * x7)) ≠ 20) := c21
                    have b34 : (1 ≤ wkT ((s.1 98)) (x4) ((s.1 98) (x3 + 1)) (x7)) ∧ wkN ((s.1 98)) (x4) ((s.1 98) (x3 + 1)) (x7 + 1) = wkN ((s.1 98)) (x4) ((s.1 98) (x3 + 1)) (x7) + 0 ∧ wkT ((s.1 98)) (x4) ((s.1 98) (x3 + 1)) (x7 + 1) = wkT ((s.1 98)) (x4) ((s.1 98) (x3 + 1)) (x7) + 0 := wk_s20 kv0 (by omega) (by omega) (by omega)
                    refine ⟨(show (0 : Int) ≤ x6 - 1 ∧ x6 - 1 < (330 : Int) from by omega), ?_⟩
                    have b35 : 0 ≤ s.1 107 (x6 - 1) ∧ s.1 107 (x6 - 1) ≤ 1 := iv_r107 hI _
                    refine ⟨(show lf_R (s.1 107 (x6 - 1)) from lf_Rof (by omega)), ?_⟩
                    refine ⟨fun c36 => ?_, fun c36 => ?_⟩
                    · skip
                      replace c36 : s.1 107 (x6 - 1) ≠ 0 := c36
                      exact sm_268_p357 hQ hX38 (show (304 - x7).toNat ≤ M38 from by omega) hI (show (1 : Int) ≤ x3 ∧ x3 ≤ (2208 : Int) from by omega) (show (97 : Int) ≤ x4 ∧ x4 ≤ (2212 : Int) from by omega) (show (0 : Int) ≤ x5 ∧ x5 ≤ (304 : Int) from by omega) (show (0 : Int) ≤ x6 ∧ x6 ≤ (304 : Int) from by omega) (show (0 : Int) ≤ x7 ∧ x7 ≤ (303 : Int) from by omega) (show (-1 : Int) ≤ x6 - 1 ∧ x6 - 1 ≤ (303 : Int) from by omega) (show (0 : Int) ≤ 0 ∧ 0 ≤ (1 : Int) from by omega) (show wk_O ((s.1 98)) (x3) (x4) from by first | with_reducible assumption | assumption) (show 0 ≤ (s.1 98) (x3 + 1) ∧ (s.1 98) (x3 + 1) ≤ x7 ∧ (s.1 98) (x3 + 2) ≤ 304 ∧ 0 ≤ x5 ∧ 0 ≤ x6 ∧ x7 < (s.1 98) (x3 + 2) from by omega) (show x5 ≤ x7 + 1 ∧ x6 ≤ x7 + 1 from by omega) (show x5 = wkN ((s.1 98)) (x4) ((s.1 98) (x3 + 1)) (x7 + 1) ∧ x6 = wkT ((s.1 98)) (x4) ((s.1 98) (x3 + 1)) (x7 + 1) from by omega) (show (x6 - 1) = x6 - 1 ∧ 1 ≤ x6 from by omega)
                    · skip
                      replace c36 : ¬ (s.1 107 (x6 - 1) ≠ 0) := c36
                      exact sm_268_p357 hQ hX38 (show (304 - x7).toNat ≤ M38 from by omega) hI (show (1 : Int) ≤ x3 ∧ x3 ≤ (2208 : Int) from by omega) (show (97 : Int) ≤ x4 ∧ x4 ≤ (2212 : Int) from by omega) (show (0 : Int) ≤ x5 ∧ x5 ≤ (304 : Int) from by omega) (show (0 : Int) ≤ x6 ∧ x6 ≤ (304 : Int) from by omega) (show (0 : Int) ≤ x7 ∧ x7 ≤ (303 : Int) from by omega) (show (-1 : Int) ≤ x6 - 1 ∧ x6 - 1 ≤ (303 : Int) from by omega) (show (0 : Int) ≤ 1 ∧ 1 ≤ (1 : Int) from by omega) (show wk_O ((s.1 98)) (x3) (x4) from by first | with_reducible assumption | assumption) (show 0 ≤ (s.1 98) (x3 + 1) ∧ (s.1 98) (x3 + 1) ≤ x7 ∧ (s.1 98) (x3 + 2) ≤ 304 ∧ 0 ≤ x5 ∧ 0 ≤ x6 ∧ x7 < (s.1 98) (x3 + 2) from by omega) (show x5 ≤ x7 + 1 ∧ x6 ≤ x7 + 1 from by omega) (show x5 = wkN ((s.1 98)) (x4) ((s.1 98) (x3 + 1)) (x7 + 1) ∧ x6 = wkT ((s.1 98)) (x4) ((s.1 98) (x3 + 1)) (x7 + 1) from by omega) (show (x6 - 1) = x6 - 1 ∧ 1 ≤ x6 from by omega)
                · skip
                  replace c20 : ¬ (20 ≤ s.1 98 (x4 + (2 * x7))) := c20
                  have b39 : (2 ≤ wkN ((s.1 98)) (x4) ((s.1 98) (x3 + 1)) (x7)) ∧ wkN ((s.1 98)) (x4) ((s.1 98) (x3 + 1)) (x7 + 1) = wkN ((s.1 98)) (x4) ((s.1 98) (x3 + 1)) (x7) + -2 ∧ wkT ((s.1 98)) (x4) ((s.1 98) (x3 + 1)) (x7 + 1) = wkT ((s.1 98)) (x4) ((s.1 98) (x3 + 1)) (x7) + 1 := wk_s10 kv0 (by omega) (by omega) (by omega)
                  refine ⟨(show (0 : Int) ≤ x5 + (-2) ∧ x5 + (-2) < (330 : Int) from by omega), ?_⟩
                  refine ⟨(show (0 : Int) ≤ (x5 + (-2)) + 1 ∧ (x5 + (-2)) + 1 < (330 : Int) from by omega), ?_⟩
                  refine sm_271 hI (show (10 : Int) ≤ s.1 98 (x4 + (2 * x7)) ∧ s.1 98 (x4 + (2 * x7)) ≤ (19 : Int) from by omega) (fun z51 => ?_)
                  refine ⟨(show (0 : Int) ≤ x6 ∧ x6 < (330 : Int) from by omega), ?_⟩
                  have b41 : 0 ≤ lf_b z51 ∧ lf_b z51 ≤ 1 := lf_b01
                  refine ⟨(show lf_b z51 = 0 ∨ lf_b z51 = 1 from by omega), ?_⟩
                  have hI42 : iv_A (lf_up s.1 107 x6 (lf_b z51)) s.2.2 := iv_w107 hI (by omega)
                  have fr43 : lf_fq [107] 1000000 true s.1 s.2.2 (lf_up s.1 107 x6 (lf_b z51)) s.2.2 := lf_fq_up (lf_fq_rf) rfl (fun h => absurd h (by decide))
                  exact sm_268_p437 (fun r9 t9 i9 f9 => hQ r9 t9 i9 (lf_fq_tr fr43 f9)) (fun p0 p1 p2 t9 i9 f9 => hX38 p0 p1 p2 t9 i9 (lf_fq_tr fr43 f9)) (show (304 - x7).toNat ≤ M38 from by omega) hI42 (show (1 : Int) ≤ x3 ∧ x3 ≤ (2208 : Int) from by omega) (show (97 : Int) ≤ x4 ∧ x4 ≤ (2212 : Int) from by omega) (show (0 : Int) ≤ x5 + (-2) ∧ x5 + (-2) ≤ (304 : Int) from by omega) (show (0 : Int) ≤ x6 + 1 ∧ x6 + 1 ≤ (304 : Int) from by omega) (show (0 : Int) ≤ x7 ∧ x7 ≤ (303 : Int) from by omega) (show wk_O ((s.1 98)) (x3) (x4) from by first | with_reducible assumption | assumption) (show 0 ≤ (s.1 98) (x3 + 1) ∧ (s.1 98) (x3 + 1) ≤ x7 ∧ (s.1 98) (x3 + 2) ≤ 304 ∧ 0 ≤ (x5 + (-2)) ∧ 0 ≤ (x6 + 1) ∧ x7 < (s.1 98) (x3 + 2) from by omega) (show (x5 + (-2)) ≤ x7 + 1 ∧ (x6 + 1) ≤ x7 + 1 from by omega) (show (x5 + (-2)) = wkN ((s.1 98)) (x4) ((s.1 98) (x3 + 1)) (x7 + 1) ∧ (x6 + 1) = wkT ((s.1 98)) (x4) ((s.1 98) (x3 + 1)) (x7 + 1) from by omega)
              · skip
                replace c19 : ¬ (10 ≤ s.1 98 (x4 + (2 * x7))) := c19
                have b44 : (2 ≤ wkN ((s.1 98)) (x4) ((s.1 98) (x3 + 1)) (x7)) ∧ wkN ((s.1 98)) (x4) ((s.1 98) (x3 + 1)) (x7 + 1) = wkN ((s.1 98)) (x4) ((s.1 98) (x3 + 1)) (x7) + -1 ∧ wkT ((s.1 98)) (x4) ((s.1 98) (x3 + 1)) (x7 + 1) = wkT ((s.1 98)) (x4) ((s.1 98) (x3 + 1)) (x7) + 0 := wk_s4 kv0 (by omega) (by omega) (by omega)
                refine ⟨(show (0 : Int) ≤ (x5 + (-1)) - 1 ∧ (x5 + (-1)) - 1 < (330 : Int) from by omega), ?_⟩
                refine ⟨(show (0 : Int) ≤ x5 + (-1) ∧ x5 + (-1) < (330 : Int) from by omega), ?_⟩
                refine sm_269 hI (show (4 : Int) ≤ s.1 98 (x4 + (2 * x7)) ∧ s.1 98 (x4 + (2 * x7)) ≤ (9 : Int) from by omega) (fun r57 => ?_)
                exact sm_268_p437 hQ hX38 (show (304 - x7).toNat ≤ M38 from by omega) hI (show (1 : Int) ≤ x3 ∧ x3 ≤ (2208 : Int) from by omega) (show (97 : Int) ≤ x4 ∧ x4 ≤ (2212 : Int) from by omega) (show (0 : Int) ≤ x5 + (-1) ∧ x5 + (-1) ≤ (304 : Int) from by omega) (show (0 : Int) ≤ x6 ∧ x6 ≤ (304 : Int) from by omega) (show (0 : Int) ≤ x7 ∧ x7 ≤ (303 : Int) from by omega) (show wk_O ((s.1 98)) (x3) (x4) from by first | with_reducible assumption | assumption) (show 0 ≤ (s.1 98) (x3 + 1) ∧ (s.1 98) (x3 + 1) ≤ x7 ∧ (s.1 98) (x3 + 2) ≤ 304 ∧ 0 ≤ (x5 + (-1)) ∧ 0 ≤ x6 ∧ x7 < (s.1 98) (x3 + 2) from by omega) (show (x5 + (-1)) ≤ x7 + 1 ∧ x6 ≤ x7 + 1 from by omega) (show (x5 + (-1)) = wkN ((s.1 98)) (x4) ((s.1 98) (x3 + 1)) (x7 + 1) ∧ x6 = wkT ((s.1 98)) (x4) ((s.1 98) (x3 + 1)) (x7 + 1) from by omega)
            · skip
              replace c18 : ¬ (s.1 98 (x4 + (2 * x7)) ≠ 3) := c18
              have b46 : (1 ≤ wkN ((s.1 98)) (x4) ((s.1 98) (x3 + 1)) (x7)) ∧ wkN ((s.1 98)) (x4) ((s.1 98) (x3 + 1)) (x7 + 1) = wkN ((s.1 98)) (x4) ((s.1 98) (x3 + 1)) (x7) + 0 ∧ wkT ((s.1 98)) (x4) ((s.1 98) (x3 + 1)) (x7 + 1) = wkT ((s.1 98)) (x4) ((s.1 98) (x3 + 1)) (x7) + 0 := wk_s3 kv0 (by omega) (by omega) (by omega)
              refine ⟨(show (0 : Int) ≤ x5 - 1 ∧ x5 - 1 < (330 : Int) from by omega), ?_⟩
              exact sm_268_p437 hQ hX38 (show (304 - x7).toNat ≤ M38 from by omega) hI (show (1 : Int) ≤ x3 ∧ x3 ≤ (2208 : Int) from by omega) (show (97 : Int) ≤ x4 ∧ x4 ≤ (2212 : Int) from by omega) (show (0 : Int) ≤ x5 ∧ x5 ≤ (304 : Int) from by omega) (show (0 : Int) ≤ x6 ∧ x6 ≤ (304 : Int) from by omega) (show (0 : Int) ≤ x7 ∧ x7 ≤ (303 : Int) from by omega) (show wk_O ((s.1 98)) (x3) (x4) from by first | with_reducible assumption | assumption) (show 0 ≤ (s.1 98) (x3 + 1) ∧ (s.1 98) (x3 + 1) ≤ x7 ∧ (s.1 98) (x3 + 2) ≤ 304 ∧ 0 ≤ x5 ∧ 0 ≤ x6 ∧ x7 < (s.1 98) (x3 + 2) from by omega) (show x5 ≤ x7 + 1 ∧ x6 ≤ x7 + 1 from by omega) (show x5 = wkN ((s.1 98)) (x4) ((s.1 98) (x3 + 1)) (x7 + 1) ∧ x6 = wkT ((s.1 98)) (x4) ((s.1 98) (x3 + 1)) (x7 + 1) from by omega)
          · skip
            replace c17 : ¬ (s.1 98 (x4 + (2 * x7)) ≠ 30) := c17
            have b47 : (1 ≤ wkN ((s.1 98)) (x4) ((s.1 98) (x3 + 1)) (x7) ∧ 0 ≤ (s.1 98 ((x4 + (2 * x7)) + 1)) ∧ (s.1 98 ((x4 + (2 * x7)) + 1)) < 80) ∧ wkN ((s.1 98)) (x4) ((s.1 98) (x3 + 1)) (x7 + 1) = wkN ((s.1 98)) (x4) ((s.1 98) (x3 + 1)) (x7) + -1 ∧ wkT ((s.1 98)) (x4) ((s.1 98) (x3 + 1)) (x7 + 1) = wkT ((s.1 98)) (x4) ((s.1 98) (x3 + 1)) (x7) + 0 := wk_s30 kv0 (by omega) (by omega) (by omega)
            refine ⟨(show (0 : Int) ≤ x5 + (-1) ∧ x5 + (-1) < (330 : Int) from by omega), ?_⟩
            refine ⟨(show (0 : Int) ≤ s.1 98 ((x4 + (2 * x7)) + 1) ∧ s.1 98 ((x4 + (2 * x7)) + 1) < (80 : Int) from by omega), ?_⟩
            exact sm_268_p437 hQ hX38 (show (304 - x7).toNat ≤ M38 from by omega) hI (show (1 : Int) ≤ x3 ∧ x3 ≤ (2208 : Int) from by omega) (show (97 : Int) ≤ x4 ∧ x4 ≤ (2212 : Int) from by omega) (show (0 : Int) ≤ x5 + (-1) ∧ x5 + (-1) ≤ (304 : Int) from by omega) (show (0 : Int) ≤ x6 ∧ x6 ≤ (304 : Int) from by omega) (show (0 : Int) ≤ x7 ∧ x7 ≤ (303 : Int) from by omega) (show wk_O ((s.1 98)) (x3) (x4) from by first | with_reducible assumption | assumption) (show 0 ≤ (s.1 98) (x3 + 1) ∧ (s.1 98) (x3 + 1) ≤ x7 ∧ (s.1 98) (x3 + 2) ≤ 304 ∧ 0 ≤ (x5 + (-1)) ∧ 0 ≤ x6 ∧ x7 < (s.1 98) (x3 + 2) from by omega) (show (x5 + (-1)) ≤ x7 + 1 ∧ x6 ≤ x7 + 1 from by omega) (show (x5 + (-1)) = wkN ((s.1 98)) (x4) ((s.1 98) (x3 + 1)) (x7 + 1) ∧ x6 = wkT ((s.1 98)) (x4) ((s.1 98) (x3 + 1)) (x7 + 1) from by omega)
        · skip
          replace c16 : ¬ (s.1 98 (x4 + (2 * x7)) ≠ 2) := c16
          have b48 : (2 ≤ wkN ((s.1 98)) (x4) ((s.1 98) (x3 + 1)) (x7) ∧ 1 ≤ wkT ((s.1 98)) (x4) ((s.1 98) (x3 + 1)) (x7)) ∧ wkN ((s.1 98)) (x4) ((s.1 98) (x3 + 1)) (x7 + 1) = wkN ((s.1 98)) (x4) ((s.1 98) (x3 + 1)) (x7) + -1 ∧ wkT ((s.1 98)) (x4) ((s.1 98) (x3 + 1)) (x7 + 1) = wkT ((s.1 98)) (x4) ((s.1 98) (x3 + 1)) (x7) + -1 := wk_s2 kv0 (by omega) (by omega) (by omega)
          refine ⟨(show (0 : Int) ≤ x6 + (-1) ∧ x6 + (-1) < (330 : Int) from by omega), ?_⟩
          have b49 : 0 ≤ s.1 107 (x6 + (-1)) ∧ s.1 107 (x6 + (-1)) ≤ 1 := iv_r107 hI _
          refine ⟨(show lf_R (s.1 107 (x6 + (-1))) from lf_Rof (by omega)), ?_⟩
          refine ⟨fun c50 => ?_, fun c50 => ?_⟩
          · skip
            replace c50 : s.1 107 (x6 + (-1)) ≠ 0 := c50
            exact sm_268_p437 hQ hX38 (show (304 - x7).toNat ≤ M38 from by omega) hI (show (1 : Int) ≤ x3 ∧ x3 ≤ (2208 : Int) from by omega) (show (97 : Int) ≤ x4 ∧ x4 ≤ (2212 : Int) from by omega) (show (0 : Int) ≤ x5 + (-1) ∧ x5 + (-1) ≤ (304 : Int) from by omega) (show (0 : Int) ≤ x6 + (-1) ∧ x6 + (-1) ≤ (304 : Int) from by omega) (show (0 : Int) ≤ x7 ∧ x7 ≤ (303 : Int) from by omega) (show wk_O ((s.1 98)) (x3) (x4) from by first | with_reducible assumption | assumption) (show 0 ≤ (s.1 98) (x3 + 1) ∧ (s.1 98) (x3 + 1) ≤ x7 ∧ (s.1 98) (x3 + 2) ≤ 304 ∧ 0 ≤ (x5 + (-1)) ∧ 0 ≤ (x6 + (-1)) ∧ x7 < (s.1 98) (x3 + 2) from by omega) (show (x5 + (-1)) ≤ x7 + 1 ∧ (x6 + (-1)) ≤ x7 + 1 from by omega) (show (x5 + (-1)) = wkN ((s.1 98)) (x4) ((s.1 98) (x3 + 1)) (x7 + 1) ∧ (x6 + (-1)) = wkT ((s.1 98)) (x4) ((s.1 98) (x3 + 1)) (x7 + 1) from by omega)
          · skip
            replace c50 : ¬ (s.1 107 (x6 + (-1)) ≠ 0) := c50
            refine ⟨(show (0 : Int) ≤ x5 + (-1) ∧ x5 + (-1) < (330 : Int) from by omega), ?_⟩
            refine ⟨(show (0 : Int) ≤ (x5 + (-1)) - 1 ∧ (x5 + (-1)) - 1 < (330 : Int) from by omega), ?_⟩
            exact sm_268_p437 hQ hX38 (show (304 - x7).toNat ≤ M38 from by omega) hI (show (1 : Int) ≤ x3 ∧ x3 ≤ (2208 : Int) from by omega) (show (97 : Int) ≤ x4 ∧ x4 ≤ (2212 : Int) from by omega) (show (0 : Int) ≤ x5 + (-1) ∧ x5 + (-1) ≤ (304 : Int) from by omega) (show (0 : Int) ≤ x6 + (-1) ∧ x6 + (-1) ≤ (304 : Int) from by omega) (show (0 : Int) ≤ x7 ∧ x7 ≤ (303 : Int) from by omega) (show wk_O ((s.1 98)) (x3) (x4) from by first | with_reducible assumption | assumption) (show 0 ≤ (s.1 98) (x3 + 1) ∧ (s.1 98) (x3 + 1) ≤ x7 ∧ (s.1 98) (x3 + 2) ≤ 304 ∧ 0 ≤ (x5 + (-1)) ∧ 0 ≤ (x6 + (-1)) ∧ x7 < (s.1 98) (x3 + 2) from by omega) (show (x5 + (-1)) ≤ x7 + 1 ∧ (x6 + (-1)) ≤ x7 + 1 from by omega) (show (x5 + (-1)) = wkN ((s.1 98)) (x4) ((s.1 98) (x3 + 1)) (x7 + 1) ∧ (x6 + (-1)) = wkT ((s.1 98)) (x4) ((s.1 98) (x3 + 1)) (x7 + 1) from by omega)
      · skip
        replace c15 : ¬ (s.1 98 (x4 + (2 * x7)) ≠ 31) := c15
        have b51 : (((s.1 98 (x4 + (2 * x7))) = 0 ∨ ((s.1 98 (x4 + (2 * x7))) = 1 ∧ 0 ≤ (s.1 98 ((x4 + (2 * x7)) + 1)) ∧ (s.1 98 ((x4 + (2 * x7)) + 1)) < 11) ∨ ((s.1 98 (x4 + (2 * x7))) ≠ 1 ∧ 0 ≤ (s.1 98 ((x4 + (2 * x7)) + 1)) ∧ (s.1 98 ((x4 + (2 * x7)) + 1)) < 80))) ∧ wkN ((s.1 98)) (x4) ((s.1 98) (x3 + 1)) (x7 + 1) = wkN ((s.1 98)) (x4) ((s.1 98) (x3 + 1)) (x7) + 1 ∧ wkT ((s.1 98)) (x4) ((s.1 98) (x3 + 1)) (x7 + 1) = wkT ((s.1 98)) (x4) ((s.1 98) (x3 + 1)) (x7) + 0 := wk_sv kv0 (by omega) (by omega) (by omega)
        exact sm_268_p94 hQ hX38 (show (304 - x7).toNat ≤ M38 from by omega) hI (show (1 : Int) ≤ x3 ∧ x3 ≤ (2208 : Int) from by omega) (show (97 : Int) ≤ x4 ∧ x4 ≤ (2212 : Int) from by omega) (show (0 : Int) ≤ x5 ∧ x5 ≤ (304 : Int) from by omega) (show (0 : Int) ≤ x6 ∧ x6 ≤ (304 : Int) from by omega) (show (0 : Int) ≤ x7 ∧ x7 ≤ (303 : Int) from by omega) (show (-2147483648 : Int) ≤ s.1 98 (x4 + (2 * x7)) ∧ s.1 98 (x4 + (2 * x7)) ≤ (31 : Int) from by omega) (show (-2147483648 : Int) ≤ s.1 98 ((x4 + (2 * x7)) + 1) ∧ s.1 98 ((x4 + (2 * x7)) + 1) ≤ (2147483647 : Int) from by omega) (show wk_O ((s.1 98)) (x3) (x4) from by first | with_reducible assumption | assumption) (show 0 ≤ (s.1 98) (x3 + 1) ∧ (s.1 98) (x3 + 1) ≤ x7 ∧ (s.1 98) (x3 + 2) ≤ 304 ∧ 0 ≤ x5 ∧ 0 ≤ x6 ∧ x7 < (s.1 98) (x3 + 2) from by omega) (show x5 ≤ x7 ∧ x6 ≤ x7 from by omega) (show x5 + 1 = wkN ((s.1 98)) (x4) ((s.1 98) (x3 + 1)) (x7 + 1) ∧ x6 = wkT ((s.1 98)) (x4) ((s.1 98) (x3 + 1)) (x7 + 1) from by omega) (show (s.1 98 (x4 + (2 * x7))) = 0 ∨ ((s.1 98 (x4 + (2 * x7))) = 1 ∧ 0 ≤ (s.1 98 ((x4 + (2 * x7)) + 1)) ∧ (s.1 98 ((x4 + (2 * x7)) + 1)) < 11) ∨ ((s.1 98 (x4 + (2 * x7))) ≠ 1 ∧ 0 ≤ (s.1 98 ((x4 + (2 * x7)) + 1)) ∧ (s.1 98 ((x4 + (2 * x7)) + 1)) < 80) from by omega)
theorem sm_268_p38L {Q : Int → lf_Z → Prop} {x3 : Int} {x4 : Int} {x5 : Int} {x6 : Int} {x7 : Int} {s : lf_Z} (hQ : ∀ (r : Int) (s' : lf_Z), iv_A s'.1 s'.2.2 → lf_fq [107] 1000000 true s.1 s.2.2 s'.1 s'.2.2 → ((-2147483648) ≤ r ∧ r ≤ 2147483647) → Q r s') (hI : iv_A s.1 s.2.2) (bx3 : 1 ≤ x3 ∧ x3 ≤ 2208) (bx4 : 97 ≤ x4 ∧ x4 ≤ 2212) (bx5 : 0 ≤ x5 ∧ x5 ≤ 304) (bx6 : 0 ≤ x6 ∧ x6 ≤ 304) (bx7 : 0 ≤ x7 ∧ x7 ≤ 304) (kv0 : wk_O (s.1 98) (x3) (x4)) (kv1 : 0 ≤ s.1 98 (x3 + 1) ∧ s.1 98 (x3 + 1) ≤ x7 ∧ s.1 98 (x3 + 2) ≤ 304 ∧ 0 ≤ x5 ∧ 0 ≤ x6 ∧ x5 ≤ x7 ∧ x6 ≤ x7 ∧ x7 ≤ s.1 98 (x3 + 2)) (kv2 : x5 = wkN (s.1 98) (x4) (s.1 98 (x3 + 1)) (x7) ∧ x6 = wkT (s.1 98) (x4) (s.1 98 (x3 + 1)) (x7)) : fm_268_p38L Q x3 x4 x5 x6 x7 s := by
  intro X38 hX
  have key : ∀ (m9 : Nat) (x5 : Int) (x6 : Int) (x7 : Int) (s' : lf_Z), iv_A s'.1 s'.2.2 → lf_fq [107] 1000000 true s.1 s.2.2 s'.1 s'.2.2 → 0 ≤ x5 ∧ x5 ≤ 304 → 0 ≤ x6 ∧ x6 ≤ 304 → 0 ≤ x7 ∧ x7 ≤ 304 → (wk_O (s'.1 98) (x3) (x4)) → (0 ≤ s'.1 98 (x3 + 1) ∧ s'.1 98 (x3 + 1) ≤ x7 ∧ s'.1 98 (x3 + 2) ≤ 304 ∧ 0 ≤ x5 ∧ 0 ≤ x6 ∧ x5 ≤ x7 ∧ x6 ≤ x7 ∧ x7 ≤ s'.1 98 (x3 + 2)) → (x5 = wkN (s'.1 98) (x4) (s'.1 98 (x3 + 1)) (x7) ∧ x6 = wkT (s'.1 98) (x4) (s'.1 98 (x3 + 1)) (x7)) → (304 - x7).toNat < m9 → X38 x5 x6 x7 s' := by
    intro m9
    induction m9 with
    | zero => intro x5 x6 x7 s' _ _ bx5 bx6 bx7 kv0 kv1 kv2 h9; exact absurd h9 (Nat.not_lt_zero _)
    | succ m9 ih => intro x5 x6 x7 s' i7 f7 bx5 bx6 bx7 kv0 kv1 kv2 h9; exact hX _ _ _ _ (sm_268_p38 (fun r9 t9 i9 f9 => hQ r9 t9 i9 (lf_fq_tr f7 f9))   (fun x5' x6' x7' t8 i8 f8 bx5' bx6' bx7' kv0' kv1' kv2' h8 => ih x5' x6' x7' t8 i8 (lf_fq_tr f7 f8) bx5' bx6' bx7' kv0' kv1' kv2' (by omega)) (Nat.le_refl _)  i7  bx3 bx4 bx5 bx6 bx7  kv0 kv1 kv2)
  exact key _ _ _ _ s hI lf_fq_rf bx5 bx6 bx7 kv0 kv1 kv2 (Nat.lt_succ_self _)
theorem sm_268 {a1 : Int} {a2 : Int} {Q : Int → lf_Z → Prop} {s : lf_Z} (hI : iv_A s.1 s.2.2) (ba1 : 0 ≤ a1 ∧ a1 ≤ 3) (ba2 : 0 ≤ a2 ∧ a2 ≤ 23) (kp0 : wk_O (s.1 98) (705 * a1 + 1 + 4 * a2) (705 * a1 + 97)) (hQ : ∀ (r : Int) (s' : lf_Z), iv_A s'.1 s'.2.2 → lf_fq [107] 1000000 true s.1 s.2.2 s'.1 s'.2.2 → ((-2147483648) ≤ r ∧ r ≤ 2147483647) → Q r s') : fm_268 a1 a2 Q s := by
  unfold fm_268
  refine ⟨(show (0 : Int) ≤ (((705 * a1) + 1) + (4 * a2)) + 1 ∧ (((705 * a1) + 1) + (4 * a2)) + 1 < (2820 : Int) from by omega), ?_⟩
  have b1 : (-2147483648) ≤ s.1 98 ((((705 * a1) + 1) + (4 * a2)) + 1) ∧ s.1 98 ((((705 * a1) + 1) + (4 * a2)) + 1) ≤ 2147483647 := iv_full hI
  have b2 : 0 ≤ (s.1 98) ((((705 * a1) + 1) + (4 * a2)) + 1) ∧ (s.1 98) ((((705 * a1) + 1) + (4 * a2)) + 1) ≤ (s.1 98) ((((705 * a1) + 1) + (4 * a2)) + 2) ∧ (s.1 98) ((((705 * a1) + 1) + (4 * a2)) + 2) ≤ 304 := wk_O3 kp0
  have b3 : wkN ((s.1 98)) (((705 * a1) + 97)) ((s.1 98) ((((705 * a1) + 1) + (4 * a2)) + 1)) ((s.1 98) ((((705 * a1) + 1) + (4 * a2)) + 1)) = 0 ∧ wkT ((s.1 98)) (((705 * a1) + 97)) ((s.1 98) ((((705 * a1) + 1) + (4 * a2)) + 1)) ((s.1 98) ((((705 * a1) + 1) + (4 * a2)) + 1)) = 0 := ⟨wkN_0, wkT_0⟩
  exact sm_268_p38L hQ hI (show (1 : Int) ≤ ((705 * a1) + 1) + (4 * a2) ∧ ((705 * a1) + 1) + (4 * a2) ≤ (2208 : Int) from by omega) (show (97 : Int) ≤ (705 * a1) + 97 ∧ (705 * a1) + 97 ≤ (2212 : Int) from by omega) (show (0 : Int) ≤ 0 ∧ 0 ≤ (304 : Int) from by omega) (show (0 : Int) ≤ 0 ∧ 0 ≤ (304 : Int) from by omega) (show (0 : Int) ≤ s.1 98 ((((705 * a1) + 1) + (4 * a2)) + 1) ∧ s.1 98 ((((705 * a1) + 1) + (4 * a2)) + 1) ≤ (304 : Int) from by omega) (show wk_O ((s.1 98)) ((((705 * a1) + 1) + (4 * a2))) (((705 * a1) + 97)) from by first | with_reducible assumption | assumption) (show 0 ≤ (s.1 98) ((((705 * a1) + 1) + (4 * a2)) + 1) ∧ (s.1 98) ((((705 * a1) + 1) + (4 * a2)) + 1) ≤ (s.1 98 ((((705 * a1) + 1) + (4 * a2)) + 1)) ∧ (s.1 98) ((((705 * a1) + 1) + (4 * a2)) + 2) ≤ 304 ∧ 0 ≤ 0 ∧ 0 ≤ 0 ∧ 0 ≤ (s.1 98 ((((705 * a1) + 1) + (4 * a2)) + 1)) ∧ 0 ≤ (s.1 98 ((((705 * a1) + 1) + (4 * a2)) + 1)) ∧ (s.1 98 ((((705 * a1) + 1) + (4 * a2)) + 1)) ≤ (s.1 98) ((((705 * a1) + 1) + (4 * a2)) + 2) from by omega) (show 0 = wkN ((s.1 98)) (((705 * a1) + 97)) ((s.1 98) ((((705 * a1) + 1) + (4 * a2)) + 1)) ((s.1 98 ((((705 * a1) + 1) + (4 * a2)) + 1))) ∧ 0 = wkT ((s.1 98)) (((705 * a1) + 97)) ((s.1 98) ((((705 * a1) + 1) + (4 * a2)) + 1)) ((s.1 98 ((((705 * a1) + 1) + (4 * a2)) + 1))) from by omega)
