-- fm_81 Laws.paceOf 63 i
theorem sm_81_p89 {Q : Int → lf_Z → Prop} {y1 : Int} {y2 : Int} {s : lf_Z} (hQ : ∀ (r : Int) (s' : lf_Z), iv_A s'.1 s'.2.2 → lf_fq [63, 64, 65, 66] 1000000 true s.1 s.2.2 s'.1 s'.2.2 → (0 ≤ r ∧ r ≤ 1000000) → Q r s') (hI : iv_A s.1 s.2.2) (by1 : 4 ≤ y1 ∧ y1 ≤ 4) (by2 : 0 ≤ y2 ∧ y2 ≤ 6) (kv0 : s.2.2 3 ≠ none) : fm_81_p89 Q y1 y2 s := by
  unfold fm_81_p89
  refine ⟨(show (0 : Int) ≤ y1 ∧ y1 < (11 : Int) from by omega), ?_⟩
  have hI17 : iv_A (lf_up s.1 64 y1 y2) s.2.2 := iv_w64 hI (by omega)
  have fr18 : lf_fq [63, 64, 65, 66] 1000000 true s.1 s.2.2 (lf_up s.1 64 y1 y2) s.2.2 := lf_fq_up (lf_fq_rf) rfl (fun h => absurd h (by decide))
  refine ⟨fun et33 => ?_, fun t33 et33 => ?_⟩
  · skip
    exact absurd et33 kv0
  · have htt33 : t33 < 4 := iv_t3 hI17 et33
    refine ⟨htt33, ?_⟩
    refine sm_84b htt33 hI17 (show (0 : Int) ≤ 0 ∧ 0 ≤ (2 : Int) from by omega) (fun r39 s38 hI26 fr25 q27 => ?_)
    have fr28 : lf_fq [63, 64, 65, 66] 1000000 true s.1 s.2.2 s38.1 s38.2.2 := lf_fq_tr fr18 (lf_fq_wk fr25 rfl (by decide) (by decide))
    have n29 : s38.2.2 3 ≠ none := lf_fq_n3 fr25 rfl kv0
    refine sm_55 hI26 (show (-2147483648 : Int) ≤ r39 ∧ r39 ≤ (2147483647 : Int) from by omega) (show (0 : Int) ≤ 0 ∧ 0 ≤ (0 : Int) from by omega) (show (2 : Int) ≤ 2 ∧ 2 ≤ (1000000 : Int) from by omega) (fun r41 q30 => ?_)
    obtain ⟨q30, q30x⟩ := q30
    replace q30x : 0 ≤ r41 ∧ (r41 ≤ 2 ∨ r41 ≤ 0) := q30x
    exact hQ r41 s38 hI26 fr28 (show (0 : Int) ≤ r41 ∧ r41 ≤ (1000000 : Int) from by omega)
theorem sm_81 {a1 : Int} {Q : Int → lf_Z → Prop} {s : lf_Z} (hI : iv_A s.1 s.2.2) (ba1 : 0 ≤ a1 ∧ a1 ≤ 3) (hQ : ∀ (r : Int) (s' : lf_Z), iv_A s'.1 s'.2.2 → lf_fq [63, 64, 65, 66] 1000000 true s.1 s.2.2 s'.1 s'.2.2 → (0 ≤ r ∧ r ≤ 1000000) → Q r s') : fm_81 a1 Q s := by
  unfold fm_81
  refine ⟨fun et21 => ?_, fun t21 et21 => ?_⟩
  · skip
    exact hQ 1 s hI (lf_fq_rf) (show (0 : Int) ≤ 1 ∧ 1 ≤ (1000000 : Int) from by omega)
  · have htt21 : t21 < 4 := iv_t3 hI et21
    refine ⟨htt21, ?_⟩
    have n3t21 : s.2.2 3 ≠ none := lf_sn3 et21
    refine ⟨fun et22 => ?_, fun t22 et22 => ?_⟩
    · skip
      exact absurd et22 n3t21
    · have htt22 : t22 < 4 := iv_t3 hI et22
      refine ⟨htt22, ?_⟩
      refine sm_40 htt22 hI (show (0 : Int) ≤ 0 ∧ 0 ≤ (12 : Int) from by omega) (fun z24 => ?_)
      refine ⟨fun c2 => ?_, fun c2 => ?_⟩
      · skip
        exact hQ 1 s hI (lf_fq_rf) (show (0 : Int) ≤ 1 ∧ 1 ≤ (1000000 : Int) from by omega)
      · skip
        refine sm_80 hI (show (-2147483648 : Int) ≤ a1 ∧ a1 ≤ (2147483647 : Int) from by omega) (fun z26 q3 => ?_)
        have b4 : (-2147483648) ≤ s.1 16 a1 ∧ s.1 16 a1 ≤ 2147483647 := iv_full hI
        refine ⟨fun c5 => ?_, fun c5 => ?_⟩
        · skip
          have dc5 := q3.1 c5
          refine ⟨(show (0 : Int) ≤ a1 ∧ a1 < (4 : Int) from by omega), ?_⟩
          have b6 : (-1) ≤ s.1 17 a1 ∧ s.1 17 a1 ≤ 11 := iv_r17 hI _
          have b7 : s.1 16 a1 ≤ 0 ∨ 0 ≤ s.1 17 a1 := (by first | exact (show s.1 16 a1 ≤ 0 ∨ 0 ≤ s.1 17 a1 from iv_sp hI (by omega) (by omega)) | exact iv_sp hI (by omega) (by omega))
          refine sm_82 hI (show (-2147483648 : Int) ≤ s.1 16 a1 ∧ s.1 16 a1 ≤ (2147483647 : Int) from by omega) (show (-1 : Int) ≤ s.1 17 a1 ∧ s.1 17 a1 ≤ (11 : Int) from by omega) (show (0 : Int) ≤ 0 ∧ 0 ≤ (1 : Int) from by omega) (fun s28 hI9 fr8 => ?_)
          have fr11 : lf_fq [63, 64, 65, 66] 1000000 true s.1 s.2.2 s28.1 s28.2.2 := lf_fq_tr (lf_fq_rf) (lf_fq_wk fr8 rfl (by decide) (by decide))
          have n12 : s28.2.2 3 ≠ none := lf_fq_n3 fr8 rfl n3t21
          have b13 : (-1) ≤ s28.1 18 a1 ∧ s28.1 18 a1 ≤ 11 := iv_r18 hI9 _
          have b14 : s28.1 18 a1 = s.1 18 a1 := congrFun (fr8.1 18 rfl) _
          refine ⟨(show lf_R (s28.1 18 a1) from lf_Rof (by omega)), ?_⟩
          refine ⟨fun c15 => ?_, fun c15 => ?_⟩
          · skip
            replace c15 : s28.1 18 a1 ≠ (-1) := c15
            refine sm_83 hI9 (show (-1 : Int) ≤ s28.1 18 a1 ∧ s28.1 18 a1 ≤ (11 : Int) from by omega) (fun r31 q16 => ?_)
            exact sm_81_p89 (fun r9 t9 i9 f9 => hQ r9 t9 i9 (lf_fq_tr fr11 f9)) hI9 (show (4 : Int) ≤ 4 ∧ 4 ≤ (4 : Int) from by omega) (show (0 : Int) ≤ r31 ∧ r31 ≤ (6 : Int) from by omega) n12
          · skip
            replace c15 : ¬ (s28.1 18 a1 ≠ (-1)) := c15
            exact sm_81_p89 (fun r9 t9 i9 f9 => hQ r9 t9 i9 (lf_fq_tr fr11 f9)) hI9 (show (4 : Int) ≤ 4 ∧ 4 ≤ (4 : Int) from by omega) (show (0 : Int) ≤ 0 ∧ 0 ≤ (6 : Int) from by omega) n12
        · skip
          have dc5 := q3.2 c5
          exact hQ 1 s hI (lf_fq_rf) (show (0 : Int) ≤ 1 ∧ 1 ≤ (1000000 : Int) from by omega)
-- fm_75 Land.distance 1 i i
theorem sm_75 {a1 : Int} {a2 : Int} {Q : Int → lf_Z → Prop} {s : lf_Z} (hI : iv_A s.1 s.2.2) (ba1 : (-2147483648) ≤ a1 ∧ a1 ≤ 2147483647) (ba2 : (-2147483648) ≤ a2 ∧ a2 ≤ 2147483647) (hQ : ∀ (r : Int), ((0 ≤ r ∧ r ≤ 1000) ∧ (1000 ≤ r ∨ (0 ≤ a1 ∧ a1 < s.1 1 0 ∧ 0 ≤ a2 ∧ a2 < s.1 1 0))) → Q r s) : fm_75 a1 a2 Q s := by
  unfold fm_75
  refine sm_18 hI (show (-2147483648 : Int) ≤ a1 ∧ a1 ≤ (2147483647 : Int) from by omega) (fun z22 q1 => ?_)
  have b2 : 0 ≤ s.1 1 0 ∧ s.1 1 0 ≤ 12 := iv_r1_0 hI
  refine ⟨fun c3 => ?_, fun c3 => ?_⟩
  · skip
    have dc3 := q1.2 c3
    exact hQ 1000 ⟨(show (0 : Int) ≤ 1000 ∧ 1000 ≤ (1000 : Int) from by omega), (show 1000 ≤ 1000 ∨ (0 ≤ a1 ∧ a1 < s.1 1 0 ∧ 0 ≤ a2 ∧ a2 < s.1 1 0) from by omega)⟩
  · skip
    have dc3 := q1.1 c3
    refine sm_18 hI (show (-2147483648 : Int) ≤ a2 ∧ a2 ≤ (2147483647 : Int) from by omega) (fun z24 q4 => ?_)
    refine ⟨fun c5 => ?_, fun c5 => ?_⟩
    · skip
      have dc5 := q4.2 c5
      exact hQ 1000 ⟨(show (0 : Int) ≤ 1000 ∧ 1000 ≤ (1000 : Int) from by omega), (show 1000 ≤ 1000 ∨ (0 ≤ a1 ∧ a1 < s.1 1 0 ∧ 0 ≤ a2 ∧ a2 < s.1 1 0) from by omega)⟩
    · skip
      have dc5 := q4.1 c5
      refine ⟨(show (0 : Int) ≤ (a1 * 12) + a2 ∧ (a1 * 12) + a2 < (144 : Int) from by omega), ?_⟩
      have b6 : 0 ≤ s.1 13 ((a1 * 12) + a2) ∧ s.1 13 ((a1 * 12) + a2) ≤ 1000 := iv_r13 hI _
      exact hQ (s.1 13 ((a1 * 12) + a2)) ⟨(show (0 : Int) ≤ s.1 13 ((a1 * 12) + a2) ∧ s.1 13 ((a1 * 12) + a2) ≤ (1000 : Int) from by omega), (show 1000 ≤ s.1 13 ((a1 * 12) + a2) ∨ (0 ≤ a1 ∧ a1 < s.1 1 0 ∧ 0 ≤ a2 ∧ a2 < s.1 1 0) from by omega)⟩
-- fm_74 Land.nextTowards 1 i i
theorem sm_74_p73 {X13 : Int → Int → lf_Z → Prop} {Q : Int → lf_Z → Prop} {x1 : Int} {x2 : Int} {x3 : Int} {x4 : Int} {x5 : Int} {s : lf_Z} (hQ : ∀ (r : Int), ((-1) ≤ r ∧ r ≤ 11) → Q r s) {M13 : Nat} (hX13 : ∀ (x3 : Int) (x5 : Int), (-1) ≤ x3 ∧ x3 ≤ 11 → 0 ≤ x5 ∧ x5 ≤ 4 → (4 - x5).toNat < M13 → X13 x3 x5 s) (hM13 : (4 - x5).toNat ≤ M13) (hI : iv_A s.1 s.2.2) (bx1 : (-2147483648) ≤ x1 ∧ x1 ≤ 2147483647) (bx2 : (-2147483648) ≤ x2 ∧ x2 ≤ 2147483647) (bx3 : (-1) ≤ x3 ∧ x3 ≤ 11) (bx4 : 0 ≤ x4 ∧ x4 ≤ 999) (bx5 : 0 ≤ x5 ∧ x5 ≤ 3) : fm_74_p73 X13 Q x1 x2 x3 x4 x5 s := by
  unfold fm_74_p73
  exact hX13 (x3) (x5 + 1) (show (-1 : Int) ≤ x3 ∧ x3 ≤ (11 : Int) from by omega) (show (0 : Int) ≤ x5 + 1 ∧ x5 + 1 ≤ (4 : Int) from by omega) (show (4 - (x5 + 1)).toNat < M13 from by omega)
theorem sm_74_p70 {X13 : Int → Int → lf_Z → Prop} {Q : Int → lf_Z → Prop} {x1 : Int} {x2 : Int} {x4 : Int} {x5 : Int} {x6 : Int} {s : lf_Z} (hQ : ∀ (r : Int), ((-1) ≤ r ∧ r ≤ 11) → Q r s) {M13 : Nat} (hX13 : ∀ (x3 : Int) (x5 : Int), (-1) ≤ x3 ∧ x3 ≤ 11 → 0 ≤ x5 ∧ x5 ≤ 4 → (4 - x5).toNat < M13 → X13 x3 x5 s) (hM13 : (4 - x5).toNat ≤ M13) (hI : iv_A s.1 s.2.2) (bx1 : (-2147483648) ≤ x1 ∧ x1 ≤ 2147483647) (bx2 : (-2147483648) ≤ x2 ∧ x2 ≤ 2147483647) (bx4 : 1 ≤ x4 ∧ x4 ≤ 999) (bx5 : 0 ≤ x5 ∧ x5 ≤ 3) (bx6 : (-1) ≤ x6 ∧ x6 ≤ 11) : fm_74_p70 X13 Q x1 x2 x4 x5 x6 s := by
  unfold fm_74_p70
  exact sm_74_p73 hQ hX13 (show (4 - x5).toNat ≤ M13 from by omega) hI (show (-2147483648 : Int) ≤ x1 ∧ x1 ≤ (2147483647 : Int) from by omega) (show (-2147483648 : Int) ≤ x2 ∧ x2 ≤ (2147483647 : Int) from by omega) (show (-1 : Int) ≤ x6 ∧ x6 ≤ (11 : Int) from by omega) (show (0 : Int) ≤ x4 ∧ x4 ≤ (999 : Int) from by omega) (show (0 : Int) ≤ x5 ∧ x5 ≤ (3 : Int) from by omega)
theorem sm_74_p13 {X13 : Int → Int → lf_Z → Prop} {Q : Int → lf_Z → Prop} {x1 : Int} {x2 : Int} {x3 : Int} {x4 : Int} {x5 : Int} {s : lf_Z} (hQ : ∀ (r : Int), ((-1) ≤ r ∧ r ≤ 11) → Q r s) {M13 : Nat} (hX13 : ∀ (x3 : Int) (x5 : Int), (-1) ≤ x3 ∧ x3 ≤ 11 → 0 ≤ x5 ∧ x5 ≤ 4 → (4 - x5).toNat < M13 → X13 x3 x5 s) (hM13 : (4 - x5).toNat ≤ M13) (hI : iv_A s.1 s.2.2) (bx1 : (-2147483648) ≤ x1 ∧ x1 ≤ 2147483647) (bx2 : (-2147483648) ≤ x2 ∧ x2 ≤ 2147483647) (bx3 : (-1) ≤ x3 ∧ x3 ≤ 11) (bx4 : 0 ≤ x4 ∧ x4 ≤ 1000) (bx5 : 0 ≤ x5 ∧ x5 ≤ 4) : fm_74_p13 Q x1 x2 x4 X13 x3 x5 s := by
  unfold fm_74_p13
  refine sm_76 hI (show (-2147483648 : Int) ≤ x1 ∧ x1 ≤ (2147483647 : Int) from by omega) (fun r24 q3 => ?_)
  refine ⟨(show lf_R x5 from lf_Rof (by omega)), ?_⟩
  refine ⟨(show lf_R r24 from lf_Rof (by omega)), ?_⟩
  refine ⟨fun c4 => ?_, fun c4 => ?_⟩
  · skip
    replace c4 : r24 ≤ x5 := c4
    exact hQ x3 (show (-1 : Int) ≤ x3 ∧ x3 ≤ (11 : Int) from by omega)
  · skip
    replace c4 : ¬ (r24 ≤ x5) := c4
    refine ⟨(show lf_R x4 from lf_Rof (by omega)), ?_⟩
    refine ⟨fun c5 => ?_, fun c5 => ?_⟩
    · skip
      replace c5 : 1000 ≤ x4 := c5
      exact hQ x3 (show (-1 : Int) ≤ x3 ∧ x3 ≤ (11 : Int) from by omega)
    · skip
      replace c5 : ¬ (1000 ≤ x4) := c5
      refine sm_77 hI (show (-2147483648 : Int) ≤ x1 ∧ x1 ≤ (2147483647 : Int) from by omega) (show (0 : Int) ≤ x5 ∧ x5 ≤ (3 : Int) from by omega) (fun r29 q6 => ?_)
      refine sm_78 hI (show (-1 : Int) ≤ r29 ∧ r29 ≤ (15 : Int) from by omega) (show (-2147483648 : Int) ≤ x1 ∧ x1 ≤ (2147483647 : Int) from by omega) (fun r31 q7 => ?_)
      obtain ⟨q7, q7x⟩ := q7
      have b8 : 0 ≤ s.1 1 1 ∧ s.1 1 1 ≤ 16 := iv_r1_1 hI
      replace q7x : r31 = iv_od (s.1 1 1) (s.1 4) (s.1 5) r29 x1 := q7x
      refine sm_75 hI (show (-2147483648 : Int) ≤ r31 ∧ r31 ≤ (2147483647 : Int) from by omega) (show (-2147483648 : Int) ≤ x2 ∧ x2 ≤ (2147483647 : Int) from by omega) (fun r33 q9 => ?_)
      obtain ⟨q9, q9x⟩ := q9
      have b10 : 0 ≤ s.1 1 0 ∧ s.1 1 0 ≤ 12 := iv_r1_0 hI
      replace q9x : 1000 ≤ r33 ∨ (0 ≤ r31 ∧ r31 < s.1 1 0 ∧ 0 ≤ x2 ∧ x2 < s.1 1 0) := q9x
      refine ⟨(show lf_R r33 from lf_Rof (by omega)), ?_⟩
      refine ⟨(show lf_R (x4 - 1) from lf_Rof (by omega)), ?_⟩
      refine ⟨fun c11 => ?_, fun c11 => ?_⟩
      · skip
        replace c11 : r33 ≠ x4 - 1 := c11
        exact sm_74_p73 hQ hX13 (show (4 - x5).toNat ≤ M13 from by omega) hI (show (-2147483648 : Int) ≤ x1 ∧ x1 ≤ (2147483647 : Int) from by omega) (show (-2147483648 : Int) ≤ x2 ∧ x2 ≤ (2147483647 : Int) from by omega) (show (-1 : Int) ≤ x3 ∧ x3 ≤ (11 : Int) from by omega) (show (0 : Int) ≤ x4 ∧ x4 ≤ (999 : Int) from by omega) (show (0 : Int) ≤ x5 ∧ x5 ≤ (3 : Int) from by omega)
      · skip
        replace c11 : ¬ (r33 ≠ x4 - 1) := c11
        refine ⟨(show lf_R x3 from lf_Rof (by omega)), ?_⟩
        refine ⟨fun c12 => ?_, fun c12 => ?_⟩
        · skip
          replace c12 : x3 = (-1) := c12
          exact sm_74_p70 hQ hX13 (show (4 - x5).toNat ≤ M13 from by omega) hI (show (-2147483648 : Int) ≤ x1 ∧ x1 ≤ (2147483647 : Int) from by omega) (show (-2147483648 : Int) ≤ x2 ∧ x2 ≤ (2147483647 : Int) from by omega) (show (1 : Int) ≤ x4 ∧ x4 ≤ (999 : Int) from by omega) (show (0 : Int) ≤ x5 ∧ x5 ≤ (3 : Int) from by omega) (show (-1 : Int) ≤ r31 ∧ r31 ≤ (11 : Int) from by omega)
        · skip
          replace c12 : ¬ (x3 = (-1)) := c12
          refine ⟨(show lf_R r31 from lf_Rof (by omega)), ?_⟩
          refine ⟨fun c13 => ?_, fun c13 => ?_⟩
          · skip
            replace c13 : x3 ≤ r31 := c13
            exact sm_74_p73 hQ hX13 (show (4 - x5).toNat ≤ M13 from by omega) hI (show (-2147483648 : Int) ≤ x1 ∧ x1 ≤ (2147483647 : Int) from by omega) (show (-2147483648 : Int) ≤ x2 ∧ x2 ≤ (2147483647 : Int) from by omega) (show (-1 : Int) ≤ x3 ∧ x3 ≤ (11 : Int) from by omega) (show (0 : Int) ≤ x4 ∧ x4 ≤ (999 : Int) from by omega) (show (0 : Int) ≤ x5 ∧ x5 ≤ (3 : Int) from by omega)
          · skip
            replace c13 : ¬ (x3 ≤ r31) := c13
            exact sm_74_p70 hQ hX13 (show (4 - x5).toNat ≤ M13 from by omega) hI (show (-2147483648 : Int) ≤ x1 ∧ x1 ≤ (2147483647 : Int) from by omega) (show (-2147483648 : Int) ≤ x2 ∧ x2 ≤ (2147483647 : Int) from by omega) (show (1 : Int) ≤ x4 ∧ x4 ≤ (999 : Int) from by omega) (show (0 : Int) ≤ x5 ∧ x5 ≤ (3 : Int) from by omega) (show (-1 : Int) ≤ r31 ∧ r31 ≤ (11 : Int) from by omega)
theorem sm_74_p13L {Q : Int → lf_Z → Prop} {x1 : Int} {x2 : Int} {x3 : Int} {x4 : Int} {x5 : Int} {s : lf_Z} (hQ : ∀ (r : Int), ((-1) ≤ r ∧ r ≤ 11) → Q r s) (hI : iv_A s.1 s.2.2) (bx1 : (-2147483648) ≤ x1 ∧ x1 ≤ 2147483647) (bx2 : (-2147483648) ≤ x2 ∧ x2 ≤ 2147483647) (bx3 : (-1) ≤ x3 ∧ x3 ≤ 11) (bx4 : 0 ≤ x4 ∧ x4 ≤ 1000) (bx5 : 0 ≤ x5 ∧ x5 ≤ 4) : fm_74_p13L Q x1 x2 x3 x4 x5 s := by
  intro X13 hX
  have key : ∀ (m9 : Nat) (x3 : Int) (x5 : Int), (-1) ≤ x3 ∧ x3 ≤ 11 → 0 ≤ x5 ∧ x5 ≤ 4 → (4 - x5).toNat < m9 → X13 x3 x5 s := by
    intro m9
    induction m9 with
    | zero => intro x3 x5 bx3 bx5 h9; exact absurd h9 (Nat.not_lt_zero _)
    | succ m9 ih => intro x3 x5 bx3 bx5 h9; exact hX _ _ _ (sm_74_p13 hQ   (fun x3' x5' bx3' bx5' h8 => ih x3' x5' bx3' bx5' (by omega)) (Nat.le_refl _)  hI  bx1 bx2 bx3 bx4 bx5  )
  exact key _ _ _ bx3 bx5   (Nat.lt_succ_self _)
theorem sm_74 {a1 : Int} {a2 : Int} {Q : Int → lf_Z → Prop} {s : lf_Z} (hI : iv_A s.1 s.2.2) (ba1 : (-2147483648) ≤ a1 ∧ a1 ≤ 2147483647) (ba2 : (-2147483648) ≤ a2 ∧ a2 ≤ 2147483647) (hQ : ∀ (r : Int), ((-1) ≤ r ∧ r ≤ 11) → Q r s) : fm_74 a1 a2 Q s := by
  unfold fm_74
  refine sm_75 hI (show (-2147483648 : Int) ≤ a1 ∧ a1 ≤ (2147483647 : Int) from by omega) (show (-2147483648 : Int) ≤ a2 ∧ a2 ≤ (2147483647 : Int) from by omega) (fun r22 q1 => ?_)
  obtain ⟨q1, q1x⟩ := q1
  have b2 : 0 ≤ s.1 1 0 ∧ s.1 1 0 ≤ 12 := iv_r1_0 hI
  replace q1x : 1000 ≤ r22 ∨ (0 ≤ a1 ∧ a1 < s.1 1 0 ∧ 0 ≤ a2 ∧ a2 < s.1 1 0) := q1x
  exact sm_74_p13L hQ hI (show (-2147483648 : Int) ≤ a1 ∧ a1 ≤ (2147483647 : Int) from by omega) (show (-2147483648 : Int) ≤ a2 ∧ a2 ≤ (2147483647 : Int) from by omega) (show (-1 : Int) ≤ (-1) ∧ (-1) ≤ (11 : Int) from by omega) (show (0 : Int) ≤ r22 ∧ r22 ≤ (1000 : Int) from by omega) (show (0 : Int) ≤ 0 ∧ 0 ≤ (4 : Int) from by omega)
-- fm_73 Minutes.goOn 67 i
theorem sm_73 {a1 : Int} {Q : lf_Z → Prop} {s : lf_Z} (hI : iv_A s.1 s.2.2) (ba1 : 0 ≤ a1 ∧ a1 ≤ 5) (hQ : ∀  (s' : lf_Z), iv_A s'.1 s'.2.2 → lf_fq [19] 1000000 true s.1 s.2.2 s'.1 s'.2.2 → Q  s') : fm_73 a1 Q s := by
  unfold fm_73
  refine ⟨(show (0 : Int) ≤ a1 ∧ a1 < (6 : Int) from by omega), ?_⟩
  have b1 : (-2147483648) ≤ s.1 20 a1 ∧ s.1 20 a1 ≤ 2147483647 := iv_full hI
  refine ⟨(show lf_R (s.1 20 a1) from lf_Rof (by omega)), ?_⟩
  refine ⟨fun c2 => ?_, fun c2 => ?_⟩
  · skip
    replace c2 : s.1 20 a1 = (-1) := c2
    exact hQ s hI (lf_fq_rf)
  · skip
    replace c2 : ¬ (s.1 20 a1 = (-1)) := c2
    have b3 : (-2147483648) ≤ s.1 19 a1 ∧ s.1 19 a1 ≤ 2147483647 := iv_full hI
    refine ⟨(show lf_R (s.1 19 a1) from lf_Rof (by omega)), ?_⟩
    refine ⟨fun c4 => ?_, fun c4 => ?_⟩
    · skip
      replace c4 : s.1 20 a1 ≠ s.1 19 a1 := c4
      refine sm_74 hI (show (-2147483648 : Int) ≤ s.1 19 a1 ∧ s.1 19 a1 ≤ (2147483647 : Int) from by omega) (show (-2147483648 : Int) ≤ s.1 20 a1 ∧ s.1 20 a1 ≤ (2147483647 : Int) from by omega) (fun r25 q5 => ?_)
      refine ⟨(show lf_R r25 from lf_Rof (by omega)), ?_⟩
      refine ⟨fun c6 => ?_, fun c6 => ?_⟩
      · skip
        replace c6 : r25 = (-1) := c6
        exact hQ s hI (lf_fq_rf)
      · skip
        replace c6 : ¬ (r25 = (-1)) := c6
        have hI7 : iv_A (lf_up s.1 19 a1 r25) s.2.2 := iv_w19 hI (by omega)
        have fr8 : lf_fq [19] 1000000 true s.1 s.2.2 (lf_up s.1 19 a1 r25) s.2.2 := lf_fq_up (lf_fq_rf) rfl (fun h => absurd h (by decide))
        exact hQ (lf_up s.1 19 a1 r25, s.2.1, s.2.2) hI7 fr8
    · skip
      replace c4 : ¬ (s.1 20 a1 ≠ s.1 19 a1) := c4
      exact hQ s hI (lf_fq_rf)
-- fm_72 Minutes.pass 67
theorem sm_72_p74 {X43 : Int → lf_Z → Prop} {X74 : Int → lf_Z → Prop} {Q : lf_Z → Prop} {x1 : Int} {x2 : Int} {x3 : Int} {s : lf_Z} (hQ : ∀  (s' : lf_Z), iv_A s'.1 s'.2.2 → lf_fq [15, 16, 17, 18, 19, 21, 63, 64, 65, 66] 1000000 true s.1 s.2.2 s'.1 s'.2.2 → Q  s') {M43 : Nat} (hX43 : ∀ (x1 : Int) (s' : lf_Z), iv_A s'.1 s'.2.2 → lf_fq [15, 16, 17, 18, 19, 21, 63, 64, 65, 66] 1000000 true s.1 s.2.2 s'.1 s'.2.2 → 0 ≤ x1 ∧ x1 ≤ 4 → (4 - x1).toNat < M43 → X43 x1 s') (hM43 : (4 - x1).toNat ≤ M43) {M74 : Nat} (hX74 : ∀ (x3 : Int) (s' : lf_Z), iv_A s'.1 s'.2.2 → lf_fq [15, 16, 17, 18, 19, 21, 63, 64, 65, 66] 1000000 true s.1 s.2.2 s'.1 s'.2.2 → 0 ≤ x3 ∧ x3 ≤ 2147483646 → (2147483646 - x3).toNat < M74 → X74 x3 s') (hM74 : (2147483646 - x3).toNat ≤ M74) (hI : iv_A s.1 s.2.2) (bx1 : 0 ≤ x1 ∧ x1 ≤ 3) (bx2 : 0 ≤ x2 ∧ x2 ≤ 1000000) (bx3 : 0 ≤ x3 ∧ x3 ≤ 2147483646) : fm_72_p74 X43 Q x1 x2 X74 x3 s := by
  unfold fm_72_p74
  refine ⟨(show lf_R x3 from lf_Rof (by omega)), ?_⟩
  refine ⟨(show lf_R x2 from lf_Rof (by omega)), ?_⟩
  refine ⟨fun c21 => ?_, fun c21 => ?_⟩
  · skip
    replace c21 : x2 ≤ x3 := c21
    exact hX43 (x1 + 1) s hI (lf_fq_rf) (show (0 : Int) ≤ x1 + 1 ∧ x1 + 1 ≤ (4 : Int) from by omega) (show (4 - (x1 + 1)).toNat < M43 from by omega)
  · skip
    replace c21 : ¬ (x2 ≤ x3) := c21
    refine sm_88 hI (show (0 : Int) ≤ x1 ∧ x1 ≤ (3 : Int) from by omega) (fun s30 hI23 fr22 => ?_)
    have fr25 : lf_fq [15, 16, 17, 18, 19, 21, 63, 64, 65, 66] 1000000 true s.1 s.2.2 s30.1 s30.2.2 := lf_fq_tr (lf_fq_rf) (lf_fq_wk fr22 rfl (by decide) (by decide))
    exact hX74 (x3 + 1) s30 hI23 fr25 (show (0 : Int) ≤ x3 + 1 ∧ x3 + 1 ≤ (2147483646 : Int) from by omega) (show (2147483646 - (x3 + 1)).toNat < M74 from by omega)
theorem sm_72_p74L {X43 : Int → lf_Z → Prop} {Q : lf_Z → Prop} {x1 : Int} {x2 : Int} {x3 : Int} {s : lf_Z} (hQ : ∀  (s' : lf_Z), iv_A s'.1 s'.2.2 → lf_fq [15, 16, 17, 18, 19, 21, 63, 64, 65, 66] 1000000 true s.1 s.2.2 s'.1 s'.2.2 → Q  s') {M43 : Nat} (hX43 : ∀ (x1 : Int) (s' : lf_Z), iv_A s'.1 s'.2.2 → lf_fq [15, 16, 17, 18, 19, 21, 63, 64, 65, 66] 1000000 true s.1 s.2.2 s'.1 s'.2.2 → 0 ≤ x1 ∧ x1 ≤ 4 → (4 - x1).toNat < M43 → X43 x1 s') (hM43 : (4 - x1).toNat ≤ M43) (hI : iv_A s.1 s.2.2) (bx1 : 0 ≤ x1 ∧ x1 ≤ 3) (bx2 : 0 ≤ x2 ∧ x2 ≤ 1000000) (bx3 : 0 ≤ x3 ∧ x3 ≤ 2147483646) : fm_72_p74L X43 Q x1 x2 x3 s := by
  intro X74 hX
  have key : ∀ (m9 : Nat) (x3 : Int) (s' : lf_Z), iv_A s'.1 s'.2.2 → lf_fq [15, 16, 17, 18, 19, 21, 63, 64, 65, 66] 1000000 true s.1 s.2.2 s'.1 s'.2.2 → 0 ≤ x3 ∧ x3 ≤ 2147483646 → (2147483646 - x3).toNat < m9 → X74 x3 s' := by
    intro m9
    induction m9 with
    | zero => intro x3 s' _ _ bx3 h9; exact absurd h9 (Nat.not_lt_zero _)
    | succ m9 ih => intro x3 s' i7 f7 bx3 h9; exact hX _ _ (sm_72_p74 (fun t9 i9 f9 => hQ t9 i9 (lf_fq_tr f7 f9))  (fun p0 t9 i9 f9 => hX43 p0 t9 i9 (lf_fq_tr f7 f9)) hM43 (fun x3' t8 i8 f8 bx3' h8 => ih x3' t8 i8 (lf_fq_tr f7 f8) bx3' (by omega)) (Nat.le_refl _)  i7  bx1 bx2 bx3  )
  exact key _ _ s hI lf_fq_rf bx3 (Nat.lt_succ_self _)
theorem sm_72_p71 {X43 : Int → lf_Z → Prop} {Q : lf_Z → Prop} {x1 : Int} {y0 : Int} {s : lf_Z} (hQ : ∀  (s' : lf_Z), iv_A s'.1 s'.2.2 → lf_fq [15, 16, 17, 18, 19, 21, 63, 64, 65, 66] 1000000 true s.1 s.2.2 s'.1 s'.2.2 → Q  s') {M43 : Nat} (hX43 : ∀ (x1 : Int) (s' : lf_Z), iv_A s'.1 s'.2.2 → lf_fq [15, 16, 17, 18, 19, 21, 63, 64, 65, 66] 1000000 true s.1 s.2.2 s'.1 s'.2.2 → 0 ≤ x1 ∧ x1 ≤ 4 → (4 - x1).toNat < M43 → X43 x1 s') (hM43 : (4 - x1).toNat ≤ M43) (hI : iv_A s.1 s.2.2) (bx1 : 0 ≤ x1 ∧ x1 ≤ 3) (by0 : 0 ≤ y0 ∧ y0 ≤ 1000000) : fm_72_p71 X43 Q x1 y0 s := by
  unfold fm_72_p71
  exact sm_72_p74L hQ hX43 (show (4 - x1).toNat ≤ M43 from by omega) hI (show (0 : Int) ≤ x1 ∧ x1 ≤ (3 : Int) from by omega) (show (0 : Int) ≤ y0 ∧ y0 ≤ (1000000 : Int) from by omega) (show (0 : Int) ≤ 0 ∧ 0 ≤ (2147483646 : Int) from by omega)
theorem sm_72_p43 {X43 : Int → lf_Z → Prop} {Q : lf_Z → Prop} {x1 : Int} {s : lf_Z} (hQ : ∀  (s' : lf_Z), iv_A s'.1 s'.2.2 → lf_fq [15, 16, 17, 18, 19, 21, 63, 64, 65, 66] 1000000 true s.1 s.2.2 s'.1 s'.2.2 → Q  s') {M43 : Nat} (hX43 : ∀ (x1 : Int) (s' : lf_Z), iv_A s'.1 s'.2.2 → lf_fq [15, 16, 17, 18, 19, 21, 63, 64, 65, 66] 1000000 true s.1 s.2.2 s'.1 s'.2.2 → 0 ≤ x1 ∧ x1 ≤ 4 → (4 - x1).toNat < M43 → X43 x1 s') (hM43 : (4 - x1).toNat ≤ M43) (hI : iv_A s.1 s.2.2) (bx1 : 0 ≤ x1 ∧ x1 ≤ 4) : fm_72_p43 Q X43 x1 s := by
  unfold fm_72_p43
  refine ⟨(show lf_R x1 from lf_Rof (by omega)), ?_⟩
  refine ⟨fun c3 => ?_, fun c3 => ?_⟩
  · skip
    replace c3 : 4 ≤ x1 := c3
    refine sm_95 hI (fun s24 hI5 fr4 => ?_)
    have fr7 : lf_fq [15, 16, 17, 18, 19, 21, 63, 64, 65, 66] 1000000 true s.1 s.2.2 s24.1 s24.2.2 := lf_fq_tr (lf_fq_rf) (lf_fq_wk fr4 rfl (by decide) (by decide))
    refine sm_96 hI5 (fun s25 hI9 fr8 => ?_)
    have fr11 : lf_fq [15, 16, 17, 18, 19, 21, 63, 64, 65, 66] 1000000 true s.1 s.2.2 s25.1 s25.2.2 := lf_fq_tr fr7 (lf_fq_wk fr8 rfl (by decide) (by decide))
    have b12 : (-2147483648) ≤ s25.1 15 7 ∧ s25.1 15 7 ≤ 2147483647 := iv_full hI9
    have b13 : s25.1 15 7 = s24.1 15 7 := congrFun (fr8.1 15 rfl) _
    have b14 : s24.1 15 7 = s.1 15 7 := congrFun (fr4.1 15 rfl) _
    have b15 : (-2147483648) ≤ lf_w ((s25.1 15 7) + 1) ∧ lf_w ((s25.1 15 7) + 1) ≤ 2147483647 := lf_wB
    have hI16 : iv_A (lf_up s25.1 15 7 (lf_w ((s25.1 15 7) + 1))) s25.2.2 := iv_w15_7 hI9 (by omega)
    have fr17 : lf_fq [15, 16, 17, 18, 19, 21, 63, 64, 65, 66] 1000000 true s.1 s.2.2 (lf_up s25.1 15 7 (lf_w ((s25.1 15 7) + 1))) s25.2.2 := lf_fq_up fr11 rfl (fun h => absurd h (by decide))
    exact hQ (lf_up s25.1 15 7 (lf_w ((s25.1 15 7) + 1)), s25.2.1, s25.2.2) hI16 fr17
  · skip
    replace c3 : ¬ (4 ≤ x1) := c3
    refine sm_80 hI (show (-2147483648 : Int) ≤ x1 ∧ x1 ≤ (2147483647 : Int) from by omega) (fun z27 q18 => ?_)
    have b19 : (-2147483648) ≤ s.1 16 x1 ∧ s.1 16 x1 ≤ 2147483647 := iv_full hI
    refine ⟨fun c20 => ?_, fun c20 => ?_⟩
    · skip
      have dc20 := q18.2 c20
      exact sm_72_p71 hQ hX43 (show (4 - x1).toNat ≤ M43 from by omega) hI (show (0 : Int) ≤ x1 ∧ x1 ≤ (3 : Int) from by omega) (show (0 : Int) ≤ 0 ∧ 0 ≤ (1000000 : Int) from by omega)
    · skip
      have dc20 := q18.1 c20
      refine sm_81 hI (show (0 : Int) ≤ x1 ∧ x1 ≤ (3 : Int) from by omega) (fun r32 s31 hI27 fr26 q28 => ?_)
      have fr29 : lf_fq [15, 16, 17, 18, 19, 21, 63, 64, 65, 66] 1000000 true s.1 s.2.2 s31.1 s31.2.2 := lf_fq_tr (lf_fq_rf) (lf_fq_wk fr26 rfl (by decide) (by decide))
      exact sm_72_p71 (fun t9 i9 f9 => hQ t9 i9 (lf_fq_tr fr29 f9)) (fun p0 t9 i9 f9 => hX43 p0 t9 i9 (lf_fq_tr fr29 f9)) (show (4 - x1).toNat ≤ M43 from by omega) hI27 (show (0 : Int) ≤ x1 ∧ x1 ≤ (3 : Int) from by omega) (show (0 : Int) ≤ r32 ∧ r32 ≤ (1000000 : Int) from by omega)
theorem sm_72_p43L {Q : lf_Z → Prop} {x1 : Int} {s : lf_Z} (hQ : ∀  (s' : lf_Z), iv_A s'.1 s'.2.2 → lf_fq [15, 16, 17, 18, 19, 21, 63, 64, 65, 66] 1000000 true s.1 s.2.2 s'.1 s'.2.2 → Q  s') (hI : iv_A s.1 s.2.2) (bx1 : 0 ≤ x1 ∧ x1 ≤ 4) : fm_72_p43L Q x1 s := by
  intro X43 hX
  have key : ∀ (m9 : Nat) (x1 : Int) (s' : lf_Z), iv_A s'.1 s'.2.2 → lf_fq [15, 16, 17, 18, 19, 21, 63, 64, 65, 66] 1000000 true s.1 s.2.2 s'.1 s'.2.2 → 0 ≤ x1 ∧ x1 ≤ 4 → (4 - x1).toNat < m9 → X43 x1 s' := by
    intro m9
    induction m9 with
    | zero => intro x1 s' _ _ bx1 h9; exact absurd h9 (Nat.not_lt_zero _)
    | succ m9 ih => intro x1 s' i7 f7 bx1 h9; exact hX _ _ (sm_72_p43 (fun t9 i9 f9 => hQ t9 i9 (lf_fq_tr f7 f9))   (fun x1' t8 i8 f8 bx1' h8 => ih x1' t8 i8 (lf_fq_tr f7 f8) bx1' (by omega)) (Nat.le_refl _)  i7  bx1  )
  exact key _ _ s hI lf_fq_rf bx1 (Nat.lt_succ_self _)
theorem sm_72_p35 {X2 : Int → lf_Z → Prop} {Q : lf_Z → Prop} {x1 : Int} {s : lf_Z} (hQ : ∀  (s' : lf_Z), iv_A s'.1 s'.2.2 → lf_fq [15, 16, 17, 18, 19, 21, 63, 64, 65, 66] 1000000 true s.1 s.2.2 s'.1 s'.2.2 → Q  s') {M2 : Nat} (hX2 : ∀ (x1 : Int) (s' : lf_Z), iv_A s'.1 s'.2.2 → lf_fq [15, 16, 17, 18, 19, 21, 63, 64, 65, 66] 1000000 true s.1 s.2.2 s'.1 s'.2.2 → 0 ≤ x1 ∧ x1 ≤ 6 → (6 - x1).toNat < M2 → X2 x1 s') (hM2 : (6 - x1).toNat ≤ M2) (hI : iv_A s.1 s.2.2) (bx1 : 0 ≤ x1 ∧ x1 ≤ 5) : fm_72_p35 X2 Q x1 s := by
  unfold fm_72_p35
  exact hX2 (x1 + 1) s hI (lf_fq_rf) (show (0 : Int) ≤ x1 + 1 ∧ x1 + 1 ≤ (6 : Int) from by omega) (show (6 - (x1 + 1)).toNat < M2 from by omega)
theorem sm_72_p2 {X2 : Int → lf_Z → Prop} {Q : lf_Z → Prop} {x1 : Int} {s : lf_Z} (hQ : ∀  (s' : lf_Z), iv_A s'.1 s'.2.2 → lf_fq [15, 16, 17, 18, 19, 21, 63, 64, 65, 66] 1000000 true s.1 s.2.2 s'.1 s'.2.2 → Q  s') {M2 : Nat} (hX2 : ∀ (x1 : Int) (s' : lf_Z), iv_A s'.1 s'.2.2 → lf_fq [15, 16, 17, 18, 19, 21, 63, 64, 65, 66] 1000000 true s.1 s.2.2 s'.1 s'.2.2 → 0 ≤ x1 ∧ x1 ≤ 6 → (6 - x1).toNat < M2 → X2 x1 s') (hM2 : (6 - x1).toNat ≤ M2) (hI : iv_A s.1 s.2.2) (bx1 : 0 ≤ x1 ∧ x1 ≤ 6) : fm_72_p2 Q X2 x1 s := by
  unfold fm_72_p2
  have b1 : 0 ≤ s.1 1 2 ∧ s.1 1 2 ≤ 6 := iv_r1_2 hI
  refine ⟨(show lf_R x1 from lf_Rof (by omega)), ?_⟩
  refine ⟨(show lf_R (s.1 1 2) from lf_Rof (by omega)), ?_⟩
  refine ⟨fun c2 => ?_, fun c2 => ?_⟩
  · skip
    replace c2 : s.1 1 2 ≤ x1 := c2
    exact sm_72_p43L hQ hI (show (0 : Int) ≤ 0 ∧ 0 ≤ (4 : Int) from by omega)
  · skip
    replace c2 : ¬ (s.1 1 2 ≤ x1) := c2
    refine sm_73 hI (show (0 : Int) ≤ x1 ∧ x1 ≤ (5 : Int) from by omega) (fun s33 hI31 fr30 => ?_)
    have fr33 : lf_fq [15, 16, 17, 18, 19, 21, 63, 64, 65, 66] 1000000 true s.1 s.2.2 s33.1 s33.2.2 := lf_fq_tr (lf_fq_rf) (lf_fq_wk fr30 rfl (by decide) (by decide))
    refine ⟨(show (0 : Int) ≤ x1 ∧ x1 < (6 : Int) from by omega), ?_⟩
    have b34 : 0 ≤ s33.1 8 x1 ∧ s33.1 8 x1 ≤ 1 := iv_r8 hI31 _
    have b35 : s33.1 8 x1 = s.1 8 x1 := congrFun (fr30.1 8 rfl) _
    refine ⟨(show lf_R (s33.1 8 x1) from lf_Rof (by omega)), ?_⟩
    refine ⟨fun c36 => ?_, fun c36 => ?_⟩
    · skip
      replace c36 : s33.1 8 x1 = 0 := c36
      exact sm_72_p35 (fun t9 i9 f9 => hQ t9 i9 (lf_fq_tr fr33 f9)) (fun p0 t9 i9 f9 => hX2 p0 t9 i9 (lf_fq_tr fr33 f9)) (show (6 - x1).toNat ≤ M2 from by omega) hI31 (show (0 : Int) ≤ x1 ∧ x1 ≤ (5 : Int) from by omega)
    · skip
      replace c36 : ¬ (s33.1 8 x1 = 0) := c36
      refine sm_73 hI31 (show (0 : Int) ≤ x1 ∧ x1 ≤ (5 : Int) from by omega) (fun s36 hI38 fr37 => ?_)
      have fr40 : lf_fq [15, 16, 17, 18, 19, 21, 63, 64, 65, 66] 1000000 true s.1 s.2.2 s36.1 s36.2.2 := lf_fq_tr fr33 (lf_fq_wk fr37 rfl (by decide) (by decide))
      exact sm_72_p35 (fun t9 i9 f9 => hQ t9 i9 (lf_fq_tr fr40 f9)) (fun p0 t9 i9 f9 => hX2 p0 t9 i9 (lf_fq_tr fr40 f9)) (show (6 - x1).toNat ≤ M2 from by omega) hI38 (show (0 : Int) ≤ x1 ∧ x1 ≤ (5 : Int) from by omega)
theorem sm_72_p2L {Q : lf_Z → Prop} {x1 : Int} {s : lf_Z} (hQ : ∀  (s' : lf_Z), iv_A s'.1 s'.2.2 → lf_fq [15, 16, 17, 18, 19, 21, 63, 64, 65, 66] 1000000 true s.1 s.2.2 s'.1 s'.2.2 → Q  s') (hI : iv_A s.1 s.2.2) (bx1 : 0 ≤ x1 ∧ x1 ≤ 6) : fm_72_p2L Q x1 s := by
  intro X2 hX
  have key : ∀ (m9 : Nat) (x1 : Int) (s' : lf_Z), iv_A s'.1 s'.2.2 → lf_fq [15, 16, 17, 18, 19, 21, 63, 64, 65, 66] 1000000 true s.1 s.2.2 s'.1 s'.2.2 → 0 ≤ x1 ∧ x1 ≤ 6 → (6 - x1).toNat < m9 → X2 x1 s' := by
    intro m9
    induction m9 with
    | zero => intro x1 s' _ _ bx1 h9; exact absurd h9 (Nat.not_lt_zero _)
    | succ m9 ih => intro x1 s' i7 f7 bx1 h9; exact hX _ _ (sm_72_p2 (fun t9 i9 f9 => hQ t9 i9 (lf_fq_tr f7 f9))   (fun x1' t8 i8 f8 bx1' h8 => ih x1' t8 i8 (lf_fq_tr f7 f8) bx1' (by omega)) (Nat.le_refl _)  i7  bx1  )
  exact key _ _ s hI lf_fq_rf bx1 (Nat.lt_succ_self _)
theorem sm_72 {Q : lf_Z → Prop} {s : lf_Z} (hI : iv_A s.1 s.2.2) (hQ : ∀  (s' : lf_Z), iv_A s'.1 s'.2.2 → lf_fq [15, 16, 17, 18, 19, 21, 63, 64, 65, 66] 1000000 true s.1 s.2.2 s'.1 s'.2.2 → Q  s') : fm_72 Q s := by
  unfold fm_72
  exact sm_72_p2L hQ hI (show (0 : Int) ≤ 0 ∧ 0 ≤ (6 : Int) from by omega)
-- fm_71 ElevenBullocks.passMinutes 0 i
theorem sm_71_p2 {X2 : Int → lf_Z → Prop} {Q : Bool → lf_Z → Prop} {x1 : Int} {x2 : Int} {s : lf_Z} (hQ : ∀ (z : Bool) (s' : lf_Z), iv_A s'.1 s'.2.2 → lf_fq [15, 16, 17, 18, 19, 21, 22, 23, 24, 63, 64, 65, 66] 1000000 true s.1 s.2.2 s'.1 s'.2.2 → Q z s') {M2 : Nat} (hX2 : ∀ (x2 : Int) (s' : lf_Z), iv_A s'.1 s'.2.2 → lf_fq [15, 16, 17, 18, 19, 21, 22, 23, 24, 63, 64, 65, 66] 1000000 true s.1 s.2.2 s'.1 s'.2.2 → 0 ≤ x2 ∧ x2 ≤ 2147483647 → (2147483647 - x2).toNat < M2 → X2 x2 s') (hM2 : (2147483647 - x2).toNat ≤ M2) (hI : iv_A s.1 s.2.2) (bx1 : (-2147483648) ≤ x1 ∧ x1 ≤ 2147483647) (bx2 : 0 ≤ x2 ∧ x2 ≤ 2147483647) : fm_71_p2 Q x1 X2 x2 s := by
  unfold fm_71_p2
  refine ⟨(show lf_R x2 from lf_Rof (by omega)), ?_⟩
  refine ⟨(show lf_R x1 from lf_Rof (by omega)), ?_⟩
  refine ⟨fun c1 => ?_, fun c1 => ?_⟩
  · skip
    replace c1 : x1 ≤ x2 := c1
    exact hQ true s hI (lf_fq_rf)
  · skip
    replace c1 : ¬ (x1 ≤ x2) := c1
    have b2 : (-2147483648) ≤ s.1 15 7 ∧ s.1 15 7 ≤ 2147483647 := iv_full hI
    refine ⟨(show lf_R (s.1 15 7) from lf_Rof (by omega)), ?_⟩
    refine ⟨fun c3 => ?_, fun c3 => ?_⟩
    · skip
      replace c3 : s.1 15 7 < 999 := c3
      have b4 : 0 ≤ s.1 1 2 ∧ s.1 1 2 ≤ 6 := iv_r1_2 hI
      refine sm_67 hI (show (0 : Int) ≤ s.1 1 2 ∧ s.1 1 2 ≤ (6 : Int) from by omega) (fun s24 hI6 fr5 => ?_)
      have fr8 : lf_fq [15, 16, 17, 18, 19, 21, 22, 23, 24, 63, 64, 65, 66] 1000000 true s.1 s.2.2 s24.1 s24.2.2 := lf_fq_tr (lf_fq_rf) (lf_fq_wk fr5 rfl (by decide) (by decide))
      refine sm_72 hI6 (fun s25 hI10 fr9 => ?_)
      have fr12 : lf_fq [15, 16, 17, 18, 19, 21, 22, 23, 24, 63, 64, 65, 66] 1000000 true s.1 s.2.2 s25.1 s25.2.2 := lf_fq_tr fr8 (lf_fq_wk fr9 rfl (by decide) (by decide))
      exact hX2 (x2 + 1) s25 hI10 fr12 (show (0 : Int) ≤ x2 + 1 ∧ x2 + 1 ≤ (2147483647 : Int) from by omega) (show (2147483647 - (x2 + 1)).toNat < M2 from by omega)
    · skip
      replace c3 : ¬ (s.1 15 7 < 999) := c3
      exact hQ false s hI (lf_fq_rf)
theorem sm_71_p2L {Q : Bool → lf_Z → Prop} {x1 : Int} {x2 : Int} {s : lf_Z} (hQ : ∀ (z : Bool) (s' : lf_Z), iv_A s'.1 s'.2.2 → lf_fq [15, 16, 17, 18, 19, 21, 22, 23, 24, 63, 64, 65, 66] 1000000 true s.1 s.2.2 s'.1 s'.2.2 → Q z s') (hI : iv_A s.1 s.2.2) (bx1 : (-2147483648) ≤ x1 ∧ x1 ≤ 2147483647) (bx2 : 0 ≤ x2 ∧ x2 ≤ 2147483647) : fm_71_p2L Q x1 x2 s := by
  intro X2 hX
  have key : ∀ (m9 : Nat) (x2 : Int) (s' : lf_Z), iv_A s'.1 s'.2.2 → lf_fq [15, 16, 17, 18, 19, 21, 22, 23, 24, 63, 64, 65, 66] 1000000 true s.1 s.2.2 s'.1 s'.2.2 → 0 ≤ x2 ∧ x2 ≤ 2147483647 → (2147483647 - x2).toNat < m9 → X2 x2 s' := by
    intro m9
    induction m9 with
    | zero => intro x2 s' _ _ bx2 h9; exact absurd h9 (Nat.not_lt_zero _)
    | succ m9 ih => intro x2 s' i7 f7 bx2 h9; exact hX _ _ (sm_71_p2 (fun r9 t9 i9 f9 => hQ r9 t9 i9 (lf_fq_tr f7 f9))   (fun x2' t8 i8 f8 bx2' h8 => ih x2' t8 i8 (lf_fq_tr f7 f8) bx2' (by omega)) (Nat.le_refl _)  i7  bx1 bx2  )
  exact key _ _ s hI lf_fq_rf bx2 (Nat.lt_succ_self _)
theorem sm_71 {a1 : Int} {Q : Bool → lf_Z → Prop} {s : lf_Z} (hI : iv_A s.1 s.2.2) (ba1 : (-2147483648) ≤ a1 ∧ a1 ≤ 2147483647) (hQ : ∀ (z : Bool) (s' : lf_Z), iv_A s'.1 s'.2.2 → lf_fq [15, 16, 17, 18, 19, 21, 22, 23, 24, 63, 64, 65, 66] 1000000 true s.1 s.2.2 s'.1 s'.2.2 → Q z s') : fm_71 a1 Q s := by
  unfold fm_71
  exact sm_71_p2L hQ hI (show (-2147483648 : Int) ≤ a1 ∧ a1 ≤ (2147483647 : Int) from by omega) (show (0 : Int) ≤ 0 ∧ 0 ≤ (2147483647 : Int) from by omega)
-- fm_65b Stand.sum 21
theorem sm_65b_p10 {X10 : Int → Int → lf_Z → Prop} {Q : Int → lf_Z → Prop} {x1 : Int} {x3 : Int} {x4 : Int} {s : lf_Z} (hQ : ∀ (r : Int), ((-2147483648) ≤ r ∧ r ≤ 2147483647) → Q r s) {M10 : Nat} (hX10 : ∀ (x1 : Int) (x4 : Int), (-2147483648) ≤ x1 ∧ x1 ≤ 2147483647 → 0 ≤ x4 ∧ x4 ≤ 12 → (12 - x4).toNat < M10 → X10 x1 x4 s) (hM10 : (12 - x4).toNat ≤ M10) (hI : iv_A s.1 s.2.2) (bx1 : (-2147483648) ≤ x1 ∧ x1 ≤ 2147483647) (bx3 : 12 ≤ x3 ∧ x3 ≤ 12) (bx4 : 0 ≤ x4 ∧ x4 ≤ 12) : fm_65b_p10 Q x3 X10 x1 x4 s := by
  unfold fm_65b_p10
  refine ⟨(show lf_R x4 from lf_Rof (by omega)), ?_⟩
  refine ⟨(show lf_R x3 from lf_Rof (by omega)), ?_⟩
  refine ⟨fun c1 => ?_, fun c1 => ?_⟩
  · skip
    replace c1 : x3 ≤ x4 := c1
    exact hQ x1 (show (-2147483648 : Int) ≤ x1 ∧ x1 ≤ (2147483647 : Int) from by omega)
  · skip
    replace c1 : ¬ (x3 ≤ x4) := c1
    refine ⟨(show (0 : Int) ≤ x4 ∧ x4 < (12 : Int) from by omega), ?_⟩
    have b2 : (-2147483648) ≤ s.1 21 x4 ∧ s.1 21 x4 ≤ 2147483647 := iv_full hI
    have b3 : (-2147483648) ≤ lf_w (x1 + (s.1 21 x4)) ∧ lf_w (x1 + (s.1 21 x4)) ≤ 2147483647 := lf_wB
    exact hX10 (lf_w (x1 + (s.1 21 x4))) (x4 + 1) (show (-2147483648 : Int) ≤ lf_w (x1 + (s.1 21 x4)) ∧ lf_w (x1 + (s.1 21 x4)) ≤ (2147483647 : Int) from by omega) (show (0 : Int) ≤ x4 + 1 ∧ x4 + 1 ≤ (12 : Int) from by omega) (show (12 - (x4 + 1)).toNat < M10 from by omega)
theorem sm_65b_p10L {Q : Int → lf_Z → Prop} {x1 : Int} {x3 : Int} {x4 : Int} {s : lf_Z} (hQ : ∀ (r : Int), ((-2147483648) ≤ r ∧ r ≤ 2147483647) → Q r s) (hI : iv_A s.1 s.2.2) (bx1 : (-2147483648) ≤ x1 ∧ x1 ≤ 2147483647) (bx3 : 12 ≤ x3 ∧ x3 ≤ 12) (bx4 : 0 ≤ x4 ∧ x4 ≤ 12) : fm_65b_p10L Q x1 x3 x4 s := by
  intro X10 hX
  have key : ∀ (m9 : Nat) (x1 : Int) (x4 : Int), (-2147483648) ≤ x1 ∧ x1 ≤ 2147483647 → 0 ≤ x4 ∧ x4 ≤ 12 → (12 - x4).toNat < m9 → X10 x1 x4 s := by
    intro m9
    induction m9 with
    | zero => intro x1 x4 bx1 bx4 h9; exact absurd h9 (Nat.not_lt_zero _)
    | succ m9 ih => intro x1 x4 bx1 bx4 h9; exact hX _ _ _ (sm_65b_p10 hQ   (fun x1' x4' bx1' bx4' h8 => ih x1' x4' bx1' bx4' (by omega)) (Nat.le_refl _)  hI  bx1 bx3 bx4  )
  exact key _ _ _ bx1 bx4   (Nat.lt_succ_self _)
theorem sm_65b {Q : Int → lf_Z → Prop} {s : lf_Z} (hI : iv_A s.1 s.2.2) (hQ : ∀ (r : Int), ((-2147483648) ≤ r ∧ r ≤ 2147483647) → Q r s) : fm_65b Q s := by
  unfold fm_65b
  exact sm_65b_p10L hQ hI (show (-2147483648 : Int) ≤ 0 ∧ 0 ≤ (2147483647 : Int) from by omega) (show (12 : Int) ≤ 12 ∧ 12 ≤ (12 : Int) from by omega) (show (0 : Int) ≤ 0 ∧ 0 ≤ (12 : Int) from by omega)
-- fm_97 Stand.allDone 15
theorem sm_97 {Q : Int → lf_Z → Prop} {s : lf_Z} (hI : iv_A s.1 s.2.2) (hQ : ∀ (r : Int), ((-2147483648) ≤ r ∧ r ≤ 2147483647) → Q r s) : fm_97 Q s := by
  unfold fm_97
  refine sm_65b hI (fun r22 q1 => ?_)
  exact hQ r22 (show (-2147483648 : Int) ≤ r22 ∧ r22 ≤ (2147483647 : Int) from by omega)
-- fm_70 ElevenBullocks.minute 0 i
theorem sm_70 {a1 : Int} {Q : Int → lf_Z → Prop} {s : lf_Z} (hI : iv_A s.1 s.2.2) (ba1 : (-2147483648) ≤ a1 ∧ a1 ≤ 2147483647) (hQ : ∀ (r : Int) (s' : lf_Z), iv_A s'.1 s'.2.2 → lf_fq [15, 16, 17, 18, 19, 21, 22, 23, 24, 63, 64, 65, 66] 1000000 true s.1 s.2.2 s'.1 s'.2.2 → ((-2147483648) ≤ r ∧ r ≤ 2147483647) → Q r s') : fm_70 a1 Q s := by
  unfold fm_70
  refine sm_15 hI (show (-2147483648 : Int) ≤ a1 ∧ a1 ≤ (2147483647 : Int) from by omega) (show (-1 : Int) ≤ 1 ∧ 1 ≤ (99 : Int) from by omega) (show (-2147483648 : Int) ≤ 60 ∧ 60 ≤ (2147483647 : Int) from by omega) (fun z22 q1 => ?_)
  refine ⟨fun c2 => ?_, fun c2 => ?_⟩
  · skip
    have dc2 := q1.2 c2
    exact hQ (-1) s hI (lf_fq_rf) (show (-2147483648 : Int) ≤ (-1) ∧ (-1) ≤ (2147483647 : Int) from by omega)
  · skip
    have dc2 := q1.1 c2
    have b3 : (-2147483648) ≤ s.1 15 7 ∧ s.1 15 7 ≤ 2147483647 := iv_full hI
    have b4 : (-2147483648) ≤ lf_w ((s.1 15 7) + a1) ∧ lf_w ((s.1 15 7) + a1) ≤ 2147483647 := lf_wB
    refine ⟨fun c5 => ?_, fun c5 => ?_⟩
    · skip
      replace c5 : lf_w ((s.1 15 7) + a1) ≤ 999 := c5
      refine sm_71 hI (show (-2147483648 : Int) ≤ a1 ∧ a1 ≤ (2147483647 : Int) from by omega) (fun z24 s23 hI7 fr6 => ?_)
      have fr9 : lf_fq [15, 16, 17, 18, 19, 21, 22, 23, 24, 63, 64, 65, 66] 1000000 true s.1 s.2.2 s23.1 s23.2.2 := lf_fq_tr (lf_fq_rf) (lf_fq_wk fr6 rfl (by decide) (by decide))
      refine sm_97 hI7 (fun r26 q10 => ?_)
      exact hQ r26 s23 hI7 fr9 (show (-2147483648 : Int) ≤ r26 ∧ r26 ≤ (2147483647 : Int) from by omega)
    · skip
      replace c5 : ¬ (lf_w ((s.1 15 7) + a1) ≤ 999) := c5
      exact hQ (-1) s hI (lf_fq_rf) (show (-2147483648 : Int) ≤ (-1) ∧ (-1) ≤ (2147483647 : Int) from by omega)
-- fm_255 Model.atOf 95 i
theorem sm_255 {a1 : Int} {Q : Int → lf_Z → Prop} {s : lf_Z} (hI : iv_A s.1 s.2.2) (ba1 : 0 ≤ a1 ∧ a1 ≤ 3) (hQ : ∀ (r : Int), (0 ≤ r ∧ r ≤ 11) → Q r s) : fm_255 a1 Q s := by
  unfold fm_255
  refine ⟨(show (0 : Int) ≤ (114 + (3 * a1)) + 1 ∧ (114 + (3 * a1)) + 1 < (1538 : Int) from by omega), ?_⟩
  have b1 : 0 ≤ s.1 96 ((114 + (3 * a1)) + 1) ∧ s.1 96 ((114 + (3 * a1)) + 1) ≤ 11 := iv_rd96 hI (iv_f4d82ee43 (a1) (by omega) (by omega))
  exact hQ (s.1 96 ((114 + (3 * a1)) + 1)) (show (0 : Int) ≤ s.1 96 ((114 + (3 * a1)) + 1) ∧ s.1 96 ((114 + (3 * a1)) + 1) ≤ (11 : Int) from by omega)
-- fm_278 Model.join 95
theorem sm_278_p79 {X2 : Int → lf_Z → Prop} {X11 : Int → lf_Z → Prop} {Q : lf_Z → Prop} {x1 : Int} {x2 : Int} {s : lf_Z} (hQ : ∀  (s' : lf_Z), iv_A s'.1 s'.2.2 → lf_fq [96, 1006] 114 true s.1 s.2.2 s'.1 s'.2.2 → Q  s') {M2 : Nat} (hX2 : ∀ (x1 : Int) (s' : lf_Z), iv_A s'.1 s'.2.2 → lf_fq [96, 1006] 114 true s.1 s.2.2 s'.1 s'.2.2 → 0 ≤ x1 ∧ x1 ≤ 4 → (4 - x1).toNat < M2 → X2 x1 s') (hM2 : (4 - x1).toNat ≤ M2) {M11 : Nat} (hX11 : ∀ (x2 : Int) (s' : lf_Z), iv_A s'.1 s'.2.2 → lf_fq [96, 1006] 114 true s.1 s.2.2 s'.1 s'.2.2 → 1 ≤ x2 ∧ x2 ≤ 4 → (x1 < x2) → (4 - x2).toNat < M11 → X11 x2 s') (hM11 : (4 - x2).toNat ≤ M11) (hI : iv_A s.1 s.2.2) (bx1 : 0 ≤ x1 ∧ x1 ≤ 3) (bx2 : 1 ≤ x2 ∧ x2 ≤ 3) (kv0 : x1 < x2) : fm_278_p79 X2 X11 Q x1 x2 s := by
  unfold fm_278_p79
  exact hX11 (x2 + 1) s hI (lf_fq_rf) (show (1 : Int) ≤ x2 + 1 ∧ x2 + 1 ≤ (4 : Int) from by omega) (show x1 < (x2 + 1) from by omega) (show (4 - (x2 + 1)).toNat < M11 from by omega)
theorem sm_278_p11 {X2 : Int → lf_Z → Prop} {X11 : Int → lf_Z → Prop} {Q : lf_Z → Prop} {x1 : Int} {x2 : Int} {s : lf_Z} (hQ : ∀  (s' : lf_Z), iv_A s'.1 s'.2.2 → lf_fq [96, 1006] 114 true s.1 s.2.2 s'.1 s'.2.2 → Q  s') {M2 : Nat} (hX2 : ∀ (x1 : Int) (s' : lf_Z), iv_A s'.1 s'.2.2 → lf_fq [96, 1006] 114 true s.1 s.2.2 s'.1 s'.2.2 → 0 ≤ x1 ∧ x1 ≤ 4 → (4 - x1).toNat < M2 → X2 x1 s') (hM2 : (4 - x1).toNat ≤ M2) {M11 : Nat} (hX11 : ∀ (x2 : Int) (s' : lf_Z), iv_A s'.1 s'.2.2 → lf_fq [96, 1006] 114 true s.1 s.2.2 s'.1 s'.2.2 → 1 ≤ x2 ∧ x2 ≤ 4 → (x1 < x2) → (4 - x2).toNat < M11 → X11 x2 s') (hM11 : (4 - x2).toNat ≤ M11) (hI : iv_A s.1 s.2.2) (bx1 : 0 ≤ x1 ∧ x1 ≤ 3) (bx2 : 1 ≤ x2 ∧ x2 ≤ 4) (kv0 : x1 < x2) : fm_278_p11 X2 Q x1 X11 x2 s := by
  unfold fm_278_p11
  refine ⟨(show lf_R x2 from lf_Rof (by omega)), ?_⟩
  refine ⟨fun c2 => ?_, fun c2 => ?_⟩
  · skip
    replace c2 : 4 ≤ x2 := c2
    exact hX2 (x1 + 1) s hI (lf_fq_rf) (show (0 : Int) ≤ x1 + 1 ∧ x1 + 1 ≤ (4 : Int) from by omega) (show (4 - (x1 + 1)).toNat < M2 from by omega)
  · skip
    replace c2 : ¬ (4 ≤ x2) := c2
    refine sm_242 hI (show (0 : Int) ≤ x1 ∧ x1 ≤ (3 : Int) from by omega) (fun r24 q3 => ?_)
    obtain ⟨q3, q3x⟩ := q3
    replace q3x : r24 = s.1 96 (114 + 3 * x1) := q3x
    refine ⟨(show lf_R r24 from lf_Rof (by omega)), ?_⟩
    refine ⟨fun c4 => ?_, fun c4 => ?_⟩
    · skip
      replace c4 : r24 = 0 := c4
      exact sm_278_p79 hQ hX2 (show (4 - x1).toNat ≤ M2 from by omega) hX11 (show (4 - x2).toNat ≤ M11 from by omega) hI (show (0 : Int) ≤ x1 ∧ x1 ≤ (3 : Int) from by omega) (show (1 : Int) ≤ x2 ∧ x2 ≤ (3 : Int) from by omega) (show x1 < x2 from by omega)
    · skip
      replace c4 : ¬ (r24 = 0) := c4
      refine sm_242 hI (show (0 : Int) ≤ x2 ∧ x2 ≤ (3 : Int) from by omega) (fun r27 q5 => ?_)
      obtain ⟨q5, q5x⟩ := q5
      replace q5x : r27 = s.1 96 (114 + 3 * x2) := q5x
      refine ⟨(show lf_R r27 from lf_Rof (by omega)), ?_⟩
      refine ⟨fun c6 => ?_, fun c6 => ?_⟩
      · skip
        replace c6 : r27 = 0 := c6
        exact sm_278_p79 hQ hX2 (show (4 - x1).toNat ≤ M2 from by omega) hX11 (show (4 - x2).toNat ≤ M11 from by omega) hI (show (0 : Int) ≤ x1 ∧ x1 ≤ (3 : Int) from by omega) (show (1 : Int) ≤ x2 ∧ x2 ≤ (3 : Int) from by omega) (show x1 < x2 from by omega)
      · skip
        replace c6 : ¬ (r27 = 0) := c6
        refine sm_255 hI (show (0 : Int) ≤ x1 ∧ x1 ≤ (3 : Int) from by omega) (fun r30 q7 => ?_)
        refine sm_255 hI (show (0 : Int) ≤ x2 ∧ x2 ≤ (3 : Int) from by omega) (fun r32 q8 => ?_)
        refine ⟨(show lf_R r30 from lf_Rof (by omega)), ?_⟩
        refine ⟨(show lf_R r32 from lf_Rof (by omega)), ?_⟩
        refine ⟨fun c9 => ?_, fun c9 => ?_⟩
        · skip
          replace c9 : r30 = r32 := c9
          refine ⟨(show (0 : Int) ≤ 114 + (3 * x1) ∧ 114 + (3 * x1) < (1538 : Int) from by omega), ?_⟩
          have b10 : 0 ≤ s.1 96 (114 + (3 * x1)) ∧ s.1 96 (114 + (3 * x1)) ≤ 24 := iv_rd96 hI (iv_f3318a158 (x1) (by omega) (by omega))
          refine sm_242 hI (show (0 : Int) ≤ x2 ∧ x2 ≤ (3 : Int) from by omega) (fun r37 q11 => ?_)
          obtain ⟨q11, q11x⟩ := q11
          replace q11x : r37 = s.1 96 (114 + 3 * x2) := q11x
          have fr12 : lf_fq [96, 1006] 114 true s.1 s.2.2 (lf_up s.1 96 (114 + (3 * x1)) ((s.1 96 (114 + (3 * x1))) + r37)) s.2.2 := lf_fq_up (lf_fq_rf) rfl (fun _ => ⟨by omega, fr_o (Or.inr (fr_n0 (by omega))) (Or.inr (fr_n1 (by omega))) (Or.inr (fr_n2 (by omega))) (Or.inr (fr_n3 (by omega))) (Or.inr (fr_n4 (by omega))) (Or.inr (fr_n5 (by omega))) (Or.inl rfl)⟩)
          refine ⟨(show (0 : Int) ≤ 114 + (3 * x2) ∧ 114 + (3 * x2) < (1538 : Int) from by omega), ?_⟩
          have hI13 : iv_A (lf_up (lf_up s.1 96 (114 + (3 * x1)) ((s.1 96 (114 + (3 * x1))) + r37)) 96 (114 + (3 * x2)) 0) s.2.2 := iv_jn hI (by omega) (by omega) (by omega) (by omega)
          have fr14 : lf_fq [96, 1006] 114 true s.1 s.2.2 (lf_up (lf_up s.1 96 (114 + (3 * x1)) ((s.1 96 (114 + (3 * x1))) + r37)) 96 (114 + (3 * x2)) 0) s.2.2 := lf_fq_up fr12 rfl (fun _ => ⟨by omega, fr_o (Or.inr (fr_n0 (by omega))) (Or.inr (fr_n1 (by omega))) (Or.inr (fr_n2 (by omega))) (Or.inr (fr_n3 (by omega))) (Or.inr (fr_n4 (by omega))) (Or.inr (fr_n5 (by omega))) (Or.inl rfl)⟩)
          exact sm_278_p79 (fun t9 i9 f9 => hQ t9 i9 (lf_fq_tr fr14 f9)) (fun p0 t9 i9 f9 => hX2 p0 t9 i9 (lf_fq_tr fr14 f9)) (show (4 - x1).toNat ≤ M2 from by omega) (fun p0 t9 i9 f9 => hX11 p0 t9 i9 (lf_fq_tr fr14 f9)) (show (4 - x2).toNat ≤ M11 from by omega) hI13 (show (0 : Int) ≤ x1 ∧ x1 ≤ (3 : Int) from by omega) (show (1 : Int) ≤ x2 ∧ x2 ≤ (3 : Int) from by omega) (show x1 < x2 from by omega)
        · skip
          replace c9 : ¬ (r30 = r32) := c9
          exact sm_278_p79 hQ hX2 (show (4 - x1).toNat ≤ M2 from by omega) hX11 (show (4 - x2).toNat ≤ M11 from by omega) hI (show (0 : Int) ≤ x1 ∧ x1 ≤ (3 : Int) from by omega) (show (1 : Int) ≤ x2 ∧ x2 ≤ (3 : Int) from by omega) (show x1 < x2 from by omega)
theorem sm_278_p11L {X2 : Int → lf_Z → Prop} {Q : lf_Z → Prop} {x1 : Int} {x2 : Int} {s : lf_Z} (hQ : ∀  (s' : lf_Z), iv_A s'.1 s'.2.2 → lf_fq [96, 1006] 114 true s.1 s.2.2 s'.1 s'.2.2 → Q  s') {M2 : Nat} (hX2 : ∀ (x1 : Int) (s' : lf_Z), iv_A s'.1 s'.2.2 → lf_fq [96, 1006] 114 true s.1 s.2.2 s'.1 s'.2.2 → 0 ≤ x1 ∧ x1 ≤ 4 → (4 - x1).toNat < M2 → X2 x1 s') (hM2 : (4 - x1).toNat ≤ M2) (hI : iv_A s.1 s.2.2) (bx1 : 0 ≤ x1 ∧ x1 ≤ 3) (bx2 : 1 ≤ x2 ∧ x2 ≤ 4) (kv0 : x1 < x2) : fm_278_p11L X2 Q x1 x2 s := by
  intro X11 hX
  have key : ∀ (m9 : Nat) (x2 : Int) (s' : lf_Z), iv_A s'.1 s'.2.2 → lf_fq [96, 1006] 114 true s.1 s.2.2 s'.1 s'.2.2 → 1 ≤ x2 ∧ x2 ≤ 4 → (x1 < x2) → (4 - x2).toNat < m9 → X11 x2 s' := by
    intro m9
    induction m9 with
    | zero => intro x2 s' _ _ bx2 kv0 h9; exact absurd h9 (Nat.not_lt_zero _)
    | succ m9 ih => intro x2 s' i7 f7 bx2 kv0 h9; exact hX _ _ (sm_278_p11 (fun t9 i9 f9 => hQ t9 i9 (lf_fq_tr f7 f9))  (fun p0 t9 i9 f9 => hX2 p0 t9 i9 (lf_fq_tr f7 f9)) hM2 (fun x2' t8 i8 f8 bx2' kv0' h8 => ih x2' t8 i8 (lf_fq_tr f7 f8) bx2' kv0' (by omega)) (Nat.le_refl _)  i7  bx1 bx2  kv0)
  exact key _ _ s hI lf_fq_rf bx2 kv0 (Nat.lt_succ_self _)
theorem sm_278_p2 {X2 : Int → lf_Z → Prop} {Q : lf_Z → Prop} {x1 : Int} {s : lf_Z} (hQ : ∀  (s' : lf_Z), iv_A s'.1 s'.2.2 → lf_fq [96, 1006] 114 true s.1 s.2.2 s'.1 s'.2.2 → Q  s') {M2 : Nat} (hX2 : ∀ (x1 : Int) (s' : lf_Z), iv_A s'.1 s'.2.2 → lf_fq [96, 1006] 114 true s.1 s.2.2 s'.1 s'.2.2 → 0 ≤ x1 ∧ x1 ≤ 4 → (4 - x1).toNat < M2 → X2 x1 s') (hM2 : (4 - x1).toNat ≤ M2) (hI : iv_A s.1 s.2.2) (bx1 : 0 ≤ x1 ∧ x1 ≤ 4) : fm_278_p2 Q X2 x1 s := by
  unfold fm_278_p2
  refine ⟨(show lf_R x1 from lf_Rof (by omega)), ?_⟩
  refine ⟨fun c1 => ?_, fun c1 => ?_⟩
  · skip
    replace c1 : 4 ≤ x1 := c1
    exact hQ s hI (lf_fq_rf)
  · skip
    replace c1 : ¬ (4 ≤ x1) := c1
    exact sm_278_p11L hQ hX2 (show (4 - x1).toNat ≤ M2 from by omega) hI (show (0 : Int) ≤ x1 ∧ x1 ≤ (3 : Int) from by omega) (show (1 : Int) ≤ x1 + 1 ∧ x1 + 1 ≤ (4 : Int) from by omega) (show x1 < (x1 + 1) from by omega)
theorem sm_278_p2L {Q : lf_Z → Prop} {x1 : Int} {s : lf_Z} (hQ : ∀  (s' : lf_Z), iv_A s'.1 s'.2.2 → lf_fq [96, 1006] 114 true s.1 s.2.2 s'.1 s'.2.2 → Q  s') (hI : iv_A s.1 s.2.2) (bx1 : 0 ≤ x1 ∧ x1 ≤ 4) : fm_278_p2L Q x1 s := by
  intro X2 hX
  have key : ∀ (m9 : Nat) (x1 : Int) (s' : lf_Z), iv_A s'.1 s'.2.2 → lf_fq [96, 1006] 114 true s.1 s.2.2 s'.1 s'.2.2 → 0 ≤ x1 ∧ x1 ≤ 4 → (4 - x1).toNat < m9 → X2 x1 s' := by
    intro m9
    induction m9 with
    | zero => intro x1 s' _ _ bx1 h9; exact absurd h9 (Nat.not_lt_zero _)
    | succ m9 ih => intro x1 s' i7 f7 bx1 h9; exact hX _ _ (sm_278_p2 (fun t9 i9 f9 => hQ t9 i9 (lf_fq_tr f7 f9))   (fun x1' t8 i8 f8 bx1' h8 => ih x1' t8 i8 (lf_fq_tr f7 f8) bx1' (by omega)) (Nat.le_refl _)  i7  bx1  )
  exact key _ _ s hI lf_fq_rf bx1 (Nat.lt_succ_self _)
theorem sm_278 {Q : lf_Z → Prop} {s : lf_Z} (hI : iv_A s.1 s.2.2) (hQ : ∀  (s' : lf_Z), iv_A s'.1 s'.2.2 → lf_fq [96, 1006] 114 true s.1 s.2.2 s'.1 s'.2.2 → Q  s') : fm_278 Q s := by
  unfold fm_278
  exact sm_278_p2L hQ hI (show (0 : Int) ≤ 0 ∧ 0 ≤ (4 : Int) from by omega)
-- fm_277 Model.harmOf 95 i
theorem sm_277 {a1 : Int} {Q : Int → lf_Z → Prop} {s : lf_Z} (hI : iv_A s.1 s.2.2) (ba1 : 0 ≤ a1 ∧ a1 ≤ 11) (hQ : ∀ (r : Int), (0 ≤ r ∧ r ≤ 99) → Q r s) : fm_277 a1 Q s := by
  unfold fm_277
  refine ⟨(show (0 : Int) ≤ (14 + (3 * a1)) + 1 ∧ (14 + (3 * a1)) + 1 < (1538 : Int) from by omega), ?_⟩
  have b1 : 0 ≤ s.1 96 ((14 + (3 * a1)) + 1) ∧ s.1 96 ((14 + (3 * a1)) + 1) ≤ 99 := iv_rd96 hI (iv_fc43a0ff9 (a1) (by omega) (by omega))
  exact hQ (s.1 96 ((14 + (3 * a1)) + 1)) (show (0 : Int) ≤ s.1 96 ((14 + (3 * a1)) + 1) ∧ s.1 96 ((14 + (3 * a1)) + 1) ≤ (99 : Int) from by omega)
-- fm_265 Model.kindOf 95 i
theorem sm_265 {a1 : Int} {Q : Int → lf_Z → Prop} {s : lf_Z} (hI : iv_A s.1 s.2.2) (ba1 : 0 ≤ a1 ∧ a1 ≤ 11) (hQ : ∀ (r : Int), (0 ≤ r ∧ r ≤ 3) → Q r s) : fm_265 a1 Q s := by
  unfold fm_265
  refine ⟨(show (0 : Int) ≤ 14 + (3 * a1) ∧ 14 + (3 * a1) < (1538 : Int) from by omega), ?_⟩
  have b1 : 0 ≤ s.1 96 (14 + (3 * a1)) ∧ s.1 96 (14 + (3 * a1)) ≤ 3 := iv_rd96 hI (iv_f6fd1d1ad (a1) (by omega) (by omega))
  exact hQ (s.1 96 (14 + (3 * a1))) (show (0 : Int) ≤ s.1 96 (14 + (3 * a1)) ∧ s.1 96 (14 + (3 * a1)) ≤ (3 : Int) from by omega)
-- fm_266 Model.peopleAt 95 i
theorem sm_266_p45 {X19 : Int → Int → lf_Z → Prop} {Q : Int → lf_Z → Prop} {x1 : Int} {x3 : Int} {y0 : Int} {y1 : Int} {s : lf_Z} (hQ : ∀ (r : Int), ((-2147483648) ≤ r ∧ r ≤ 2147483647) → Q r s) {M19 : Nat} (hX19 : ∀ (x2 : Int) (x3 : Int), (-2147483648) ≤ x2 ∧ x2 ≤ 2147483647 → 0 ≤ x3 ∧ x3 ≤ 6 → (6 - x3).toNat < M19 → X19 x2 x3 s) (hM19 : (6 - x3).toNat ≤ M19) (hI : iv_A s.1 s.2.2) (bx1 : (-1) ≤ x1 ∧ x1 ≤ 11) (bx3 : 0 ≤ x3 ∧ x3 ≤ 5) (by0 : (-2147483648) ≤ y0 ∧ y0 ≤ 2147483647) (by1 : 0 ≤ y1 ∧ y1 ≤ 1) : fm_266_p45 X19 Q x1 x3 y0 y1 s := by
  unfold fm_266_p45
  have b9 : (-2147483648) ≤ lf_w (y0 + y1) ∧ lf_w (y0 + y1) ≤ 2147483647 := lf_wB
  exact hX19 (lf_w (y0 + y1)) (x3 + 1) (show (-2147483648 : Int) ≤ lf_w (y0 + y1) ∧ lf_w (y0 + y1) ≤ (2147483647 : Int) from by omega) (show (0 : Int) ≤ x3 + 1 ∧ x3 + 1 ≤ (6 : Int) from by omega) (show (6 - (x3 + 1)).toNat < M19 from by omega)
theorem sm_266_p19 {X19 : Int → Int → lf_Z → Prop} {Q : Int → lf_Z → Prop} {x1 : Int} {x2 : Int} {x3 : Int} {s : lf_Z} (hQ : ∀ (r : Int), ((-2147483648) ≤ r ∧ r ≤ 2147483647) → Q r s) {M19 : Nat} (hX19 : ∀ (x2 : Int) (x3 : Int), (-2147483648) ≤ x2 ∧ x2 ≤ 2147483647 → 0 ≤ x3 ∧ x3 ≤ 6 → (6 - x3).toNat < M19 → X19 x2 x3 s) (hM19 : (6 - x3).toNat ≤ M19) (hI : iv_A s.1 s.2.2) (bx1 : (-1) ≤ x1 ∧ x1 ≤ 11) (bx2 : (-2147483648) ≤ x2 ∧ x2 ≤ 2147483647) (bx3 : 0 ≤ x3 ∧ x3 ≤ 6) : fm_266_p19 Q x1 X19 x2 x3 s := by
  unfold fm_266_p19
  have b4 : 0 ≤ s.1 96 2 ∧ s.1 96 2 ≤ 6 := iv_rd96 hI (iv_f2103129b (by omega))
  have b5 : s.1 96 2 ≤ 0 ∨ 0 < s.1 96 0 := (show s.1 96 2 ≤ 0 ∨ 0 < s.1 96 0 from iv_l96_2 hI)
  refine ⟨(show lf_R x3 from lf_Rof (by omega)), ?_⟩
  refine ⟨(show lf_R (s.1 96 2) from lf_Rof (by omega)), ?_⟩
  refine ⟨fun c6 => ?_, fun c6 => ?_⟩
  · skip
    replace c6 : s.1 96 2 ≤ x3 := c6
    exact hQ x2 (show (-2147483648 : Int) ≤ x2 ∧ x2 ≤ (2147483647 : Int) from by omega)
  · skip
    replace c6 : ¬ (s.1 96 2 ≤ x3) := c6
    refine sm_239 hI (show (0 : Int) ≤ x3 ∧ x3 ≤ (5 : Int) from by omega) (fun r26 q7 => ?_)
    obtain ⟨q7, q7x⟩ := q7
    replace q7x : r26 = s.1 96 (126 + 6 * x3 + 3) := q7x
    refine ⟨(show lf_R r26 from lf_Rof (by omega)), ?_⟩
    refine ⟨(show lf_R x1 from lf_Rof (by omega)), ?_⟩
    refine ⟨fun c8 => ?_, fun c8 => ?_⟩
    · skip
      replace c8 : r26 ≠ x1 := c8
      exact sm_266_p45 hQ hX19 (show (6 - x3).toNat ≤ M19 from by omega) hI (show (-1 : Int) ≤ x1 ∧ x1 ≤ (11 : Int) from by omega) (show (0 : Int) ≤ x3 ∧ x3 ≤ (5 : Int) from by omega) (show (-2147483648 : Int) ≤ x2 ∧ x2 ≤ (2147483647 : Int) from by omega) (show (0 : Int) ≤ 0 ∧ 0 ≤ (1 : Int) from by omega)
    · skip
      replace c8 : ¬ (r26 ≠ x1) := c8
      exact sm_266_p45 hQ hX19 (show (6 - x3).toNat ≤ M19 from by omega) hI (show (-1 : Int) ≤ x1 ∧ x1 ≤ (11 : Int) from by omega) (show (0 : Int) ≤ x3 ∧ x3 ≤ (5 : Int) from by omega) (show (-2147483648 : Int) ≤ x2 ∧ x2 ≤ (2147483647 : Int) from by omega) (show (0 : Int) ≤ 1 ∧ 1 ≤ (1 : Int) from by omega)
theorem sm_266_p19L {Q : Int → lf_Z → Prop} {x1 : Int} {x2 : Int} {x3 : Int} {s : lf_Z} (hQ : ∀ (r : Int), ((-2147483648) ≤ r ∧ r ≤ 2147483647) → Q r s) (hI : iv_A s.1 s.2.2) (bx1 : (-1) ≤ x1 ∧ x1 ≤ 11) (bx2 : (-2147483648) ≤ x2 ∧ x2 ≤ 2147483647) (bx3 : 0 ≤ x3 ∧ x3 ≤ 6) : fm_266_p19L Q x1 x2 x3 s := by
  intro X19 hX
  have key : ∀ (m9 : Nat) (x2 : Int) (x3 : Int), (-2147483648) ≤ x2 ∧ x2 ≤ 2147483647 → 0 ≤ x3 ∧ x3 ≤ 6 → (6 - x3).toNat < m9 → X19 x2 x3 s := by
    intro m9
    induction m9 with
    | zero => intro x2 x3 bx2 bx3 h9; exact absurd h9 (Nat.not_lt_zero _)
    | succ m9 ih => intro x2 x3 bx2 bx3 h9; exact hX _ _ _ (sm_266_p19 hQ   (fun x2' x3' bx2' bx3' h8 => ih x2' x3' bx2' bx3' (by omega)) (Nat.le_refl _)  hI  bx1 bx2 bx3  )
  exact key _ _ _ bx2 bx3   (Nat.lt_succ_self _)
theorem sm_266_p16 {Q : Int → lf_Z → Prop} {x1 : Int} {y0 : Int} {s : lf_Z} (hQ : ∀ (r : Int), ((-2147483648) ≤ r ∧ r ≤ 2147483647) → Q r s) (hI : iv_A s.1 s.2.2) (bx1 : (-1) ≤ x1 ∧ x1 ≤ 11) (by0 : 0 ≤ y0 ∧ y0 ≤ 1) : fm_266_p16 Q x1 y0 s := by
  unfold fm_266_p16
  exact sm_266_p19L hQ hI (show (-1 : Int) ≤ x1 ∧ x1 ≤ (11 : Int) from by omega) (show (-2147483648 : Int) ≤ y0 ∧ y0 ≤ (2147483647 : Int) from by omega) (show (0 : Int) ≤ 0 ∧ 0 ≤ (6 : Int) from by omega)
theorem sm_266 {a1 : Int} {Q : Int → lf_Z → Prop} {s : lf_Z} (hI : iv_A s.1 s.2.2) (ba1 : (-1) ≤ a1 ∧ a1 ≤ 11) (hQ : ∀ (r : Int), ((-2147483648) ≤ r ∧ r ≤ 2147483647) → Q r s) : fm_266 a1 Q s := by
  unfold fm_266
  have b1 : (-2147483648) ≤ s.1 95 29 ∧ s.1 95 29 ≤ 2147483647 := iv_full hI
  refine sm_210 hI (show (-2147483648 : Int) ≤ s.1 95 29 ∧ s.1 95 29 ≤ (2147483647 : Int) from by omega) (show (-1 : Int) ≤ a1 ∧ a1 ≤ (15 : Int) from by omega) (fun z22 q2 => ?_)
  refine ⟨fun c3 => ?_, fun c3 => ?_⟩
  · skip
    have dc3 := q2.2 c3
    exact sm_266_p16 hQ hI (show (-1 : Int) ≤ a1 ∧ a1 ≤ (11 : Int) from by omega) (show (0 : Int) ≤ 0 ∧ 0 ≤ (1 : Int) from by omega)
  · skip
    have dc3 := q2.1 c3
    exact sm_266_p16 hQ hI (show (-1 : Int) ≤ a1 ∧ a1 ≤ (11 : Int) from by omega) (show (0 : Int) ≤ 1 ∧ 1 ≤ (1 : Int) from by omega)
-- fm_264 Model.name 95 i i
theorem sm_264 {a1 : Int} {a2 : Int} {Q : lf_Z → Prop} {s : lf_Z} (hI : iv_A s.1 s.2.2) (ba1 : 0 ≤ a1 ∧ a1 ≤ 24) (ba2 : 0 ≤ a2 ∧ a2 ≤ 11) (hQ : ∀  (s' : lf_Z), iv_A s'.1 s'.2.2 → lf_fq [104] 1000000 true s.1 s.2.2 s'.1 s'.2.2 → Q  s') : fm_264 a1 a2 Q s := by
  unfold fm_264
  have hI1 : iv_A (lf_up s.1 104 0 a1) s.2.2 := iv_w104 hI (by omega)
  have fr2 : lf_fq [104] 1000000 true s.1 s.2.2 (lf_up s.1 104 0 a1) s.2.2 := lf_fq_up (lf_fq_rf) rfl (fun h => absurd h (by decide))
  have hI3 : iv_A (lf_up (lf_up s.1 104 0 a1) 104 1 a2) s.2.2 := iv_w104 hI1 (by omega)
  have fr4 : lf_fq [104] 1000000 true s.1 s.2.2 (lf_up (lf_up s.1 104 0 a1) 104 1 a2) s.2.2 := lf_fq_up fr2 rfl (fun h => absurd h (by decide))
  refine sm_265 hI3 (show (0 : Int) ≤ a2 ∧ a2 ≤ (11 : Int) from by omega) (fun r22 q5 => ?_)
  have hI6 : iv_A (lf_up (lf_up (lf_up s.1 104 0 a1) 104 1 a2) 104 2 r22) s.2.2 := iv_w104 hI3 (by omega)
  have fr7 : lf_fq [104] 1000000 true s.1 s.2.2 (lf_up (lf_up (lf_up s.1 104 0 a1) 104 1 a2) 104 2 r22) s.2.2 := lf_fq_up fr4 rfl (fun h => absurd h (by decide))
  refine sm_266 hI6 (show (-1 : Int) ≤ a2 ∧ a2 ≤ (11 : Int) from by omega) (fun r24 q8 => ?_)
  have hI9 : iv_A (lf_up (lf_up (lf_up (lf_up s.1 104 0 a1) 104 1 a2) 104 2 r22) 104 3 r24) s.2.2 := iv_w104 hI6 (by omega)
  have fr10 : lf_fq [104] 1000000 true s.1 s.2.2 (lf_up (lf_up (lf_up (lf_up s.1 104 0 a1) 104 1 a2) 104 2 r22) 104 3 r24) s.2.2 := lf_fq_up fr7 rfl (fun h => absurd h (by decide))
  exact hQ (lf_up (lf_up (lf_up (lf_up s.1 104 0 a1) 104 1 a2) 104 2 r22) 104 3 r24, s.2.1, s.2.2) hI9 fr10
-- fm_256 Model.cameOf 95 i
theorem sm_256 {a1 : Int} {Q : Int → lf_Z → Prop} {s : lf_Z} (hI : iv_A s.1 s.2.2) (ba1 : 0 ≤ a1 ∧ a1 ≤ 3) (hQ : ∀ (r : Int), ((-1) ≤ r ∧ r ≤ 11) → Q r s) : fm_256 a1 Q s := by
  unfold fm_256
  refine ⟨(show (0 : Int) ≤ (114 + (3 * a1)) + 2 ∧ (114 + (3 * a1)) + 2 < (1538 : Int) from by omega), ?_⟩
  have b1 : (-1) ≤ s.1 96 ((114 + (3 * a1)) + 2) ∧ s.1 96 ((114 + (3 * a1)) + 2) ≤ 11 := iv_rd96 hI (iv_fb3fd00de (a1) (by omega) (by omega))
  exact hQ (s.1 96 ((114 + (3 * a1)) + 2)) (show (-1 : Int) ≤ s.1 96 ((114 + (3 * a1)) + 2) ∧ s.1 96 ((114 + (3 * a1)) + 2) ≤ (11 : Int) from by omega)
-- fm_271 Model.isAsked i l l
theorem sm_271 {a0 : Int} {a1 : Int} {a2 : Int} {Q : Bool → lf_Z → Prop} {s : lf_Z} (hI : iv_A s.1 s.2.2) (ba0 : 10 ≤ a0 ∧ a0 ≤ 19) (hQ : ∀ (z : Bool), Q z s) : fm_271 a0 a1 a2 Q s := by
  unfold fm_271
  refine ⟨(show lf_R a0 from lf_Rof (by omega)), ?_⟩
  refine ⟨fun c1 => ?_, fun c1 => ?_⟩
  · skip
    replace c1 : a0 ≠ 10 := c1
    refine ⟨fun c2 => ?_, fun c2 => ?_⟩
    · skip
      replace c2 : a0 ≠ 11 := c2
      refine ⟨fun c3 => ?_, fun c3 => ?_⟩
      · skip
        replace c3 : a0 ≠ 12 := c3
        refine ⟨fun c4 => ?_, fun c4 => ?_⟩
        · skip
          replace c4 : a0 ≠ 13 := c4
          refine ⟨fun c5 => ?_, fun c5 => ?_⟩
          · skip
            replace c5 : a0 ≠ 14 := c5
            refine ⟨fun c6 => ?_, fun c6 => ?_⟩
            · replace c6 : lf_wl a1 = lf_wl a2 := c6
              exact hQ false
            · replace c6 : ¬ (lf_wl a1 = lf_wl a2) := c6
              exact hQ true
          · skip
            replace c5 : ¬ (a0 ≠ 14) := c5
            refine ⟨fun c7 => ?_, fun c7 => ?_⟩
            · replace c7 : lf_wl a1 ≠ lf_wl a2 := c7
              exact hQ false
            · replace c7 : ¬ (lf_wl a1 ≠ lf_wl a2) := c7
              exact hQ true
        · skip
          replace c4 : ¬ (a0 ≠ 13) := c4
          refine ⟨fun c8 => ?_, fun c8 => ?_⟩
          · replace c8 : lf_wl a1 < lf_wl a2 := c8
            exact hQ false
          · replace c8 : ¬ (lf_wl a1 < lf_wl a2) := c8
            exact hQ true
      · skip
        replace c3 : ¬ (a0 ≠ 12) := c3
        refine ⟨fun c9 => ?_, fun c9 => ?_⟩
        · replace c9 : lf_wl a1 ≤ lf_wl a2 := c9
          exact hQ false
        · replace c9 : ¬ (lf_wl a1 ≤ lf_wl a2) := c9
          exact hQ true
    · skip
      replace c2 : ¬ (a0 ≠ 11) := c2
      refine ⟨fun c10 => ?_, fun c10 => ?_⟩
      · replace c10 : lf_wl a2 < lf_wl a1 := c10
        exact hQ false
      · replace c10 : ¬ (lf_wl a2 < lf_wl a1) := c10
        exact hQ true
  · skip
    replace c1 : ¬ (a0 ≠ 10) := c1
    refine ⟨fun c11 => ?_, fun c11 => ?_⟩
    · replace c11 : lf_wl a2 ≤ lf_wl a1 := c11
      exact hQ false
    · replace c11 : ¬ (lf_wl a2 ≤ lf_wl a1) := c11
      exact hQ true
-- fm_270 Model.clip l
theorem sm_270 {a0 : Int} {Q : Int → lf_Z → Prop} {s : lf_Z} (hI : iv_A s.1 s.2.2) (hQ : ∀ (r : Int), Q r s) : fm_270 a0 Q s := by
  unfold fm_270
  refine ⟨fun c1 => ?_, fun c1 => ?_⟩
  · replace c1 : lf_wl a0 ≤ 1000000 := c1
    refine ⟨fun c2 => ?_, fun c2 => ?_⟩
    · replace c2 : (-1000000) ≤ lf_wl a0 := c2
      exact hQ (lf_wl a0)
    · replace c2 : ¬ ((-1000000) ≤ lf_wl a0) := c2
      exact hQ (-1000000)
  · replace c1 : ¬ (lf_wl a0 ≤ 1000000) := c1
    exact hQ 1000000
-- fm_269 Model.two i l l
theorem sm_269 {a0 : Int} {a1 : Int} {a2 : Int} {Q : Int → lf_Z → Prop} {s : lf_Z} (hI : iv_A s.1 s.2.2) (ba0 : 4 ≤ a0 ∧ a0 ≤ 9) (hQ : ∀ (r : Int), Q r s) : fm_269 a0 a1 a2 Q s := by
  unfold fm_269
  refine ⟨(show lf_R a0 from lf_Rof (by omega)), ?_⟩
  refine ⟨fun c1 => ?_, fun c1 => ?_, fun c1 => ?_, fun c1 => ?_⟩
  · replace c1 : a0 < 4 ∨ 6 < a0 := c1
    refine ⟨fun c2 => ?_, fun c2 => ?_⟩
    · replace c2 : lf_wl a2 ≠ 0 := c2
      refine ⟨(show (lf_wl a2) ≠ 0 from by omega), ?_⟩
      refine sm_270 hI (fun r24 => ?_)
      exact hQ (lf_wl r24)
    · replace c2 : ¬ (lf_wl a2 ≠ 0) := c2
      exact hQ 0
  · replace c1 : a0 = 4 := c1
    refine sm_270 hI (fun r26 => ?_)
    exact hQ (lf_wl r26)
  · replace c1 : a0 = 5 := c1
    refine sm_270 hI (fun r28 => ?_)
    exact hQ (lf_wl r28)
  · replace c1 : a0 = 6 := c1
    refine sm_270 hI (fun r30 => ?_)
    exact hQ (lf_wl r30)
-- fm_268 Model.worked 95 i i
theorem sm_268_p437 {X38 : Int → Int → Int → lf_Z → Prop} {Q : Int → lf_Z → Prop} {x3 : Int} {x4 : Int} {x5 : Int} {x6 : Int} {x7 : Int} {s : lf_Z} (hQ : ∀ (r : Int) (s' : lf_Z), iv_A s'.1 s'.2.2 → lf_fq [107] 1000000 true s.1 s.2.2 s'.1 s'.2.2 → ((-2147483648) ≤ r ∧ r ≤ 2147483647) → Q r s') {M38 : Nat} (hX38 : ∀ (x5 : Int) (x6 : Int) (x7 : Int) (s' : lf_Z), iv_A s'.1 s'.2.2 → lf_fq [107] 1000000 true s.1 s.2.2 s'.1 s'.2.2 → 0 ≤ x5 ∧ x5 ≤ 304 → 0 ≤ x6 ∧ x6 ≤ 304 → 0 ≤ x7 ∧ x7 ≤ 304 → (wk_O (s'.1 98) (x3) (x4)) → (0 ≤ s'.1 98 (x3 + 1) ∧ s'.1 98 (x3 + 1) ≤ x7 ∧ s'.1 98 (x3 + 2) ≤ 304 ∧ 0 ≤ x5 ∧ 0 ≤ x6 ∧ x5 ≤ x7 ∧ x6 ≤ x7 ∧ x7 ≤ s'.1 98 (x3 + 2)) → (x5 = wkN (s'.1 98) (x4) (s'.1 98 (x3 + 1)) (x7) ∧ x6 = wkT (s'.1 98) (x4) (s'.1 98 (x3 + 1)) (x7)) → (304 - x7).toNat < M38 → X38 x5 x6 x7 s') (hM38 : (304 - x7).toNat ≤ M38) (hI : iv_A s.1 s.2.2) (bx3 : 1 ≤ x3 ∧ x3 ≤ 2208) (bx4 : 97 ≤ x4 ∧ x4 ≤ 2212) (bx5 : 0 ≤ x5 ∧ x5 ≤ 304) (bx6 : 0 ≤ x6 ∧ x6 ≤ 304) (bx7 : 0 ≤ x7 ∧ x7 ≤ 303) (kv0 : wk_O (s.1 98) (x3) (x4)) (kv1 : 0 ≤ s.1 98 (x3 + 1) ∧ s.1 98 (x3 + 1) ≤ x7 ∧ s.1 98 (x3 + 2) ≤ 304 ∧ 0 ≤ x5 ∧ 0 ≤ x6 ∧ x7 < s.1 98 (x3 + 2)) (kv2 : x5 ≤ x7 + 1 ∧ x6 ≤ x7 + 1) (kv3 : x5 = wkN (s.1 98) (x4) (s.1 98 (x3 + 1)) (x7 + 1) ∧ x6 = wkT (s.1 98) (x4) (s.1 98 (x3 + 1)) (x7 + 1)) : fm_268_p437 X38 Q x3 x4 x5 x6 x7 s := by
  unfold fm_268_p437
  have b13 : wkN ((s.1 98)) (x4) ((s.1 98) (x3 + 1)) ((s.1 98) (x3 + 1)) = 0 ∧ wkT ((s.1 98)) (x4) ((s.1 98) (x3 + 1)) ((s.1 98) (x3 + 1)) = 0 := ⟨wkN_0, wkT_0⟩
  exact hX38 (x5) (x6) (x7 + 1) s hI (lf_fq_rf) (show (0 : Int) ≤ x5 ∧ x5 ≤ (304 : Int) from by omega) (show (0 : Int) ≤ x6 ∧ x6 ≤ (304 : Int) from by omega) (show (0 : Int) ≤ x7 + 1 ∧ x7 + 1 ≤ (304 : Int) from by omega) (show wk_O ((s.1 98)) (x3) (x4) from by first | with_reducible assumption | assumption) (show 0 ≤ (s.1 98) (x3 + 1) ∧ (s.1 98) (x3 + 1) ≤ (x7 + 1) ∧ (s.1 98) (x3 + 2) ≤ 304 ∧ 0 ≤ x5 ∧ 0 ≤ x6 ∧ x5 ≤ (x7 + 1) ∧ x6 ≤ (x7 + 1) ∧ (x7 + 1) ≤ (s.1 98) (x3 + 2) from by omega) (show x5 = wkN ((s.1 98)) (x4) ((s.1 98) (x3 + 1)) ((x7 + 1)) ∧ x6 = wkT ((s.1 98)) (x4) ((s.1 98) (x3 + 1)) ((x7 + 1)) from by omega) (show (304 - (x7 + 1)).toNat < M38 from by omega)
theorem sm_268_p135 {X38 : Int → Int → Int → lf_Z → Prop} {Q : Int → lf_Z → Prop} {x3 : Int} {x4 : Int} {x5 : Int} {x6 : Int} {x7 : Int} {y1 : Int} {y2 : Int} {s : lf_Z} (hQ : ∀ (r : Int) (s' : lf_Z), iv_A s'.1 s'.2.2 → lf_fq [107] 1000000 true s.1 s.2.2 s'.1 s'.2.2 → ((-2147483648) ≤ r ∧ r ≤ 2147483647) → Q r s') {M38 : Nat} (hX38 : ∀ (x5 : Int) (x6 : Int) (x7 : Int) (s' : lf_Z), iv_A s'.1 s'.2.2 → lf_fq [107] 1000000 true s.1 s.2.2 s'.1 s'.2.2 → 0 ≤ x5 ∧ x5 ≤ 304 → 0 ≤ x6 ∧ x6 ≤ 304 → 0 ≤ x7 ∧ x7 ≤ 304 → (wk_O (s'.1 98) (x3) (x4)) → (0 ≤ s'.1 98 (x3 + 1) ∧ s'.1 98 (x3 + 1) ≤ x7 ∧ s'.1 98 (x3 + 2) ≤ 304 ∧ 0 ≤ x5 ∧ 0 ≤ x6 ∧ x5 ≤ x7 ∧ x6 ≤ x7 ∧ x7 ≤ s'.1 98 (x3 + 2)) → (x5 = wkN (s'.1 98) (x4) (s'.1 98 (x3 + 1)) (x7) ∧ x6 = wkT (s'.1 98) (x4) (s'.1 98 (x3 + 1)) (x7)) → (304 - x7).toNat < M38 → X38 x5 x6 x7 s') (hM38 : (304 - x7).toNat ≤ M38) (hI : iv_A s.1 s.2.2) (bx3 : 1 ≤ x3 ∧ x3 ≤ 2208) (bx4 : 97 ≤ x4 ∧ x4 ≤ 2212) (bx5 : 0 ≤ x5 ∧ x5 ≤ 304) (bx6 : 0 ≤ x6 ∧ x6 ≤ 304) (bx7 : 0 ≤ x7 ∧ x7 ≤ 303) (by1 : 0 ≤ y1 ∧ y1 ≤ 304) (kv0 : wk_O (s.1 98) (x3) (x4)) (kv1 : 0 ≤ s.1 98 (x3 + 1) ∧ s.1 98 (x3 + 1) ≤ x7 ∧ s.1 98 (x3 + 2) ≤ 304 ∧ 0 ≤ x5 ∧ 0 ≤ x6 ∧ x7 < s.1 98 (x3 + 2)) (kv2 : x5 ≤ x7 ∧ x6 ≤ x7 ∧ y1 = x5) (kv3 : x5 + 1 = wkN (s.1 98) (x4) (s.1 98 (x3 + 1)) (x7 + 1) ∧ x6 = wkT (s.1 98) (x4) (s.1 98 (x3 + 1)) (x7 + 1)) : fm_268_p135 X38 Q x3 x4 x5 x6 x7 y1 y2 s := by
  unfold fm_268_p135
  refine ⟨(show (0 : Int) ≤ y1 ∧ y1 < (330 : Int) from by omega), ?_⟩
  exact sm_268_p437 hQ hX38 (show (304 - x7).toNat ≤ M38 from by omega) hI (show (1 : Int) ≤ x3 ∧ x3 ≤ (2208 : Int) from by omega) (show (97 : Int) ≤ x4 ∧ x4 ≤ (2212 : Int) from by omega) (show (0 : Int) ≤ x5 + 1 ∧ x5 + 1 ≤ (304 : Int) from by omega) (show (0 : Int) ≤ x6 ∧ x6 ≤ (304 : Int) from by omega) (show (0 : Int) ≤ x7 ∧ x7 ≤ (303 : Int) from by omega) (show wk_O ((s.1 98)) (x3) (x4) from by first | with_reducible assumption | assumption) (show 0 ≤ (s.1 98) (x3 + 1) ∧ (s.1 98) (x3 + 1) ≤ x7 ∧ (s.1 98) (x3 + 2) ≤ 304 ∧ 0 ≤ (x5 + 1) ∧ 0 ≤ x6 ∧ x7 < (s.1 98) (x3 + 2) from by omega) (show (x5 + 1) ≤ x7 + 1 ∧ x6 ≤ x7 + 1 from by omega) (show (x5 + 1) = wkN ((s.1 98)) (x4) ((s.1 98) (x3 + 1)) (x7 + 1) ∧ x6 = wkT ((s.1 98)) (x4) ((s.1 98) (x3 + 1)) (x7 + 1) from by omega)
theorem sm_268_p94 {X38 : Int → Int → Int → lf_Z → Prop} {Q : Int → lf_Z → Prop} {x3 : Int} {x4 : Int} {x5 : Int} {x6 : Int} {x7 : Int} {x8 : Int} {x9 : Int} {s : lf_Z} (hQ : ∀ (r : Int) (s' : lf_Z), iv_A s'.1 s'.2.2 → lf_fq [107] 1000000 true s.1 s.2.2 s'.1 s'.2.2 → ((-2147483648) ≤ r ∧ r ≤ 2147483647) → Q r s') {M38 : Nat} (hX38 : ∀ (x5 : Int) (x6 : Int) (x7 : Int) (s' : lf_Z), iv_A s'.1 s'.2.2 → lf_fq [107] 1000000 true s.1 s.2.2 s'.1 s'.2.2 → 0 ≤ x5 ∧ x5 ≤ 304 → 0 ≤ x6 ∧ x6 ≤ 304 → 0 ≤ x7 ∧ x7 ≤ 304 → (wk_O (s'.1 98) (x3) (x4)) → (0 ≤ s'.1 98 (x3 + 1) ∧ s'.1 98 (x3 + 1) ≤ x7 ∧ s'.1 98 (x3 + 2) ≤ 304 ∧ 0 ≤ x5 ∧ 0 ≤ x6 ∧ x5 ≤ x7 ∧ x6 ≤ x7 ∧ x7 ≤ s'.1 98 (x3 + 2)) → (x5 = wkN (s'.1 98) (x4) (s'.1 98 (x3 + 1)) (x7) ∧ x6 = wkT (s'.1 98) (x4) (s'.1 98 (x3 + 1)) (x7)) → (304 - x7).toNat < M38 → X38 x5 x6 x7 s') (hM38 : (304 - x7).toNat ≤ M38) (hI : iv_A s.1 s.2.2) (bx3 : 1 ≤ x3 ∧ x3 ≤ 2208) (bx4 : 97 ≤ x4 ∧ x4 ≤ 2212) (bx5 : 0 ≤ x5 ∧ x5 ≤ 304) (bx6 : 0 ≤ x6 ∧ x6 ≤ 304) (bx7 : 0 ≤ x7 ∧ x7 ≤ 303) (bx8 : (-2147483648) ≤ x8 ∧ x8 ≤ 31) (bx9 : (-2147483648) ≤ x9 ∧ x9 ≤ 2147483647) (kv0 : wk_O (s.1 98) (x3) (x4)) (kv1 : 0 ≤ s.1 98 (x3 + 1) ∧ s.1 98 (x3 + 1) ≤ x7 ∧ s.1 98 (x3 + 2) ≤ 304 ∧ 0 ≤ x5 ∧ 0 ≤ x6 ∧ x7 < s.1 98 (x3 + 2)) (kv2 : x5 ≤ x7 ∧ x6 ≤ x7) (kv3 : x5 + 1 = wkN (s.1 98) (x4) (s.1 98 (x3 + 1)) (x7 + 1) ∧ x6 = wkT (s.1 98) (x4) (s.1 98 (x3 + 1)) (x7 + 1)) (kv4 : x8 = 0 ∨ (x8 = 1 ∧ 0 ≤ x9 ∧ x9 < 11) ∨ (x8 ≠ 1 ∧ 0 ≤ x9 ∧ x9 < 80)) : fm_268_p94 X38 Q x3 x4 x5 x6 x7 x8 x9 s := by
  unfold fm_268_p94
  refine ⟨(show lf_R x8 from lf_Rof (by omega)), ?_⟩
  refine ⟨fun c11 => ?_, fun c11 => ?_⟩
  · skip
    replace c11 : x8 ≠ 0 := c11
    refine ⟨fun c12 => ?_, fun c12 => ?_⟩
    · skip
      replace c12 : x8 ≠ 1 := c12
      refine ⟨(show (0 : Int) ≤ x9 ∧ x9 < (80 : Int) from by omega), ?_⟩
      exact sm_268_p135 hQ hX38 (show (304 - x7).toNat ≤ M38 from by omega) hI (show (1 : Int) ≤ x3 ∧ x3 ≤ (2208 : Int) from by omega) (show (97 : Int) ≤ x4 ∧ x4 ≤ (2212 : Int) from by omega) (show (0 : Int) ≤ x5 ∧ x5 ≤ (304 : Int) from by omega) (show (0 : Int) ≤ x6 ∧ x6 ≤ (304 : Int) from by omega) (show (0 : Int) ≤ x7 ∧ x7 ≤ (303 : Int) from by omega) (show (0 : Int) ≤ x5 ∧ x5 ≤ (304 : Int) from by omega) (show wk_O ((s.1 98)) (x3) (x4) from by first | with_reducible assumption | assumption) (show 0 ≤ (s.1 98) (x3 + 1) ∧ (s.1 98) (x3 + 1) ≤ x7 ∧ (s.1 98) (x3 + 2) ≤ 304 ∧ 0 ≤ x5 ∧ 0 ≤ x6 ∧ x7 < (s.1 98) (x3 + 2) from by omega) (show x5 ≤ x7 ∧ x6 ≤ x7 ∧ x5 = x5 from by omega) (show x5 + 1 = wkN ((s.1 98)) (x4) ((s.1 98) (x3 + 1)) (x7 + 1) ∧ x6 = wkT ((s.1 98)) (x4) ((s.1 98) (x3 + 1)) (x7 + 1) from by omega)
    · skip
      replace c12 : ¬ (x8 ≠ 1) := c12
      refine ⟨(show (0 : Int) ≤ x9 ∧ x9 < (11 : Int) from by omega), ?_⟩
      have b14 : (-2147483648) ≤ s.1 104 x9 ∧ s.1 104 x9 ≤ 2147483647 := iv_full hI
      refine ⟨(show lf_R (s.1 104 x9) from lf_Rof (by omega)), ?_⟩
      exact sm_268_p135 hQ hX38 (show (304 - x7).toNat ≤ M38 from by omega) hI (show (1 : Int) ≤ x3 ∧ x3 ≤ (2208 : Int) from by omega) (show (97 : Int) ≤ x4 ∧ x4 ≤ (2212 : Int) from by omega) (show (0 : Int) ≤ x5 ∧ x5 ≤ (304 : Int) from by omega) (show (0 : Int) ≤ x6 ∧ x6 ≤ (304 : Int) from by omega) (show (0 : Int) ≤ x7 ∧ x7 ≤ (303 : Int) from by omega) (show (0 : Int) ≤ x5 ∧ x5 ≤ (304 : Int) from by omega) (show wk_O ((s.1 98)) (x3) (x4) from by first | with_reducible assumption | assumption) (show 0 ≤ (s.1 98) (x3 + 1) ∧ (s.1 98) (x3 + 1) ≤ x7 ∧ (s.1 98) (x3 + 2) ≤ 304 ∧ 0 ≤ x5 ∧ 0 ≤ x6 ∧ x7 < (s.1 98) (x3 + 2) from by omega) (show x5 ≤ x7 ∧ x6 ≤ x7 ∧ x5 = x5 from by omega) (show x5 + 1 = wkN ((s.1 98)) (x4) ((s.1 98) (x3 + 1)) (x7 + 1) ∧ x6 = wkT ((s.1 98)) (x4) ((s.1 98) (x3 + 1)) (x7 + 1) from by omega)
  · skip
    replace c11 : ¬ (x8 ≠ 0) := c11
    refine ⟨(show lf_R x9 from lf_Rof (by omega)), ?_⟩
    exact sm_268_p135 hQ hX38 (show (304 - x7).toNat ≤ M38 from by omega) hI (show (1 : Int) ≤ x3 ∧ x3 ≤ (2208 : Int) from by omega) (show (97 : Int) ≤ x4 ∧ x4 ≤ (2212 : Int) from by omega) (show (0 : Int) ≤ x5 ∧ x5 ≤ (304 : Int) from by omega) (show (0 : Int) ≤ x6 ∧ x6 ≤ (304 : Int) from by omega) (show (0 : Int) ≤ x7 ∧ x7 ≤ (303 : Int) from by omega) (show (0 : Int) ≤ x5 ∧ x5 ≤ (304 : Int) from by omega) (show wk_O ((s.1 98)) (x3) (x4) from by first | with_reducible assumption | assumption) (show 0 ≤ (s.1 98) (x3 + 1) ∧ (s.1 98) (x3 + 1) ≤ x7 ∧ (s.1 98) (x3 + 2) ≤ 304 ∧ 0 ≤ x5 ∧ 0 ≤ x6 ∧ x7 < (s.1 98) (x3 + 2) from by omega) (show x5 ≤ x7 ∧ x6 ≤ x7 ∧ x5 = x5 from by omega) (show x5 + 1 = wkN ((s.1 98)) (x4) ((s.1 98) (x3 + 1)) (x7 + 1) ∧ x6 = wkT ((s.1 98)) (x4) ((s.1 98) (x3 + 1)) (x7 + 1) from by omega)
theorem sm_268_p436 {X38 : Int → Int → Int → lf_Z → Prop} {Q : Int → lf_Z → Prop} {x3 : Int} {x4 : Int} {x5 : Int} {x6 : Int} {x7 : Int} {y1 : Int} {y2 : Int} {s : lf_Z} (hQ : ∀ (r : Int) (s' : lf_Z), iv_A s'.1 s'.2.2 → lf_fq [107] 1000000 true s.1 s.2.2 s'.1 s'.2.2 → ((-2147483648) ≤ r ∧ r ≤ 2147483647) → Q r s') {M38 : Nat} (hX38 : ∀ (x5 : Int) (x6 : Int) (x7 : Int) (s' : lf_Z), iv_A s'.1 s'.2.2 → lf_fq [107] 1000000 true s.1 s.2.2 s'.1 s'.2.2 → 0 ≤ x5 ∧ x5 ≤ 304 → 0 ≤ x6 ∧ x6 ≤ 304 → 0 ≤ x7 ∧ x7 ≤ 304 → (wk_O (s'.1 98) (x3) (x4)) → (0 ≤ s'.1 98 (x3 + 1) ∧ s'.1 98 (x3 + 1) ≤ x7 ∧ s'.1 98 (x3 + 2) ≤ 304 ∧ 0 ≤ x5 ∧ 0 ≤ x6 ∧ x5 ≤ x7 ∧ x6 ≤ x7 ∧ x7 ≤ s'.1 98 (x3 + 2)) → (x5 = wkN (s'.1 98) (x4) (s'.1 98 (x3 + 1)) (x7) ∧ x6 = wkT (s'.1 98) (x4) (s'.1 98 (x3 + 1)) (x7)) → (304 - x7).toNat < M38 → X38 x5 x6 x7 s') (hM38 : (304 - x7).toNat ≤ M38) (hI : iv_A s.1 s.2.2) (bx3 : 1 ≤ x3 ∧ x3 ≤ 2208) (bx4 : 97 ≤ x4 ∧ x4 ≤ 2212) (bx5 : 0 ≤ x5 ∧ x5 ≤ 304) (bx6 : 0 ≤ x6 ∧ x6 ≤ 304) (bx7 : 0 ≤ x7 ∧ x7 ≤ 303) (by1 : (-2) ≤ y1 ∧ y1 ≤ 302) (by2 : 0 ≤ y2 ∧ y2 ≤ 1) (kv0 : wk_O (s.1 98) (x3) (x4)) (kv1 : 0 ≤ s.1 98 (x3 + 1) ∧ s.1 98 (x3 + 1) ≤ x7 ∧ s.1 98 (x3 + 2) ≤ 304 ∧ 0 ≤ x5 ∧ 0 ≤ x6 ∧ x7 < s.1 98 (x3 + 2)) (kv2 : x5 ≤ x7 + 1 ∧ x6 ≤ x7 + 1) (kv3 : x5 = wkN (s.1 98) (x4) (s.1 98 (x3 + 1)) (x7 + 1) ∧ x6 = wkT (s.1 98) (x4) (s.1 98 (x3 + 1)) (x7 + 1)) (kv4 : y1 = x6 - 1 ∧ 1 ≤ x6) : fm_268_p436 X38 Q x3 x4 x5 x6 x7 y1 y2 s := by
  unfold fm_268_p436
  refine ⟨(show (0 : Int) ≤ y1 ∧ y1 < (330 : Int) from by omega), ?_⟩
  refine ⟨(show y2 = 0 ∨ y2 = 1 from by omega), ?_⟩
  have hI26 : iv_A (lf_up s.1 107 y1 y2) s.2.2 := iv_w107 hI (by omega)
  have fr27 : lf_fq [107] 1000000 true s.1 s.2.2 (lf_up s.1 107 y1 y2) s.2.2 := lf_fq_up (lf_fq_rf) rfl (fun h => absurd h (by decide))
  exact sm_268_p437 (fun r9 t9 i9 f9 => hQ r9 t9 i9 (lf_fq_tr fr27 f9)) (fun p0 p1 p2 t9 i9 f9 => hX38 p0 p1 p2 t9 i9 (lf_fq_tr fr27 f9)) (show (304 - x7).toNat ≤ M38 from by omega) hI26 (show (1 : Int) ≤ x3 ∧ x3 ≤ (2208 : Int) from by omega) (show (97 : Int) ≤ x4 ∧ x4 ≤ (2212 : Int) from by omega) (show (0 : Int) ≤ x5 ∧ x5 ≤ (304 : Int) from by omega) (show (0 : Int) ≤ x6 ∧ x6 ≤ (304 : Int) from by omega) (show (0 : Int) ≤ x7 ∧ x7 ≤ (303 : Int) from by omega) (show wk_O ((s.1 98)) (x3) (x4) from by first | with_reducible assumption | assumption) (show 0 ≤ (s.1 98) (x3 + 1) ∧ (s.1 98) (x3 + 1) ≤ x7 ∧ (s.1 98) (x3 + 2) ≤ 304 ∧ 0 ≤ x5 ∧ 0 ≤ x6 ∧ x7 < (s.1 98) (x3 + 2) from by omega) (show x5 ≤ x7 + 1 ∧ x6 ≤ x7 + 1 from by omega) (show x5 = wkN ((s.1 98)) (x4) ((s.1 98) (x3 + 1)) (x7 + 1) ∧ x6 = wkT ((s.1 98)) (x4) ((s.1 98) (x3 + 1)) (x7 + 1) from by omega)
theorem sm_268_p431 {X38 : Int → Int → Int → lf_Z → Prop} {Q : Int → lf_Z → Prop} {x3 : Int} {x4 : Int} {x5 : Int} {x6 : Int} {x7 : Int} {y1 : Int} {s : lf_Z} (hQ : ∀ (r : Int) (s' : lf_Z), iv_A s'.1 s'.2.2 → lf_fq [107] 1000000 true s.1 s.2.2 s'.1 s'.2.2 → ((-2147483648) ≤ r ∧ r ≤ 2147483647) → Q r s') {M38 : Nat} (hX38 : ∀ (x5 : Int) (x6 : Int) (x7 : Int) (s' : lf_Z), iv_A s'.1 s'.2.2 → lf_fq [107] 1000000 true s.1 s.2.2 s'.1 s'.2.2 → 0 ≤ x5 ∧ x5 ≤ 304 → 0 ≤ x6 ∧ x6 ≤ 304 → 0 ≤ x7 ∧ x7 ≤ 304 → (wk_O (s'.1 98) (x3) (x4)) → (0 ≤ s'.1 98 (x3 + 1) ∧ s'.1 98 (x3 + 1) ≤ x7 ∧ s'.1 98 (x3 + 2) ≤ 304 ∧ 0 ≤ x5 ∧ 0 ≤ x6 ∧ x5 ≤ x7 ∧ x6 ≤ x7 ∧ x7 ≤ s'.1 98 (x3 + 2)) → (x5 = wkN (s'.1 98) (x4) (s'.1 98 (x3 + 1)) (x7) ∧ x6 = wkT (s'.1 98) (x4) (s'.1 98 (x3 + 1)) (x7)) → (304 - x7).toNat < M38 → X38 x5 x6 x7 s') (hM38 : (304 - x7).toNat ≤ M38) (hI : iv_A s.1 s.2.2) (bx3 : 1 ≤ x3 ∧ x3 ≤ 2208) (bx4 : 97 ≤ x4 ∧ x4 ≤ 2212) (bx5 : 0 ≤ x5 ∧ x5 ≤ 304) (bx6 : 0 ≤ x6 ∧ x6 ≤ 304) (bx7 : 0 ≤ x7 ∧ x7 ≤ 303) (by1 : (-2) ≤ y1 ∧ y1 ≤ 302) (kv0 : wk_O (s.1 98) (x3) (x4)) (kv1 : 0 ≤ s.1 98 (x3 + 1) ∧ s.1 98 (x3 + 1) ≤ x7 ∧ s.1 98 (x3 + 2) ≤ 304 ∧ 0 ≤ x5 ∧ 0 ≤ x6 ∧ x7 < s.1 98 (x3 + 2)) (kv2 : x5 ≤ x7 + 1 ∧ x6 ≤ x7 + 1) (kv3 : x5 = wkN (s.1 98) (x4) (s.1 98 (x3 + 1)) (x7 + 1) ∧ x6 = wkT (s.1 98) (x4) (s.1 98 (x3 + 1)) (x7 + 1)) (kv4 : y1 = x6 - 1 ∧ 1 ≤ x6) : fm_268_p431 X38 Q x3 x4 x5 x6 x7 y1 s := by
  unfold fm_268_p431
  exact sm_268_p436 hQ hX38 (show (304 - x7).toNat ≤ M38 from by omega) hI (show (1 : Int) ≤ x3 ∧ x3 ≤ (2208 : Int) from by omega) (show (97 : Int) ≤ x4 ∧ x4 ≤ (2212 : Int) from by omega) (show (0 : Int) ≤ x5 ∧ x5 ≤ (304 : Int) from by omega) (show (0 : Int) ≤ x6 ∧ x6 ≤ (304 : Int) from by omega) (show (0 : Int) ≤ x7 ∧ x7 ≤ (303 : Int) from by omega) (show (-2 : Int) ≤ y1 ∧ y1 ≤ (302 : Int) from by omega) (show (0 : Int) ≤ 1 ∧ 1 ≤ (1 : Int) from by omega) (show wk_O ((s.1 98)) (x3) (x4) from by first | with_reducible assumption | assumption) (show 0 ≤ (s.1 98) (x3 + 1) ∧ (s.1 98) (x3 + 1) ≤ x7 ∧ (s.1 98) (x3 + 2) ≤ 304 ∧ 0 ≤ x5 ∧ 0 ≤ x6 ∧ x7 < (s.1 98) (x3 + 2) from by omega) (show x5 ≤ x7 + 1 ∧ x6 ≤ x7 + 1 from by omega) (show x5 = wkN ((s.1 98)) (x4) ((s.1 98) (x3 + 1)) (x7 + 1) ∧ x6 = wkT ((s.1 98)) (x4) ((s.1 98) (x3 + 1)) (x7 + 1) from by omega) (show y1 = x6 - 1 ∧ 1 ≤ x6 from by omega)
theorem sm_268_p405 {X38 : Int → Int → Int → lf_Z → Prop} {Q : Int → lf_Z → Prop} {x3 : Int} {x4 : Int} {x5 : Int} {x6 : Int} {x7 : Int} {y1 : Int} {s : lf_Z} (hQ : ∀ (r : Int) (s' : lf_Z), iv_A s'.1 s'.2.2 → lf_fq [107] 1000000 true s.1 s.2.2 s'.1 s'.2.2 → ((-2147483648) ≤ r ∧ r ≤ 2147483647) → Q r s') {M38 : Nat} (hX38 : ∀ (x5 : Int) (x6 : Int) (x7 : Int) (s' : lf_Z), iv_A s'.1 s'.2.2 → lf_fq [107] 1000000 true s.1 s.2.2 s'.1 s'.2.2 → 0 ≤ x5 ∧ x5 ≤ 304 → 0 ≤ x6 ∧ x6 ≤ 304 → 0 ≤ x7 ∧ x7 ≤ 304 → (wk_O (s'.1 98) (x3) (x4)) → (0 ≤ s'.1 98 (x3 + 1) ∧ s'.1 98 (x3 + 1) ≤ x7 ∧ s'.1 98 (x3 + 2) ≤ 304 ∧ 0 ≤ x5 ∧ 0 ≤ x6 ∧ x5 ≤ x7 ∧ x6 ≤ x7 ∧ x7 ≤ s'.1 98 (x3 + 2)) → (x5 = wkN (s'.1 98) (x4) (s'.1 98 (x3 + 1)) (x7) ∧ x6 = wkT (s'.1 98) (x4) (s'.1 98 (x3 + 1)) (x7)) → (304 - x7).toNat < M38 → X38 x5 x6 x7 s') (hM38 : (304 - x7).toNat ≤ M38) (hI : iv_A s.1 s.2.2) (bx3 : 1 ≤ x3 ∧ x3 ≤ 2208) (bx4 : 97 ≤ x4 ∧ x4 ≤ 2212) (bx5 : 0 ≤ x5 ∧ x5 ≤ 304) (bx6 : 0 ≤ x6 ∧ x6 ≤ 304) (bx7 : 0 ≤ x7 ∧ x7 ≤ 303) (by1 : (-2) ≤ y1 ∧ y1 ≤ 302) (kv0 : wk_O (s.1 98) (x3) (x4)) (kv1 : 0 ≤ s.1 98 (x3 + 1) ∧ s.1 98 (x3 + 1) ≤ x7 ∧ s.1 98 (x3 + 2) ≤ 304 ∧ 0 ≤ x5 ∧ 0 ≤ x6 ∧ x7 < s.1 98 (x3 + 2)) (kv2 : x5 ≤ x7 + 1 ∧ x6 ≤ x7 + 1) (kv3 : x5 = wkN (s.1 98) (x4) (s.1 98 (x3 + 1)) (x7 + 1) ∧ x6 = wkT (s.1 98) (x4) (s.1 98 (x3 + 1)) (x7 + 1)) (kv4 : y1 = x6 - 1 ∧ 1 ≤ x6) : fm_268_p405 X38 Q x3 x4 x5 x6 x7 y1 s := by
  unfold fm_268_p405
  exact sm_268_p436 hQ hX38 (show (304 - x7).toNat ≤ M38 from by omega) hI (show (1 : Int) ≤ x3 ∧ x3 ≤ (2208 : Int) from by omega) (show (97 : Int) ≤ x4 ∧ x4 ≤ (2212 : Int) from by omega) (show (0 : Int) ≤ x5 ∧ x5 ≤ (304 : Int) from by omega) (show (0 : Int) ≤ x6 ∧ x6 ≤ (304 : Int) from by omega) (show (0 : Int) ≤ x7 ∧ x7 ≤ (303 : Int) from by omega) (show (-2 : Int) ≤ y1 ∧ y1 ≤ (302 : Int) from by omega) (show (0 : Int) ≤ 0 ∧ 0 ≤ (1 : Int) from by omega) (show wk_O ((s.1 98)) (x3) (x4) from by first | with_reducible assumption | assumption) (show 0 ≤ (s.1 98) (x3 + 1) ∧ (s.1 98) (x3 + 1) ≤ x7 ∧ (s.1 98) (x3 + 2) ≤ 304 ∧ 0 ≤ x5 ∧ 0 ≤ x6 ∧ x7 < (s.1 98) (x3 + 2) from by omega) (show x5 ≤ x7 + 1 ∧ x6 ≤ x7 + 1 from by omega) (show x5 = wkN ((s.1 98)) (x4) ((s.1 98) (x3 + 1)) (x7 + 1) ∧ x6 = wkT ((s.1 98)) (x4) ((s.1 98) (x3 + 1)) (x7 + 1) from by omega) (show y1 = x6 - 1 ∧ 1 ≤ x6 from by omega)
theorem sm_268_p357 {X38 : Int → Int → Int → lf_Z → Prop} {Q : Int → lf_Z → Prop} {x3 : Int} {x4 : Int} {x5 : Int} {x6 : Int} {x7 : Int} {y1 : Int} {y2 : Int} {s : lf_Z} (hQ : ∀ (r : Int) (s' : lf_Z), iv_A s'.1 s'.2.2 → lf_fq [107] 1000000 true s.1 s.2.2 s'.1 s'.2.2 → ((-2147483648) ≤ r ∧ r ≤ 2147483647) → Q r s') {M38 : Nat} (hX38 : ∀ (x5 : Int) (x6 : Int) (x7 : Int) (s' : lf_Z), iv_A s'.1 s'.2.2 → lf_fq [107] 1000000 true s.1 s.2.2 s'.1 s'.2.2 → 0 ≤ x5 ∧ x5 ≤ 304 → 0 ≤ x6 ∧ x6 ≤ 304 → 0 ≤ x7 ∧ x7 ≤ 304 → (wk_O (s'.1 98) (x3) (x4)) → (0 ≤ s'.1 98 (x3 + 1) ∧ s'.1 98 (x3 + 1) ≤ x7 ∧ s'.1 98 (x3 + 2) ≤ 304 ∧ 0 ≤ x5 ∧ 0 ≤ x6 ∧ x5 ≤ x7 ∧ x6 ≤ x7 ∧ x7 ≤ s'.1 98 (x3 + 2)) → (x5 = wkN (s'.1 98) (x4) (s'.1 98 (x3 + 1)) (x7) ∧ x6 = wkT (s'.1 98) (x4) (s'.1 98 (x3 + 1)) (x7)) → (304 - x7).toNat < M38 → X38 x5 x6 x7 s') (hM38 : (304 - x7).toNat ≤ M38) (hI : iv_A s.1 s.2.2) (bx3 : 1 ≤ x3 ∧ x3 ≤ 2208) (bx4 : 97 ≤ x4 ∧ x4 ≤ 2212) (bx5 : 0 ≤ x5 ∧ x5 ≤ 304) (bx6 : 0 ≤ x6 ∧ x6 ≤ 304) (bx7 : 0 ≤ x7 ∧ x7 ≤ 303) (by1 : (-1) ≤ y1 ∧ y1 ≤ 303) (by2 : 0 ≤ y2 ∧ y2 ≤ 1) (kv0 : wk_O (s.1 98) (x3) (x4)) (kv1 : 0 ≤ s.1 98 (x3 + 1) ∧ s.1 98 (x3 + 1) ≤ x7 ∧ s.1 98 (x3 + 2) ≤ 304 ∧ 0 ≤ x5 ∧ 0 ≤ x6 ∧ x7 < s.1 98 (x3 + 2)) (kv2 : x5 ≤ x7 + 1 ∧ x6 ≤ x7 + 1) (kv3 : x5 = wkN (s.1 98) (x4) (s.1 98 (x3 + 1)) (x7 + 1) ∧ x6 = wkT (s.1 98) (x4) (s.1 98 (x3 + 1)) (x7 + 1)) (kv4 : y1 = x6 - 1 ∧ 1 ≤ x6) : fm_268_p357 X38 Q x3 x4 x5 x6 x7 y1 y2 s := by
  unfold fm_268_p357
  refine ⟨(show (0 : Int) ≤ y1 ∧ y1 < (330 : Int) from by omega), ?_⟩
  refine ⟨(show y2 = 0 ∨ y2 = 1 from by omega), ?_⟩
  have hI37 : iv_A (lf_up s.1 107 y1 y2) s.2.2 := iv_w107 hI (by omega)
  have fr38 : lf_fq [107] 1000000 true s.1 s.2.2 (lf_up s.1 107 y1 y2) s.2.2 := lf_fq_up (lf_fq_rf) rfl (fun h => absurd h (by decide))
  exact sm_268_p437 (fun r9 t9 i9 f9 => hQ r9 t9 i9 (lf_fq_tr fr38 f9)) (fun p0 p1 p2 t9 i9 f9 => hX38 p0 p1 p2 t9 i9 (lf_fq_tr fr38 f9)) (show (304 - x7).toNat ≤ M38 from by omega) hI37 (show (1 : Int) ≤ x3 ∧ x3 ≤ (2208 : Int) from by omega) (show (97 : Int) ≤ x4 ∧ x4 ≤ (2212 : Int) from by omega) (show (0 : Int) ≤ x5 ∧ x5 ≤ (304 : Int) from by omega) (show (0 : Int) ≤ x6 ∧ x6 ≤ (304 : Int) from by omega) (show (0 : Int) ≤ x7 ∧ x7 ≤ (303 : Int) from by omega) (show wk_O ((s.1 98)) (x3) (x4) from by first | with_reducible assumption | assumption) (show 0 ≤ (s.1 98) (x3 + 1) ∧ (s.1 98) (x3 + 1) ≤ x7 ∧ (s.1 98) (x3 + 2) ≤ 304 ∧ 0 ≤ x5 ∧ 0 ≤ x6 ∧ x7 < (s.1 98) (x3 + 2) from by omega) (show x5 ≤ x7 + 1 ∧ x6 ≤ x7 + 1 from by omega) (show x5 = wkN ((s.1 98)) (x4) ((s.1 98) (x3 + 1)) (x7 + 1) ∧ x6 = wkT ((s.1 98)) (x4) ((s.1 98) (x3 + 1)) (x7 + 1) from by omega)
theorem sm_268_p38 {X38 : Int → Int → Int → lf_Z → Prop} {Q : Int → lf_Z → Prop} {x3 : Int} {x4 : Int} {x5 : Int} {x6 : Int} {x7 : Int} {s : lf_Z} (hQ : ∀ (r : Int) (s' : lf_Z), iv_A s'.1 s'.2.2 → lf_fq [107] 1000000 true s.1 s.2.2 s'.1 s'.2.2 → ((-2147483648) ≤ r ∧ r ≤ 2147483647) → Q r s') {M38 : Nat} (hX38 : ∀ (x5 : Int) (x6 : Int) (x7 : Int) (s' : lf_Z), iv_A s'.1 s'.2.2 → lf_fq [107] 1000000 true s.1 s.2.2 s'.1 s'.2.2 → 0 ≤ x5 ∧ x5 ≤ 304 → 0 ≤ x6 ∧ x6 ≤ 304 → 0 ≤ x7 ∧ x7 ≤ 304 → (wk_O (s'.1 98) (x3) (x4)) → (0 ≤ s'.1 98 (x3 + 1) ∧ s'.1 98 (x3 + 1) ≤ x7 ∧ s'.1 98 (x3 + 2) ≤ 304 ∧ 0 ≤ x5 ∧ 0 ≤ x6 ∧ x5 ≤ x7 ∧ x6 ≤ x7 ∧ x7 ≤ s'.1 98 (x3 + 2)) → (x5 = wkN (s'.1 98) (x4) (s'.1 98 (x3 + 1)) (x7) ∧ x6 = wkT (s'.1 98) (x4) (s'.1 98 (x3 + 1)) (x7)) → (304 - x7).toNat < M38 → X38 x5 x6 x7 s') (hM38 : (304 - x7).toNat ≤ M38) (hI : iv_A s.1 s.2.2) (bx3 : 1 ≤ x3 ∧ x3 ≤ 2208) (bx4 : 97 ≤ x4 ∧ x4 ≤ 2212) (bx5 : 0 ≤ x5 ∧ x5 ≤ 304) (bx6 : 0 ≤ x6 ∧ x6 ≤ 304) (bx7 : 0 ≤ x7 ∧ x7 ≤ 304) (kv0 : wk_O (s.1 98) (x3) (x4)) (kv1 : 0 ≤ s.1 98 (x3 + 1) ∧ s.1 98 (x3 + 1) ≤ x7 ∧ s.1 98 (x3 + 2) ≤ 304 ∧ 0 ≤ x5 ∧ 0 ≤ x6 ∧ x5 ≤ x7 ∧ x6 ≤ x7 ∧ x7 ≤ s.1 98 (x3 + 2)) (kv2 : x5 = wkN (s.1 98) (x4) (s.1 98 (x3 + 1)) (x7) ∧ x6 = wkT (s.1 98) (x4) (s.1 98 (x3 + 1)) (x7)) : fm_268_p38 Q x3 x4 X38 x5 x6 x7 s := by
  unfold fm_268_p38
  refine ⟨(show (0 : Int) ≤ x3 + 2 ∧ x3 + 2 < (2820 : Int) from by omega), ?_⟩
  have b4 : (-2147483648) ≤ s.1 98 (x3 + 2) ∧ s.1 98 (x3 + 2) ≤ 2147483647 := iv_full hI
  refine ⟨(show lf_R x7 from lf_Rof (by omega)), ?_⟩
  refine ⟨(show lf_R (s.1 98 (x3 + 2)) from lf_Rof (by omega)), ?_⟩
  refine ⟨fun c5 => ?_, fun c5 => ?_⟩
  · skip
    replace c5 : s.1 98 (x3 + 2) ≤ x7 := c5
    have b6 : (-2147483648) ≤ lf_w (lf_wl (s.2.1 106 0)) ∧ lf_w (lf_wl (s.2.1 106 0)) ≤ 2147483647 := lf_wB
    exact hQ (lf_w (lf_wl (s.2.1 106 0))) s hI (lf_fq_rf) (show (-2147483648 : Int) ≤ lf_w (lf_wl (s.2.1 106 0)) ∧ lf_w (lf_wl (s.2.1 106 0)) ≤ (2147483647 : Int) from by omega)
  · skip
    replace c5 : ¬ (s.1 98 (x3 + 2) ≤ x7) := c5
    refine ⟨(show (0 : Int) ≤ x4 + (2 * x7) ∧ x4 + (2 * x7) < (2820 : Int) from by omega), ?_⟩
    have b7 : (-2147483648) ≤ s.1 98 (x4 + (2 * x7)) ∧ s.1 98 (x4 + (2 * x7)) ≤ 2147483647 := iv_full hI
    refine ⟨(show (0 : Int) ≤ (x4 + (2 * x7)) + 1 ∧ (x4 + (2 * x7)) + 1 < (2820 : Int) from by omega), ?_⟩
    have b8 : (-2147483648) ≤ s.1 98 ((x4 + (2 * x7)) + 1) ∧ s.1 98 ((x4 + (2 * x7)) + 1) ≤ 2147483647 := iv_full hI
    refine ⟨(show lf_R (s.1 98 (x4 + (2 * x7))) from lf_Rof (by omega)), ?_⟩
    refine ⟨fun c9 => ?_, fun c9 => ?_⟩
    · skip
      replace c9 : s.1 98 (x4 + (2 * x7)) ≤ 1 := c9
      have b10 : (((s.1 98 (x4 + (2 * x7))) = 0 ∨ ((s.1 98 (x4 + (2 * x7))) = 1 ∧ 0 ≤ (s.1 98 ((x4 + (2 * x7)) + 1)) ∧ (s.1 98 ((x4 + (2 * x7)) + 1)) < 11) ∨ ((s.1 98 (x4 + (2 * x7))) ≠ 1 ∧ 0 ≤ (s.1 98 ((x4 + (2 * x7)) + 1)) ∧ (s.1 98 ((x4 + (2 * x7)) + 1)) < 80))) ∧ wkN ((s.1 98)) (x4) ((s.1 98) (x3 + 1)) (x7 + 1) = wkN ((s.1 98)) (x4) ((s.1 98) (x3 + 1)) (x7) + 1 ∧ wkT ((s.1 98)) (x4) ((s.1 98) (x3 + 1)) (x7 + 1) = wkT ((s.1 98)) (x4) ((s.1 98) (x3 + 1)) (x7) + 0 := wk_sv kv0 (by omega) (by omega) (by omega)
      exact sm_268_p94 hQ hX38 (show (304 - x7).toNat ≤ M38 from by omega) hI (show (1 : Int) ≤ x3 ∧ x3 ≤ (2208 : Int) from by omega) (show (97 : Int) ≤ x4 ∧ x4 ≤ (2212 : Int) from by omega) (show (0 : Int) ≤ x5 ∧ x5 ≤ (304 : Int) from by omega) (show (0 : Int) ≤ x6 ∧ x6 ≤ (304 : Int) from by omega) (show (0 : Int) ≤ x7 ∧ x7 ≤ (303 : Int) from by omega) (show (-2147483648 : Int) ≤ s.1 98 (x4 + (2 * x7)) ∧ s.1 98 (x4 + (2 * x7)) ≤ (31 : Int) from by omega) (show (-2147483648 : Int) ≤ s.1 98 ((x4 + (2 * x7)) + 1) ∧ s.1 98 ((x4 + (2 * x7)) + 1) ≤ (2147483647 : Int) from by omega) (show wk_O ((s.1 98)) (x3) (x4) from by first | with_reducible assumption | assumption) (show 0 ≤ (s.1 98) (x3 + 1) ∧ (s.1 98) (x3 + 1) ≤ x7 ∧ (s.1 98) (x3 + 2) ≤ 304 ∧ 0 ≤ x5 ∧ 0 ≤ x6 ∧ x7 < (s.1 98) (x3 + 2) from by omega) (show x5 ≤ x7 ∧ x6 ≤ x7 from by omega) (show x5 + 1 = wkN ((s.1 98)) (x4) ((s.1 98) (x3 + 1)) (x7 + 1) ∧ x6 = wkT ((s.1 98)) (x4) ((s.1 98) (x3 + 1)) (x7 + 1) from by omega) (show (s.1 98 (x4 + (2 * x7))) = 0 ∨ ((s.1 98 (x4 + (2 * x7))) = 1 ∧ 0 ≤ (s.1 98 ((x4 + (2 * x7)) + 1)) ∧ (s.1 98 ((x4 + (2 * x7)) + 1)) < 11) ∨ ((s.1 98 (x4 + (2 * x7))) ≠ 1 ∧ 0 ≤ (s.1 98 ((x4 + (2 * x7)) + 1)) ∧ (s.1 98 ((x4 + (2 * x7)) + 1)) < 80) from by omega)
    · skip
      replace c9 : ¬ (s.1 98 (x4 + (2 * x7)) ≤ 1) := c9
      refine ⟨fun c15 => ?_, fun c15 => ?_⟩
      · skip
        replace c15 : s.1 98 (x4 + (2 * x7)) ≠ 31 := c15
        refine ⟨fun c16 => ?_, fun c16 => ?_⟩
        · skip
          replace c16 : s.1 98 (x4 + (2 * x7)) ≠ 2 := c16
          refine ⟨fun c17 => ?_, fun c17 => ?_⟩
          · skip
            replace c17 : s.1 98 (x4 + (2 * x7)) ≠ 30 := c17
            refine ⟨fun c18 => ?_, fun c18 => ?_⟩
            · skip
              replace c18 : s.1 98 (x4 + (2 * x7)) ≠ 3 := c18
              refine ⟨fun c19 => ?_, fun c19 => ?_⟩
              · skip
                replace c19 : 10 ≤ s.1 98 (x4 + (2 * x7)) := c19
                refine ⟨fun c20 => ?_, fun c20 => ?_⟩
                · skip
                  replace c20 : 20 ≤ s.1 98 (x4 + (2 * x7)) := c20
                  refine ⟨fun c21 => ?_, fun c21 => ?_⟩
                  · skip
                    replace c21 : s.1 98 (x4 + (2 * x7)) ≠ 20 := c21
                    have b22 : (2 ≤ wkT ((s.1 98)) (x4) ((s.1 98) (x3 + 1)) (x7)) ∧ wkN ((s.1 98)) (x4) ((s.1 98) (x3 + 1)) (x7 + 1) = wkN ((s.1 98)) (x4) ((s.1 98) (x3 + 1)) (x7) + 0 ∧ wkT ((s.1 98)) (x4) ((s.1 98) (x3 + 1)) (x7 + 1) = wkT ((s.1 98)) (x4) ((s.1 98) (x3 + 1)) (x7) + -1 := wk_s21 kv0 (by omega) (by omega) (by omega)
                    refine ⟨fun c23 => ?_, fun c23 => ?_⟩
                    · skip
                      replace c23 : s.1 98 (x4 + (2 * x7)) ≠ 21 := c23
                      refine ⟨(show (0 : Int) ≤ (x6 + (-1)) - 1 ∧ (x6 + (-1)) - 1 < (330 : Int) from by omega), ?_⟩
                      have b24 : 0 ≤ s.1 107 ((x6 + (-1)) - 1) ∧ s.1 107 ((x6 + (-1)) - 1) ≤ 1 := iv_r107 hI _
                      refine ⟨(show lf_R (s.1 107 ((x6 + (-1)) - 1)) from lf_Rof (by omega)), ?_⟩
                      refine ⟨fun c25 => ?_, fun c25 => ?_⟩
                      · skip
                        replace c25 : s.1 107 ((x6 + (-1)) - 1) ≠ 0 := c25
                        exact sm_268_p431 hQ hX38 (show (304 - x7).toNat ≤ M38 from by omega) hI (show (1 : Int) ≤ x3 ∧ x3 ≤ (2208 : Int) from by omega) (show (97 : Int) ≤ x4 ∧ x4 ≤ (2212 : Int) from by omega) (show (0 : Int) ≤ x5 ∧ x5 ≤ (304 : Int) from by omega) (show (0 : Int) ≤ x6 + (-1) ∧ x6 + (-1) ≤ (304 : Int) from by omega) (show (0 : Int) ≤ x7 ∧ x7 ≤ (303 : Int) from by omega) (show (-2 : Int) ≤ (x6 + (-1)) - 1 ∧ (x6 + (-1)) - 1 ≤ (302 : Int) from by omega) (show wk_O ((s.1 98)) (x3) (x4) from by first | with_reducible assumption | assumption) (show 0 ≤ (s.1 98) (x3 + 1) ∧ (s.1 98) (x3 + 1) ≤ x7 ∧ (s.1 98) (x3 + 2) ≤ 304 ∧ 0 ≤ x5 ∧ 0 ≤ (x6 + (-1)) ∧ x7 < (s.1 98) (x3 + 2) from by omega) (show x5 ≤ x7 + 1 ∧ (x6 + (-1)) ≤ x7 + 1 from by omega) (show x5 = wkN ((s.1 98)) (x4) ((s.1 98) (x3 + 1)) (x7 + 1) ∧ (x6 + (-1)) = wkT ((s.1 98)) (x4) ((s.1 98) (x3 + 1)) (x7 + 1) from by omega) (show ((x6 + (-1)) - 1) = (x6 + (-1)) - 1 ∧ 1 ≤ (x6 + (-1)) from by omega)
                      · skip
                        replace c25 : ¬ (s.1 107 ((x6 + (-1)) - 1) ≠ 0) := c25
                        refine ⟨(show (0 : Int) ≤ x6 + (-1) ∧ x6 + (-1) < (330 : Int) from by omega), ?_⟩
                        have b28 : 0 ≤ s.1 107 (x6 + (-1)) ∧ s.1 107 (x6 + (-1)) ≤ 1 := iv_r107 hI _
                        refine ⟨(show lf_R (s.1 107 (x6 + (-1))) from lf_Rof (by omega)), ?_⟩
                        refine ⟨fun c29 => ?_, fun c29 => ?_⟩
                        · skip
                          replace c29 : s.1 107 (x6 + (-1)) = 0 := c29
                          exact sm_268_p436 hQ hX38 (show (304 - x7).toNat ≤ M38 from by omega) hI (show (1 : Int) ≤ x3 ∧ x3 ≤ (2208 : Int) from by omega) (show (97 : Int) ≤ x4 ∧ x4 ≤ (2212 : Int) from by omega) (show (0 : Int) ≤ x5 ∧ x5 ≤ (304 : Int) from by omega) (show (0 : Int) ≤ x6 + (-1) ∧ x6 + (-1) ≤ (304 : Int) from by omega) (show (0 : Int) ≤ x7 ∧ x7 ≤ (303 : Int) from by omega) (show (-2 : Int) ≤ (x6 + (-1)) - 1 ∧ (x6 + (-1)) - 1 ≤ (302 : Int) from by omega) (show (0 : Int) ≤ 0 ∧ 0 ≤ (1 : Int) from by omega) (show wk_O ((s.1 98)) (x3) (x4) from by first | with_reducible assumption | assumption) (show 0 ≤ (s.1 98) (x3 + 1) ∧ (s.1 98) (x3 + 1) ≤ x7 ∧ (s.1 98) (x3 + 2) ≤ 304 ∧ 0 ≤ x5 ∧ 0 ≤ (x6 + (-1)) ∧ x7 < (s.1 98) (x3 + 2) from by omega) (show x5 ≤ x7 + 1 ∧ (x6 + (-1)) ≤ x7 + 1 from by omega) (show x5 = wkN ((s.1 98)) (x4) ((s.1 98) (x3 + 1)) (x7 + 1) ∧ (x6 + (-1)) = wkT ((s.1 98)) (x4) ((s.1 98) (x3 + 1)) (x7 + 1) from by omega) (show ((x6 + (-1)) - 1) = (x6 + (-1)) - 1 ∧ 1 ≤ (x6 + (-1)) from by omega)
                        · skip
                          replace c29 : ¬ (s.1 107 (x6 + (-1)) = 0) := c29
                          exact sm_268_p431 hQ hX38 (show (304 - x7).toNat ≤ M38 from by omega) hI (show (1 : Int) ≤ x3 ∧ x3 ≤ (2208 : Int) from by omega) (show (97 : Int) ≤ x4 ∧ x4 ≤ (2212 : Int) from by omega) (show (0 : Int) ≤ x5 ∧ x5 ≤ (304 : Int) from by omega) (show (0 : Int) ≤ x6 + (-1) ∧ x6 + (-1) ≤ (304 : Int) from by omega) (show (0 : Int) ≤ x7 ∧ x7 ≤ (303 : Int) from by omega) (show (-2 : Int) ≤ (x6 + (-1)) - 1 ∧ (x6 + (-1)) - 1 ≤ (302 : Int) from by omega) (show wk_O ((s.1 98)) (x3) (x4) from by first | with_reducible assumption | assumption) (show 0 ≤ (s.1 98) (x3 + 1) ∧ (s.1 98) (x3 + 1) ≤ x7 ∧ (s.1 98) (x3 + 2) ≤ 304 ∧ 0 ≤ x5 ∧ 0 ≤ (x6 + (-1)) ∧ x7 < (s.1 98) (x3 + 2) from by omega) (show x5 ≤ x7 + 1 ∧ (x6 + (-1)) ≤ x7 + 1 from by omega) (show x5 = wkN ((s.1 98)) (x4) ((s.1 98) (x3 + 1)) (x7 + 1) ∧ (x6 + (-1)) = wkT ((s.1 98)) (x4) ((s.1 98) (x3 + 1)) (x7 + 1) from by omega) (show ((x6 + (-1)) - 1) = (x6 + (-1)) - 1 ∧ 1 ≤ (x6 + (-1)) from by omega)
                    · skip
                      replace c23 : ¬ (s.1 98 (x4 + (2 * x7)) ≠ 21) := c23
                      refine ⟨(show (0 : Int) ≤ (x6 + (-1)) - 1 ∧ (x6 + (-1)) - 1 < (330 : Int) from by omega), ?_⟩
                      have b30 : 0 ≤ s.1 107 ((x6 + (-1)) - 1) ∧ s.1 107 ((x6 + (-1)) - 1) ≤ 1 := iv_r107 hI _
                      refine ⟨(show lf_R (s.1 107 ((x6 + (-1)) - 1)) from lf_Rof (by omega)), ?_⟩
                      refine ⟨fun c31 => ?_, fun c31 => ?_⟩
                      · skip
                        replace c31 : s.1 107 ((x6 + (-1)) - 1) = 0 := c31
                        exact sm_268_p405 hQ hX38 (show (304 - x7).toNat ≤ M38 from by omega) hI (show (1 : Int) ≤ x3 ∧ x3 ≤ (2208 : Int) from by omega) (show (97 : Int) ≤ x4 ∧ x4 ≤ (2212 : Int) from by omega) (show (0 : Int) ≤ x5 ∧ x5 ≤ (304 : Int) from by omega) (show (0 : Int) ≤ x6 + (-1) ∧ x6 + (-1) ≤ (304 : Int) from by omega) (show (0 : Int) ≤ x7 ∧ x7 ≤ (303 : Int) from by omega) (show (-2 : Int) ≤ (x6 + (-1)) - 1 ∧ (x6 + (-1)) - 1 ≤ (302 : Int) from by omega) (show wk_O ((s.1 98)) (x3) (x4) from by first | with_reducible assumption | assumption) (show 0 ≤ (s.1 98) (x3 + 1) ∧ (s.1 98) (x3 + 1) ≤ x7 ∧ (s.1 98) (x3 + 2) ≤ 304 ∧ 0 ≤ x5 ∧ 0 ≤ (x6 + (-1)) ∧ x7 < (s.1 98) (x3 + 2) from by omega) (show x5 ≤ x7 + 1 ∧ (x6 + (-1)) ≤ x7 + 1 from by omega) (show x5 = wkN ((s.1 98)) (x4) ((s.1 98) (x3 + 1)) (x7 + 1) ∧ (x6 + (-1)) = wkT ((s.1 98)) (x4) ((s.1 98) (x3 + 1)) (x7 + 1) from by omega) (show ((x6 + (-1)) - 1) = (x6 + (-1)) - 1 ∧ 1 ≤ (x6 + (-1)) from by omega)
                      · skip
                        replace c31 : ¬ (s.1 107 ((x6 + (-1)) - 1) = 0) := c31
                        refine ⟨(show (0 : Int) ≤ x6 + (-1) ∧ x6 + (-1) < (330 : Int) from by omega), ?_⟩
                        have b32 : 0 ≤ s.1 107 (x6 + (-1)) ∧ s.1 107 (x6 + (-1)) ≤ 1 := iv_r107 hI _
                        refine ⟨(show lf_R (s.1 107 (x6 + (-1))) from lf_Rof (by omega)), ?_⟩
                        refine ⟨fun c33 => ?_, fun c33 => ?_⟩
                        · skip
                          replace c33 : s.1 107 (x6 + (-1)) = 0 := c33
                          exact sm_268_p405 hQ hX38 (show (304 - x7).toNat ≤ M38 from by omega) hI (show (1 : Int) ≤ x3 ∧ x3 ≤ (2208 : Int) from by omega) (show (97 : Int) ≤ x4 ∧ x4 ≤ (2212 : Int) from by omega) (show (0 : Int) ≤ x5 ∧ x5 ≤ (304 : Int) from by omega) (show (0 : Int) ≤ x6 + (-1) ∧ x6 + (-1) ≤ (304 : Int) from by omega) (show (0 : Int) ≤ x7 ∧ x7 ≤ (303 : Int) from by omega) (show (-2 : Int) ≤ (x6 + (-1)) - 1 ∧ (x6 + (-1)) - 1 ≤ (302 : Int) from by omega) (show wk_O ((s.1 98)) (x3) (x4) from by first | with_reducible assumption | assumption) (show 0 ≤ (s.1 98) (x3 + 1) ∧ (s.1 98) (x3 + 1) ≤ x7 ∧ (s.1 98) (x3 + 2) ≤ 304 ∧ 0 ≤ x5 ∧ 0 ≤ (x6 + (-1)) ∧ x7 < (s.1 98) (x3 + 2) from by omega) (show x5 ≤ x7 + 1 ∧ (x6 + (-1)) ≤ x7 + 1 from by omega) (show x5 = wkN ((s.1 98)) (x4) ((s.1 98) (x3 + 1)) (x7 + 1) ∧ (x6 + (-1)) = wkT ((s.1 98)) (x4) ((s.1 98) (x3 + 1)) (x7 + 1) from by omega) (show ((x6 + (-1)) - 1) = (x6 + (-1)) - 1 ∧ 1 ≤ (x6 + (-1)) from by omega)
                        · skip
                          replace c33 : ¬ (s.1 107 (x6 + (-1)) = 0) := c33
                          exact sm_268_p436 hQ hX38 (show (304 - x7).toNat ≤ M38 from by omega) hI (show (1 : Int) ≤ x3 ∧ x3 ≤ (2208 : Int) from by omega) (show (97 : Int) ≤ x4 ∧ x4 ≤ (2212 : Int) from by omega) (show (0 : Int) ≤ x5 ∧ x5 ≤ (304 : Int) from by omega) (show (0 : Int) ≤ x6 + (-1) ∧ x6 + (-1) ≤ (304 : Int) from by omega) (show (0 : Int) ≤ x7 ∧ x7 ≤ (303 : Int) from by omega) (show (-2 : Int) ≤ (x6 + (-1)) - 1 ∧ (x6 + (-1)) - 1 ≤ (302 : Int) from by omega) (show (0 : Int) ≤ 1 ∧ 1 ≤ (1 : Int) from by omega) (show wk_O ((s.1 98)) (x3) (x4) from by first | with_reducible assumption | assumption) (show 0 ≤ (s.1 98) (x3 + 1) ∧ (s.1 98) (x3 + 1) ≤ x7 ∧ (s.1 98) (x3 + 2) ≤ 304 ∧ 0 ≤ x5 ∧ 0 ≤ (x6 + (-1)) ∧ x7 < (s.1 98) (x3 + 2) from by omega) (show x5 ≤ x7 + 1 ∧ (x6 + (-1)) ≤ x7 + 1 from by omega) (show x5 = wkN ((s.1 98)) (x4) ((s.1 98) (x3 + 1)) (x7 + 1) ∧ (x6 + (-1)) = wkT ((s.1 98)) (x4) ((s.1 98) (x3 + 1)) (x7 + 1) from by omega) (show ((x6 + (-1)) - 1) = (x6 + (-1)) - 1 ∧ 1 ≤ (x6 + (-1)) from by omega)
                  · skip
                    replace c21 : ¬ (s.1 98 (x4 + (2 * x7)) ≠ 20) := c21
                    have b34 : (1 ≤ wkT ((s.1 98)) (x4) ((s.1 98) (x3 + 1)) (x7)) ∧ wkN ((s.1 98)) (x4) ((s.1 98) (x3 + 1)) (x7 + 1) = wkN ((s.1 98)) (x4) ((s.1 98) (x3 + 1)) (x7) + 0 ∧ wkT ((s.1 98)) (x4) ((s.1 98) (x3 + 1)) (x7 + 1) = wkT ((s.1 98)) (x4) ((s.1 98) (x3 + 1)) (x7) + 0 := wk_s20 kv0 (by omega) (by omega) (by omega)
                    refine ⟨(show (0 : Int) ≤ x6 - 1 ∧ x6 - 1 < (330 : Int) from by omega), ?_⟩
                    have b35 : 0 ≤ s.1 107 (x6 - 1) ∧ s.1 107 (x6 - 1) ≤ 1 := iv_r107 hI _
                    refine ⟨(show lf_R (s.1 107 (x6 - 1)) from lf_Rof (by omega)), ?_⟩
                    refine ⟨fun c36 => ?_, fun c36 => ?_⟩
                    · skip
                      replace c36 : s.1 107 (x6 - 1) ≠ 0 := c36
                      exact sm_268_p357 hQ hX38 (show (304 - x7).toNat ≤ M38 from by omega) hI (show (1 : Int) ≤ x3 ∧ x3 ≤ (2208 : Int) from by omega) (show (97 : Int) ≤ x4 ∧ x4 ≤ (2212 : Int) from by omega) (show (0 : Int) ≤ x5 ∧ x5 ≤ (304 : Int) from by omega) (show (0 : Int) ≤ x6 ∧ x6 ≤ (304 : Int) from by omega) (show (0 : Int) ≤ x7 ∧ x7 ≤ (303 : Int) from by omega) (show (-1 : Int) ≤ x6 - 1 ∧ x6 - 1 ≤ (303 : Int) from by omega) (show (0 : Int) ≤ 0 ∧ 0 ≤ (1 : Int) from by omega) (show wk_O ((s.1 98)) (x3) (x4) from by first | with_reducible assumption | assumption) (show 0 ≤ (s.1 98) (x3 + 1) ∧ (s.1 98) (x3 + 1) ≤ x7 ∧ (s.1 98) (x3 + 2) ≤ 304 ∧ 0 ≤ x5 ∧ 0 ≤ x6 ∧ x7 < (s.1 98) (x3 + 2) from by omega) (show x5 ≤ x7 + 1 ∧ x6 ≤ x7 + 1 from by omega) (show x5 = wkN ((s.1 98)) (x4) ((s.1 98) (x3 + 1)) (x7 + 1) ∧ x6 = wkT ((s.1 98)) (x4) ((s.1 98) (x3 + 1)) (x7 + 1) from by omega) (show (x6 - 1) = x6 - 1 ∧ 1 ≤ x6 from by omega)
                    · skip
                      replace c36 : ¬ (s.1 107 (x6 - 1) ≠ 0) := c36
                      exact sm_268_p357 hQ hX38 (show (304 - x7).toNat ≤ M38 from by omega) hI (show (1 : Int) ≤ x3 ∧ x3 ≤ (2208 : Int) from by omega) (show (97 : Int) ≤ x4 ∧ x4 ≤ (2212 : Int) from by omega) (show (0 : Int) ≤ x5 ∧ x5 ≤ (304 : Int) from by omega) (show (0 : Int) ≤ x6 ∧ x6 ≤ (304 : Int) from by omega) (show (0 : Int) ≤ x7 ∧ x7 ≤ (303 : Int) from by omega) (show (-1 : Int) ≤ x6 - 1 ∧ x6 - 1 ≤ (303 : Int) from by omega) (show (0 : Int) ≤ 1 ∧ 1 ≤ (1 : Int) from by omega) (show wk_O ((s.1 98)) (x3) (x4) from by first | with_reducible assumption | assumption) (show 0 ≤ (s.1 98) (x3 + 1) ∧ (s.1 98) (x3 + 1) ≤ x7 ∧ (s.1 98) (x3 + 2) ≤ 304 ∧ 0 ≤ x5 ∧ 0 ≤ x6 ∧ x7 < (s.1 98) (x3 + 2) from by omega) (show x5 ≤ x7 + 1 ∧ x6 ≤ x7 + 1 from by omega) (show x5 = wkN ((s.1 98)) (x4) ((s.1 98) (x3 + 1)) (x7 + 1) ∧ x6 = wkT ((s.1 98)) (x4) ((s.1 98) (x3 + 1)) (x7 + 1) from by omega) (show (x6 - 1) = x6 - 1 ∧ 1 ≤ x6 from by omega)
                · skip
                  replace c20 : ¬ (20 ≤ s.1 98 (x4 + (2 * x7))) := c20
                  have b39 : (2 ≤ wkN ((s.1 98)) (x4) ((s.1 98) (x3 + 1)) (x7)) ∧ wkN ((s.1 98)) (x4) ((s.1 98) (x3 + 1)) (x7 + 1) = wkN ((s.1 98)) (x4) ((s.1 98) (x3 + 1)) (x7) + -2 ∧ wkT ((s.1 98)) (x4) ((s.1 98) (x3 + 1)) (x7 + 1) = wkT ((s.1 98)) (x4) ((s.1 98) (x3 + 1)) (x7) + 1 := wk_s10 kv0 (by omega) (by omega) (by omega)
                  refine ⟨(show (0 : Int) ≤ x5 + (-2) ∧ x5 + (-2) < (330 : Int) from by omega), ?_⟩
                  refine ⟨(show (0 : Int) ≤ (x5 + (-2)) + 1 ∧ (x5 + (-2)) + 1 < (330 : Int) from by omega), ?_⟩
                  refine sm_271 hI (show (10 : Int) ≤ s.1 98 (x4 + (2 * x7)) ∧ s.1 98 (x4 + (2 * x7)) ≤ (19 : Int) from by omega) (fun z51 => ?_)
                  refine ⟨(show (0 : Int) ≤ x6 ∧ x6 < (330 : Int) from by omega), ?_⟩
                  have b41 : 0 ≤ lf_b z51 ∧ lf_b z51 ≤ 1 := lf_b01
                  refine ⟨(show lf_b z51 = 0 ∨ lf_b z51 = 1 from by omega), ?_⟩
                  have hI42 : iv_A (lf_up s.1 107 x6 (lf_b z51)) s.2.2 := iv_w107 hI (by omega)
                  have fr43 : lf_fq [107] 1000000 true s.1 s.2.2 (lf_up s.1 107 x6 (lf_b z51)) s.2.2 := lf_fq_up (lf_fq_rf) rfl (fun h => absurd h (by decide))
                  exact sm_268_p437 (fun r9 t9 i9 f9 => hQ r9 t9 i9 (lf_fq_tr fr43 f9)) (fun p0 p1 p2 t9 i9 f9 => hX38 p0 p1 p2 t9 i9 (lf_fq_tr fr43 f9)) (show (304 - x7).toNat ≤ M38 from by omega) hI42 (show (1 : Int) ≤ x3 ∧ x3 ≤ (2208 : Int) from by omega) (show (97 : Int) ≤ x4 ∧ x4 ≤ (2212 : Int) from by omega) (show (0 : Int) ≤ x5 + (-2) ∧ x5 + (-2) ≤ (304 : Int) from by omega) (show (0 : Int) ≤ x6 + 1 ∧ x6 + 1 ≤ (304 : Int) from by omega) (show (0 : Int) ≤ x7 ∧ x7 ≤ (303 : Int) from by omega) (show wk_O ((s.1 98)) (x3) (x4) from by first | with_reducible assumption | assumption) (show 0 ≤ (s.1 98) (x3 + 1) ∧ (s.1 98) (x3 + 1) ≤ x7 ∧ (s.1 98) (x3 + 2) ≤ 304 ∧ 0 ≤ (x5 + (-2)) ∧ 0 ≤ (x6 + 1) ∧ x7 < (s.1 98) (x3 + 2) from by omega) (show (x5 + (-2)) ≤ x7 + 1 ∧ (x6 + 1) ≤ x7 + 1 from by omega) (show (x5 + (-2)) = wkN ((s.1 98)) (x4) ((s.1 98) (x3 + 1)) (x7 + 1) ∧ (x6 + 1) = wkT ((s.1 98)) (x4) ((s.1 98) (x3 + 1)) (x7 + 1) from by omega)
              · skip
                replace c19 : ¬ (10 ≤ s.1 98 (x4 + (2 * x7))) := c19
                have b44 : (2 ≤ wkN ((s.1 98)) (x4) ((s.1 98) (x3 + 1)) (x7)) ∧ wkN ((s.1 98)) (x4) ((s.1 98) (x3 + 1)) (x7 + 1) = wkN ((s.1 98)) (x4) ((s.1 98) (x3 + 1)) (x7) + -1 ∧ wkT ((s.1 98)) (x4) ((s.1 98) (x3 + 1)) (x7 + 1) = wkT ((s.1 98)) (x4) ((s.1 98) (x3 + 1)) (x7) + 0 := wk_s4 kv0 (by omega) (by omega) (by omega)
                refine ⟨(show (0 : Int) ≤ (x5 + (-1)) - 1 ∧ (x5 + (-1)) - 1 < (330 : Int) from by omega), ?_⟩
                refine ⟨(show (0 : Int) ≤ x5 + (-1) ∧ x5 + (-1) < (330 : Int) from by omega), ?_⟩
                refine sm_269 hI (show (4 : Int) ≤ s.1 98 (x4 + (2 * x7)) ∧ s.1 98 (x4 + (2 * x7)) ≤ (9 : Int) from by omega) (fun r57 => ?_)
                exact sm_268_p437 hQ hX38 (show (304 - x7).toNat ≤ M38 from by omega) hI (show (1 : Int) ≤ x3 ∧ x3 ≤ (2208 : Int) from by omega) (show (97 : Int) ≤ x4 ∧ x4 ≤ (2212 : Int) from by omega) (show (0 : Int) ≤ x5 + (-1) ∧ x5 + (-1) ≤ (304 : Int) from by omega) (show (0 : Int) ≤ x6 ∧ x6 ≤ (304 : Int) from by omega) (show (0 : Int) ≤ x7 ∧ x7 ≤ (303 : Int) from by omega) (show wk_O ((s.1 98)) (x3) (x4) from by first | with_reducible assumption | assumption) (show 0 ≤ (s.1 98) (x3 + 1) ∧ (s.1 98) (x3 + 1) ≤ x7 ∧ (s.1 98) (x3 + 2) ≤ 304 ∧ 0 ≤ (x5 + (-1)) ∧ 0 ≤ x6 ∧ x7 < (s.1 98) (x3 + 2) from by omega) (show (x5 + (-1)) ≤ x7 + 1 ∧ x6 ≤ x7 + 1 from by omega) (show (x5 + (-1)) = wkN ((s.1 98)) (x4) ((s.1 98) (x3 + 1)) (x7 + 1) ∧ x6 = wkT ((s.1 98)) (x4) ((s.1 98) (x3 + 1)) (x7 + 1) from by omega)
            · skip
              replace c18 : ¬ (s.1 98 (x4 + (2 * x7)) ≠ 3) := c18
              have b46 : (1 ≤ wkN ((s.1 98)) (x4) ((s.1 98) (x3 + 1)) (x7)) ∧ wkN ((s.1 98)) (x4) ((s.1 98) (x3 + 1)) (x7 + 1) = wkN ((s.1 98)) (x4) ((s.1 98) (x3 + 1)) (x7) + 0 ∧ wkT ((s.1 98)) (x4) ((s.1 98) (x3 + 1)) (x7 + 1) = wkT ((s.1 98)) (x4) ((s.1 98) (x3 + 1)) (x7) + 0 := wk_s3 kv0 (by omega) (by omega) (by omega)
              refine ⟨(show (0 : Int) ≤ x5 - 1 ∧ x5 - 1 < (330 : Int) from by omega), ?_⟩
              exact sm_268_p437 hQ hX38 (show (304 - x7).toNat ≤ M38 from by omega) hI (show (1 : Int) ≤ x3 ∧ x3 ≤ (2208 : Int) from by omega) (show (97 : Int) ≤ x4 ∧ x4 ≤ (2212 : Int) from by omega) (show (0 : Int) ≤ x5 ∧ x5 ≤ (304 : Int) from by omega) (show (0 : Int) ≤ x6 ∧ x6 ≤ (304 : Int) from by omega) (show (0 : Int) ≤ x7 ∧ x7 ≤ (303 : Int) from by omega) (show wk_O ((s.1 98)) (x3) (x4) from by first | with_reducible assumption | assumption) (show 0 ≤ (s.1 98) (x3 + 1) ∧ (s.1 98) (x3 + 1) ≤ x7 ∧ (s.1 98) (x3 + 2) ≤ 304 ∧ 0 ≤ x5 ∧ 0 ≤ x6 ∧ x7 < (s.1 98) (x3 + 2) from by omega) (show x5 ≤ x7 + 1 ∧ x6 ≤ x7 + 1 from by omega) (show x5 = wkN ((s.1 98)) (x4) ((s.1 98) (x3 + 1)) (x7 + 1) ∧ x6 = wkT ((s.1 98)) (x4) ((s.1 98) (x3 + 1)) (x7 + 1) from by omega)
          · skip
            replace c17 : ¬ (s.1 98 (x4 + (2 * x7)) ≠ 30) := c17
            have b47 : (1 ≤ wkN ((s.1 98)) (x4) ((s.1 98) (x3 + 1)) (x7) ∧ 0 ≤ (s.1 98 ((x4 + (2 * x7)) + 1)) ∧ (s.1 98 ((x4 + (2 * x7)) + 1)) < 80) ∧ wkN ((s.1 98)) (x4) ((s.1 98) (x3 + 1)) (x7 + 1) = wkN ((s.1 98)) (x4) ((s.1 98) (x3 + 1)) (x7) + -1 ∧ wkT ((s.1 98)) (x4) ((s.1 98) (x3 + 1)) (x7 + 1) = wkT ((s.1 98)) (x4) ((s.1 98) (x3 + 1)) (x7) + 0 := wk_s30 kv0 (by omega) (by omega) (by omega)
            refine ⟨(show (0 : Int) ≤ x5 + (-1) ∧ x5 + (-1) < (330 : Int) from by omega), ?_⟩
            refine ⟨(show (0 : Int) ≤ s.1 98 ((x4 + (2 * x7)) + 1) ∧ s.1 98 ((x4 + (2 * x7)) + 1) < (80 : Int) from by omega), ?_⟩
            exact sm_268_p437 hQ hX38 (show (304 - x7).toNat ≤ M38 from by omega) hI (show (1 : Int) ≤ x3 ∧ x3 ≤ (2208 : Int) from by omega) (show (97 : Int) ≤ x4 ∧ x4 ≤ (2212 : Int) from by omega) (show (0 : Int) ≤ x5 + (-1) ∧ x5 + (-1) ≤ (304 : Int) from by omega) (show (0 : Int) ≤ x6 ∧ x6 ≤ (304 : Int) from by omega) (show (0 : Int) ≤ x7 ∧ x7 ≤ (303 : Int) from by omega) (show wk_O ((s.1 98)) (x3) (x4) from by first | with_reducible assumption | assumption) (show 0 ≤ (s.1 98) (x3 + 1) ∧ (s.1 98) (x3 + 1) ≤ x7 ∧ (s.1 98) (x3 + 2) ≤ 304 ∧ 0 ≤ (x5 + (-1)) ∧ 0 ≤ x6 ∧ x7 < (s.1 98) (x3 + 2) from by omega) (show (x5 + (-1)) ≤ x7 + 1 ∧ x6 ≤ x7 + 1 from by omega) (show (x5 + (-1)) = wkN ((s.1 98)) (x4) ((s.1 98) (x3 + 1)) (x7 + 1) ∧ x6 = wkT ((s.1 98)) (x4) ((s.1 98) (x3 + 1)) (x7 + 1) from by omega)
        · skip
          replace c16 : ¬ (s.1 98 (x4 + (2 * x7)) ≠ 2) := c16
          have b48 : (2 ≤ wkN ((s.1 98)) (x4) ((s.1 98) (x3 + 1)) (x7) ∧ 1 ≤ wkT ((s.1 98)) (x4) ((s.1 98) (x3 + 1)) (x7)) ∧ wkN ((s.1 98)) (x4) ((s.1 98) (x3 + 1)) (x7 + 1) = wkN ((s.1 98)) (x4) ((s.1 98) (x3 + 1)) (x7) + -1 ∧ wkT ((s.1 98)) (x4) ((s.1 98) (x3 + 1)) (x7 + 1) = wkT ((s.1 98)) (x4) ((s.1 98) (x3 + 1)) (x7) + -1 := wk_s2 kv0 (by omega) (by omega) (by omega)
          refine ⟨(show (0 : Int) ≤ x6 + (-1) ∧ x6 + (-1) < (330 : Int) from by omega), ?_⟩
          have b49 : 0 ≤ s.1 107 (x6 + (-1)) ∧ s.1 107 (x6 + (-1)) ≤ 1 := iv_r107 hI _
          refine ⟨(show lf_R (s.1 107 (x6 + (-1))) from lf_Rof (by omega)), ?_⟩
          refine ⟨fun c50 => ?_, fun c50 => ?_⟩
          · skip
            replace c50 : s.1 107 (x6 + (-1)) ≠ 0 := c50
            exact sm_268_p437 hQ hX38 (show (304 - x7).toNat ≤ M38 from by omega) hI (show (1 : Int) ≤ x3 ∧ x3 ≤ (2208 : Int) from by omega) (show (97 : Int) ≤ x4 ∧ x4 ≤ (2212 : Int) from by omega) (show (0 : Int) ≤ x5 + (-1) ∧ x5 + (-1) ≤ (304 : Int) from by omega) (show (0 : Int) ≤ x6 + (-1) ∧ x6 + (-1) ≤ (304 : Int) from by omega) (show (0 : Int) ≤ x7 ∧ x7 ≤ (303 : Int) from by omega) (show wk_O ((s.1 98)) (x3) (x4) from by first | with_reducible assumption | assumption) (show 0 ≤ (s.1 98) (x3 + 1) ∧ (s.1 98) (x3 + 1) ≤ x7 ∧ (s.1 98) (x3 + 2) ≤ 304 ∧ 0 ≤ (x5 + (-1)) ∧ 0 ≤ (x6 + (-1)) ∧ x7 < (s.1 98) (x3 + 2) from by omega) (show (x5 + (-1)) ≤ x7 + 1 ∧ (x6 + (-1)) ≤ x7 + 1 from by omega) (show (x5 + (-1)) = wkN ((s.1 98)) (x4) ((s.1 98) (x3 + 1)) (x7 + 1) ∧ (x6 + (-1)) = wkT ((s.1 98)) (x4) ((s.1 98) (x3 + 1)) (x7 + 1) from by omega)
          · skip
            replace c50 : ¬ (s.1 107 (x6 + (-1)) ≠ 0) := c50
            refine ⟨(show (0 : Int) ≤ x5 + (-1) ∧ x5 + (-1) < (330 : Int) from by omega), ?_⟩
            refine ⟨(show (0 : Int) ≤ (x5 + (-1)) - 1 ∧ (x5 + (-1)) - 1 < (330 : Int) from by omega), ?_⟩
            exact sm_268_p437 hQ hX38 (show (304 - x7).toNat ≤ M38 from by omega) hI (show (1 : Int) ≤ x3 ∧ x3 ≤ (2208 : Int) from by omega) (show (97 : Int) ≤ x4 ∧ x4 ≤ (2212 : Int) from by omega) (show (0 : Int) ≤ x5 + (-1) ∧ x5 + (-1) ≤ (304 : Int) from by omega) (show (0 : Int) ≤ x6 + (-1) ∧ x6 + (-1) ≤ (304 : Int) from by omega) (show (0 : Int) ≤ x7 ∧ x7 ≤ (303 : Int) from by omega) (show wk_O ((s.1 98)) (x3) (x4) from by first | with_reducible assumption | assumption) (show 0 ≤ (s.1 98) (x3 + 1) ∧ (s.1 98) (x3 + 1) ≤ x7 ∧ (s.1 98) (x3 + 2) ≤ 304 ∧ 0 ≤ (x5 + (-1)) ∧ 0 ≤ (x6 + (-1)) ∧ x7 < (s.1 98) (x3 + 2) from by omega) (show (x5 + (-1)) ≤ x7 + 1 ∧ (x6 + (-1)) ≤ x7 + 1 from by omega) (show (x5 + (-1)) = wkN ((s.1 98)) (x4) ((s.1 98) (x3 + 1)) (x7 + 1) ∧ (x6 + (-1)) = wkT ((s.1 98)) (x4) ((s.1 98) (x3 + 1)) (x7 + 1) from by omega)
      · skip
        replace c15 : ¬ (s.1 98 (x4 + (2 * x7)) ≠ 31) := c15
        have b51 : (((s.1 98 (x4 + (2 * x7))) = 0 ∨ ((s.1 98 (x4 + (2 * x7))) = 1 ∧ 0 ≤ (s.1 98 ((x4 + (2 * x7)) + 1)) ∧ (s.1 98 ((x4 + (2 * x7)) + 1)) < 11) ∨ ((s.1 98 (x4 + (2 * x7))) ≠ 1 ∧ 0 ≤ (s.1 98 ((x4 + (2 * x7)) + 1)) ∧ (s.1 98 ((x4 + (2 * x7)) + 1)) < 80))) ∧ wkN ((s.1 98)) (x4) ((s.1 98) (x3 + 1)) (x7 + 1) = wkN ((s.1 98)) (x4) ((s.1 98) (x3 + 1)) (x7) + 1 ∧ wkT ((s.1 98)) (x4) ((s.1 98) (x3 + 1)) (x7 + 1) = wkT ((s.1 98)) (x4) ((s.1 98) (x3 + 1)) (x7) + 0 := wk_sv kv0 (by omega) (by omega) (by omega)
        exact sm_268_p94 hQ hX38 (show (304 - x7).toNat ≤ M38 from by omega) hI (show (1 : Int) ≤ x3 ∧ x3 ≤ (2208 : Int) from by omega) (show (97 : Int) ≤ x4 ∧ x4 ≤ (2212 : Int) from by omega) (show (0 : Int) ≤ x5 ∧ x5 ≤ (304 : Int) from by omega) (show (0 : Int) ≤ x6 ∧ x6 ≤ (304 : Int) from by omega) (show (0 : Int) ≤ x7 ∧ x7 ≤ (303 : Int) from by omega) (show (-2147483648 : Int) ≤ s.1 98 (x4 + (2 * x7)) ∧ s.1 98 (x4 + (2 * x7)) ≤ (31 : Int) from by omega) (show (-2147483648 : Int) ≤ s.1 98 ((x4 + (2 * x7)) + 1) ∧ s.1 98 ((x4 + (2 * x7)) + 1) ≤ (2147483647 : Int) from by omega) (show wk_O ((s.1 98)) (x3) (x4) from by first | with_reducible assumption | assumption) (show 0 ≤ (s.1 98) (x3 + 1) ∧ (s.1 98) (x3 + 1) ≤ x7 ∧ (s.1 98) (x3 + 2) ≤ 304 ∧ 0 ≤ x5 ∧ 0 ≤ x6 ∧ x7 < (s.1 98) (x3 + 2) from by omega) (show x5 ≤ x7 ∧ x6 ≤ x7 from by omega) (show x5 + 1 = wkN ((s.1 98)) (x4) ((s.1 98) (x3 + 1)) (x7 + 1) ∧ x6 = wkT ((s.1 98)) (x4) ((s.1 98) (x3 + 1)) (x7 + 1) from by omega) (show (s.1 98 (x4 + (2 * x7))) = 0 ∨ ((s.1 98 (x4 + (2 * x7))) = 1 ∧ 0 ≤ (s.1 98 ((x4 + (2 * x7)) + 1)) ∧ (s.1 98 ((x4 + (2 * x7)) + 1)) < 11) ∨ ((s.1 98 (x4 + (2 * x7))) ≠ 1 ∧ 0 ≤ (s.1 98 ((x4 + (2 * x7)) + 1)) ∧ (s.1 98 ((x4 + (2 * x7)) + 1)) < 80) from by omega)
theorem sm_268_p38L {Q : Int → lf_Z → Prop} {x3 : Int} {x4 : Int} {x5 : Int} {x6 : Int} {x7 : Int} {s : lf_Z} (hQ : ∀ (r : Int) (s' : lf_Z), iv_A s'.1 s'.2.2 → lf_fq [107] 1000000 true s.1 s.2.2 s'.1 s'.2.2 → ((-2147483648) ≤ r ∧ r ≤ 2147483647) → Q r s') (hI : iv_A s.1 s.2.2) (bx3 : 1 ≤ x3 ∧ x3 ≤ 2208) (bx4 : 97 ≤ x4 ∧ x4 ≤ 2212) (bx5 : 0 ≤ x5 ∧ x5 ≤ 304) (bx6 : 0 ≤ x6 ∧ x6 ≤ 304) (bx7 : 0 ≤ x7 ∧ x7 ≤ 304) (kv0 : wk_O (s.1 98) (x3) (x4)) (kv1 : 0 ≤ s.1 98 (x3 + 1) ∧ s.1 98 (x3 + 1) ≤ x7 ∧ s.1 98 (x3 + 2) ≤ 304 ∧ 0 ≤ x5 ∧ 0 ≤ x6 ∧ x5 ≤ x7 ∧ x6 ≤ x7 ∧ x7 ≤ s.1 98 (x3 + 2)) (kv2 : x5 = wkN (s.1 98) (x4) (s.1 98 (x3 + 1)) (x7) ∧ x6 = wkT (s.1 98) (x4) (s.1 98 (x3 + 1)) (x7)) : fm_268_p38L Q x3 x4 x5 x6 x7 s := by
  intro X38 hX
  have key : ∀ (m9 : Nat) (x5 : Int) (x6 : Int) (x7 : Int) (s' : lf_Z), iv_A s'.1 s'.2.2 → lf_fq [107] 1000000 true s.1 s.2.2 s'.1 s'.2.2 → 0 ≤ x5 ∧ x5 ≤ 304 → 0 ≤ x6 ∧ x6 ≤ 304 → 0 ≤ x7 ∧ x7 ≤ 304 → (wk_O (s'.1 98) (x3) (x4)) → (0 ≤ s'.1 98 (x3 + 1) ∧ s'.1 98 (x3 + 1) ≤ x7 ∧ s'.1 98 (x3 + 2) ≤ 304 ∧ 0 ≤ x5 ∧ 0 ≤ x6 ∧ x5 ≤ x7 ∧ x6 ≤ x7 ∧ x7 ≤ s'.1 98 (x3 + 2)) → (x5 = wkN (s'.1 98) (x4) (s'.1 98 (x3 + 1)) (x7) ∧ x6 = wkT (s'.1 98) (x4) (s'.1 98 (x3 + 1)) (x7)) → (304 - x7).toNat < m9 → X38 x5 x6 x7 s' := by
    intro m9
    induction m9 with
    | zero => intro x5 x6 x7 s' _ _ bx5 bx6 bx7 kv0 kv1 kv2 h9; exact absurd h9 (Nat.not_lt_zero _)
    | succ m9 ih => intro x5 x6 x7 s' i7 f7 bx5 bx6 bx7 kv0 kv1 kv2 h9; exact hX _ _ _ _ (sm_268_p38 (fun r9 t9 i9 f9 => hQ r9 t9 i9 (lf_fq_tr f7 f9))   (fun x5' x6' x7' t8 i8 f8 bx5' bx6' bx7' kv0' kv1' kv2' h8 => ih x5' x6' x7' t8 i8 (lf_fq_tr f7 f8) bx5' bx6' bx7' kv0' kv1' kv2' (by omega)) (Nat.le_refl _)  i7  bx3 bx4 bx5 bx6 bx7  kv0 kv1 kv2)
  exact key _ _ _ _ s hI lf_fq_rf bx5 bx6 bx7 kv0 kv1 kv2 (Nat.lt_succ_self _)
theorem sm_268 {a1 : Int} {a2 : Int} {Q : Int → lf_Z → Prop} {s : lf_Z} (hI : iv_A s.1 s.2.2) (ba1 : 0 ≤ a1 ∧ a1 ≤ 3) (ba2 : 0 ≤ a2 ∧ a2 ≤ 23) (kp0 : wk_O (s.1 98) (705 * a1 + 1 + 4 * a2) (705 * a1 + 97)) (hQ : ∀ (r : Int) (s' : lf_Z), iv_A s'.1 s'.2.2 → lf_fq [107] 1000000 true s.1 s.2.2 s'.1 s'.2.2 → ((-2147483648) ≤ r ∧ r ≤ 2147483647) → Q r s') : fm_268 a1 a2 Q s := by
  unfold fm_268
  refine ⟨(show (0 : Int) ≤ (((705 * a1) + 1) + (4 * a2)) + 1 ∧ (((705 * a1) + 1) + (4 * a2)) + 1 < (2820 : Int) from by omega), ?_⟩
  have b1 : (-2147483648) ≤ s.1 98 ((((705 * a1) + 1) + (4 * a2)) + 1) ∧ s.1 98 ((((705 * a1) + 1) + (4 * a2)) + 1) ≤ 2147483647 := iv_full hI
  have b2 : 0 ≤ (s.1 98) ((((705 * a1) + 1) + (4 * a2)) + 1) ∧ (s.1 98) ((((705 * a1) + 1) + (4 * a2)) + 1) ≤ (s.1 98) ((((705 * a1) + 1) + (4 * a2)) + 2) ∧ (s.1 98) ((((705 * a1) + 1) + (4 * a2)) + 2) ≤ 304 := wk_O3 kp0
  have b3 : wkN ((s.1 98)) (((705 * a1) + 97)) ((s.1 98) ((((705 * a1) + 1) + (4 * a2)) + 1)) ((s.1 98) ((((705 * a1) + 1) + (4 * a2)) + 1)) = 0 ∧ wkT ((s.1 98)) (((705 * a1) + 97)) ((s.1 98) ((((705 * a1) + 1) + (4 * a2)) + 1)) ((s.1 98) ((((705 * a1) + 1) + (4 * a2)) + 1)) = 0 := ⟨wkN_0, wkT_0⟩
  exact sm_268_p38L hQ hI (show (1 : Int) ≤ ((705 * a1) + 1) + (4 * a2) ∧ ((705 * a1) + 1) + (4 * a2) ≤ (2208 : Int) from by omega) (show (97 : Int) ≤ (705 * a1) + 97 ∧ (705 * a1) + 97 ≤ (2212 : Int) from by omega) (show (0 : Int) ≤ 0 ∧ 0 ≤ (304 : Int) from by omega) (show (0 : Int) ≤ 0 ∧ 0 ≤ (304 : Int) from by omega) (show (0 : Int) ≤ s.1 98 ((((705 * a1) + 1) + (4 * a2)) + 1) ∧ s.1 98 ((((705 * a1) + 1) + (4 * a2)) + 1) ≤ (304 : Int) from by omega) (show wk_O ((s.1 98)) ((((705 * a1) + 1) + (4 * a2))) (((705 * a1) + 97)) from by first | with_reducible assumption | assumption) (show 0 ≤ (s.1 98) ((((705 * a1) + 1) + (4 * a2)) + 1) ∧ (s.1 98) ((((705 * a1) + 1) + (4 * a2)) + 1) ≤ (s.1 98 ((((705 * a1) + 1) + (4 * a2)) + 1)) ∧ (s.1 98) ((((705 * a1) + 1) + (4 * a2)) + 2) ≤ 304 ∧ 0 ≤ 0 ∧ 0 ≤ 0 ∧ 0 ≤ (s.1 98 ((((705 * a1) + 1) + (4 * a2)) + 1)) ∧ 0 ≤ (s.1 98 ((((705 * a1) + 1) + (4 * a2)) + 1)) ∧ (s.1 98 ((((705 * a1) + 1) + (4 * a2)) + 1)) ≤ (s.1 98) ((((705 * a1) + 1) + (4 * a2)) + 2) from by omega) (show 0 = wkN ((s.1 98)) (((705 * a1) + 97)) ((s.1 98) ((((705 * a1) + 1) + (4 * a2)) + 1)) ((s.1 98 ((((705 * a1) + 1) + (4 * a2)) + 1))) ∧ 0 = wkT ((s.1 98)) (((705 * a1) + 97)) ((s.1 98) ((((705 * a1) + 1) + (4 * a2)) + 1)) ((s.1 98 ((((705 * a1) + 1) + (4 * a2)) + 1))) from by omega)
-- fm_267 Model.says 95 i i i i
theorem sm_267_p3 {X3 : Int → lf_Z → Prop} {Q : Int → lf_Z → Prop} {x1 : Int} {x2 : Int} {x3 : Int} {x4 : Int} {x5 : Int} {s : lf_Z} (hQ : ∀ (r : Int) (s' : lf_Z), iv_A s'.1 s'.2.2 → lf_fq [107] 1000000 true s.1 s.2.2 s'.1 s'.2.2 → (0 ≤ r ∧ r ≤ 100) → Q r s') {M3 : Nat} (hX3 : ∀ (x5 : Int) (s' : lf_Z), iv_A s'.1 s'.2.2 → lf_fq [107] 1000000 true s.1 s.2.2 s'.1 s'.2.2 → 0 ≤ x5 ∧ x5 ≤ 24 → (24 - x5).toNat < M3 → X3 x5 s') (hM3 : (24 - x5).toNat ≤ M3) (hI : iv_A s.1 s.2.2) (bx1 : (-1) ≤ x1 ∧ x1 ≤ 3) (bx2 : 0 ≤ x2 ∧ x2 ≤ 2) (bx3 : 0 ≤ x3 ∧ x3 ≤ 100) (bx4 : 2 ≤ x4 ∧ x4 ≤ 100) (bx5 : 0 ≤ x5 ∧ x5 ≤ 24) : fm_267_p3 Q x1 x2 x3 x4 X3 x5 s := by
  unfold fm_267_p3
  refine ⟨(show lf_R x1 from lf_Rof (by omega)), ?_⟩
  refine ⟨fun c1 => ?_, fun c1 => ?_⟩
  · skip
    replace c1 : x1 < 0 := c1
    exact hQ x3 s hI (lf_fq_rf) (show (0 : Int) ≤ x3 ∧ x3 ≤ (100 : Int) from by omega)
  · skip
    replace c1 : ¬ (x1 < 0) := c1
    refine ⟨(show (0 : Int) ≤ 705 * x1 ∧ 705 * x1 < (2820 : Int) from by omega), ?_⟩
    have b2 : 0 ≤ s.1 98 (705 * x1) ∧ s.1 98 (705 * x1) ≤ 24 := iv_rd98 hI (iv_f876c6d9a (x1) (by omega) (by omega))
    refine ⟨(show lf_R x5 from lf_Rof (by omega)), ?_⟩
    refine ⟨(show lf_R (s.1 98 (705 * x1)) from lf_Rof (by omega)), ?_⟩
    refine ⟨fun c3 => ?_, fun c3 => ?_⟩
    · skip
      replace c3 : s.1 98 (705 * x1) ≤ x5 := c3
      exact hQ x3 s hI (lf_fq_rf) (show (0 : Int) ≤ x3 ∧ x3 ≤ (100 : Int) from by omega)
    · skip
      replace c3 : ¬ (s.1 98 (705 * x1) ≤ x5) := c3
      refine ⟨(show (0 : Int) ≤ ((705 * x1) + 1) + (4 * x5) ∧ ((705 * x1) + 1) + (4 * x5) < (2820 : Int) from by omega), ?_⟩
      have b4 : (-2147483648) ≤ s.1 98 (((705 * x1) + 1) + (4 * x5)) ∧ s.1 98 (((705 * x1) + 1) + (4 * x5)) ≤ 2147483647 := iv_full hI
      refine ⟨(show lf_R (s.1 98 (((705 * x1) + 1) + (4 * x5))) from lf_Rof (by omega)), ?_⟩
      refine ⟨(show lf_R x2 from lf_Rof (by omega)), ?_⟩
      refine ⟨fun c5 => ?_, fun c5 => ?_⟩
      · skip
        replace c5 : s.1 98 (((705 * x1) + 1) + (4 * x5)) = x2 := c5
        have b6 : wk_O ((s.1 98)) (705 * x1 + 1 + 4 * x5) (705 * x1 + 97) := wk_law hI (by omega) (by omega) (by omega) (by omega) (by omega) (by omega)
        refine sm_268 hI (show (0 : Int) ≤ x1 ∧ x1 ≤ (3 : Int) from by omega) (show (0 : Int) ≤ x5 ∧ x5 ≤ (23 : Int) from by omega) (show wk_O ((s.1 98)) (705 * x1 + 1 + 4 * x5) (705 * x1 + 97) from by first | with_reducible assumption | assumption) (fun r29 s28 hI8 fr7 q9 => ?_)
        have fr10 : lf_fq [107] 1000000 true s.1 s.2.2 s28.1 s28.2.2 := lf_fq_tr (lf_fq_rf) (lf_fq_wk fr7 rfl (by decide) (by decide))
        refine ⟨(show lf_R r29 from lf_Rof (by omega)), ?_⟩
        refine ⟨fun c11 => ?_, fun c11 => ?_⟩
        · skip
          replace c11 : 0 ≤ r29 := c11
          refine ⟨(show lf_R x4 from lf_Rof (by omega)), ?_⟩
          refine ⟨fun c12 => ?_, fun c12 => ?_⟩
          · skip
            replace c12 : r29 ≤ x4 := c12
            exact hQ r29 s28 hI8 fr10 (show (0 : Int) ≤ r29 ∧ r29 ≤ (100 : Int) from by omega)
          · skip
            replace c12 : ¬ (r29 ≤ x4) := c12
            exact hQ x4 s28 hI8 fr10 (show (0 : Int) ≤ x4 ∧ x4 ≤ (100 : Int) from by omega)
        · skip
          replace c11 : ¬ (0 ≤ r29) := c11
          exact hQ 0 s28 hI8 fr10 (show (0 : Int) ≤ 0 ∧ 0 ≤ (100 : Int) from by omega)
      · skip
        replace c5 : ¬ (s.1 98 (((705 * x1) + 1) + (4 * x5)) = x2) := c5
        exact hX3 (x5 + 1) s hI (lf_fq_rf) (show (0 : Int) ≤ x5 + 1 ∧ x5 + 1 ≤ (24 : Int) from by omega) (show (24 - (x5 + 1)).toNat < M3 from by omega)
theorem sm_267_p3L {Q : Int → lf_Z → Prop} {x1 : Int} {x2 : Int} {x3 : Int} {x4 : Int} {x5 : Int} {s : lf_Z} (hQ : ∀ (r : Int) (s' : lf_Z), iv_A s'.1 s'.2.2 → lf_fq [107] 1000000 true s.1 s.2.2 s'.1 s'.2.2 → (0 ≤ r ∧ r ≤ 100) → Q r s') (hI : iv_A s.1 s.2.2) (bx1 : (-1) ≤ x1 ∧ x1 ≤ 3) (bx2 : 0 ≤ x2 ∧ x2 ≤ 2) (bx3 : 0 ≤ x3 ∧ x3 ≤ 100) (bx4 : 2 ≤ x4 ∧ x4 ≤ 100) (bx5 : 0 ≤ x5 ∧ x5 ≤ 24) : fm_267_p3L Q x1 x2 x3 x4 x5 s := by
  intro X3 hX
  have key : ∀ (m9 : Nat) (x5 : Int) (s' : lf_Z), iv_A s'.1 s'.2.2 → lf_fq [107] 1000000 true s.1 s.2.2 s'.1 s'.2.2 → 0 ≤ x5 ∧ x5 ≤ 24 → (24 - x5).toNat < m9 → X3 x5 s' := by
    intro m9
    induction m9 with
    | zero => intro x5 s' _ _ bx5 h9; exact absurd h9 (Nat.not_lt_zero _)
    | succ m9 ih => intro x5 s' i7 f7 bx5 h9; exact hX _ _ (sm_267_p3 (fun r9 t9 i9 f9 => hQ r9 t9 i9 (lf_fq_tr f7 f9))   (fun x5' t8 i8 f8 bx5' h8 => ih x5' t8 i8 (lf_fq_tr f7 f8) bx5' (by omega)) (Nat.le_refl _)  i7  bx1 bx2 bx3 bx4 bx5  )
  exact key _ _ s hI lf_fq_rf bx5 (Nat.lt_succ_self _)
theorem sm_267 {a1 : Int} {a2 : Int} {a3 : Int} {a4 : Int} {Q : Int → lf_Z → Prop} {s : lf_Z} (hI : iv_A s.1 s.2.2) (ba1 : (-1) ≤ a1 ∧ a1 ≤ 3) (ba2 : 0 ≤ a2 ∧ a2 ≤ 2) (ba3 : 0 ≤ a3 ∧ a3 ≤ 100) (ba4 : 2 ≤ a4 ∧ a4 ≤ 100) (hQ : ∀ (r : Int) (s' : lf_Z), iv_A s'.1 s'.2.2 → lf_fq [107] 1000000 true s.1 s.2.2 s'.1 s'.2.2 → (0 ≤ r ∧ r ≤ 100) → Q r s') : fm_267 a1 a2 a3 a4 Q s := by
  unfold fm_267
  exact sm_267_p3L hQ hI (show (-1 : Int) ≤ a1 ∧ a1 ≤ (3 : Int) from by omega) (show (0 : Int) ≤ a2 ∧ a2 ≤ (2 : Int) from by omega) (show (0 : Int) ≤ a3 ∧ a3 ≤ (100 : Int) from by omega) (show (2 : Int) ≤ a4 ∧ a4 ≤ (100 : Int) from by omega) (show (0 : Int) ≤ 0 ∧ 0 ≤ (24 : Int) from by omega)
-- fm_263 Model.paceOf 95 i
theorem sm_263_p40 {Q : Int → lf_Z → Prop} {y1 : Int} {y2 : Int} {s : lf_Z} (hQ : ∀ (r : Int) (s' : lf_Z), iv_A s'.1 s'.2.2 → lf_fq [104, 107] 1000000 true s.1 s.2.2 s'.1 s'.2.2 → (0 ≤ r ∧ r ≤ 100) → Q r s') (hI : iv_A s.1 s.2.2) (by1 : 4 ≤ y1 ∧ y1 ≤ 4) (by2 : (-2147483648) ≤ y2 ∧ y2 ≤ 2147483647) : fm_263_p40 Q y1 y2 s := by
  unfold fm_263_p40
  refine ⟨(show (0 : Int) ≤ y1 ∧ y1 < (11 : Int) from by omega), ?_⟩
  have hI11 : iv_A (lf_up s.1 104 y1 y2) s.2.2 := iv_w104 hI (by omega)
  have fr12 : lf_fq [104, 107] 1000000 true s.1 s.2.2 (lf_up s.1 104 y1 y2) s.2.2 := lf_fq_up (lf_fq_rf) rfl (fun h => absurd h (by decide))
  have b13 : (-1) ≤ s.1 96 8 ∧ s.1 96 8 ≤ 3 := (show (-1) ≤ (lf_up s.1 104 y1 y2) 96 8 ∧ (lf_up s.1 104 y1 y2) 96 8 ≤ 3 from iv_rd96 hI11 (iv_fc0e1ed14 (by omega)))
  refine sm_267 hI11 (show (-1 : Int) ≤ s.1 96 8 ∧ s.1 96 8 ≤ (3 : Int) from by omega) (show (0 : Int) ≤ 0 ∧ 0 ≤ (2 : Int) from by omega) (show (0 : Int) ≤ 1 ∧ 1 ≤ (100 : Int) from by omega) (show (2 : Int) ≤ 2 ∧ 2 ≤ (100 : Int) from by omega) (fun r35 s34 hI15 fr14 q16 => ?_)
  have fr17 : lf_fq [104, 107] 1000000 true s.1 s.2.2 s34.1 s34.2.2 := lf_fq_tr fr12 (lf_fq_wk fr14 rfl (by decide) (by decide))
  exact hQ r35 s34 hI15 fr17 (show (0 : Int) ≤ r35 ∧ r35 ≤ (100 : Int) from by omega)
theorem sm_263 {a1 : Int} {Q : Int → lf_Z → Prop} {s : lf_Z} (hI : iv_A s.1 s.2.2) (ba1 : 0 ≤ a1 ∧ a1 ≤ 3) (hQ : ∀ (r : Int) (s' : lf_Z), iv_A s'.1 s'.2.2 → lf_fq [104, 107] 1000000 true s.1 s.2.2 s'.1 s'.2.2 → (0 ≤ r ∧ r ≤ 100) → Q r s') : fm_263 a1 Q s := by
  unfold fm_263
  refine sm_242 hI (show (0 : Int) ≤ a1 ∧ a1 ≤ (3 : Int) from by omega) (fun r22 q1 => ?_)
  obtain ⟨q1, q1x⟩ := q1
  replace q1x : r22 = s.1 96 (114 + 3 * a1) := q1x
  refine sm_255 hI (show (0 : Int) ≤ a1 ∧ a1 ≤ (3 : Int) from by omega) (fun r24 q2 => ?_)
  refine sm_264 hI (show (0 : Int) ≤ r22 ∧ r22 ≤ (24 : Int) from by omega) (show (0 : Int) ≤ r24 ∧ r24 ≤ (11 : Int) from by omega) (fun s25 hI4 fr3 => ?_)
  have fr6 : lf_fq [104, 107] 1000000 true s.1 s.2.2 s25.1 s25.2.2 := lf_fq_tr (lf_fq_rf) (lf_fq_wk fr3 rfl (by decide) (by decide))
  refine sm_256 hI4 (show (0 : Int) ≤ a1 ∧ a1 ≤ (3 : Int) from by omega) (fun r27 q7 => ?_)
  refine ⟨(show lf_R r27 from lf_Rof (by omega)), ?_⟩
  refine ⟨fun c8 => ?_, fun c8 => ?_⟩
  · skip
    replace c8 : 0 ≤ r27 := c8
    refine sm_256 hI4 (show (0 : Int) ≤ a1 ∧ a1 ≤ (3 : Int) from by omega) (fun r30 q9 => ?_)
    refine sm_266 hI4 (show (-1 : Int) ≤ r30 ∧ r30 ≤ (11 : Int) from by omega) (fun r32 q10 => ?_)
    exact sm_263_p40 (fun r9 t9 i9 f9 => hQ r9 t9 i9 (lf_fq_tr fr6 f9)) hI4 (show (4 : Int) ≤ 4 ∧ 4 ≤ (4 : Int) from by omega) (show (-2147483648 : Int) ≤ r32 ∧ r32 ≤ (2147483647 : Int) from by omega)
  · skip
    replace c8 : ¬ (0 ≤ r27) := c8
    exact sm_263_p40 (fun r9 t9 i9 f9 => hQ r9 t9 i9 (lf_fq_tr fr6 f9)) hI4 (show (4 : Int) ≤ 4 ∧ 4 ≤ (4 : Int) from by omega) (show (-2147483648 : Int) ≤ 0 ∧ 0 ≤ (2147483647 : Int) from by omega)
-- fm_252 Model.isPath 95 i
theorem sm_252 {a1 : Int} {Q : Bool → lf_Z → Prop} {s : lf_Z} (hI : iv_A s.1 s.2.2) (ba1 : 0 ≤ a1 ∧ a1 ≤ 15) (hQ : ∀ (z : Bool), Q z s) : fm_252 a1 Q s := by
  unfold fm_252
  refine ⟨(show (0 : Int) ≤ (50 + (4 * a1)) + 2 ∧ (50 + (4 * a1)) + 2 < (1538 : Int) from by omega), ?_⟩
  have b1 : (-2147483648) ≤ s.1 96 ((50 + (4 * a1)) + 2) ∧ s.1 96 ((50 + (4 * a1)) + 2) ≤ 2147483647 := iv_full hI
  refine ⟨(show lf_R (s.1 96 ((50 + (4 * a1)) + 2)) from lf_Rof (by omega)), ?_⟩
  refine ⟨fun c2 => ?_, fun c2 => ?_⟩
  · skip
    replace c2 : s.1 96 ((50 + (4 * a1)) + 2) ≠ 1 := c2
    exact hQ false
  · skip
    replace c2 : ¬ (s.1 96 ((50 + (4 * a1)) + 2) ≠ 1) := c2
    exact hQ true
-- fm_239c Model.get 95 i i
theorem sm_239c {a1 : Int} {a2 : Int} {Q : Int → lf_Z → Prop} {s : lf_Z} (hI : iv_A s.1 s.2.2) (ba1 : 0 ≤ a1 ∧ a1 ≤ 5) (ba2 : 0 ≤ a2 ∧ a2 ≤ 4) (hQ : ∀ (r : Int), (((-2147483648) ≤ r ∧ r ≤ 2147483647) ∧ (r = s.1 96 (126 + 6 * a1 + a2))) → Q r s) : fm_239c a1 a2 Q s := by
  unfold fm_239c
  refine ⟨(show (0 : Int) ≤ (126 + (6 * a1)) + a2 ∧ (126 + (6 * a1)) + a2 < (1538 : Int) from by omega), ?_⟩
  have b1 : (-2147483648) ≤ s.1 96 ((126 + (6 * a1)) + a2) ∧ s.1 96 ((126 + (6 * a1)) + a2) ≤ 2147483647 := iv_full hI
  exact hQ (s.1 96 ((126 + (6 * a1)) + a2)) ⟨(show (-2147483648 : Int) ≤ s.1 96 ((126 + (6 * a1)) + a2) ∧ s.1 96 ((126 + (6 * a1)) + a2) ≤ (2147483647 : Int) from by omega), (show s.1 96 ((126 + (6 * a1)) + a2) = s.1 96 (126 + 6 * a1 + a2) from by omega)⟩
-- fm_274 Model.sumAt 95 i i
theorem sm_274_p61 {X27 : Int → Int → lf_Z → Prop} {Q : Int → lf_Z → Prop} {x1 : Int} {x2 : Int} {x4 : Int} {y0 : Int} {y1 : Int} {s : lf_Z} (hQ : ∀ (r : Int), ((-2147483648) ≤ r ∧ r ≤ 2147483647) → Q r s) {M27 : Nat} (hX27 : ∀ (x3 : Int) (x4 : Int), (-2147483648) ≤ x3 ∧ x3 ≤ 2147483647 → 0 ≤ x4 ∧ x4 ≤ 6 → (6 - x4).toNat < M27 → X27 x3 x4 s) (hM27 : (6 - x4).toNat ≤ M27) (hI : iv_A s.1 s.2.2) (bx1 : 0 ≤ x1 ∧ x1 ≤ 11) (bx2 : 0 ≤ x2 ∧ x2 ≤ 2) (bx4 : 0 ≤ x4 ∧ x4 ≤ 5) (by0 : (-2147483648) ≤ y0 ∧ y0 ≤ 2147483647) (by1 : (-2147483648) ≤ y1 ∧ y1 ≤ 2147483647) : fm_274_p61 X27 Q x1 x2 x4 y0 y1 s := by
  unfold fm_274_p61
  have b9 : (-2147483648) ≤ lf_w (y0 + y1) ∧ lf_w (y0 + y1) ≤ 2147483647 := lf_wB
  exact hX27 (lf_w (y0 + y1)) (x4 + 1) (show (-2147483648 : Int) ≤ lf_w (y0 + y1) ∧ lf_w (y0 + y1) ≤ (2147483647 : Int) from by omega) (show (0 : Int) ≤ x4 + 1 ∧ x4 + 1 ≤ (6 : Int) from by omega) (show (6 - (x4 + 1)).toNat < M27 from by omega)
theorem sm_274_p27 {X27 : Int → Int → lf_Z → Prop} {Q : Int → lf_Z → Prop} {x1 : Int} {x2 : Int} {x3 : Int} {x4 : Int} {s : lf_Z} (hQ : ∀ (r : Int), ((-2147483648) ≤ r ∧ r ≤ 2147483647) → Q r s) {M27 : Nat} (hX27 : ∀ (x3 : Int) (x4 : Int), (-2147483648) ≤ x3 ∧ x3 ≤ 2147483647 → 0 ≤ x4 ∧ x4 ≤ 6 → (6 - x4).toNat < M27 → X27 x3 x4 s) (hM27 : (6 - x4).toNat ≤ M27) (hI : iv_A s.1 s.2.2) (bx1 : 0 ≤ x1 ∧ x1 ≤ 11) (bx2 : 0 ≤ x2 ∧ x2 ≤ 2) (bx3 : (-2147483648) ≤ x3 ∧ x3 ≤ 2147483647) (bx4 : 0 ≤ x4 ∧ x4 ≤ 6) : fm_274_p27 Q x1 x2 X27 x3 x4 s := by
  unfold fm_274_p27
  have b4 : 0 ≤ s.1 96 2 ∧ s.1 96 2 ≤ 6 := iv_rd96 hI (iv_f2103129b (by omega))
  have b5 : s.1 96 2 ≤ 0 ∨ 0 < s.1 96 0 := (show s.1 96 2 ≤ 0 ∨ 0 < s.1 96 0 from iv_l96_2 hI)
  refine ⟨(show lf_R x4 from lf_Rof (by omega)), ?_⟩
  refine ⟨(show lf_R (s.1 96 2) from lf_Rof (by omega)), ?_⟩
  refine ⟨fun c6 => ?_, fun c6 => ?_⟩
  · skip
    replace c6 : s.1 96 2 ≤ x4 := c6
    exact hQ x3 (show (-2147483648 : Int) ≤ x3 ∧ x3 ≤ (2147483647 : Int) from by omega)
  · skip
    replace c6 : ¬ (s.1 96 2 ≤ x4) := c6
    refine sm_239 hI (show (0 : Int) ≤ x4 ∧ x4 ≤ (5 : Int) from by omega) (fun r26 q7 => ?_)
    obtain ⟨q7, q7x⟩ := q7
    replace q7x : r26 = s.1 96 (126 + 6 * x4 + 3) := q7x
    refine ⟨(show lf_R r26 from lf_Rof (by omega)), ?_⟩
    refine ⟨(show lf_R x1 from lf_Rof (by omega)), ?_⟩
    refine ⟨fun c8 => ?_, fun c8 => ?_⟩
    · skip
      replace c8 : r26 ≠ x1 := c8
      exact sm_274_p61 hQ hX27 (show (6 - x4).toNat ≤ M27 from by omega) hI (show (0 : Int) ≤ x1 ∧ x1 ≤ (11 : Int) from by omega) (show (0 : Int) ≤ x2 ∧ x2 ≤ (2 : Int) from by omega) (show (0 : Int) ≤ x4 ∧ x4 ≤ (5 : Int) from by omega) (show (-2147483648 : Int) ≤ x3 ∧ x3 ≤ (2147483647 : Int) from by omega) (show (-2147483648 : Int) ≤ 0 ∧ 0 ≤ (2147483647 : Int) from by omega)
    · skip
      replace c8 : ¬ (r26 ≠ x1) := c8
      refine sm_239c hI (show (0 : Int) ≤ x4 ∧ x4 ≤ (5 : Int) from by omega) (show (0 : Int) ≤ x2 ∧ x2 ≤ (4 : Int) from by omega) (fun r30 q10 => ?_)
      obtain ⟨q10, q10x⟩ := q10
      replace q10x : r30 = s.1 96 (126 + 6 * x4 + x2) := q10x
      exact sm_274_p61 hQ hX27 (show (6 - x4).toNat ≤ M27 from by omega) hI (show (0 : Int) ≤ x1 ∧ x1 ≤ (11 : Int) from by omega) (show (0 : Int) ≤ x2 ∧ x2 ≤ (2 : Int) from by omega) (show (0 : Int) ≤ x4 ∧ x4 ≤ (5 : Int) from by omega) (show (-2147483648 : Int) ≤ x3 ∧ x3 ≤ (2147483647 : Int) from by omega) (show (-2147483648 : Int) ≤ r30 ∧ r30 ≤ (2147483647 : Int) from by omega)
theorem sm_274_p27L {Q : Int → lf_Z → Prop} {x1 : Int} {x2 : Int} {x3 : Int} {x4 : Int} {s : lf_Z} (hQ : ∀ (r : Int), ((-2147483648) ≤ r ∧ r ≤ 2147483647) → Q r s) (hI : iv_A s.1 s.2.2) (bx1 : 0 ≤ x1 ∧ x1 ≤ 11) (bx2 : 0 ≤ x2 ∧ x2 ≤ 2) (bx3 : (-2147483648) ≤ x3 ∧ x3 ≤ 2147483647) (bx4 : 0 ≤ x4 ∧ x4 ≤ 6) : fm_274_p27L Q x1 x2 x3 x4 s := by
  intro X27 hX
  have key : ∀ (m9 : Nat) (x3 : Int) (x4 : Int), (-2147483648) ≤ x3 ∧ x3 ≤ 2147483647 → 0 ≤ x4 ∧ x4 ≤ 6 → (6 - x4).toNat < m9 → X27 x3 x4 s := by
    intro m9
    induction m9 with
    | zero => intro x3 x4 bx3 bx4 h9; exact absurd h9 (Nat.not_lt_zero _)
    | succ m9 ih => intro x3 x4 bx3 bx4 h9; exact hX _ _ _ (sm_274_p27 hQ   (fun x3' x4' bx3' bx4' h8 => ih x3' x4' bx3' bx4' (by omega)) (Nat.le_refl _)  hI  bx1 bx2 bx3 bx4  )
  exact key _ _ _ bx3 bx4   (Nat.lt_succ_self _)
theorem sm_274_p23 {Q : Int → lf_Z → Prop} {x1 : Int} {x2 : Int} {y0 : Int} {s : lf_Z} (hQ : ∀ (r : Int), ((-2147483648) ≤ r ∧ r ≤ 2147483647) → Q r s) (hI : iv_A s.1 s.2.2) (bx1 : 0 ≤ x1 ∧ x1 ≤ 11) (bx2 : 0 ≤ x2 ∧ x2 ≤ 2) (by0 : (-2147483648) ≤ y0 ∧ y0 ≤ 2147483647) : fm_274_p23 Q x1 x2 y0 s := by
  unfold fm_274_p23
  exact sm_274_p27L hQ hI (show (0 : Int) ≤ x1 ∧ x1 ≤ (11 : Int) from by omega) (show (0 : Int) ≤ x2 ∧ x2 ≤ (2 : Int) from by omega) (show (-2147483648 : Int) ≤ y0 ∧ y0 ≤ (2147483647 : Int) from by omega) (show (0 : Int) ≤ 0 ∧ 0 ≤ (6 : Int) from by omega)
theorem sm_274_p22 {Q : Int → lf_Z → Prop} {x1 : Int} {x2 : Int} {s : lf_Z} (hQ : ∀ (r : Int), ((-2147483648) ≤ r ∧ r ≤ 2147483647) → Q r s) (hI : iv_A s.1 s.2.2) (bx1 : 0 ≤ x1 ∧ x1 ≤ 11) (bx2 : 0 ≤ x2 ∧ x2 ≤ 2) : fm_274_p22 Q x1 x2 s := by
  unfold fm_274_p22
  exact sm_274_p23 hQ hI (show (0 : Int) ≤ x1 ∧ x1 ≤ (11 : Int) from by omega) (show (0 : Int) ≤ x2 ∧ x2 ≤ (2 : Int) from by omega) (show (-2147483648 : Int) ≤ 0 ∧ 0 ≤ (2147483647 : Int) from by omega)
theorem sm_274 {a1 : Int} {a2 : Int} {Q : Int → lf_Z → Prop} {s : lf_Z} (hI : iv_A s.1 s.2.2) (ba1 : 0 ≤ a1 ∧ a1 ≤ 11) (ba2 : 0 ≤ a2 ∧ a2 ≤ 2) (hQ : ∀ (r : Int), ((-2147483648) ≤ r ∧ r ≤ 2147483647) → Q r s) : fm_274 a1 a2 Q s := by
  unfold fm_274
  have b1 : (-2147483648) ≤ s.1 95 29 ∧ s.1 95 29 ≤ 2147483647 := iv_full hI
  refine sm_210 hI (show (-2147483648 : Int) ≤ s.1 95 29 ∧ s.1 95 29 ≤ (2147483647 : Int) from by omega) (show (-1 : Int) ≤ a1 ∧ a1 ≤ (15 : Int) from by omega) (fun z22 q2 => ?_)
  refine ⟨fun c3 => ?_, fun c3 => ?_⟩
  · skip
    have dc3 := q2.2 c3
    exact sm_274_p22 hQ hI (show (0 : Int) ≤ a1 ∧ a1 ≤ (11 : Int) from by omega) (show (0 : Int) ≤ a2 ∧ a2 ≤ (2 : Int) from by omega)
  · skip
    have dc3 := q2.1 c3
    refine ⟨(show lf_R a2 from lf_Rof (by omega)), ?_⟩
    refine ⟨fun c11 => ?_, fun c11 => ?_⟩
    · skip
      replace c11 : a2 ≠ 0 := c11
      exact sm_274_p22 hQ hI (show (0 : Int) ≤ a1 ∧ a1 ≤ (11 : Int) from by omega) (show (0 : Int) ≤ a2 ∧ a2 ≤ (2 : Int) from by omega)
    · skip
      replace c11 : ¬ (a2 ≠ 0) := c11
      have b12 : (-2147483648) ≤ s.1 95 30 ∧ s.1 95 30 ≤ 2147483647 := iv_full hI
      exact sm_274_p23 hQ hI (show (0 : Int) ≤ a1 ∧ a1 ≤ (11 : Int) from by omega) (show (0 : Int) ≤ a2 ∧ a2 ≤ (2 : Int) from by omega) (show (-2147483648 : Int) ≤ s.1 95 30 ∧ s.1 95 30 ≤ (2147483647 : Int) from by omega)
-- fm_273 Model.takesOf 95 i i i i
theorem sm_273_p143 {Q : Int → lf_Z → Prop} {y1 : Int} {y2 : Int} {y3 : Int} {s : lf_Z} (hQ : ∀ (r : Int) (s' : lf_Z), iv_A s'.1 s'.2.2 → lf_fq [104, 107] 1000000 true s.1 s.2.2 s'.1 s'.2.2 → (0 ≤ r ∧ r ≤ 100) → Q r s') (hI : iv_A s.1 s.2.2) (by1 : (-1) ≤ y1 ∧ y1 ≤ 3) (by2 : 1 ≤ y2 ∧ y2 ≤ 1) (by3 : 0 ≤ y3 ∧ y3 ≤ 5) : fm_273_p143 Q y1 y2 y3 s := by
  unfold fm_273_p143
  refine sm_267 hI (show (-1 : Int) ≤ y1 ∧ y1 ≤ (3 : Int) from by omega) (show (0 : Int) ≤ y2 ∧ y2 ≤ (2 : Int) from by omega) (show (0 : Int) ≤ y3 ∧ y3 ≤ (100 : Int) from by omega) (show (2 : Int) ≤ 10 ∧ 10 ≤ (100 : Int) from by omega) (fun r41 s40 hI34 fr33 q35 => ?_)
  have fr36 : lf_fq [104, 107] 1000000 true s.1 s.2.2 s40.1 s40.2.2 := lf_fq_tr (lf_fq_rf) (lf_fq_wk fr33 rfl (by decide) (by decide))
  exact hQ r41 s40 hI34 fr36 (show (0 : Int) ≤ r41 ∧ r41 ≤ (100 : Int) from by omega)
theorem sm_273_p109 {Q : Int → lf_Z → Prop} {x4 : Int} {y1 : Int} {y2 : Int} {s : lf_Z} (hQ : ∀ (r : Int) (s' : lf_Z), iv_A s'.1 s'.2.2 → lf_fq [104, 107] 1000000 true s.1 s.2.2 s'.1 s'.2.2 → (0 ≤ r ∧ r ≤ 100) → Q r s') (hI : iv_A s.1 s.2.2) (bx4 : 0 ≤ x4 ∧ x4 ≤ 15) (by1 : 8 ≤ y1 ∧ y1 ≤ 8) (by2 : 0 ≤ y2 ∧ y2 ≤ 1) : fm_273_p109 Q x4 y1 y2 s := by
  unfold fm_273_p109
  refine ⟨(show (0 : Int) ≤ y1 ∧ y1 < (11 : Int) from by omega), ?_⟩
  have hI24 : iv_A (lf_up s.1 104 y1 y2) s.2.2 := iv_w104 hI (by omega)
  have fr25 : lf_fq [104, 107] 1000000 true s.1 s.2.2 (lf_up s.1 104 y1 y2) s.2.2 := lf_fq_up (lf_fq_rf) rfl (fun h => absurd h (by decide))
  have hI26 : iv_A (lf_up (lf_up s.1 104 y1 y2) 104 9 x4) s.2.2 := iv_w104 hI24 (by omega)
  have fr27 : lf_fq [104, 107] 1000000 true s.1 s.2.2 (lf_up (lf_up s.1 104 y1 y2) 104 9 x4) s.2.2 := lf_fq_up fr25 rfl (fun h => absurd h (by decide))
  have b28 : (-1) ≤ s.1 96 8 ∧ s.1 96 8 ≤ 3 := (show (-1) ≤ (lf_up (lf_up s.1 104 y1 y2) 104 9 x4) 96 8 ∧ (lf_up (lf_up s.1 104 y1 y2) 104 9 x4) 96 8 ≤ 3 from iv_rd96 hI26 (iv_fc0e1ed14 (by omega)))
  have b29 : (-2147483648) ≤ (lf_up s.1 104 y1 y2) 104 6 ∧ (lf_up s.1 104 y1 y2) 104 6 ≤ 2147483647 := (show (-2147483648) ≤ (lf_up (lf_up s.1 104 y1 y2) 104 9 x4) 104 6 ∧ (lf_up (lf_up s.1 104 y1 y2) 104 9 x4) 104 6 ≤ 2147483647 from iv_full hI26)
  have b30 : (lf_up (lf_up s.1 104 y1 y2) 104 9 x4) 104 6 = (lf_up s.1 104 y1 y2) 104 6 := lf_up_i (by omega)
  have b31 : (lf_up s.1 104 y1 y2) 104 6 = s.1 104 6 := lf_up_i (by omega)
  refine ⟨(show lf_R ((lf_up s.1 104 y1 y2) 104 6) from lf_Rof (by omega)), ?_⟩
  refine ⟨fun c32 => ?_, fun c32 => ?_⟩
  · skip
    replace c32 : (lf_up s.1 104 y1 y2) 104 6 ≤ 0 := c32
    exact sm_273_p143 (fun r9 t9 i9 f9 => hQ r9 t9 i9 (lf_fq_tr fr27 f9)) hI26 (show (-1 : Int) ≤ s.1 96 8 ∧ s.1 96 8 ≤ (3 : Int) from by omega) (show (1 : Int) ≤ 1 ∧ 1 ≤ (1 : Int) from by omega) (show (0 : Int) ≤ 5 ∧ 5 ≤ (5 : Int) from by omega)
  · skip
    replace c32 : ¬ ((lf_up s.1 104 y1 y2) 104 6 ≤ 0) := c32
    exact sm_273_p143 (fun r9 t9 i9 f9 => hQ r9 t9 i9 (lf_fq_tr fr27 f9)) hI26 (show (-1 : Int) ≤ s.1 96 8 ∧ s.1 96 8 ≤ (3 : Int) from by omega) (show (1 : Int) ≤ 1 ∧ 1 ≤ (1 : Int) from by omega) (show (0 : Int) ≤ 0 ∧ 0 ≤ (5 : Int) from by omega)
theorem sm_273 {a1 : Int} {a2 : Int} {a3 : Int} {a4 : Int} {Q : Int → lf_Z → Prop} {s : lf_Z} (hI : iv_A s.1 s.2.2) (ba1 : 0 ≤ a1 ∧ a1 ≤ 24) (ba2 : 0 ≤ a2 ∧ a2 ≤ 11) (ba3 : (-1) ≤ a3 ∧ a3 ≤ 11) (ba4 : 0 ≤ a4 ∧ a4 ≤ 15) (hQ : ∀ (r : Int) (s' : lf_Z), iv_A s'.1 s'.2.2 → lf_fq [104, 107] 1000000 true s.1 s.2.2 s'.1 s'.2.2 → ((0 ≤ r ∧ r ≤ 100) ∧ (r ≤ 0 ∨ 0 ≤ iv_os (s.1 96) a4 a2)) → Q r s') : fm_273 a1 a2 a3 a4 Q s := by
  unfold fm_273
  refine sm_187 hI (show (0 : Int) ≤ a4 ∧ a4 ≤ (15 : Int) from by omega) (show (0 : Int) ≤ a2 ∧ a2 ≤ (11 : Int) from by omega) (fun r22 q1 => ?_)
  obtain ⟨q1, q1x⟩ := q1
  replace q1x : r22 = iv_os (s.1 96) a4 a2 := q1x
  refine ⟨(show lf_R r22 from lf_Rof (by omega)), ?_⟩
  refine ⟨fun c2 => ?_, fun c2 => ?_⟩
  · skip
    replace c2 : r22 < 0 := c2
    exact hQ 0 s hI (lf_fq_rf) ⟨(show (0 : Int) ≤ 0 ∧ 0 ≤ (100 : Int) from by omega), (show 0 ≤ 0 ∨ 0 ≤ iv_os (s.1 96) a4 a2 from by omega)⟩
  · skip
    replace c2 : ¬ (r22 < 0) := c2
    refine sm_252 hI (show (0 : Int) ≤ a4 ∧ a4 ≤ (15 : Int) from by omega) (fun z25 => ?_)
    refine ⟨fun c4 => ?_, fun c4 => ?_⟩
    · skip
      exact hQ 0 s hI (lf_fq_rf) ⟨(show (0 : Int) ≤ 0 ∧ 0 ≤ (100 : Int) from by omega), (show 0 ≤ 0 ∨ 0 ≤ iv_os (s.1 96) a4 a2 from by omega)⟩
    · skip
      refine sm_245 hI (show (0 : Int) ≤ a4 ∧ a4 ≤ (15 : Int) from by omega) (fun z27 => ?_)
      refine ⟨fun c6 => ?_, fun c6 => ?_⟩
      · skip
        exact hQ 0 s hI (lf_fq_rf) ⟨(show (0 : Int) ≤ 0 ∧ 0 ≤ (100 : Int) from by omega), (show 0 ≤ 0 ∨ 0 ≤ iv_os (s.1 96) a4 a2 from by omega)⟩
      · skip
        have b7 : (-2147483648) ≤ s.1 95 31 ∧ s.1 95 31 ≤ 2147483647 := iv_full hI
        refine sm_210 hI (show (-2147483648 : Int) ≤ s.1 95 31 ∧ s.1 95 31 ≤ (2147483647 : Int) from by omega) (show (-1 : Int) ≤ a4 ∧ a4 ≤ (15 : Int) from by omega) (fun z29 q8 => ?_)
        refine ⟨fun c9 => ?_, fun c9 => ?_⟩
        · skip
          have dc9 := q8.2 c9
          refine sm_264 hI (show (0 : Int) ≤ a1 ∧ a1 ≤ (24 : Int) from by omega) (show (0 : Int) ≤ a2 ∧ a2 ≤ (11 : Int) from by omega) (fun s30 hI11 fr10 => ?_)
          have fr13 : lf_fq [104, 107] 1000000 true s.1 s.2.2 s30.1 s30.2.2 := lf_fq_tr (lf_fq_rf) (lf_fq_wk fr10 rfl (by decide) (by decide))
          refine sm_265 hI11 (show (0 : Int) ≤ r22 ∧ r22 ≤ (11 : Int) from by omega) (fun r32 q14 => ?_)
          have hI15 : iv_A (lf_up s30.1 104 5 r32) s30.2.2 := iv_w104 hI11 (by omega)
          have fr16 : lf_fq [104, 107] 1000000 true s.1 s.2.2 (lf_up s30.1 104 5 r32) s30.2.2 := lf_fq_up fr13 rfl (fun h => absurd h (by decide))
          refine sm_274 hI15 (show (0 : Int) ≤ r22 ∧ r22 ≤ (11 : Int) from by omega) (show (0 : Int) ≤ 0 ∧ 0 ≤ (2 : Int) from by omega) (fun r34 q17 => ?_)
          have hI18 : iv_A (lf_up (lf_up s30.1 104 5 r32) 104 6 r34) s30.2.2 := iv_w104 hI15 (by omega)
          have fr19 : lf_fq [104, 107] 1000000 true s.1 s.2.2 (lf_up (lf_up s30.1 104 5 r32) 104 6 r34) s30.2.2 := lf_fq_up fr16 rfl (fun h => absurd h (by decide))
          refine sm_274 hI18 (show (0 : Int) ≤ r22 ∧ r22 ≤ (11 : Int) from by omega) (show (0 : Int) ≤ 2 ∧ 2 ≤ (2 : Int) from by omega) (fun r36 q20 => ?_)
          have hI21 : iv_A (lf_up (lf_up (lf_up s30.1 104 5 r32) 104 6 r34) 104 7 r36) s30.2.2 := iv_w104 hI18 (by omega)
          have fr22 : lf_fq [104, 107] 1000000 true s.1 s.2.2 (lf_up (lf_up (lf_up s30.1 104 5 r32) 104 6 r34) 104 7 r36) s30.2.2 := lf_fq_up fr19 rfl (fun h => absurd h (by decide))
          refine ⟨(show lf_R a3 from lf_Rof (by omega)), ?_⟩
          refine ⟨fun c23 => ?_, fun c23 => ?_⟩
          · skip
            replace c23 : r22 ≠ a3 := c23
            exact sm_273_p109 (fun r9 t9 i9 f9 b9 => hQ r9 t9 i9 (lf_fq_tr fr22 f9) ⟨b9, (show r9 ≤ 0 ∨ 0 ≤ iv_os (s.1 96) a4 a2 from by omega)⟩) hI21 (show (0 : Int) ≤ a4 ∧ a4 ≤ (15 : Int) from by omega) (show (8 : Int) ≤ 8 ∧ 8 ≤ (8 : Int) from by omega) (show (0 : Int) ≤ 0 ∧ 0 ≤ (1 : Int) from by omega)
          · skip
            replace c23 : ¬ (r22 ≠ a3) := c23
            exact sm_273_p109 (fun r9 t9 i9 f9 b9 => hQ r9 t9 i9 (lf_fq_tr fr22 f9) ⟨b9, (show r9 ≤ 0 ∨ 0 ≤ iv_os (s.1 96) a4 a2 from by omega)⟩) hI21 (show (0 : Int) ≤ a4 ∧ a4 ≤ (15 : Int) from by omega) (show (8 : Int) ≤ 8 ∧ 8 ≤ (8 : Int) from by omega) (show (0 : Int) ≤ 1 ∧ 1 ≤ (1 : Int) from by omega)
        · skip
          have dc9 := q8.1 c9
          exact hQ 0 s hI (lf_fq_rf) ⟨(show (0 : Int) ≤ 0 ∧ 0 ≤ (100 : Int) from by omega), (show 0 ≤ 0 ∨ 0 ≤ iv_os (s.1 96) a4 a2 from by omega)⟩
-- fm_276 Model.anew 95
theorem sm_276 {Q : lf_Z → Prop} {s : lf_Z} (hI : iv_A s.1 s.2.2) (hQ : ∀  (s' : lf_Z), iv_A s'.1 s'.2.2 → lf_fq [96, 1006] 6 true s.1 s.2.2 s'.1 s'.2.2 → (∀ i, i ≠ 6 → s'.1 96 i = s.1 96 i) → Q  s') : fm_276 Q s := by
  unfold fm_276
  have b1 : 0 ≤ s.1 96 6 ∧ s.1 96 6 ≤ 30202 := iv_rd96 hI (iv_f060f4a97 (by omega))
  refine ⟨(show lf_R (((s.1 96 6) * 239) + 137) from lf_Rof (by omega)), ?_⟩
  have b2 : 0 ≤ (((s.1 96 6) * 239) + 137).tmod 30203 ∧ (((s.1 96 6) * 239) + 137).tmod 30203 ≤ 30202 := lf_tmodP (by omega) (by omega) (by omega)
  have hI3 : iv_A (lf_up s.1 96 6 ((((s.1 96 6) * 239) + 137).tmod 30203)) s.2.2 := iv_wd96 hI (lf_le2 (iv_fee3e924e (by omega)) (by omega)) (fun h => absurd h (by omega))
  have fr4 : lf_fq [96, 1006] 6 true s.1 s.2.2 (lf_up s.1 96 6 ((((s.1 96 6) * 239) + 137).tmod 30203)) s.2.2 := lf_fq_up (lf_fq_rf) rfl (fun _ => ⟨by omega, fr_o (Or.inr (fr_n0 (by omega))) (Or.inr (fr_n1 (by omega))) (Or.inr (fr_n2 (by omega))) (Or.inr (fr_n3 (by omega))) (Or.inr (fr_n4 (by omega))) (Or.inr (fr_n5 (by omega))) (Or.inl rfl)⟩)
  have b5 : ∀ i, i ≠ 6 → ((lf_up s.1 96 6 ((((s.1 96 6) * 239) + 137).tmod 30203)) 96) i = s.1 96 i := fun i hi => lf_up_i hi
  exact hQ (lf_up s.1 96 6 ((((s.1 96 6) * 239) + 137).tmod 30203), s.2.1, s.2.2) hI3 fr4 (show ∀ i, i ≠ 6 → ((lf_up s.1 96 6 ((((s.1 96 6) * 239) + 137).tmod 30203)) 96) i = s.1 96 i from by first | with_reducible assumption | assumption)
-- fm_275 Model.drawn 95 i
theorem sm_275 {a1 : Int} {Q : Int → lf_Z → Prop} {s : lf_Z} (hI : iv_A s.1 s.2.2) (ba1 : 10 ≤ a1 ∧ a1 ≤ 10) (hQ : ∀ (r : Int) (s' : lf_Z), iv_A s'.1 s'.2.2 → lf_fq [96, 1006] 6 true s.1 s.2.2 s'.1 s'.2.2 → (∀ i, i ≠ 6 → s'.1 96 i = s.1 96 i) → (0 ≤ r ∧ r ≤ 9) → Q r s') : fm_275 a1 Q s := by
  unfold fm_275
  have b1 : 0 ≤ s.1 96 6 ∧ s.1 96 6 ≤ 30202 := iv_rd96 hI (iv_f060f4a97 (by omega))
  refine ⟨(show lf_R (s.1 96 6) from lf_Rof (by omega)), ?_⟩
  refine ⟨(show lf_R a1 from lf_Rof (by omega)), ?_⟩
  refine ⟨(show a1 ≠ 0 from by omega), ?_⟩
  have b2 : 0 ≤ (s.1 96 6).tmod a1 ∧ (s.1 96 6).tmod a1 ≤ 9 := lf_tmodP (by omega) (by omega) (by omega)
  refine sm_276 hI (fun s24 hI4 fr3 ps6 => ?_)
  replace ps6 : ∀ i, i ≠ 6 → s24.1 96 i = (s.1 96) i := ps6
  have fr7 : lf_fq [96, 1006] 6 true s.1 s.2.2 s24.1 s24.2.2 := lf_fq_tr (lf_fq_rf) (lf_fq_wk fr3 rfl (by decide) (by decide))
  have b8 : ∀ i, i ≠ 6 → (s24.1 96) i = s.1 96 i := ps6
  exact hQ ((s.1 96 6).tmod a1) s24 hI4 fr7 (show ∀ i, i ≠ 6 → (s24.1 96) i = s.1 96 i from by first | with_reducible assumption | assumption) (show (0 : Int) ≤ (s.1 96 6).tmod a1 ∧ (s.1 96 6).tmod a1 ≤ (9 : Int) from by omega)
-- fm_272 Model.move 95 i
theorem sm_272_p80 {X8 : Int → lf_Z → Prop} {Q : lf_Z → Prop} {x1 : Int} {x2 : Int} {x3 : Int} {s : lf_Z} (hQ : ∀  (s' : lf_Z), iv_A s'.1 s'.2.2 → lf_fq [96, 104, 107, 1006] 6 true s.1 s.2.2 s'.1 s'.2.2 → Q  s') {M8 : Nat} (hX8 : ∀ (x3 : Int) (s' : lf_Z), iv_A s'.1 s'.2.2 → lf_fq [96, 104, 107, 1006] 6 true s.1 s.2.2 s'.1 s'.2.2 → 0 ≤ x3 ∧ x3 ≤ 16 → (16 - x3).toNat < M8 → X8 x3 s') (hM8 : (16 - x3).toNat ≤ M8) (hI : iv_A s.1 s.2.2) (bx1 : 0 ≤ x1 ∧ x1 ≤ 3) (bx2 : 0 ≤ x2 ∧ x2 ≤ 11) (bx3 : 0 ≤ x3 ∧ x3 ≤ 15) : fm_272_p80 X8 Q x1 x2 x3 s := by
  unfold fm_272_p80
  exact hX8 (x3 + 1) s hI (lf_fq_rf) (show (0 : Int) ≤ x3 + 1 ∧ x3 + 1 ≤ (16 : Int) from by omega) (show (16 - (x3 + 1)).toNat < M8 from by omega)
theorem sm_272_p62 {Q : lf_Z → Prop} {x1 : Int} {x2 : Int} {x3 : Int} {s : lf_Z} (hQ : ∀  (s' : lf_Z), iv_A s'.1 s'.2.2 → lf_fq [96, 104, 107, 1006] 6 true s.1 s.2.2 s'.1 s'.2.2 → Q  s') (hI : iv_A s.1 s.2.2) (bx1 : 0 ≤ x1 ∧ x1 ≤ 3) (bx2 : 0 ≤ x2 ∧ x2 ≤ 11) (bx3 : 0 ≤ x3 ∧ x3 ≤ 15) (kv0 : 0 ≤ iv_os (s.1 96) (x3) (x2)) : fm_272_p62 Q x1 x2 x3 s := by
  unfold fm_272_p62
  refine sm_242 hI (show (0 : Int) ≤ x1 ∧ x1 ≤ (3 : Int) from by omega) (fun r33 q14 => ?_)
  obtain ⟨q14, q14x⟩ := q14
  replace q14x : r33 = s.1 96 (114 + 3 * x1) := q14x
  refine sm_187 hI (show (0 : Int) ≤ x3 ∧ x3 ≤ (15 : Int) from by omega) (show (0 : Int) ≤ x2 ∧ x2 ≤ (11 : Int) from by omega) (fun r35 q15 => ?_)
  obtain ⟨q15, q15x⟩ := q15
  replace q15x : r35 = iv_os (s.1 96) x3 x2 := q15x
  have b16 : 0 ≤ s.1 96 114 ∧ s.1 96 114 ≤ 24 := iv_rd96 hI (iv_fda037f3c (by omega))
  have b17 : 0 ≤ s.1 96 117 ∧ s.1 96 117 ≤ 24 := iv_rd96 hI (iv_f168d6e22 (by omega))
  have b18 : 0 ≤ s.1 96 120 ∧ s.1 96 120 ≤ 24 := iv_rd96 hI (iv_f5f96ec92 (by omega))
  have b19 : 0 ≤ s.1 96 123 ∧ s.1 96 123 ≤ 24 := iv_rd96 hI (iv_fe4a5d80e (by omega))
  have b20 : (s.1 96 114) + (s.1 96 117) + (s.1 96 120) + (s.1 96 123) ≤ 24 := iv_szA hI
  refine sm_247 hI (show (0 : Int) ≤ x1 ∧ x1 ≤ (3 : Int) from by omega) (show (0 : Int) ≤ r33 ∧ r33 ≤ (24 : Int) from by omega) (show (0 : Int) ≤ r35 ∧ r35 ≤ (11 : Int) from by omega) (show (-1 : Int) ≤ x2 ∧ x2 ≤ (11 : Int) from by omega) (show (s.1 96 114) + (s.1 96 117) + (s.1 96 120) + (s.1 96 123) - (s.1 96) (114 + 3 * x1) + r33 ≤ 24 from by omega) (fun s36 hI22 fr21 => ?_)
  have fr24 : lf_fq [96, 104, 107, 1006] 6 true s.1 s.2.2 s36.1 s36.2.2 := lf_fq_tr (lf_fq_rf) (lf_fq_wk fr21 rfl (by decide) (by decide))
  exact hQ s36 hI22 fr24
theorem sm_272_p8 {X8 : Int → lf_Z → Prop} {Q : lf_Z → Prop} {x1 : Int} {x2 : Int} {x3 : Int} {s : lf_Z} (hQ : ∀  (s' : lf_Z), iv_A s'.1 s'.2.2 → lf_fq [96, 104, 107, 1006] 6 true s.1 s.2.2 s'.1 s'.2.2 → Q  s') {M8 : Nat} (hX8 : ∀ (x3 : Int) (s' : lf_Z), iv_A s'.1 s'.2.2 → lf_fq [96, 104, 107, 1006] 6 true s.1 s.2.2 s'.1 s'.2.2 → 0 ≤ x3 ∧ x3 ≤ 16 → (16 - x3).toNat < M8 → X8 x3 s') (hM8 : (16 - x3).toNat ≤ M8) (hI : iv_A s.1 s.2.2) (bx1 : 0 ≤ x1 ∧ x1 ≤ 3) (bx2 : 0 ≤ x2 ∧ x2 ≤ 11) (bx3 : 0 ≤ x3 ∧ x3 ≤ 16) : fm_272_p8 Q x1 x2 X8 x3 s := by
  unfold fm_272_p8
  have b2 : 0 ≤ s.1 96 1 ∧ s.1 96 1 ≤ 16 := iv_rd96 hI (iv_fd6ad3e54 (by omega))
  have b3 : s.1 96 1 ≤ 0 ∨ 0 < s.1 96 0 := (show s.1 96 1 ≤ 0 ∨ 0 < s.1 96 0 from iv_l96_1 hI)
  refine ⟨(show lf_R x3 from lf_Rof (by omega)), ?_⟩
  refine ⟨(show lf_R (s.1 96 1) from lf_Rof (by omega)), ?_⟩
  refine ⟨fun c4 => ?_, fun c4 => ?_⟩
  · skip
    replace c4 : s.1 96 1 ≤ x3 := c4
    exact hQ s hI (lf_fq_rf)
  · skip
    replace c4 : ¬ (s.1 96 1 ≤ x3) := c4
    refine sm_242 hI (show (0 : Int) ≤ x1 ∧ x1 ≤ (3 : Int) from by omega) (fun r26 q5 => ?_)
    obtain ⟨q5, q5x⟩ := q5
    replace q5x : r26 = s.1 96 (114 + 3 * x1) := q5x
    refine sm_256 hI (show (0 : Int) ≤ x1 ∧ x1 ≤ (3 : Int) from by omega) (fun r28 q6 => ?_)
    refine sm_273 hI (show (0 : Int) ≤ r26 ∧ r26 ≤ (24 : Int) from by omega) (show (0 : Int) ≤ x2 ∧ x2 ≤ (11 : Int) from by omega) (show (-1 : Int) ≤ r28 ∧ r28 ≤ (11 : Int) from by omega) (show (0 : Int) ≤ x3 ∧ x3 ≤ (15 : Int) from by omega) (fun r30 s29 hI8 fr7 q9 => ?_)
    obtain ⟨q9, q9x⟩ := q9
    replace q9x : r30 ≤ 0 ∨ 0 ≤ iv_os (s.1 96) x3 x2 := q9x
    have fr10 : lf_fq [96, 104, 107, 1006] 6 true s.1 s.2.2 s29.1 s29.2.2 := lf_fq_tr (lf_fq_rf) (lf_fq_wk fr7 rfl (by decide) (by decide))
    have b11 : iv_os ((s29.1 96)) (x3) (x2) = iv_os (s.1 96) (x3) (x2) := congrArg (fun f => iv_os f x3 x2) (fr7.1 96 rfl)
    refine ⟨(show lf_R r30 from lf_Rof (by omega)), ?_⟩
    refine ⟨fun c12 => ?_, fun c12 => ?_⟩
    · skip
      replace c12 : r30 = 0 := c12
      exact sm_272_p80 (fun t9 i9 f9 => hQ t9 i9 (lf_fq_tr fr10 f9)) (fun p0 t9 i9 f9 => hX8 p0 t9 i9 (lf_fq_tr fr10 f9)) (show (16 - x3).toNat ≤ M8 from by omega) hI8 (show (0 : Int) ≤ x1 ∧ x1 ≤ (3 : Int) from by omega) (show (0 : Int) ≤ x2 ∧ x2 ≤ (11 : Int) from by omega) (show (0 : Int) ≤ x3 ∧ x3 ≤ (15 : Int) from by omega)
    · skip
      replace c12 : ¬ (r30 = 0) := c12
      refine ⟨fun c13 => ?_, fun c13 => ?_⟩
      · skip
        replace c13 : 10 ≤ r30 := c13
        exact sm_272_p62 (fun t9 i9 f9 => hQ t9 i9 (lf_fq_tr fr10 f9)) hI8 (show (0 : Int) ≤ x1 ∧ x1 ≤ (3 : Int) from by omega) (show (0 : Int) ≤ x2 ∧ x2 ≤ (11 : Int) from by omega) (show (0 : Int) ≤ x3 ∧ x3 ≤ (15 : Int) from by omega) (show 0 ≤ iv_os ((s29.1 96)) (x3) (x2) from by omega)
      · skip
        replace c13 : ¬ (10 ≤ r30) := c13
        refine sm_275 hI8 (show (10 : Int) ≤ 10 ∧ 10 ≤ (10 : Int) from by omega) (fun r38 s37 hI26 fr25 ps28 q27 => ?_)
        replace ps28 : ∀ i, i ≠ 6 → s37.1 96 i = (s29.1 96) i := ps28
        have fr29 : lf_fq [96, 104, 107, 1006] 6 true s.1 s.2.2 s37.1 s37.2.2 := lf_fq_tr fr10 (lf_fq_wk fr25 rfl (by decide) (by decide))
        have b30 : iv_os ((s37.1 96)) (x3) (x2) = iv_os (s29.1 96) (x3) (x2) := iv_osc (fun i hi => ps28 i (by omega)) (by omega)
        refine ⟨(show lf_R r38 from lf_Rof (by omega)), ?_⟩
        refine ⟨fun c31 => ?_, fun c31 => ?_⟩
        · skip
          replace c31 : r38 < r30 := c31
          exact sm_272_p62 (fun t9 i9 f9 => hQ t9 i9 (lf_fq_tr fr29 f9)) hI26 (show (0 : Int) ≤ x1 ∧ x1 ≤ (3 : Int) from by omega) (show (0 : Int) ≤ x2 ∧ x2 ≤ (11 : Int) from by omega) (show (0 : Int) ≤ x3 ∧ x3 ≤ (15 : Int) from by omega) (show 0 ≤ iv_os ((s37.1 96)) (x3) (x2) from by omega)
        · skip
          replace c31 : ¬ (r38 < r30) := c31
          exact sm_272_p80 (fun t9 i9 f9 => hQ t9 i9 (lf_fq_tr fr29 f9)) (fun p0 t9 i9 f9 => hX8 p0 t9 i9 (lf_fq_tr fr29 f9)) (show (16 - x3).toNat ≤ M8 from by omega) hI26 (show (0 : Int) ≤ x1 ∧ x1 ≤ (3 : Int) from by omega) (show (0 : Int) ≤ x2 ∧ x2 ≤ (11 : Int) from by omega) (show (0 : Int) ≤ x3 ∧ x3 ≤ (15 : Int) from by omega)
theorem sm_272_p8L {Q : lf_Z → Prop} {x1 : Int} {x2 : Int} {x3 : Int} {s : lf_Z} (hQ : ∀  (s' : lf_Z), iv_A s'.1 s'.2.2 → lf_fq [96, 104, 107, 1006] 6 true s.1 s.2.2 s'.1 s'.2.2 → Q  s') (hI : iv_A s.1 s.2.2) (bx1 : 0 ≤ x1 ∧ x1 ≤ 3) (bx2 : 0 ≤ x2 ∧ x2 ≤ 11) (bx3 : 0 ≤ x3 ∧ x3 ≤ 16) : fm_272_p8L Q x1 x2 x3 s := by
  intro X8 hX
  have key : ∀ (m9 : Nat) (x3 : Int) (s' : lf_Z), iv_A s'.1 s'.2.2 → lf_fq [96, 104, 107, 1006] 6 true s.1 s.2.2 s'.1 s'.2.2 → 0 ≤ x3 ∧ x3 ≤ 16 → (16 - x3).toNat < m9 → X8 x3 s' := by
    intro m9
    induction m9 with
    | zero => intro x3 s' _ _ bx3 h9; exact absurd h9 (Nat.not_lt_zero _)
    | succ m9 ih => intro x3 s' i7 f7 bx3 h9; exact hX _ _ (sm_272_p8 (fun t9 i9 f9 => hQ t9 i9 (lf_fq_tr f7 f9))   (fun x3' t8 i8 f8 bx3' h8 => ih x3' t8 i8 (lf_fq_tr f7 f8) bx3' (by omega)) (Nat.le_refl _)  i7  bx1 bx2 bx3  )
  exact key _ _ s hI lf_fq_rf bx3 (Nat.lt_succ_self _)
theorem sm_272 {a1 : Int} {Q : lf_Z → Prop} {s : lf_Z} (hI : iv_A s.1 s.2.2) (ba1 : 0 ≤ a1 ∧ a1 ≤ 3) (hQ : ∀  (s' : lf_Z), iv_A s'.1 s'.2.2 → lf_fq [96, 104, 107, 1006] 6 true s.1 s.2.2 s'.1 s'.2.2 → Q  s') : fm_272 a1 Q s := by
  unfold fm_272
  refine sm_255 hI (show (0 : Int) ≤ a1 ∧ a1 ≤ (3 : Int) from by omega) (fun r22 q1 => ?_)
  exact sm_272_p8L hQ hI (show (0 : Int) ≤ a1 ∧ a1 ≤ (3 : Int) from by omega) (show (0 : Int) ≤ r22 ∧ r22 ≤ (11 : Int) from by omega) (show (0 : Int) ≤ 0 ∧ 0 ≤ (16 : Int) from by omega)
-- fm_261 Model.findFar 95 i i
theorem sm_261_p174 {X34 : Int → lf_Z → Prop} {X47 : Int → lf_Z → Prop} {Q : lf_Z → Prop} {x2 : Int} {x3 : Int} {x4 : Int} {s : lf_Z} {s0 : lf_Z} {g1 : Int} (hQ : ∀  (s' : lf_Z), iv_A s'.1 s'.2.2 → lf_fq [108] 1000000 true s.1 s.2.2 s'.1 s'.2.2 → ((x2 : Int) = 1 → bf_G (s'.1 96) (s'.1 108) (g1)) → Q  s') {M34 : Nat} (hX34 : ∀ (x3 : Int) (s' : lf_Z), iv_A s'.1 s'.2.2 → lf_fq [108] 1000000 true s.1 s.2.2 s'.1 s'.2.2 → 0 ≤ x3 ∧ x3 ≤ 12 → (x2 = 1 → bf_R (s'.1 96) (s'.1 108) (x3) (g1)) → (12 - x3).toNat < M34 → X34 x3 s') (hM34 : (12 - x3).toNat ≤ M34) {M47 : Nat} (hX47 : ∀ (x4 : Int) (s' : lf_Z), iv_A s'.1 s'.2.2 → lf_fq [108] 1000000 true s.1 s.2.2 s'.1 s'.2.2 → 0 ≤ x4 ∧ x4 ≤ 16 → (x2 = 1 → bf_J (s'.1 96) (s'.1 108) (x3) (x4) (g1)) → (16 - x4).toNat < M47 → X47 x4 s') (hM47 : (16 - x4).toNat ≤ M47) (hI : iv_A s.1 s.2.2) (bx2 : 0 ≤ x2 ∧ x2 ≤ 1) (bx3 : 0 ≤ x3 ∧ x3 ≤ 11) (bx4 : 0 ≤ x4 ∧ x4 ≤ 15) (kv0 : x2 = 1 → bf_J (s.1 96) (s.1 108) (x3) (x4 + 1) (g1)) (kv1 : x4 < s.1 96 1) : fm_261_p174 X34 X47 Q x2 x3 x4 s := by
  unfold fm_261_p174
  have b29 : x2 = 1 → bf_J ((s.1 96)) ((s.1 108)) (x3) ((x4 + 1)) (g1) := by first | with_reducible assumption | exact (fun h9 => bf_J0 (kv0 h9))
  exact hX47 (x4 + 1) s hI (lf_fq_rf) (show (0 : Int) ≤ x4 + 1 ∧ x4 + 1 ≤ (16 : Int) from by omega) (show x2 = 1 → bf_J ((s.1 96)) ((s.1 108)) (x3) ((x4 + 1)) (g1) from by first | with_reducible assumption | assumption) (show (16 - (x4 + 1)).toNat < M47 from by omega)
theorem sm_261_p139 {X34 : Int → lf_Z → Prop} {X47 : Int → lf_Z → Prop} {Q : lf_Z → Prop} {x2 : Int} {x3 : Int} {x4 : Int} {x5 : Int} {x6 : Int} {s : lf_Z} {s0 : lf_Z} {g1 : Int} (hQ : ∀  (s' : lf_Z), iv_A s'.1 s'.2.2 → lf_fq [108] 1000000 true s.1 s.2.2 s'.1 s'.2.2 → ((x2 : Int) = 1 → bf_G (s'.1 96) (s'.1 108) (g1)) → Q  s') {M34 : Nat} (hX34 : ∀ (x3 : Int) (s' : lf_Z), iv_A s'.1 s'.2.2 → lf_fq [108] 1000000 true s.1 s.2.2 s'.1 s'.2.2 → 0 ≤ x3 ∧ x3 ≤ 12 → (x2 = 1 → bf_R (s'.1 96) (s'.1 108) (x3) (g1)) → (12 - x3).toNat < M34 → X34 x3 s') (hM34 : (12 - x3).toNat ≤ M34) {M47 : Nat} (hX47 : ∀ (x4 : Int) (s' : lf_Z), iv_A s'.1 s'.2.2 → lf_fq [108] 1000000 true s.1 s.2.2 s'.1 s'.2.2 → 0 ≤ x4 ∧ x4 ≤ 16 → (x2 = 1 → bf_J (s'.1 96) (s'.1 108) (x3) (x4) (g1)) → (16 - x4).toNat < M47 → X47 x4 s') (hM47 : (16 - x4).toNat ≤ M47) (hI : iv_A s.1 s.2.2) (bx2 : 0 ≤ x2 ∧ x2 ≤ 1) (bx3 : 0 ≤ x3 ∧ x3 ≤ 11) (bx4 : 0 ≤ x4 ∧ x4 ≤ 15) (bx5 : 0 ≤ x5 ∧ x5 ≤ 11) (bx6 : 0 ≤ x6 ∧ x6 ≤ 11) (kv0 : x2 = 1 → bf_J (s.1 96) (s.1 108) (x3) (x4) (g1)) (kv1 : x4 < s.1 96 1) (kv2 : s.1 108 (x6) ≤ s.1 108 (x5) + 1) (kv3 : x5 = s.1 96 (50 + 4 * x4) ∧ x6 = s.1 96 (50 + 4 * x4 + 1)) : fm_261_p139 X34 X47 Q x2 x3 x4 x5 x6 s := by
  unfold fm_261_p139
  refine ⟨(show (0 : Int) ≤ x6 ∧ x6 < (12 : Int) from by omega), ?_⟩
  have b23 : 0 ≤ s.1 108 x6 ∧ s.1 108 x6 ≤ 1000 := iv_r108 hI _
  refine ⟨(show (0 : Int) ≤ x5 ∧ x5 < (12 : Int) from by omega), ?_⟩
  have b24 : 0 ≤ s.1 108 x5 ∧ s.1 108 x5 ≤ 1000 := iv_r108 hI _
  refine ⟨(show lf_R ((s.1 108 x6) + 1) from lf_Rof (by omega)), ?_⟩
  refine ⟨(show lf_R (s.1 108 x5) from lf_Rof (by omega)), ?_⟩
  refine ⟨fun c25 => ?_, fun c25 => ?_⟩
  · skip
    replace c25 : s.1 108 x5 ≤ (s.1 108 x6) + 1 := c25
    have b26 : 0 ≤ s.1 96 1 ∧ s.1 96 1 ≤ 16 := iv_rd96 hI (iv_fd6ad3e54 (by omega))
    have b27 : s.1 96 1 ≤ 0 ∨ 0 < s.1 96 0 := (show s.1 96 1 ≤ 0 ∨ 0 < s.1 96 0 from iv_l96_1 hI)
    have b28 : x2 = 1 → bf_J ((s.1 96)) ((s.1 108)) (x3) (x4 + 1) (g1) := by first | exact (fun h9 => absurd h9 (by omega)) | exact (fun h9 => bf_r2 (a := x5) (b := x6) (kv0 h9) (by omega) (by omega) (by omega) (by omega) (by omega) kv2) | exact (fun h9 => bf_r3 (a := x5) (b := x6) (kv0 h9) (by omega) (by omega) (by omega) (by omega))
    exact sm_261_p174 (s0 := s0) (g1 := g1) hQ hX34 (show (12 - x3).toNat ≤ M34 from by omega) hX47 (show (16 - x4).toNat ≤ M47 from by omega) hI (show (0 : Int) ≤ x2 ∧ x2 ≤ (1 : Int) from by omega) (show (0 : Int) ≤ x3 ∧ x3 ≤ (11 : Int) from by omega) (show (0 : Int) ≤ x4 ∧ x4 ≤ (15 : Int) from by omega) (show x2 = 1 → bf_J ((s.1 96)) ((s.1 108)) (x3) (x4 + 1) (g1) from by first | with_reducible assumption | assumption) (show x4 < (s.1 96 1) from by omega)
  · skip
    replace c25 : ¬ (s.1 108 x5 ≤ (s.1 108 x6) + 1) := c25
    have hI30 : iv_A (lf_up s.1 108 x5 ((s.1 108 x6) + 1)) s.2.2 := iv_w108 hI (by omega)
    have fr31 : lf_fq [108] 1000000 true s.1 s.2.2 (lf_up s.1 108 x5 ((s.1 108 x6) + 1)) s.2.2 := lf_fq_up (lf_fq_rf) rfl (fun h => absurd h (by decide))
    have b32 : 0 ≤ s.1 96 1 ∧ s.1 96 1 ≤ 16 := (show 0 ≤ (lf_up s.1 108 x5 ((s.1 108 x6) + 1)) 96 1 ∧ (lf_up s.1 108 x5 ((s.1 108 x6) + 1)) 96 1 ≤ 16 from iv_rd96 hI30 (iv_fd6ad3e54 (by omega)))
    have b33 : s.1 96 1 ≤ 0 ∨ 0 < s.1 96 0 := (show (lf_up s.1 108 x5 ((s.1 108 x6) + 1)) 96 1 ≤ 0 ∨ 0 < (lf_up s.1 108 x5 ((s.1 108 x6) + 1)) 96 0 from iv_l96_1 hI30)
    have b34 : x2 = 1 → bf_J ((s.1 96)) (((lf_up s.1 108 x5 ((s.1 108 x6) + 1)) 108)) (x3) (x4 + 1) (g1) := by first | exact (fun h9 => absurd h9 (by omega)) | exact (fun h9 => bf_r2 (a := x5) (b := x6) (kv0 h9) (by omega) (by omega) (by omega) (by omega) (by omega) kv2) | exact (fun h9 => bf_r3 (a := x5) (b := x6) (kv0 h9) (by omega) (by omega) (by omega) (by omega))
    exact sm_261_p174 (s0 := s0) (g1 := g1) (fun t9 i9 f9 => hQ t9 i9 (lf_fq_tr fr31 f9)) (fun p0 t9 i9 f9 => hX34 p0 t9 i9 (lf_fq_tr fr31 f9)) (show (12 - x3).toNat ≤ M34 from by omega) (fun p0 t9 i9 f9 => hX47 p0 t9 i9 (lf_fq_tr fr31 f9)) (show (16 - x4).toNat ≤ M47 from by omega) hI30 (show (0 : Int) ≤ x2 ∧ x2 ≤ (1 : Int) from by omega) (show (0 : Int) ≤ x3 ∧ x3 ≤ (11 : Int) from by omega) (show (0 : Int) ≤ x4 ∧ x4 ≤ (15 : Int) from by omega) (show x2 = 1 → bf_J ((s.1 96)) (((lf_up s.1 108 x5 ((s.1 108 x6) + 1)) 108)) (x3) (x4 + 1) (g1) from by first | with_reducible assumption | assumption) (show x4 < (s.1 96 1) from by omega)
theorem sm_261_p74 {X34 : Int → lf_Z → Prop} {X47 : Int → lf_Z → Prop} {Q : lf_Z → Prop} {x2 : Int} {x3 : Int} {x4 : Int} {s : lf_Z} {s0 : lf_Z} {g1 : Int} (hQ : ∀  (s' : lf_Z), iv_A s'.1 s'.2.2 → lf_fq [108] 1000000 true s.1 s.2.2 s'.1 s'.2.2 → ((x2 : Int) = 1 → bf_G (s'.1 96) (s'.1 108) (g1)) → Q  s') {M34 : Nat} (hX34 : ∀ (x3 : Int) (s' : lf_Z), iv_A s'.1 s'.2.2 → lf_fq [108] 1000000 true s.1 s.2.2 s'.1 s'.2.2 → 0 ≤ x3 ∧ x3 ≤ 12 → (x2 = 1 → bf_R (s'.1 96) (s'.1 108) (x3) (g1)) → (12 - x3).toNat < M34 → X34 x3 s') (hM34 : (12 - x3).toNat ≤ M34) {M47 : Nat} (hX47 : ∀ (x4 : Int) (s' : lf_Z), iv_A s'.1 s'.2.2 → lf_fq [108] 1000000 true s.1 s.2.2 s'.1 s'.2.2 → 0 ≤ x4 ∧ x4 ≤ 16 → (x2 = 1 → bf_J (s'.1 96) (s'.1 108) (x3) (x4) (g1)) → (16 - x4).toNat < M47 → X47 x4 s') (hM47 : (16 - x4).toNat ≤ M47) (hI : iv_A s.1 s.2.2) (bx2 : 0 ≤ x2 ∧ x2 ≤ 1) (bx3 : 0 ≤ x3 ∧ x3 ≤ 11) (bx4 : 0 ≤ x4 ∧ x4 ≤ 15) (kv0 : x2 = 1 → bf_J (s.1 96) (s.1 108) (x3) (x4) (g1)) (kv1 : x4 < s.1 96 1) : fm_261_p74 X34 X47 Q x2 x3 x4 s := by
  unfold fm_261_p74
  refine ⟨(show (0 : Int) ≤ 50 + (4 * x4) ∧ 50 + (4 * x4) < (1538 : Int) from by omega), ?_⟩
  have b14 : 0 ≤ s.1 96 (50 + (4 * x4)) ∧ s.1 96 (50 + (4 * x4)) ≤ 11 := iv_rd96 hI (iv_f76190a29 (x4) (by omega) (by omega))
  refine ⟨(show (0 : Int) ≤ (50 + (4 * x4)) + 1 ∧ (50 + (4 * x4)) + 1 < (1538 : Int) from by omega), ?_⟩
  have b15 : 0 ≤ s.1 96 ((50 + (4 * x4)) + 1) ∧ s.1 96 ((50 + (4 * x4)) + 1) ≤ 11 := iv_rd96 hI (iv_fba8b7512 (x4) (by omega) (by omega))
  refine ⟨(show (0 : Int) ≤ s.1 96 (50 + (4 * x4)) ∧ s.1 96 (50 + (4 * x4)) < (12 : Int) from by omega), ?_⟩
  have b16 : 0 ≤ s.1 108 (s.1 96 (50 + (4 * x4))) ∧ s.1 108 (s.1 96 (50 + (4 * x4))) ≤ 1000 := iv_r108 hI _
  refine ⟨(show (0 : Int) ≤ s.1 96 ((50 + (4 * x4)) + 1) ∧ s.1 96 ((50 + (4 * x4)) + 1) < (12 : Int) from by omega), ?_⟩
  have b17 : 0 ≤ s.1 108 (s.1 96 ((50 + (4 * x4)) + 1)) ∧ s.1 108 (s.1 96 ((50 + (4 * x4)) + 1)) ≤ 1000 := iv_r108 hI _
  refine ⟨(show lf_R ((s.1 108 (s.1 96 (50 + (4 * x4)))) + 1) from lf_Rof (by omega)), ?_⟩
  refine ⟨(show lf_R (s.1 108 (s.1 96 ((50 + (4 * x4)) + 1))) from lf_Rof (by omega)), ?_⟩
  refine ⟨fun c18 => ?_, fun c18 => ?_⟩
  · skip
    replace c18 : s.1 108 (s.1 96 ((50 + (4 * x4)) + 1)) ≤ (s.1 108 (s.1 96 (50 + (4 * x4)))) + 1 := c18
    have b19 : 0 ≤ s.1 96 1 ∧ s.1 96 1 ≤ 16 := iv_rd96 hI (iv_fd6ad3e54 (by omega))
    have b20 : s.1 96 1 ≤ 0 ∨ 0 < s.1 96 0 := (show s.1 96 1 ≤ 0 ∨ 0 < s.1 96 0 from iv_l96_1 hI)
    have b21 : x2 = 1 → bf_J ((s.1 96)) ((s.1 108)) (x3) (x4) (g1) := by first | with_reducible assumption | exact (fun h9 => bf_r1 (kv0 h9) (by omega) rfl rfl (by omega) (by omega))
    have b22 : (s.1 108) ((s.1 96 ((50 + (4 * x4)) + 1))) ≤ (s.1 108) ((s.1 96 (50 + (4 * x4)))) + 1 := by first | omega | exact bf_le1 (by omega)
    exact sm_261_p139 (s0 := s0) (g1 := g1) hQ hX34 (show (12 - x3).toNat ≤ M34 from by omega) hX47 (show (16 - x4).toNat ≤ M47 from by omega) hI (show (0 : Int) ≤ x2 ∧ x2 ≤ (1 : Int) from by omega) (show (0 : Int) ≤ x3 ∧ x3 ≤ (11 : Int) from by omega) (show (0 : Int) ≤ x4 ∧ x4 ≤ (15 : Int) from by omega) (show (0 : Int) ≤ s.1 96 (50 + (4 * x4)) ∧ s.1 96 (50 + (4 * x4)) ≤ (11 : Int) from by omega) (show (0 : Int) ≤ s.1 96 ((50 + (4 * x4)) + 1) ∧ s.1 96 ((50 + (4 * x4)) + 1) ≤ (11 : Int) from by omega) (show x2 = 1 → bf_J ((s.1 96)) ((s.1 108)) (x3) (x4) (g1) from by first | with_reducible assumption | assumption) (show x4 < (s.1 96 1) from by omega) (show (s.1 108) ((s.1 96 ((50 + (4 * x4)) + 1))) ≤ (s.1 108) ((s.1 96 (50 + (4 * x4)))) + 1 from by omega) (show (s.1 96 (50 + (4 * x4))) = (s.1 96) (50 + 4 * x4) ∧ (s.1 96 ((50 + (4 * x4)) + 1)) = (s.1 96) (50 + 4 * x4 + 1) from by omega)
  · skip
    replace c18 : ¬ (s.1 108 (s.1 96 ((50 + (4 * x4)) + 1)) ≤ (s.1 108 (s.1 96 (50 + (4 * x4)))) + 1) := c18
    have hI35 : iv_A (lf_up s.1 108 (s.1 96 ((50 + (4 * x4)) + 1)) ((s.1 108 (s.1 96 (50 + (4 * x4)))) + 1)) s.2.2 := iv_w108 hI (by omega)
    have fr36 : lf_fq [108] 1000000 true s.1 s.2.2 (lf_up s.1 108 (s.1 96 ((50 + (4 * x4)) + 1)) ((s.1 108 (s.1 96 (50 + (4 * x4)))) + 1)) s.2.2 := lf_fq_up (lf_fq_rf) rfl (fun h => absurd h (by decide))
    have b37 : 0 ≤ s.1 96 1 ∧ s.1 96 1 ≤ 16 := (show 0 ≤ (lf_up s.1 108 (s.1 96 ((50 + (4 * x4)) + 1)) ((s.1 108 (s.1 96 (50 + (4 * x4)))) + 1)) 96 1 ∧ (lf_up s.1 108 (s.1 96 ((50 + (4 * x4)) + 1)) ((s.1 108 (s.1 96 (50 + (4 * x4)))) + 1)) 96 1 ≤ 16 from iv_rd96 hI35 (iv_fd6ad3e54 (by omega)))
    have b38 : s.1 96 1 ≤ 0 ∨ 0 < s.1 96 0 := (show (lf_up s.1 108 (s.1 96 ((50 + (4 * x4)) + 1)) ((s.1 108 (s.1 96 (50 + (4 * x4)))) + 1)) 96 1 ≤ 0 ∨ 0 < (lf_up s.1 108 (s.1 96 ((50 + (4 * x4)) + 1)) ((s.1 108 (s.1 96 (50 + (4 * x4)))) + 1)) 96 0 from iv_l96_1 hI35)
    have b39 : x2 = 1 → bf_J ((s.1 96)) (((lf_up s.1 108 (s.1 96 ((50 + (4 * x4)) + 1)) ((s.1 108 (s.1 96 (50 + (4 * x4)))) + 1)) 108)) (x3) (x4) (g1) := by first | with_reducible assumption | exact (fun h9 => bf_r1 (kv0 h9) (by omega) rfl rfl (by omega) (by omega))
    have b40 : ((lf_up s.1 108 (s.1 96 ((50 + (4 * x4)) + 1)) ((s.1 108 (s.1 96 (50 + (4 * x4)))) + 1)) 108) ((s.1 96 ((50 + (4 * x4)) + 1))) ≤ ((lf_up s.1 108 (s.1 96 ((50 + (4 * x4)) + 1)) ((s.1 108 (s.1 96 (50 + (4 * x4)))) + 1)) 108) ((s.1 96 (50 + (4 * x4)))) + 1 := by first | omega | exact bf_le1 (by omega)
    exact sm_261_p139 (s0 := s0) (g1 := g1) (fun t9 i9 f9 => hQ t9 i9 (lf_fq_tr fr36 f9)) (fun p0 t9 i9 f9 => hX34 p0 t9 i9 (lf_fq_tr fr36 f9)) (show (12 - x3).toNat ≤ M34 from by omega) (fun p0 t9 i9 f9 => hX47 p0 t9 i9 (lf_fq_tr fr36 f9)) (show (16 - x4).toNat ≤ M47 from by omega) hI35 (show (0 : Int) ≤ x2 ∧ x2 ≤ (1 : Int) from by omega) (show (0 : Int) ≤ x3 ∧ x3 ≤ (11 : Int) from by omega) (show (0 : Int) ≤ x4 ∧ x4 ≤ (15 : Int) from by omega) (show (0 : Int) ≤ s.1 96 (50 + (4 * x4)) ∧ s.1 96 (50 + (4 * x4)) ≤ (11 : Int) from by omega) (show (0 : Int) ≤ s.1 96 ((50 + (4 * x4)) + 1) ∧ s.1 96 ((50 + (4 * x4)) + 1) ≤ (11 : Int) from by omega) (show x2 = 1 → bf_J ((s.1 96)) (((lf_up s.1 108 (s.1 96 ((50 + (4 * x4)) + 1)) ((s.1 108 (s.1 96 (50 + (4 * x4)))) + 1)) 108)) (x3) (x4) (g1) from by first | with_reducible assumption | assumption) (show x4 < (s.1 96 1) from by omega) (show ((lf_up s.1 108 (s.1 96 ((50 + (4 * x4)) + 1)) ((s.1 108 (s.1 96 (50 + (4 * x4)))) + 1)) 108) ((s.1 96 ((50 + (4 * x4)) + 1))) ≤ ((lf_up s.1 108 (s.1 96 ((50 + (4 * x4)) + 1)) ((s.1 108 (s.1 96 (50 + (4 * x4)))) + 1)) 108) ((s.1 96 (50 + (4 * x4)))) + 1 from by omega) (show (s.1 96 (50 + (4 * x4))) = (s.1 96) (50 + 4 * x4) ∧ (s.1 96 ((50 + (4 * x4)) + 1)) = (s.1 96) (50 + 4 * x4 + 1) from by omega)
theorem sm_261_p47 {X34 : Int → lf_Z → Prop} {X47 : Int → lf_Z → Prop} {Q : lf_Z → Prop} {x2 : Int} {x3 : Int} {x4 : Int} {s : lf_Z} {s0 : lf_Z} {g1 : Int} (hQ : ∀  (s' : lf_Z), iv_A s'.1 s'.2.2 → lf_fq [108] 1000000 true s.1 s.2.2 s'.1 s'.2.2 → ((x2 : Int) = 1 → bf_G (s'.1 96) (s'.1 108) (g1)) → Q  s') {M34 : Nat} (hX34 : ∀ (x3 : Int) (s' : lf_Z), iv_A s'.1 s'.2.2 → lf_fq [108] 1000000 true s.1 s.2.2 s'.1 s'.2.2 → 0 ≤ x3 ∧ x3 ≤ 12 → (x2 = 1 → bf_R (s'.1 96) (s'.1 108) (x3) (g1)) → (12 - x3).toNat < M34 → X34 x3 s') (hM34 : (12 - x3).toNat ≤ M34) {M47 : Nat} (hX47 : ∀ (x4 : Int) (s' : lf_Z), iv_A s'.1 s'.2.2 → lf_fq [108] 1000000 true s.1 s.2.2 s'.1 s'.2.2 → 0 ≤ x4 ∧ x4 ≤ 16 → (x2 = 1 → bf_J (s'.1 96) (s'.1 108) (x3) (x4) (g1)) → (16 - x4).toNat < M47 → X47 x4 s') (hM47 : (16 - x4).toNat ≤ M47) (hI : iv_A s.1 s.2.2) (bx2 : 0 ≤ x2 ∧ x2 ≤ 1) (bx3 : 0 ≤ x3 ∧ x3 ≤ 11) (bx4 : 0 ≤ x4 ∧ x4 ≤ 16) (kv0 : x2 = 1 → bf_J (s.1 96) (s.1 108) (x3) (x4) (g1)) : fm_261_p47 X34 Q x2 x3 X47 x4 s := by
  unfold fm_261_p47
  have b8 : 0 ≤ s.1 96 1 ∧ s.1 96 1 ≤ 16 := iv_rd96 hI (iv_fd6ad3e54 (by omega))
  have b9 : s.1 96 1 ≤ 0 ∨ 0 < s.1 96 0 := (show s.1 96 1 ≤ 0 ∨ 0 < s.1 96 0 from iv_l96_1 hI)
  refine ⟨(show lf_R x4 from lf_Rof (by omega)), ?_⟩
  refine ⟨(show lf_R (s.1 96 1) from lf_Rof (by omega)), ?_⟩
  refine ⟨fun c10 => ?_, fun c10 => ?_⟩
  · skip
    replace c10 : s.1 96 1 ≤ x4 := c10
    have b11 : x2 = 1 → bf_R ((s.1 96)) ((s.1 108)) ((x3 + 1)) (g1) := by first | with_reducible assumption | exact (fun _ => bf_R0 (bf_iK kv0 (by omega)) (bf_ends hI)) | exact (fun h9 => bf_RJ (kv0 h9) (by omega))
    exact hX34 (x3 + 1) s hI (lf_fq_rf) (show (0 : Int) ≤ x3 + 1 ∧ x3 + 1 ≤ (12 : Int) from by omega) (show x2 = 1 → bf_R ((s.1 96)) ((s.1 108)) ((x3 + 1)) (g1) from by first | with_reducible assumption | assumption) (show (12 - (x3 + 1)).toNat < M34 from by omega)
  · skip
    replace c10 : ¬ (s.1 96 1 ≤ x4) := c10
    refine sm_252 hI (show (0 : Int) ≤ x4 ∧ x4 ≤ (15 : Int) from by omega) (fun z27 => ?_)
    refine ⟨fun c13 => ?_, fun c13 => ?_⟩
    · skip
      exact sm_261_p74 (s0 := s0) (g1 := g1) hQ hX34 (show (12 - x3).toNat ≤ M34 from by omega) hX47 (show (16 - x4).toNat ≤ M47 from by omega) hI (show (0 : Int) ≤ x2 ∧ x2 ≤ (1 : Int) from by omega) (show (0 : Int) ≤ x3 ∧ x3 ≤ (11 : Int) from by omega) (show (0 : Int) ≤ x4 ∧ x4 ≤ (15 : Int) from by omega) (show x2 = 1 → bf_J ((s.1 96)) ((s.1 108)) (x3) (x4) (g1) from by first | with_reducible assumption | assumption) (show x4 < (s.1 96 1) from by omega)
    · skip
      refine ⟨(show lf_R x2 from lf_Rof (by omega)), ?_⟩
      refine ⟨fun c41 => ?_, fun c41 => ?_⟩
      · skip
        replace c41 : x2 ≠ 0 := c41
        exact sm_261_p74 (s0 := s0) (g1 := g1) hQ hX34 (show (12 - x3).toNat ≤ M34 from by omega) hX47 (show (16 - x4).toNat ≤ M47 from by omega) hI (show (0 : Int) ≤ x2 ∧ x2 ≤ (1 : Int) from by omega) (show (0 : Int) ≤ x3 ∧ x3 ≤ (11 : Int) from by omega) (show (0 : Int) ≤ x4 ∧ x4 ≤ (15 : Int) from by omega) (show x2 = 1 → bf_J ((s.1 96)) ((s.1 108)) (x3) (x4) (g1) from by first | with_reducible assumption | assumption) (show x4 < (s.1 96 1) from by omega)
      · skip
        replace c41 : ¬ (x2 ≠ 0) := c41
        have b42 : x2 = 1 → bf_J ((s.1 96)) ((s.1 108)) (x3) (x4 + 1) (g1) := by first | exact (fun h9 => absurd h9 (by omega)) | exact (fun h9 => bf_r2 (a := x5) (b := x6) (kv0 h9) (by omega) (by omega) (by omega) (by omega) (by omega) kv2) | exact (fun h9 => bf_r3 (a := x5) (b := x6) (kv0 h9) (by omega) (by omega) (by omega) (by omega))
        exact sm_261_p174 (s0 := s0) (g1 := g1) hQ hX34 (show (12 - x3).toNat ≤ M34 from by omega) hX47 (show (16 - x4).toNat ≤ M47 from by omega) hI (show (0 : Int) ≤ x2 ∧ x2 ≤ (1 : Int) from by omega) (show (0 : Int) ≤ x3 ∧ x3 ≤ (11 : Int) from by omega) (show (0 : Int) ≤ x4 ∧ x4 ≤ (15 : Int) from by omega) (show x2 = 1 → bf_J ((s.1 96)) ((s.1 108)) (x3) (x4 + 1) (g1) from by first | with_reducible assumption | assumption) (show x4 < (s.1 96 1) from by omega)
theorem sm_261_p47L {X34 : Int → lf_Z → Prop} {Q : lf_Z → Prop} {x2 : Int} {x3 : Int} {x4 : Int} {s : lf_Z} {s0 : lf_Z} {g1 : Int} (hQ : ∀  (s' : lf_Z), iv_A s'.1 s'.2.2 → lf_fq [108] 1000000 true s.1 s.2.2 s'.1 s'.2.2 → ((x2 : Int) = 1 → bf_G (s'.1 96) (s'.1 108) (g1)) → Q  s') {M34 : Nat} (hX34 : ∀ (x3 : Int) (s' : lf_Z), iv_A s'.1 s'.2.2 → lf_fq [108] 1000000 true s.1 s.2.2 s'.1 s'.2.2 → 0 ≤ x3 ∧ x3 ≤ 12 → (x2 = 1 → bf_R (s'.1 96) (s'.1 108) (x3) (g1)) → (12 - x3).toNat < M34 → X34 x3 s') (hM34 : (12 - x3).toNat ≤ M34) (hI : iv_A s.1 s.2.2) (bx2 : 0 ≤ x2 ∧ x2 ≤ 1) (bx3 : 0 ≤ x3 ∧ x3 ≤ 11) (bx4 : 0 ≤ x4 ∧ x4 ≤ 16) (kv0 : x2 = 1 → bf_J (s.1 96) (s.1 108) (x3) (x4) (g1)) : fm_261_p47L X34 Q x2 x3 x4 s := by
  intro X47 hX
  have key : ∀ (m9 : Nat) (x4 : Int) (s' : lf_Z), iv_A s'.1 s'.2.2 → lf_fq [108] 1000000 true s.1 s.2.2 s'.1 s'.2.2 → 0 ≤ x4 ∧ x4 ≤ 16 → (x2 = 1 → bf_J (s'.1 96) (s'.1 108) (x3) (x4) (g1)) → (16 - x4).toNat < m9 → X47 x4 s' := by
    intro m9
    induction m9 with
    | zero => intro x4 s' _ _ bx4 kv0 h9; exact absurd h9 (Nat.not_lt_zero _)
    | succ m9 ih => intro x4 s' i7 f7 bx4 kv0 h9; exact hX _ _ (sm_261_p47 (s0 := s0) (g1 := g1) (fun t9 i9 f9 => hQ t9 i9 (lf_fq_tr f7 f9))  (fun p0 t9 i9 f9 => hX34 p0 t9 i9 (lf_fq_tr f7 f9)) hM34 (fun x4' t8 i8 f8 bx4' kv0' h8 => ih x4' t8 i8 (lf_fq_tr f7 f8) bx4' kv0' (by omega)) (Nat.le_refl _)  i7  bx2 bx3 bx4  kv0)
  exact key _ _ s hI lf_fq_rf bx4 kv0 (Nat.lt_succ_self _)
theorem sm_261_p34 {X34 : Int → lf_Z → Prop} {Q : lf_Z → Prop} {x2 : Int} {x3 : Int} {s : lf_Z} {s0 : lf_Z} {g1 : Int} (hQ : ∀  (s' : lf_Z), iv_A s'.1 s'.2.2 → lf_fq [108] 1000000 true s.1 s.2.2 s'.1 s'.2.2 → ((x2 : Int) = 1 → bf_G (s'.1 96) (s'.1 108) (g1)) → Q  s') {M34 : Nat} (hX34 : ∀ (x3 : Int) (s' : lf_Z), iv_A s'.1 s'.2.2 → lf_fq [108] 1000000 true s.1 s.2.2 s'.1 s'.2.2 → 0 ≤ x3 ∧ x3 ≤ 12 → (x2 = 1 → bf_R (s'.1 96) (s'.1 108) (x3) (g1)) → (12 - x3).toNat < M34 → X34 x3 s') (hM34 : (12 - x3).toNat ≤ M34) (hI : iv_A s.1 s.2.2) (bx2 : 0 ≤ x2 ∧ x2 ≤ 1) (bx3 : 0 ≤ x3 ∧ x3 ≤ 12) (kv0 : x2 = 1 → bf_R (s.1 96) (s.1 108) (x3) (g1)) : fm_261_p34 Q x2 X34 x3 s := by
  unfold fm_261_p34
  have b4 : 0 ≤ s.1 96 0 ∧ s.1 96 0 ≤ 12 := iv_rd96 hI (iv_f3e1fa21c (by omega))
  refine ⟨(show lf_R x3 from lf_Rof (by omega)), ?_⟩
  refine ⟨(show lf_R (s.1 96 0) from lf_Rof (by omega)), ?_⟩
  refine ⟨fun c5 => ?_, fun c5 => ?_⟩
  · skip
    replace c5 : s.1 96 0 ≤ x3 := c5
    have b6 : x2 = 1 → bf_G ((s.1 96)) ((s.1 108)) (g1) := fun h9 => bf_endA hI (kv0 h9) (by omega)
    exact hQ s hI (lf_fq_rf) (show (x2 : Int) = 1 → bf_G ((s.1 96)) ((s.1 108)) (g1) from by first | with_reducible assumption | assumption)
  · skip
    replace c5 : ¬ (s.1 96 0 ≤ x3) := c5
    have b7 : x2 = 1 → bf_J ((s.1 96)) ((s.1 108)) (x3) (0) (g1) := by first | with_reducible assumption | exact (fun h9 => bf_J0 (kv0 h9))
    exact sm_261_p47L (s0 := s0) (g1 := g1) hQ hX34 (show (12 - x3).toNat ≤ M34 from by omega) hI (show (0 : Int) ≤ x2 ∧ x2 ≤ (1 : Int) from by omega) (show (0 : Int) ≤ x3 ∧ x3 ≤ (11 : Int) from by omega) (show (0 : Int) ≤ 0 ∧ 0 ≤ (16 : Int) from by omega) (show x2 = 1 → bf_J ((s.1 96)) ((s.1 108)) (x3) (0) (g1) from by first | with_reducible assumption | assumption)
theorem sm_261_p34L {Q : lf_Z → Prop} {x2 : Int} {x3 : Int} {s : lf_Z} {s0 : lf_Z} {g1 : Int} (hQ : ∀  (s' : lf_Z), iv_A s'.1 s'.2.2 → lf_fq [108] 1000000 true s.1 s.2.2 s'.1 s'.2.2 → ((x2 : Int) = 1 → bf_G (s'.1 96) (s'.1 108) (g1)) → Q  s') (hI : iv_A s.1 s.2.2) (bx2 : 0 ≤ x2 ∧ x2 ≤ 1) (bx3 : 0 ≤ x3 ∧ x3 ≤ 12) (kv0 : x2 = 1 → bf_R (s.1 96) (s.1 108) (x3) (g1)) : fm_261_p34L Q x2 x3 s := by
  intro X34 hX
  have key : ∀ (m9 : Nat) (x3 : Int) (s' : lf_Z), iv_A s'.1 s'.2.2 → lf_fq [108] 1000000 true s.1 s.2.2 s'.1 s'.2.2 → 0 ≤ x3 ∧ x3 ≤ 12 → (x2 = 1 → bf_R (s'.1 96) (s'.1 108) (x3) (g1)) → (12 - x3).toNat < m9 → X34 x3 s' := by
    intro m9
    induction m9 with
    | zero => intro x3 s' _ _ bx3 kv0 h9; exact absurd h9 (Nat.not_lt_zero _)
    | succ m9 ih => intro x3 s' i7 f7 bx3 kv0 h9; exact hX _ _ (sm_261_p34 (s0 := s0) (g1 := g1) (fun t9 i9 f9 => hQ t9 i9 (lf_fq_tr f7 f9))   (fun x3' t8 i8 f8 bx3' kv0' h8 => ih x3' t8 i8 (lf_fq_tr f7 f8) bx3' kv0' (by omega)) (Nat.le_refl _)  i7  bx2 bx3  kv0)
  exact key _ _ s hI lf_fq_rf bx3 kv0 (Nat.lt_succ_self _)
theorem sm_261_p25 {X2 : Int → lf_Z → Prop} {Q : lf_Z → Prop} {x1 : Int} {x2 : Int} {x3 : Int} {y1 : Int} {y2 : Int} {s : lf_Z} {s0 : lf_Z} {g1 : Int} (hQ : ∀  (s' : lf_Z), iv_A s'.1 s'.2.2 → lf_fq [108] 1000000 true s.1 s.2.2 s'.1 s'.2.2 → ((x2 : Int) = 1 → bf_G (s'.1 96) (s'.1 108) (g1)) → Q  s') {M2 : Nat} (hX2 : ∀ (x3 : Int) (s' : lf_Z), iv_A s'.1 s'.2.2 → lf_fq [108] 1000000 true s.1 s.2.2 s'.1 s'.2.2 → 0 ≤ x3 ∧ x3 ≤ 12 → (bf_i (s'.1 108) (x3) (g1)) → (x1 = g1) → (12 - x3).toNat < M2 → X2 x3 s') (hM2 : (12 - x3).toNat ≤ M2) (hI : iv_A s.1 s.2.2) (bx1 : (-1) ≤ x1 ∧ x1 ≤ 11) (bx2 : 0 ≤ x2 ∧ x2 ≤ 1) (bx3 : 0 ≤ x3 ∧ x3 ≤ 11) (by1 : 0 ≤ y1 ∧ y1 ≤ 11) (by2 : 0 ≤ y2 ∧ y2 ≤ 1000) (kv0 : bf_i (s.1 108) (x3) (g1)) (kv1 : x1 = g1) (kv2 : y1 = x3) (kv3 : (y2 = 0 ∧ x3 = g1) ∨ y2 = 1000) : fm_261_p25 X2 Q x1 x2 x3 y1 y2 s := by
  unfold fm_261_p25
  refine ⟨(show (0 : Int) ≤ y1 ∧ y1 < (12 : Int) from by omega), ?_⟩
  have hI44 : iv_A (lf_up s.1 108 y1 y2) s.2.2 := iv_w108 hI (by omega)
  have fr45 : lf_fq [108] 1000000 true s.1 s.2.2 (lf_up s.1 108 y1 y2) s.2.2 := lf_fq_up (lf_fq_rf) rfl (fun h => absurd h (by decide))
  have b46 : bf_i (((lf_up s.1 108 y1 y2) 108)) ((x3 + 1)) (g1) := by first | with_reducible assumption | exact bf_iS kv0 lf_up_s (fun j hj => lf_up_i hj) (by omega) (by omega) | exact (fun j a b => by omega)
  exact hX2 (x3 + 1) (lf_up s.1 108 y1 y2, s.2.1, s.2.2) hI44 fr45 (show (0 : Int) ≤ x3 + 1 ∧ x3 + 1 ≤ (12 : Int) from by omega) (show bf_i (((lf_up s.1 108 y1 y2) 108)) ((x3 + 1)) (g1) from by first | with_reducible assumption | assumption) (show x1 = g1 from by omega) (show (12 - (x3 + 1)).toNat < M2 from by omega)
theorem sm_261_p2 {X2 : Int → lf_Z → Prop} {Q : lf_Z → Prop} {x1 : Int} {x2 : Int} {x3 : Int} {s : lf_Z} {s0 : lf_Z} {g1 : Int} (hQ : ∀  (s' : lf_Z), iv_A s'.1 s'.2.2 → lf_fq [108] 1000000 true s.1 s.2.2 s'.1 s'.2.2 → ((x2 : Int) = 1 → bf_G (s'.1 96) (s'.1 108) (g1)) → Q  s') {M2 : Nat} (hX2 : ∀ (x3 : Int) (s' : lf_Z), iv_A s'.1 s'.2.2 → lf_fq [108] 1000000 true s.1 s.2.2 s'.1 s'.2.2 → 0 ≤ x3 ∧ x3 ≤ 12 → (bf_i (s'.1 108) (x3) (g1)) → (x1 = g1) → (12 - x3).toNat < M2 → X2 x3 s') (hM2 : (12 - x3).toNat ≤ M2) (hI : iv_A s.1 s.2.2) (bx1 : (-1) ≤ x1 ∧ x1 ≤ 11) (bx2 : 0 ≤ x2 ∧ x2 ≤ 1) (bx3 : 0 ≤ x3 ∧ x3 ≤ 12) (kv0 : bf_i (s.1 108) (x3) (g1)) (kv1 : x1 = g1) : fm_261_p2 Q x1 x2 X2 x3 s := by
  unfold fm_261_p2
  refine ⟨(show lf_R x3 from lf_Rof (by omega)), ?_⟩
  refine ⟨fun c2 => ?_, fun c2 => ?_⟩
  · skip
    replace c2 : 12 ≤ x3 := c2
    have b3 : x2 = 1 → bf_R ((s.1 96)) ((s.1 108)) (0) (g1) := by first | with_reducible assumption | exact (fun _ => bf_R0 (bf_iK kv0 (by omega)) (bf_ends hI)) | exact (fun h9 => bf_RJ (kv0 h9) (by omega))
    exact sm_261_p34L (s0 := s0) (g1 := g1) hQ hI (show (0 : Int) ≤ x2 ∧ x2 ≤ (1 : Int) from by omega) (show (0 : Int) ≤ 0 ∧ 0 ≤ (12 : Int) from by omega) (show x2 = 1 → bf_R ((s.1 96)) ((s.1 108)) (0) (g1) from by first | with_reducible assumption | assumption)
  · skip
    replace c2 : ¬ (12 ≤ x3) := c2
    refine ⟨(show lf_R x1 from lf_Rof (by omega)), ?_⟩
    refine ⟨fun c43 => ?_, fun c43 => ?_⟩
    · skip
      replace c43 : x3 ≠ x1 := c43
      exact sm_261_p25 (s0 := s0) (g1 := g1) hQ hX2 (show (12 - x3).toNat ≤ M2 from by omega) hI (show (-1 : Int) ≤ x1 ∧ x1 ≤ (11 : Int) from by omega) (show (0 : Int) ≤ x2 ∧ x2 ≤ (1 : Int) from by omega) (show (0 : Int) ≤ x3 ∧ x3 ≤ (11 : Int) from by omega) (show (0 : Int) ≤ x3 ∧ x3 ≤ (11 : Int) from by omega) (show (0 : Int) ≤ 1000 ∧ 1000 ≤ (1000 : Int) from by omega) (show bf_i ((s.1 108)) (x3) (g1) from by first | with_reducible assumption | assumption) (show x1 = g1 from by omega) (show x3 = x3 from by omega) (show (1000 = 0 ∧ x3 = g1) ∨ 1000 = 1000 from by omega)
    · skip
      replace c43 : ¬ (x3 ≠ x1) := c43
      exact sm_261_p25 (s0 := s0) (g1 := g1) hQ hX2 (show (12 - x3).toNat ≤ M2 from by omega) hI (show (-1 : Int) ≤ x1 ∧ x1 ≤ (11 : Int) from by omega) (show (0 : Int) ≤ x2 ∧ x2 ≤ (1 : Int) from by omega) (show (0 : Int) ≤ x3 ∧ x3 ≤ (11 : Int) from by omega) (show (0 : Int) ≤ x3 ∧ x3 ≤ (11 : Int) from by omega) (show (0 : Int) ≤ 0 ∧ 0 ≤ (1000 : Int) from by omega) (show bf_i ((s.1 108)) (x3) (g1) from by first | with_reducible assumption | assumption) (show x1 = g1 from by omega) (show x3 = x3 from by omega) (show (0 = 0 ∧ x3 = g1) ∨ 0 = 1000 from by omega)
theorem sm_261_p2L {Q : lf_Z → Prop} {x1 : Int} {x2 : Int} {x3 : Int} {s : lf_Z} {s0 : lf_Z} {g1 : Int} (hQ : ∀  (s' : lf_Z), iv_A s'.1 s'.2.2 → lf_fq [108] 1000000 true s.1 s.2.2 s'.1 s'.2.2 → ((x2 : Int) = 1 → bf_G (s'.1 96) (s'.1 108) (g1)) → Q  s') (hI : iv_A s.1 s.2.2) (bx1 : (-1) ≤ x1 ∧ x1 ≤ 11) (bx2 : 0 ≤ x2 ∧ x2 ≤ 1) (bx3 : 0 ≤ x3 ∧ x3 ≤ 12) (kv0 : bf_i (s.1 108) (x3) (g1)) (kv1 : x1 = g1) : fm_261_p2L Q x1 x2 x3 s := by
  intro X2 hX
  have key : ∀ (m9 : Nat) (x3 : Int) (s' : lf_Z), iv_A s'.1 s'.2.2 → lf_fq [108] 1000000 true s.1 s.2.2 s'.1 s'.2.2 → 0 ≤ x3 ∧ x3 ≤ 12 → (bf_i (s'.1 108) (x3) (g1)) → (x1 = g1) → (12 - x3).toNat < m9 → X2 x3 s' := by
    intro m9
    induction m9 with
    | zero => intro x3 s' _ _ bx3 kv0 kv1 h9; exact absurd h9 (Nat.not_lt_zero _)
    | succ m9 ih => intro x3 s' i7 f7 bx3 kv0 kv1 h9; exact hX _ _ (sm_261_p2 (s0 := s0) (g1 := g1) (fun t9 i9 f9 => hQ t9 i9 (lf_fq_tr f7 f9))   (fun x3' t8 i8 f8 bx3' kv0' kv1' h8 => ih x3' t8 i8 (lf_fq_tr f7 f8) bx3' kv0' kv1' (by omega)) (Nat.le_refl _)  i7  bx1 bx2 bx3  kv0 kv1)
  exact key _ _ s hI lf_fq_rf bx3 kv0 kv1 (Nat.lt_succ_self _)
theorem sm_261 {a1 : Int} {a2 : Int} {Q : lf_Z → Prop} {s : lf_Z} (hI : iv_A s.1 s.2.2) (ba1 : (-1) ≤ a1 ∧ a1 ≤ 11) (ba2 : 0 ≤ a2 ∧ a2 ≤ 1) (hQ : ∀  (s' : lf_Z), iv_A s'.1 s'.2.2 → lf_fq [108] 1000000 true s.1 s.2.2 s'.1 s'.2.2 → ((a2 : Int) = 1 → bf_G (s'.1 96) (s'.1 108) (a1)) → Q  s') : fm_261 a1 a2 Q s := by
  unfold fm_261
  have b1 : bf_i ((s.1 108)) (0) (a1) := by first | with_reducible assumption | exact bf_iS kv0 lf_up_s (fun j hj => lf_up_i hj) (by omega) (by omega) | exact (fun j a b => by omega)
  exact sm_261_p2L (s0 := s) (g1 := a1) hQ hI (show (-1 : Int) ≤ a1 ∧ a1 ≤ (11 : Int) from by omega) (show (0 : Int) ≤ a2 ∧ a2 ≤ (1 : Int) from by omega) (show (0 : Int) ≤ 0 ∧ 0 ≤ (12 : Int) from by omega) (show bf_i ((s.1 108)) (0) (a1) from by first | with_reducible assumption | assumption) (show a1 = a1 from by omega)
-- fm_239d Model.get 95 i 1
theorem sm_239d {a1 : Int} {Q : Int → lf_Z → Prop} {s : lf_Z} (hI : iv_A s.1 s.2.2) (ba1 : 0 ≤ a1 ∧ a1 ≤ 5) (hQ : ∀ (r : Int), ((0 ≤ r ∧ r ≤ 1) ∧ (r = s.1 96 (126 + 6 * a1 + 1))) → Q r s) : fm_239d a1 Q s := by
  unfold fm_239d
  refine ⟨(show (0 : Int) ≤ (126 + (6 * a1)) + 1 ∧ (126 + (6 * a1)) + 1 < (1538 : Int) from by omega), ?_⟩
  have b1 : 0 ≤ s.1 96 ((126 + (6 * a1)) + 1) ∧ s.1 96 ((126 + (6 * a1)) + 1) ≤ 1 := iv_rd96 hI (iv_f1cfbf807 (a1) (by omega) (by omega))
  exact hQ (s.1 96 ((126 + (6 * a1)) + 1)) ⟨(show (0 : Int) ≤ s.1 96 ((126 + (6 * a1)) + 1) ∧ s.1 96 ((126 + (6 * a1)) + 1) ≤ (1 : Int) from by omega), (show s.1 96 ((126 + (6 * a1)) + 1) = s.1 96 (126 + 6 * a1 + 1) from by omega)⟩
-- fm_262 Model.goOn 95 i
theorem sm_262_p88 {X36 : Int → Int → lf_Z → Prop} {Q : lf_Z → Prop} {x1 : Int} {x2 : Int} {x3 : Int} {x4 : Int} {s : lf_Z} {s0 : lf_Z} (hQ : ∀  (s' : lf_Z), iv_A s'.1 s'.2.2 → lf_fq [96, 1006] 129 true s.1 s.2.2 s'.1 s'.2.2 → (∀ i, i ≠ 126 + 6 * x1 + 3 → s'.1 96 i = s0.1 96 i) → Q  s') {M36 : Nat} (hX36 : ∀ (x3 : Int) (x4 : Int) (s' : lf_Z), iv_A s'.1 s'.2.2 → lf_fq [96, 1006] 129 true s.1 s.2.2 s'.1 s'.2.2 → 0 ≤ x3 ∧ x3 ≤ 12 → 0 ≤ x4 ∧ x4 ≤ 16 → (x3 ≤ 11 ∨ bf_e (s'.1 96) (s'.1 108) (x2) (x4) = 0) → (bf_e (s'.1 96) (s'.1 108) (x2) (s'.1 96 1) = 1) → (x4 ≤ s'.1 96 1) → (s'.1 96 = s0.1 96) → (16 - x4).toNat < M36 → X36 x3 x4 s') (hM36 : (16 - x4).toNat ≤ M36) (hI : iv_A s.1 s.2.2) (bx1 : 0 ≤ x1 ∧ x1 ≤ 5) (bx2 : 0 ≤ x2 ∧ x2 ≤ 11) (bx3 : 0 ≤ x3 ∧ x3 ≤ 12) (bx4 : 0 ≤ x4 ∧ x4 ≤ 15) (kv0 : x3 ≤ 11 ∨ bf_e (s.1 96) (s.1 108) (x2) (x4 + 1) = 0) (kv1 : bf_e (s.1 96) (s.1 108) (x2) (s.1 96 1) = 1) (kv2 : x4 < s.1 96 1) (kv3 : s.1 96 = s0.1 96) : fm_262_p88 X36 Q x1 x2 x3 x4 s := by
  unfold fm_262_p88
  have b26 : 0 ≤ s.1 96 1 ∧ s.1 96 1 ≤ 16 := iv_rd96 hI (iv_fd6ad3e54 (by omega))
  have b27 : s.1 96 1 ≤ 0 ∨ 0 < s.1 96 0 := (show s.1 96 1 ≤ 0 ∨ 0 < s.1 96 0 from iv_l96_1 hI)
  have b28 : bf_e ((s.1 96)) ((s.1 108)) (x2) 0 = 0 := rfl
  have b29 : bf_e ((s.1 96)) ((s.1 108)) (x2) ((s.1 96 1)) = 1 := by first | with_reducible assumption | exact kp0 _ (by omega) (by omega) (by omega) (by omega)
  have b30 : (s.1 96) = s0.1 96 := by first | with_reducible assumption | rfl
  exact hX36 (x3) (x4 + 1) s hI (lf_fq_rf) (show (0 : Int) ≤ x3 ∧ x3 ≤ (12 : Int) from by omega) (show (0 : Int) ≤ x4 + 1 ∧ x4 + 1 ≤ (16 : Int) from by omega) (show x3 ≤ 11 ∨ bf_e ((s.1 96)) ((s.1 108)) (x2) ((x4 + 1)) = 0 from by omega) (show bf_e ((s.1 96)) ((s.1 108)) (x2) ((s.1 96 1)) = 1 from by omega) (show (x4 + 1) ≤ (s.1 96 1) from by omega) (show (s.1 96) = s0.1 96 from by first | with_reducible assumption | assumption) (show (16 - (x4 + 1)).toNat < M36 from by omega)
theorem sm_262_p36 {X36 : Int → Int → lf_Z → Prop} {Q : lf_Z → Prop} {x1 : Int} {x2 : Int} {x3 : Int} {x4 : Int} {s : lf_Z} {s0 : lf_Z} (hQ : ∀  (s' : lf_Z), iv_A s'.1 s'.2.2 → lf_fq [96, 1006] 129 true s.1 s.2.2 s'.1 s'.2.2 → (∀ i, i ≠ 126 + 6 * x1 + 3 → s'.1 96 i = s0.1 96 i) → Q  s') {M36 : Nat} (hX36 : ∀ (x3 : Int) (x4 : Int) (s' : lf_Z), iv_A s'.1 s'.2.2 → lf_fq [96, 1006] 129 true s.1 s.2.2 s'.1 s'.2.2 → 0 ≤ x3 ∧ x3 ≤ 12 → 0 ≤ x4 ∧ x4 ≤ 16 → (x3 ≤ 11 ∨ bf_e (s'.1 96) (s'.1 108) (x2) (x4) = 0) → (bf_e (s'.1 96) (s'.1 108) (x2) (s'.1 96 1) = 1) → (x4 ≤ s'.1 96 1) → (s'.1 96 = s0.1 96) → (16 - x4).toNat < M36 → X36 x3 x4 s') (hM36 : (16 - x4).toNat ≤ M36) (hI : iv_A s.1 s.2.2) (bx1 : 0 ≤ x1 ∧ x1 ≤ 5) (bx2 : 0 ≤ x2 ∧ x2 ≤ 11) (bx3 : 0 ≤ x3 ∧ x3 ≤ 12) (bx4 : 0 ≤ x4 ∧ x4 ≤ 16) (kv0 : x3 ≤ 11 ∨ bf_e (s.1 96) (s.1 108) (x2) (x4) = 0) (kv1 : bf_e (s.1 96) (s.1 108) (x2) (s.1 96 1) = 1) (kv2 : x4 ≤ s.1 96 1) (kv3 : s.1 96 = s0.1 96) : fm_262_p36 Q x1 x2 X36 x3 x4 s := by
  unfold fm_262_p36
  have b12 : 0 ≤ s.1 96 1 ∧ s.1 96 1 ≤ 16 := iv_rd96 hI (iv_fd6ad3e54 (by omega))
  have b13 : s.1 96 1 ≤ 0 ∨ 0 < s.1 96 0 := (show s.1 96 1 ≤ 0 ∨ 0 < s.1 96 0 from iv_l96_1 hI)
  refine ⟨(show lf_R x4 from lf_Rof (by omega)), ?_⟩
  refine ⟨(show lf_R (s.1 96 1) from lf_Rof (by omega)), ?_⟩
  refine ⟨fun c14 => ?_, fun c14 => ?_⟩
  · skip
    replace c14 : s.1 96 1 ≤ x4 := c14
    have b15 : bf_e ((s.1 96)) ((s.1 108)) (x2) (x4) = bf_e ((s.1 96)) ((s.1 108)) (x2) ((s.1 96 1)) := congrArg (bf_e ((s.1 96)) ((s.1 108)) x2) (by omega)
    refine sm_191d hI (show (0 : Int) ≤ x1 ∧ x1 ≤ (5 : Int) from by omega) (show (0 : Int) ≤ x3 ∧ x3 ≤ (11 : Int) from by omega) (fun s31 hI17 fr16 ps19 => ?_)
    replace ps19 : ∀ i, i ≠ 126 + 6 * x1 + 3 → s31.1 96 i = (s.1 96) i := ps19
    have fr20 : lf_fq [96, 1006] 129 true s.1 s.2.2 s31.1 s31.2.2 := lf_fq_tr (lf_fq_rf) (lf_fq_wk fr16 rfl (by decide) (by decide))
    have b21 : ∀ i, i ≠ 126 + 6 * x1 + 3 → (s31.1 96) i = s0.1 96 i := by first | exact (fun _ _ => rfl) | exact (fun i hi => (ps19 i hi).trans (congrFun kv3 i))
    exact hQ s31 hI17 fr20 (show ∀ i, i ≠ 126 + 6 * x1 + 3 → (s31.1 96) i = s0.1 96 i from by first | with_reducible assumption | assumption)
  · skip
    replace c14 : ¬ (s.1 96 1 ≤ x4) := c14
    refine sm_187 hI (show (0 : Int) ≤ x4 ∧ x4 ≤ (15 : Int) from by omega) (show (0 : Int) ≤ x2 ∧ x2 ≤ (11 : Int) from by omega) (fun r33 q22 => ?_)
    obtain ⟨q22, q22x⟩ := q22
    replace q22x : r33 = iv_os (s.1 96) x4 x2 := q22x
    have b23 : (0 ≤ iv_os ((s.1 96)) (x4) (x2) ∧ (s.1 108) (iv_os ((s.1 96)) (x4) (x2)) = (s.1 108) (x2) - 1 → bf_e ((s.1 96)) ((s.1 108)) (x2) (x4 + 1) = 1) ∧ (¬ (0 ≤ iv_os ((s.1 96)) (x4) (x2) ∧ (s.1 108) (iv_os ((s.1 96)) (x4) (x2)) = (s.1 108) (x2) - 1) → bf_e ((s.1 96)) ((s.1 108)) (x2) (x4 + 1) = bf_e ((s.1 96)) ((s.1 108)) (x2) (x4)) := bf_eS (by omega)
    have b24 : (s.1 108 r33) = (s.1 108) (iv_os ((s.1 96)) (x4) (x2)) := congrArg ((s.1 108)) (by omega)
    refine ⟨(show lf_R r33 from lf_Rof (by omega)), ?_⟩
    refine ⟨fun c25 => ?_, fun c25 => ?_⟩
    · skip
      replace c25 : r33 < 0 := c25
      exact sm_262_p88 (s0 := s0) hQ hX36 (show (16 - x4).toNat ≤ M36 from by omega) hI (show (0 : Int) ≤ x1 ∧ x1 ≤ (5 : Int) from by omega) (show (0 : Int) ≤ x2 ∧ x2 ≤ (11 : Int) from by omega) (show (0 : Int) ≤ x3 ∧ x3 ≤ (12 : Int) from by omega) (show (0 : Int) ≤ x4 ∧ x4 ≤ (15 : Int) from by omega) (show x3 ≤ 11 ∨ bf_e ((s.1 96)) ((s.1 108)) (x2) (x4 + 1) = 0 from by omega) (show bf_e ((s.1 96)) ((s.1 108)) (x2) ((s.1 96 1)) = 1 from by omega) (show x4 < (s.1 96 1) from by omega) (show (s.1 96) = s0.1 96 from by first | with_reducible assumption | assumption)
    · skip
      replace c25 : ¬ (r33 < 0) := c25
      refine ⟨(show (0 : Int) ≤ r33 ∧ r33 < (12 : Int) from by omega), ?_⟩
      have b31 : 0 ≤ s.1 108 r33 ∧ s.1 108 r33 ≤ 1000 := iv_r108 hI _
      refine ⟨(show (0 : Int) ≤ x2 ∧ x2 < (12 : Int) from by omega), ?_⟩
      have b32 : 0 ≤ s.1 108 x2 ∧ s.1 108 x2 ≤ 1000 := iv_r108 hI _
      refine ⟨(show lf_R (s.1 108 r33) from lf_Rof (by omega)), ?_⟩
      refine ⟨(show lf_R ((s.1 108 x2) - 1) from lf_Rof (by omega)), ?_⟩
      refine ⟨fun c33 => ?_, fun c33 => ?_⟩
      · skip
        replace c33 : s.1 108 r33 ≠ (s.1 108 x2) - 1 := c33
        exact sm_262_p88 (s0 := s0) hQ hX36 (show (16 - x4).toNat ≤ M36 from by omega) hI (show (0 : Int) ≤ x1 ∧ x1 ≤ (5 : Int) from by omega) (show (0 : Int) ≤ x2 ∧ x2 ≤ (11 : Int) from by omega) (show (0 : Int) ≤ x3 ∧ x3 ≤ (12 : Int) from by omega) (show (0 : Int) ≤ x4 ∧ x4 ≤ (15 : Int) from by omega) (show x3 ≤ 11 ∨ bf_e ((s.1 96)) ((s.1 108)) (x2) (x4 + 1) = 0 from by omega) (show bf_e ((s.1 96)) ((s.1 108)) (x2) ((s.1 96 1)) = 1 from by omega) (show x4 < (s.1 96 1) from by omega) (show (s.1 96) = s0.1 96 from by first | with_reducible assumption | assumption)
      · skip
        replace c33 : ¬ (s.1 108 r33 ≠ (s.1 108 x2) - 1) := c33
        refine ⟨(show lf_R x3 from lf_Rof (by omega)), ?_⟩
        refine ⟨fun c34 => ?_, fun c34 => ?_⟩
        · skip
          replace c34 : x3 ≤ r33 := c34
          exact sm_262_p88 (s0 := s0) hQ hX36 (show (16 - x4).toNat ≤ M36 from by omega) hI (show (0 : Int) ≤ x1 ∧ x1 ≤ (5 : Int) from by omega) (show (0 : Int) ≤ x2 ∧ x2 ≤ (11 : Int) from by omega) (show (0 : Int) ≤ x3 ∧ x3 ≤ (12 : Int) from by omega) (show (0 : Int) ≤ x4 ∧ x4 ≤ (15 : Int) from by omega) (show x3 ≤ 11 ∨ bf_e ((s.1 96)) ((s.1 108)) (x2) (x4 + 1) = 0 from by omega) (show bf_e ((s.1 96)) ((s.1 108)) (x2) ((s.1 96 1)) = 1 from by omega) (show x4 < (s.1 96 1) from by omega) (show (s.1 96) = s0.1 96 from by first | with_reducible assumption | assumption)
        · skip
          replace c34 : ¬ (x3 ≤ r33) := c34
          exact sm_262_p88 (s0 := s0) hQ hX36 (show (16 - x4).toNat ≤ M36 from by omega) hI (show (0 : Int) ≤ x1 ∧ x1 ≤ (5 : Int) from by omega) (show (0 : Int) ≤ x2 ∧ x2 ≤ (11 : Int) from by omega) (show (0 : Int) ≤ r33 ∧ r33 ≤ (12 : Int) from by omega) (show (0 : Int) ≤ x4 ∧ x4 ≤ (15 : Int) from by omega) (show r33 ≤ 11 ∨ bf_e ((s.1 96)) ((s.1 108)) (x2) (x4 + 1) = 0 from by omega) (show bf_e ((s.1 96)) ((s.1 108)) (x2) ((s.1 96 1)) = 1 from by omega) (show x4 < (s.1 96 1) from by omega) (show (s.1 96) = s0.1 96 from by first | with_reducible assumption | assumption)
theorem sm_262_p36L {Q : lf_Z → Prop} {x1 : Int} {x2 : Int} {x3 : Int} {x4 : Int} {s : lf_Z} {s0 : lf_Z} (hQ : ∀  (s' : lf_Z), iv_A s'.1 s'.2.2 → lf_fq [96, 1006] 129 true s.1 s.2.2 s'.1 s'.2.2 → (∀ i, i ≠ 126 + 6 * x1 + 3 → s'.1 96 i = s0.1 96 i) → Q  s') (hI : iv_A s.1 s.2.2) (bx1 : 0 ≤ x1 ∧ x1 ≤ 5) (bx2 : 0 ≤ x2 ∧ x2 ≤ 11) (bx3 : 0 ≤ x3 ∧ x3 ≤ 12) (bx4 : 0 ≤ x4 ∧ x4 ≤ 16) (kv0 : x3 ≤ 11 ∨ bf_e (s.1 96) (s.1 108) (x2) (x4) = 0) (kv1 : bf_e (s.1 96) (s.1 108) (x2) (s.1 96 1) = 1) (kv2 : x4 ≤ s.1 96 1) (kv3 : s.1 96 = s0.1 96) : fm_262_p36L Q x1 x2 x3 x4 s := by
  intro X36 hX
  have key : ∀ (m9 : Nat) (x3 : Int) (x4 : Int) (s' : lf_Z), iv_A s'.1 s'.2.2 → lf_fq [96, 1006] 129 true s.1 s.2.2 s'.1 s'.2.2 → 0 ≤ x3 ∧ x3 ≤ 12 → 0 ≤ x4 ∧ x4 ≤ 16 → (x3 ≤ 11 ∨ bf_e (s'.1 96) (s'.1 108) (x2) (x4) = 0) → (bf_e (s'.1 96) (s'.1 108) (x2) (s'.1 96 1) = 1) → (x4 ≤ s'.1 96 1) → (s'.1 96 = s0.1 96) → (16 - x4).toNat < m9 → X36 x3 x4 s' := by
    intro m9
    induction m9 with
    | zero => intro x3 x4 s' _ _ bx3 bx4 kv0 kv1 kv2 kv3 h9; exact absurd h9 (Nat.not_lt_zero _)
    | succ m9 ih => intro x3 x4 s' i7 f7 bx3 bx4 kv0 kv1 kv2 kv3 h9; exact hX _ _ _ (sm_262_p36 (s0 := s0) (fun t9 i9 f9 => hQ t9 i9 (lf_fq_tr f7 f9))   (fun x3' x4' t8 i8 f8 bx3' bx4' kv0' kv1' kv2' kv3' h8 => ih x3' x4' t8 i8 (lf_fq_tr f7 f8) bx3' bx4' kv0' kv1' kv2' kv3' (by omega)) (Nat.le_refl _)  i7  bx1 bx2 bx3 bx4  kv0 kv1 kv2 kv3)
  exact key _ _ _ s hI lf_fq_rf bx3 bx4 kv0 kv1 kv2 kv3 (Nat.lt_succ_self _)
theorem sm_262 {a1 : Int} {Q : lf_Z → Prop} {s : lf_Z} (hI : iv_A s.1 s.2.2) (ba1 : 0 ≤ a1 ∧ a1 ≤ 5) (kp0 : bf_G (s.1 96) (s.1 108) (s.1 96 (126 + 6 * a1 + 4))) (hQ : ∀  (s' : lf_Z), iv_A s'.1 s'.2.2 → lf_fq [96, 1006] 129 true s.1 s.2.2 s'.1 s'.2.2 → (∀ i, i ≠ 126 + 6 * a1 + 3 → s'.1 96 i = s.1 96 i) → Q  s') : fm_262 a1 Q s := by
  unfold fm_262
  refine sm_239 hI (show (0 : Int) ≤ a1 ∧ a1 ≤ (5 : Int) from by omega) (fun r22 q1 => ?_)
  obtain ⟨q1, q1x⟩ := q1
  replace q1x : r22 = s.1 96 (126 + 6 * a1 + 3) := q1x
  refine sm_239b hI (show (0 : Int) ≤ a1 ∧ a1 ≤ (5 : Int) from by omega) (fun r24 q2 => ?_)
  obtain ⟨q2, q2x⟩ := q2
  replace q2x : r24 = s.1 96 (126 + 6 * a1 + 4) := q2x
  refine ⟨(show lf_R r22 from lf_Rof (by omega)), ?_⟩
  refine ⟨(show lf_R r24 from lf_Rof (by omega)), ?_⟩
  refine ⟨fun c3 => ?_, fun c3 => ?_⟩
  · skip
    replace c3 : r22 = r24 := c3
    have b4 : ∀ i, i ≠ 126 + 6 * a1 + 3 → (s.1 96) i = s.1 96 i := by first | exact (fun _ _ => rfl) | exact (fun i hi => (hI i hi).trans (congrFun kv3 i))
    exact hQ s hI (lf_fq_rf) (show ∀ i, i ≠ 126 + 6 * a1 + 3 → (s.1 96) i = s.1 96 i from by first | with_reducible assumption | assumption)
  · skip
    replace c3 : ¬ (r22 = r24) := c3
    refine ⟨(show (0 : Int) ≤ r22 ∧ r22 < (12 : Int) from by omega), ?_⟩
    have b5 : 0 ≤ s.1 108 r22 ∧ s.1 108 r22 ≤ 1000 := iv_r108 hI _
    refine ⟨(show lf_R (s.1 108 r22) from lf_Rof (by omega)), ?_⟩
    refine ⟨fun c6 => ?_, fun c6 => ?_⟩
    · skip
      replace c6 : s.1 108 r22 < 1000 := c6
      have b7 : 0 ≤ s.1 96 1 ∧ s.1 96 1 ≤ 16 := iv_rd96 hI (iv_fd6ad3e54 (by omega))
      have b8 : s.1 96 1 ≤ 0 ∨ 0 < s.1 96 0 := (show s.1 96 1 ≤ 0 ∨ 0 < s.1 96 0 from iv_l96_1 hI)
      have b9 : bf_e ((s.1 96)) ((s.1 108)) (r22) 0 = 0 := rfl
      have b10 : bf_e ((s.1 96)) ((s.1 108)) (r22) ((s.1 96 1)) = 1 := by first | with_reducible assumption | exact kp0 _ (by omega) (by omega) (by omega) (by omega)
      have b11 : (s.1 96) = s.1 96 := by first | with_reducible assumption | rfl
      exact sm_262_p36L (s0 := s) hQ hI (show (0 : Int) ≤ a1 ∧ a1 ≤ (5 : Int) from by omega) (show (0 : Int) ≤ r22 ∧ r22 ≤ (11 : Int) from by omega) (show (0 : Int) ≤ 12 ∧ 12 ≤ (12 : Int) from by omega) (show (0 : Int) ≤ 0 ∧ 0 ≤ (16 : Int) from by omega) (show 12 ≤ 11 ∨ bf_e ((s.1 96)) ((s.1 108)) (r22) (0) = 0 from by omega) (show bf_e ((s.1 96)) ((s.1 108)) (r22) ((s.1 96 1)) = 1 from by omega) (show 0 ≤ (s.1 96 1) from by omega) (show (s.1 96) = s.1 96 from by first | with_reducible assumption | assumption)
    · skip
      replace c6 : ¬ (s.1 108 r22 < 1000) := c6
      have b35 : ∀ i, i ≠ 126 + 6 * a1 + 3 → (s.1 96) i = s.1 96 i := by first | exact (fun _ _ => rfl) | exact (fun i hi => (hI i hi).trans (congrFun kv3 i))
      exact hQ s hI (lf_fq_rf) (show ∀ i, i ≠ 126 + 6 * a1 + 3 → (s.1 96) i = s.1 96 i from by first | with_reducible assumption | assumption)
-- fm_260 Model.pass 95
theorem sm_260_p163 {X115 : Int → lf_Z → Prop} {Q : lf_Z → Prop} {x1 : Int} {s : lf_Z} (hQ : ∀  (s' : lf_Z), iv_A s'.1 s'.2.2 → lf_fq [96, 104, 107, 108, 1006] 3 true s.1 s.2.2 s'.1 s'.2.2 → Q  s') {M115 : Nat} (hX115 : ∀ (x1 : Int) (s' : lf_Z), iv_A s'.1 s'.2.2 → lf_fq [96, 104, 107, 108, 1006] 3 true s.1 s.2.2 s'.1 s'.2.2 → 0 ≤ x1 ∧ x1 ≤ 4 → (4 - x1).toNat < M115 → X115 x1 s') (hM115 : (4 - x1).toNat ≤ M115) (hI : iv_A s.1 s.2.2) (bx1 : 0 ≤ x1 ∧ x1 ≤ 3) : fm_260_p163 X115 Q x1 s := by
  unfold fm_260_p163
  exact hX115 (x1 + 1) s hI (lf_fq_rf) (show (0 : Int) ≤ x1 + 1 ∧ x1 + 1 ≤ (4 : Int) from by omega) (show (4 - (x1 + 1)).toNat < M115 from by omega)
theorem sm_260_p115 {X115 : Int → lf_Z → Prop} {Q : lf_Z → Prop} {x1 : Int} {s : lf_Z} (hQ : ∀  (s' : lf_Z), iv_A s'.1 s'.2.2 → lf_fq [96, 104, 107, 108, 1006] 3 true s.1 s.2.2 s'.1 s'.2.2 → Q  s') {M115 : Nat} (hX115 : ∀ (x1 : Int) (s' : lf_Z), iv_A s'.1 s'.2.2 → lf_fq [96, 104, 107, 108, 1006] 3 true s.1 s.2.2 s'.1 s'.2.2 → 0 ≤ x1 ∧ x1 ≤ 4 → (4 - x1).toNat < M115 → X115 x1 s') (hM115 : (4 - x1).toNat ≤ M115) (hI : iv_A s.1 s.2.2) (bx1 : 0 ≤ x1 ∧ x1 ≤ 4) : fm_260_p115 Q X115 x1 s := by
  unfold fm_260_p115
  refine ⟨(show lf_R x1 from lf_Rof (by omega)), ?_⟩
  refine ⟨fun c5 => ?_, fun c5 => ?_⟩
  · skip
    replace c5 : 4 ≤ x1 := c5
    refine sm_278 hI (fun s25 hI7 fr6 => ?_)
    have fr9 : lf_fq [96, 104, 107, 108, 1006] 3 true s.1 s.2.2 s25.1 s25.2.2 := lf_fq_tr (lf_fq_rf) (lf_fq_wk fr6 rfl (by decide) (by decide))
    have b10 : (-2147483648) ≤ s25.1 96 3 ∧ s25.1 96 3 ≤ 2147483647 := iv_full hI7
    have b11 : s25.1 96 3 = s.1 96 3 := fr6.2.1 3 (by decide)
    have b12 : (-2147483648) ≤ lf_w ((s25.1 96 3) + 1) ∧ lf_w ((s25.1 96 3) + 1) ≤ 2147483647 := lf_wB
    have hI13 : iv_A (lf_up s25.1 96 3 (lf_w ((s25.1 96 3) + 1))) s25.2.2 := iv_wd96 hI7 (lf_le2 (iv_f0d376a7e (by omega)) (by omega)) (fun h => absurd h (by omega))
    have fr14 : lf_fq [96, 104, 107, 108, 1006] 3 true s.1 s.2.2 (lf_up s25.1 96 3 (lf_w ((s25.1 96 3) + 1))) s25.2.2 := lf_fq_up fr9 rfl (fun _ => ⟨by omega, fr_o (Or.inr (fr_n0 (by omega))) (Or.inr (fr_n1 (by omega))) (Or.inr (fr_n2 (by omega))) (Or.inr (fr_n3 (by omega))) (Or.inr (fr_n4 (by omega))) (Or.inr (fr_n5 (by omega))) (Or.inl rfl)⟩)
    exact hQ (lf_up s25.1 96 3 (lf_w ((s25.1 96 3) + 1)), s25.2.1, s25.2.2) hI13 fr14
  · skip
    replace c5 : ¬ (4 ≤ x1) := c5
    refine sm_242 hI (show (0 : Int) ≤ x1 ∧ x1 ≤ (3 : Int) from by omega) (fun r27 q15 => ?_)
    obtain ⟨q15, q15x⟩ := q15
    replace q15x : r27 = s.1 96 (114 + 3 * x1) := q15x
    refine ⟨(show lf_R r27 from lf_Rof (by omega)), ?_⟩
    refine ⟨fun c16 => ?_, fun c16 => ?_⟩
    · skip
      replace c16 : r27 ≤ 0 := c16
      exact sm_260_p163 hQ hX115 (show (4 - x1).toNat ≤ M115 from by omega) hI (show (0 : Int) ≤ x1 ∧ x1 ≤ (3 : Int) from by omega)
    · skip
      replace c16 : ¬ (r27 ≤ 0) := c16
      refine sm_255 hI (show (0 : Int) ≤ x1 ∧ x1 ≤ (3 : Int) from by omega) (fun r30 q17 => ?_)
      refine ⟨(show (0 : Int) ≤ (14 + (3 * r30)) + 2 ∧ (14 + (3 * r30)) + 2 < (1538 : Int) from by omega), ?_⟩
      have b18 : (-2147483648) ≤ s.1 96 ((14 + (3 * r30)) + 2) ∧ s.1 96 ((14 + (3 * r30)) + 2) ≤ 2147483647 := iv_full hI
      refine sm_242 hI (show (0 : Int) ≤ x1 ∧ x1 ≤ (3 : Int) from by omega) (fun r33 q19 => ?_)
      obtain ⟨q19, q19x⟩ := q19
      replace q19x : r33 = s.1 96 (114 + 3 * x1) := q19x
      refine sm_255 hI (show (0 : Int) ≤ x1 ∧ x1 ≤ (3 : Int) from by omega) (fun r35 q20 => ?_)
      refine sm_277 hI (show (0 : Int) ≤ r35 ∧ r35 ≤ (11 : Int) from by omega) (fun r37 q21 => ?_)
      have b22 : 0 ≤ r33 * r37 ∧ r33 * r37 ≤ 2376 := lf_mulB (a := r33) (b := r37) (p := 0) (q := 24) (r := 0) (u := 99) (by omega) (by omega) (by decide) (by decide) (by decide) (by decide) (by decide) (by decide) (by decide) (by decide)
      have b23 : (-2147483648) ≤ lf_w ((s.1 96 ((14 + (3 * r30)) + 2)) + (r33 * r37)) ∧ lf_w ((s.1 96 ((14 + (3 * r30)) + 2)) + (r33 * r37)) ≤ 2147483647 := lf_wB
      have hI24 : iv_A (lf_up s.1 96 ((14 + (3 * r30)) + 2) (lf_w ((s.1 96 ((14 + (3 * r30)) + 2)) + (r33 * r37)))) s.2.2 := iv_wd96 hI (lf_le2 (iv_f06618364 (r30) (by omega) (by omega)) (by omega)) (fun h => absurd h (by omega))
      have fr25 : lf_fq [96, 104, 107, 108, 1006] 3 true s.1 s.2.2 (lf_up s.1 96 ((14 + (3 * r30)) + 2) (lf_w ((s.1 96 ((14 + (3 * r30)) + 2)) + (r33 * r37)))) s.2.2 := lf_fq_up (lf_fq_rf) rfl (fun _ => ⟨by omega, fr_o (Or.inr (fr_n0 (by omega))) (Or.inr (fr_n1 (by omega))) (Or.inr (fr_n2 (by omega))) (Or.inr (fr_n3 (by omega))) (Or.inr (fr_n4 (by omega))) (Or.inr (fr_n5 (by omega))) (Or.inl rfl)⟩)
      exact sm_260_p163 (fun t9 i9 f9 => hQ t9 i9 (lf_fq_tr fr25 f9)) (fun p0 t9 i9 f9 => hX115 p0 t9 i9 (lf_fq_tr fr25 f9)) (show (4 - x1).toNat ≤ M115 from by omega) hI24 (show (0 : Int) ≤ x1 ∧ x1 ≤ (3 : Int) from by omega)
theorem sm_260_p115L {Q : lf_Z → Prop} {x1 : Int} {s : lf_Z} (hQ : ∀  (s' : lf_Z), iv_A s'.1 s'.2.2 → lf_fq [96, 104, 107, 108, 1006] 3 true s.1 s.2.2 s'.1 s'.2.2 → Q  s') (hI : iv_A s.1 s.2.2) (bx1 : 0 ≤ x1 ∧ x1 ≤ 4) : fm_260_p115L Q x1 s := by
  intro X115 hX
  have key : ∀ (m9 : Nat) (x1 : Int) (s' : lf_Z), iv_A s'.1 s'.2.2 → lf_fq [96, 104, 107, 108, 1006] 3 true s.1 s.2.2 s'.1 s'.2.2 → 0 ≤ x1 ∧ x1 ≤ 4 → (4 - x1).toNat < m9 → X115 x1 s' := by
    intro m9
    induction m9 with
    | zero => intro x1 s' _ _ bx1 h9; exact absurd h9 (Nat.not_lt_zero _)
    | succ m9 ih => intro x1 s' i7 f7 bx1 h9; exact hX _ _ (sm_260_p115 (fun t9 i9 f9 => hQ t9 i9 (lf_fq_tr f7 f9))   (fun x1' t8 i8 f8 bx1' h8 => ih x1' t8 i8 (lf_fq_tr f7 f8) bx1' (by omega)) (Nat.le_refl _)  i7  bx1  )
  exact key _ _ s hI lf_fq_rf bx1 (Nat.lt_succ_self _)
theorem sm_260_p107 {X67 : Int → lf_Z → Prop} {Q : lf_Z → Prop} {x1 : Int} {s : lf_Z} (hQ : ∀  (s' : lf_Z), iv_A s'.1 s'.2.2 → lf_fq [96, 104, 107, 108, 1006] 3 true s.1 s.2.2 s'.1 s'.2.2 → Q  s') {M67 : Nat} (hX67 : ∀ (x1 : Int) (s' : lf_Z), iv_A s'.1 s'.2.2 → lf_fq [96, 104, 107, 108, 1006] 3 true s.1 s.2.2 s'.1 s'.2.2 → 0 ≤ x1 ∧ x1 ≤ 4 → (4 - x1).toNat < M67 → X67 x1 s') (hM67 : (4 - x1).toNat ≤ M67) (hI : iv_A s.1 s.2.2) (bx1 : 0 ≤ x1 ∧ x1 ≤ 3) : fm_260_p107 X67 Q x1 s := by
  unfold fm_260_p107
  exact hX67 (x1 + 1) s hI (lf_fq_rf) (show (0 : Int) ≤ x1 + 1 ∧ x1 + 1 ≤ (4 : Int) from by omega) (show (4 - (x1 + 1)).toNat < M67 from by omega)
theorem sm_260_p91 {X67 : Int → lf_Z → Prop} {X91 : Int → lf_Z → Prop} {Q : lf_Z → Prop} {x1 : Int} {x2 : Int} {x3 : Int} {s : lf_Z} (hQ : ∀  (s' : lf_Z), iv_A s'.1 s'.2.2 → lf_fq [96, 104, 107, 108, 1006] 3 true s.1 s.2.2 s'.1 s'.2.2 → Q  s') {M67 : Nat} (hX67 : ∀ (x1 : Int) (s' : lf_Z), iv_A s'.1 s'.2.2 → lf_fq [96, 104, 107, 108, 1006] 3 true s.1 s.2.2 s'.1 s'.2.2 → 0 ≤ x1 ∧ x1 ≤ 4 → (4 - x1).toNat < M67 → X67 x1 s') (hM67 : (4 - x1).toNat ≤ M67) {M91 : Nat} (hX91 : ∀ (x3 : Int) (s' : lf_Z), iv_A s'.1 s'.2.2 → lf_fq [96, 104, 107, 108, 1006] 3 true s.1 s.2.2 s'.1 s'.2.2 → 0 ≤ x3 ∧ x3 ≤ 2147483646 → (2147483646 - x3).toNat < M91 → X91 x3 s') (hM91 : (2147483646 - x3).toNat ≤ M91) (hI : iv_A s.1 s.2.2) (bx1 : 0 ≤ x1 ∧ x1 ≤ 3) (bx2 : 0 ≤ x2 ∧ x2 ≤ 100) (bx3 : 0 ≤ x3 ∧ x3 ≤ 2147483646) : fm_260_p91 X67 Q x1 x2 X91 x3 s := by
  unfold fm_260_p91
  refine ⟨(show lf_R x3 from lf_Rof (by omega)), ?_⟩
  refine ⟨(show lf_R x2 from lf_Rof (by omega)), ?_⟩
  refine ⟨fun c32 => ?_, fun c32 => ?_⟩
  · skip
    replace c32 : x2 ≤ x3 := c32
    exact sm_260_p107 hQ hX67 (show (4 - x1).toNat ≤ M67 from by omega) hI (show (0 : Int) ≤ x1 ∧ x1 ≤ (3 : Int) from by omega)
  · skip
    replace c32 : ¬ (x2 ≤ x3) := c32
    refine sm_272 hI (show (0 : Int) ≤ x1 ∧ x1 ≤ (3 : Int) from by omega) (fun s45 hI34 fr33 => ?_)
    have fr36 : lf_fq [96, 104, 107, 108, 1006] 3 true s.1 s.2.2 s45.1 s45.2.2 := lf_fq_tr (lf_fq_rf) (lf_fq_wk fr33 rfl (by decide) (by decide))
    exact hX91 (x3 + 1) s45 hI34 fr36 (show (0 : Int) ≤ x3 + 1 ∧ x3 + 1 ≤ (2147483646 : Int) from by omega) (show (2147483646 - (x3 + 1)).toNat < M91 from by omega)
theorem sm_260_p91L {X67 : Int → lf_Z → Prop} {Q : lf_Z → Prop} {x1 : Int} {x2 : Int} {x3 : Int} {s : lf_Z} (hQ : ∀  (s' : lf_Z), iv_A s'.1 s'.2.2 → lf_fq [96, 104, 107, 108, 1006] 3 true s.1 s.2.2 s'.1 s'.2.2 → Q  s') {M67 : Nat} (hX67 : ∀ (x1 : Int) (s' : lf_Z), iv_A s'.1 s'.2.2 → lf_fq [96, 104, 107, 108, 1006] 3 true s.1 s.2.2 s'.1 s'.2.2 → 0 ≤ x1 ∧ x1 ≤ 4 → (4 - x1).toNat < M67 → X67 x1 s') (hM67 : (4 - x1).toNat ≤ M67) (hI : iv_A s.1 s.2.2) (bx1 : 0 ≤ x1 ∧ x1 ≤ 3) (bx2 : 0 ≤ x2 ∧ x2 ≤ 100) (bx3 : 0 ≤ x3 ∧ x3 ≤ 2147483646) : fm_260_p91L X67 Q x1 x2 x3 s := by
  intro X91 hX
  have key : ∀ (m9 : Nat) (x3 : Int) (s' : lf_Z), iv_A s'.1 s'.2.2 → lf_fq [96, 104, 107, 108, 1006] 3 true s.1 s.2.2 s'.1 s'.2.2 → 0 ≤ x3 ∧ x3 ≤ 2147483646 → (2147483646 - x3).toNat < m9 → X91 x3 s' := by
    intro m9
    induction m9 with
    | zero => intro x3 s' _ _ bx3 h9; exact absurd h9 (Nat.not_lt_zero _)
    | succ m9 ih => intro x3 s' i7 f7 bx3 h9; exact hX _ _ (sm_260_p91 (fun t9 i9 f9 => hQ t9 i9 (lf_fq_tr f7 f9))  (fun p0 t9 i9 f9 => hX67 p0 t9 i9 (lf_fq_tr f7 f9)) hM67 (fun x3' t8 i8 f8 bx3' h8 => ih x3' t8 i8 (lf_fq_tr f7 f8) bx3' (by omega)) (Nat.le_refl _)  i7  bx1 bx2 bx3  )
  exact key _ _ s hI lf_fq_rf bx3 (Nat.lt_succ_self _)
theorem sm_260_p67 {X67 : Int → lf_Z → Prop} {Q : lf_Z → Prop} {x1 : Int} {s : lf_Z} (hQ : ∀  (s' : lf_Z), iv_A s'.1 s'.2.2 → lf_fq [96, 104, 107, 108, 1006] 3 true s.1 s.2.2 s'.1 s'.2.2 → Q  s') {M67 : Nat} (hX67 : ∀ (x1 : Int) (s' : lf_Z), iv_A s'.1 s'.2.2 → lf_fq [96, 104, 107, 108, 1006] 3 true s.1 s.2.2 s'.1 s'.2.2 → 0 ≤ x1 ∧ x1 ≤ 4 → (4 - x1).toNat < M67 → X67 x1 s') (hM67 : (4 - x1).toNat ≤ M67) (hI : iv_A s.1 s.2.2) (bx1 : 0 ≤ x1 ∧ x1 ≤ 4) : fm_260_p67 Q X67 x1 s := by
  unfold fm_260_p67
  refine ⟨(show lf_R x1 from lf_Rof (by omega)), ?_⟩
  refine ⟨fun c4 => ?_, fun c4 => ?_⟩
  · skip
    replace c4 : 4 ≤ x1 := c4
    exact sm_260_p115L hQ hI (show (0 : Int) ≤ 0 ∧ 0 ≤ (4 : Int) from by omega)
  · skip
    replace c4 : ¬ (4 ≤ x1) := c4
    refine sm_242 hI (show (0 : Int) ≤ x1 ∧ x1 ≤ (3 : Int) from by omega) (fun r39 q26 => ?_)
    obtain ⟨q26, q26x⟩ := q26
    replace q26x : r39 = s.1 96 (114 + 3 * x1) := q26x
    refine ⟨(show lf_R r39 from lf_Rof (by omega)), ?_⟩
    refine ⟨fun c27 => ?_, fun c27 => ?_⟩
    · skip
      replace c27 : r39 ≠ 0 := c27
      refine sm_263 hI (show (0 : Int) ≤ x1 ∧ x1 ≤ (3 : Int) from by omega) (fun r42 s41 hI29 fr28 q30 => ?_)
      have fr31 : lf_fq [96, 104, 107, 108, 1006] 3 true s.1 s.2.2 s41.1 s41.2.2 := lf_fq_tr (lf_fq_rf) (lf_fq_wk fr28 rfl (by decide) (by decide))
      exact sm_260_p91L (fun t9 i9 f9 => hQ t9 i9 (lf_fq_tr fr31 f9)) (fun p0 t9 i9 f9 => hX67 p0 t9 i9 (lf_fq_tr fr31 f9)) (show (4 - x1).toNat ≤ M67 from by omega) hI29 (show (0 : Int) ≤ x1 ∧ x1 ≤ (3 : Int) from by omega) (show (0 : Int) ≤ r42 ∧ r42 ≤ (100 : Int) from by omega) (show (0 : Int) ≤ 0 ∧ 0 ≤ (2147483646 : Int) from by omega)
    · skip
      replace c27 : ¬ (r39 ≠ 0) := c27
      exact sm_260_p107 hQ hX67 (show (4 - x1).toNat ≤ M67 from by omega) hI (show (0 : Int) ≤ x1 ∧ x1 ≤ (3 : Int) from by omega)
theorem sm_260_p67L {Q : lf_Z → Prop} {x1 : Int} {s : lf_Z} (hQ : ∀  (s' : lf_Z), iv_A s'.1 s'.2.2 → lf_fq [96, 104, 107, 108, 1006] 3 true s.1 s.2.2 s'.1 s'.2.2 → Q  s') (hI : iv_A s.1 s.2.2) (bx1 : 0 ≤ x1 ∧ x1 ≤ 4) : fm_260_p67L Q x1 s := by
  intro X67 hX
  have key : ∀ (m9 : Nat) (x1 : Int) (s' : lf_Z), iv_A s'.1 s'.2.2 → lf_fq [96, 104, 107, 108, 1006] 3 true s.1 s.2.2 s'.1 s'.2.2 → 0 ≤ x1 ∧ x1 ≤ 4 → (4 - x1).toNat < m9 → X67 x1 s' := by
    intro m9
    induction m9 with
    | zero => intro x1 s' _ _ bx1 h9; exact absurd h9 (Nat.not_lt_zero _)
    | succ m9 ih => intro x1 s' i7 f7 bx1 h9; exact hX _ _ (sm_260_p67 (fun t9 i9 f9 => hQ t9 i9 (lf_fq_tr f7 f9))   (fun x1' t8 i8 f8 bx1' h8 => ih x1' t8 i8 (lf_fq_tr f7 f8) bx1' (by omega)) (Nat.le_refl _)  i7  bx1  )
  exact key _ _ s hI lf_fq_rf bx1 (Nat.lt_succ_self _)
theorem sm_260_p59 {X2 : Int → lf_Z → Prop} {Q : lf_Z → Prop} {x1 : Int} {s : lf_Z} (hQ : ∀  (s' : lf_Z), iv_A s'.1 s'.2.2 → lf_fq [96, 104, 107, 108, 1006] 3 true s.1 s.2.2 s'.1 s'.2.2 → Q  s') {M2 : Nat} (hX2 : ∀ (x1 : Int) (s' : lf_Z), iv_A s'.1 s'.2.2 → lf_fq [96, 104, 107, 108, 1006] 3 true s.1 s.2.2 s'.1 s'.2.2 → 0 ≤ x1 ∧ x1 ≤ 6 → (6 - x1).toNat < M2 → X2 x1 s') (hM2 : (6 - x1).toNat ≤ M2) (hI : iv_A s.1 s.2.2) (bx1 : 0 ≤ x1 ∧ x1 ≤ 5) : fm_260_p59 X2 Q x1 s := by
  unfold fm_260_p59
  exact hX2 (x1 + 1) s hI (lf_fq_rf) (show (0 : Int) ≤ x1 + 1 ∧ x1 + 1 ≤ (6 : Int) from by omega) (show (6 - (x1 + 1)).toNat < M2 from by omega)
theorem sm_260_p38 {X2 : Int → lf_Z → Prop} {X38 : Int → lf_Z → Prop} {Q : lf_Z → Prop} {x1 : Int} {x2 : Int} {s : lf_Z} (hQ : ∀  (s' : lf_Z), iv_A s'.1 s'.2.2 → lf_fq [96, 104, 107, 108, 1006] 3 true s.1 s.2.2 s'.1 s'.2.2 → Q  s') {M2 : Nat} (hX2 : ∀ (x1 : Int) (s' : lf_Z), iv_A s'.1 s'.2.2 → lf_fq [96, 104, 107, 108, 1006] 3 true s.1 s.2.2 s'.1 s'.2.2 → 0 ≤ x1 ∧ x1 ≤ 6 → (6 - x1).toNat < M2 → X2 x1 s') (hM2 : (6 - x1).toNat ≤ M2) {M38 : Nat} (hX38 : ∀ (x2 : Int) (s' : lf_Z), iv_A s'.1 s'.2.2 → lf_fq [96, 104, 107, 108, 1006] 3 true s.1 s.2.2 s'.1 s'.2.2 → 0 ≤ x2 ∧ x2 ≤ 2 → (bf_G (s'.1 96) (s'.1 108) (s'.1 96 (126 + 6 * x1 + 4))) → (2 - x2).toNat < M38 → X38 x2 s') (hM38 : (2 - x2).toNat ≤ M38) (hI : iv_A s.1 s.2.2) (bx1 : 0 ≤ x1 ∧ x1 ≤ 5) (bx2 : 0 ≤ x2 ∧ x2 ≤ 2) (kv0 : bf_G (s.1 96) (s.1 108) (s.1 96 (126 + 6 * x1 + 4))) : fm_260_p38 X2 Q x1 X38 x2 s := by
  unfold fm_260_p38
  refine sm_239d hI (show (0 : Int) ≤ x1 ∧ x1 ≤ (5 : Int) from by omega) (fun r53 q46 => ?_)
  obtain ⟨q46, q46x⟩ := q46
  replace q46x : r53 = s.1 96 (126 + 6 * x1 + 1) := q46x
  refine ⟨(show lf_R x2 from lf_Rof (by omega)), ?_⟩
  refine ⟨(show lf_R r53 from lf_Rof (by omega)), ?_⟩
  refine ⟨fun c47 => ?_, fun c47 => ?_⟩
  · skip
    replace c47 : r53 < x2 := c47
    exact sm_260_p59 hQ hX2 (show (6 - x1).toNat ≤ M2 from by omega) hI (show (0 : Int) ≤ x1 ∧ x1 ≤ (5 : Int) from by omega)
  · skip
    replace c47 : ¬ (r53 < x2) := c47
    refine sm_262 hI (show (0 : Int) ≤ x1 ∧ x1 ≤ (5 : Int) from by omega) (show bf_G ((s.1 96)) ((s.1 108)) ((s.1 96) (126 + 6 * x1 + 4)) from by first | with_reducible assumption | assumption) (fun s56 hI49 fr48 ps51 => ?_)
    replace ps51 : ∀ i, i ≠ 126 + 6 * x1 + 3 → s56.1 96 i = (s.1 96) i := ps51
    have fr52 : lf_fq [96, 104, 107, 108, 1006] 3 true s.1 s.2.2 s56.1 s56.2.2 := lf_fq_tr (lf_fq_rf) (lf_fq_wk fr48 rfl (by decide) (by decide))
    have b53 : bf_G ((s56.1 96)) ((s56.1 108)) ((s56.1 96) (126 + 6 * x1 + 4)) := by first | exact bf_Gt (ps51 rfl) ((congrFun (fr48.1 96 rfl) _).trans (by omega)) | exact bf_Gt (bf_Gc kv0 (fr48.1 108 rfl) (fun i hi => ps51 i (by omega)) (bf_m16 hI)) (ps51 _ (by omega))
    exact hX38 (x2 + 1) s56 hI49 fr52 (show (0 : Int) ≤ x2 + 1 ∧ x2 + 1 ≤ (2 : Int) from by omega) (show bf_G ((s56.1 96)) ((s56.1 108)) ((s56.1 96) (126 + 6 * x1 + 4)) from by first | with_reducible assumption | assumption) (show (2 - (x2 + 1)).toNat < M38 from by omega)
theorem sm_260_p38L {X2 : Int → lf_Z → Prop} {Q : lf_Z → Prop} {x1 : Int} {x2 : Int} {s : lf_Z} (hQ : ∀  (s' : lf_Z), iv_A s'.1 s'.2.2 → lf_fq [96, 104, 107, 108, 1006] 3 true s.1 s.2.2 s'.1 s'.2.2 → Q  s') {M2 : Nat} (hX2 : ∀ (x1 : Int) (s' : lf_Z), iv_A s'.1 s'.2.2 → lf_fq [96, 104, 107, 108, 1006] 3 true s.1 s.2.2 s'.1 s'.2.2 → 0 ≤ x1 ∧ x1 ≤ 6 → (6 - x1).toNat < M2 → X2 x1 s') (hM2 : (6 - x1).toNat ≤ M2) (hI : iv_A s.1 s.2.2) (bx1 : 0 ≤ x1 ∧ x1 ≤ 5) (bx2 : 0 ≤ x2 ∧ x2 ≤ 2) (kv0 : bf_G (s.1 96) (s.1 108) (s.1 96 (126 + 6 * x1 + 4))) : fm_260_p38L X2 Q x1 x2 s := by
  intro X38 hX
  have key : ∀ (m9 : Nat) (x2 : Int) (s' : lf_Z), iv_A s'.1 s'.2.2 → lf_fq [96, 104, 107, 108, 1006] 3 true s.1 s.2.2 s'.1 s'.2.2 → 0 ≤ x2 ∧ x2 ≤ 2 → (bf_G (s'.1 96) (s'.1 108) (s'.1 96 (126 + 6 * x1 + 4))) → (2 - x2).toNat < m9 → X38 x2 s' := by
    intro m9
    induction m9 with
    | zero => intro x2 s' _ _ bx2 kv0 h9; exact absurd h9 (Nat.not_lt_zero _)
    | succ m9 ih => intro x2 s' i7 f7 bx2 kv0 h9; exact hX _ _ (sm_260_p38 (fun t9 i9 f9 => hQ t9 i9 (lf_fq_tr f7 f9))  (fun p0 t9 i9 f9 => hX2 p0 t9 i9 (lf_fq_tr f7 f9)) hM2 (fun x2' t8 i8 f8 bx2' kv0' h8 => ih x2' t8 i8 (lf_fq_tr f7 f8) bx2' kv0' (by omega)) (Nat.le_refl _)  i7  bx1 bx2  kv0)
  exact key _ _ s hI lf_fq_rf bx2 kv0 (Nat.lt_succ_self _)
theorem sm_260_p2 {X2 : Int → lf_Z → Prop} {Q : lf_Z → Prop} {x1 : Int} {s : lf_Z} (hQ : ∀  (s' : lf_Z), iv_A s'.1 s'.2.2 → lf_fq [96, 104, 107, 108, 1006] 3 true s.1 s.2.2 s'.1 s'.2.2 → Q  s') {M2 : Nat} (hX2 : ∀ (x1 : Int) (s' : lf_Z), iv_A s'.1 s'.2.2 → lf_fq [96, 104, 107, 108, 1006] 3 true s.1 s.2.2 s'.1 s'.2.2 → 0 ≤ x1 ∧ x1 ≤ 6 → (6 - x1).toNat < M2 → X2 x1 s') (hM2 : (6 - x1).toNat ≤ M2) (hI : iv_A s.1 s.2.2) (bx1 : 0 ≤ x1 ∧ x1 ≤ 6) : fm_260_p2 Q X2 x1 s := by
  unfold fm_260_p2
  have b1 : 0 ≤ s.1 96 2 ∧ s.1 96 2 ≤ 6 := iv_rd96 hI (iv_f2103129b (by omega))
  have b2 : s.1 96 2 ≤ 0 ∨ 0 < s.1 96 0 := (show s.1 96 2 ≤ 0 ∨ 0 < s.1 96 0 from iv_l96_2 hI)
  refine ⟨(show lf_R x1 from lf_Rof (by omega)), ?_⟩
  refine ⟨(show lf_R (s.1 96 2) from lf_Rof (by omega)), ?_⟩
  refine ⟨fun c3 => ?_, fun c3 => ?_⟩
  · skip
    replace c3 : s.1 96 2 ≤ x1 := c3
    exact sm_260_p67L hQ hI (show (0 : Int) ≤ 0 ∧ 0 ≤ (4 : Int) from by omega)
  · skip
    replace c3 : ¬ (s.1 96 2 ≤ x1) := c3
    refine sm_239b hI (show (0 : Int) ≤ x1 ∧ x1 ≤ (5 : Int) from by omega) (fun r47 q37 => ?_)
    obtain ⟨q37, q37x⟩ := q37
    replace q37x : r47 = s.1 96 (126 + 6 * x1 + 4) := q37x
    refine ⟨(show lf_R r47 from lf_Rof (by omega)), ?_⟩
    refine ⟨fun c38 => ?_, fun c38 => ?_⟩
    · skip
      replace c38 : r47 ≠ (-1) := c38
      refine sm_239b hI (show (0 : Int) ≤ x1 ∧ x1 ≤ (5 : Int) from by omega) (fun r50 q39 => ?_)
      obtain ⟨q39, q39x⟩ := q39
      replace q39x : r50 = s.1 96 (126 + 6 * x1 + 4) := q39x
      refine sm_261 hI (show (-1 : Int) ≤ r50 ∧ r50 ≤ (11 : Int) from by omega) (show (0 : Int) ≤ 1 ∧ 1 ≤ (1 : Int) from by omega) (fun s51 hI41 fr40 ps43 => ?_)
      replace ps43 : (1 : Int) = 1 → bf_G (s51.1 96) (s51.1 108) (r50) := ps43
      have fr44 : lf_fq [96, 104, 107, 108, 1006] 3 true s.1 s.2.2 s51.1 s51.2.2 := lf_fq_tr (lf_fq_rf) (lf_fq_wk fr40 rfl (by decide) (by decide))
      have b45 : bf_G ((s51.1 96)) ((s51.1 108)) ((s51.1 96) (126 + 6 * x1 + 4)) := by first | exact bf_Gt (ps43 rfl) ((congrFun (fr40.1 96 rfl) _).trans (by omega)) | exact bf_Gt (bf_Gc kv0 (fr40.1 108 rfl) (fun i hi => ps43 i (by omega)) (bf_m16 hI)) (ps43 _ (by omega))
      exact sm_260_p38L (fun t9 i9 f9 => hQ t9 i9 (lf_fq_tr fr44 f9)) (fun p0 t9 i9 f9 => hX2 p0 t9 i9 (lf_fq_tr fr44 f9)) (show (6 - x1).toNat ≤ M2 from by omega) hI41 (show (0 : Int) ≤ x1 ∧ x1 ≤ (5 : Int) from by omega) (show (0 : Int) ≤ 0 ∧ 0 ≤ (2 : Int) from by omega) (show bf_G ((s51.1 96)) ((s51.1 108)) ((s51.1 96) (126 + 6 * x1 + 4)) from by first | with_reducible assumption | assumption)
    · skip
      replace c38 : ¬ (r47 ≠ (-1)) := c38
      exact sm_260_p59 hQ hX2 (show (6 - x1).toNat ≤ M2 from by omega) hI (show (0 : Int) ≤ x1 ∧ x1 ≤ (5 : Int) from by omega)
theorem sm_260_p2L {Q : lf_Z → Prop} {x1 : Int} {s : lf_Z} (hQ : ∀  (s' : lf_Z), iv_A s'.1 s'.2.2 → lf_fq [96, 104, 107, 108, 1006] 3 true s.1 s.2.2 s'.1 s'.2.2 → Q  s') (hI : iv_A s.1 s.2.2) (bx1 : 0 ≤ x1 ∧ x1 ≤ 6) : fm_260_p2L Q x1 s := by
  intro X2 hX
  have key : ∀ (m9 : Nat) (x1 : Int) (s' : lf_Z), iv_A s'.1 s'.2.2 → lf_fq [96, 104, 107, 108, 1006] 3 true s.1 s.2.2 s'.1 s'.2.2 → 0 ≤ x1 ∧ x1 ≤ 6 → (6 - x1).toNat < m9 → X2 x1 s' := by
    intro m9
    induction m9 with
    | zero => intro x1 s' _ _ bx1 h9; exact absurd h9 (Nat.not_lt_zero _)
    | succ m9 ih => intro x1 s' i7 f7 bx1 h9; exact hX _ _ (sm_260_p2 (fun t9 i9 f9 => hQ t9 i9 (lf_fq_tr f7 f9))   (fun x1' t8 i8 f8 bx1' h8 => ih x1' t8 i8 (lf_fq_tr f7 f8) bx1' (by omega)) (Nat.le_refl _)  i7  bx1  )
  exact key _ _ s hI lf_fq_rf bx1 (Nat.lt_succ_self _)
theorem sm_260 {Q : lf_Z → Prop} {s : lf_Z} (hI : iv_A s.1 s.2.2) (hQ : ∀  (s' : lf_Z), iv_A s'.1 s'.2.2 → lf_fq [96, 104, 107, 108, 1006] 3 true s.1 s.2.2 s'.1 s'.2.2 → Q  s') : fm_260 Q s := by
  unfold fm_260
  exact sm_260_p2L hQ hI (show (0 : Int) ≤ 0 ∧ 0 ≤ (6 : Int) from by omega)
-- fm_259 Model.passStep 95
theorem sm_259 {Q : Bool → lf_Z → Prop} {s : lf_Z} (hI : iv_A s.1 s.2.2) (hQ : ∀ (z : Bool) (s' : lf_Z), iv_A s'.1 s'.2.2 → lf_fq [96, 104, 107, 108, 1005, 1006] 3 true s.1 s.2.2 s'.1 s'.2.2 → Q z s') : fm_259 Q s := by
  unfold fm_259
  have b1 : (-2147483648) ≤ s.1 96 3 ∧ s.1 96 3 ≤ 2147483647 := iv_full hI
  refine ⟨(show lf_R (s.1 96 3) from lf_Rof (by omega)), ?_⟩
  refine ⟨fun c2 => ?_, fun c2 => ?_⟩
  · skip
    replace c2 : s.1 96 3 ≠ 999 := c2
    refine sm_244 hI (fun s22 hI4 fr3 ps6 => ?_)
    replace ps6 : kp_F ((s.1 96)) (s22.1 96) := ps6
    have fr7 : lf_fq [96, 104, 107, 108, 1005, 1006] 3 true s.1 s.2.2 s22.1 s22.2.2 := lf_fq_tr (lf_fq_rf) (lf_fq_wk fr3 rfl (by decide) (by decide))
    refine sm_260 hI4 (fun s23 hI9 fr8 => ?_)
    have fr11 : lf_fq [96, 104, 107, 108, 1005, 1006] 3 true s.1 s.2.2 s23.1 s23.2.2 := lf_fq_tr fr7 (lf_fq_wk fr8 rfl (by decide) (by decide))
    exact hQ true s23 hI9 fr11
  · skip
    replace c2 : ¬ (s.1 96 3 ≠ 999) := c2
    exact hQ false s hI (lf_fq_rf)
-- fm_258 Model.areMinutes 95 i
theorem sm_258_p2 {X2 : Int → lf_Z → Prop} {Q : Bool → lf_Z → Prop} {x1 : Int} {x2 : Int} {s : lf_Z} (hQ : ∀ (z : Bool) (s' : lf_Z), iv_A s'.1 s'.2.2 → lf_fq [96, 104, 107, 108, 1005, 1006] 3 true s.1 s.2.2 s'.1 s'.2.2 → Q z s') {M2 : Nat} (hX2 : ∀ (x2 : Int) (s' : lf_Z), iv_A s'.1 s'.2.2 → lf_fq [96, 104, 107, 108, 1005, 1006] 3 true s.1 s.2.2 s'.1 s'.2.2 → 0 ≤ x2 ∧ x2 ≤ 2147483647 → (2147483647 - x2).toNat < M2 → X2 x2 s') (hM2 : (2147483647 - x2).toNat ≤ M2) (hI : iv_A s.1 s.2.2) (bx1 : (-2147483648) ≤ x1 ∧ x1 ≤ 2147483647) (bx2 : 0 ≤ x2 ∧ x2 ≤ 2147483647) : fm_258_p2 Q x1 X2 x2 s := by
  unfold fm_258_p2
  refine ⟨(show lf_R x2 from lf_Rof (by omega)), ?_⟩
  refine ⟨(show lf_R x1 from lf_Rof (by omega)), ?_⟩
  refine ⟨fun c1 => ?_, fun c1 => ?_⟩
  · skip
    replace c1 : x1 ≤ x2 := c1
    exact hQ true s hI (lf_fq_rf)
  · skip
    replace c1 : ¬ (x1 ≤ x2) := c1
    refine sm_259 hI (fun z24 s23 hI3 fr2 => ?_)
    have fr5 : lf_fq [96, 104, 107, 108, 1005, 1006] 3 true s.1 s.2.2 s23.1 s23.2.2 := lf_fq_tr (lf_fq_rf) (lf_fq_wk fr2 rfl (by decide) (by decide))
    refine ⟨fun c6 => ?_, fun c6 => ?_⟩
    · skip
      exact hX2 (x2 + 1) s23 hI3 fr5 (show (0 : Int) ≤ x2 + 1 ∧ x2 + 1 ≤ (2147483647 : Int) from by omega) (show (2147483647 - (x2 + 1)).toNat < M2 from by omega)
    · skip
      exact hQ false s23 hI3 fr5
theorem sm_258_p2L {Q : Bool → lf_Z → Prop} {x1 : Int} {x2 : Int} {s : lf_Z} (hQ : ∀ (z : Bool) (s' : lf_Z), iv_A s'.1 s'.2.2 → lf_fq [96, 104, 107, 108, 1005, 1006] 3 true s.1 s.2.2 s'.1 s'.2.2 → Q z s') (hI : iv_A s.1 s.2.2) (bx1 : (-2147483648) ≤ x1 ∧ x1 ≤ 2147483647) (bx2 : 0 ≤ x2 ∧ x2 ≤ 2147483647) : fm_258_p2L Q x1 x2 s := by
  intro X2 hX
  have key : ∀ (m9 : Nat) (x2 : Int) (s' : lf_Z), iv_A s'.1 s'.2.2 → lf_fq [96, 104, 107, 108, 1005, 1006] 3 true s.1 s.2.2 s'.1 s'.2.2 → 0 ≤ x2 ∧ x2 ≤ 2147483647 → (2147483647 - x2).toNat < m9 → X2 x2 s' := by
    intro m9
    induction m9 with
    | zero => intro x2 s' _ _ bx2 h9; exact absurd h9 (Nat.not_lt_zero _)
    | succ m9 ih => intro x2 s' i7 f7 bx2 h9; exact hX _ _ (sm_258_p2 (fun r9 t9 i9 f9 => hQ r9 t9 i9 (lf_fq_tr f7 f9))   (fun x2' t8 i8 f8 bx2' h8 => ih x2' t8 i8 (lf_fq_tr f7 f8) bx2' (by omega)) (Nat.le_refl _)  i7  bx1 bx2  )
  exact key _ _ s hI lf_fq_rf bx2 (Nat.lt_succ_self _)
theorem sm_258 {a1 : Int} {Q : Bool → lf_Z → Prop} {s : lf_Z} (hI : iv_A s.1 s.2.2) (ba1 : (-2147483648) ≤ a1 ∧ a1 ≤ 2147483647) (hQ : ∀ (z : Bool) (s' : lf_Z), iv_A s'.1 s'.2.2 → lf_fq [96, 104, 107, 108, 1005, 1006] 3 true s.1 s.2.2 s'.1 s'.2.2 → Q z s') : fm_258 a1 Q s := by
  unfold fm_258
  exact sm_258_p2L hQ hI (show (-2147483648 : Int) ≤ a1 ∧ a1 ≤ (2147483647 : Int) from by omega) (show (0 : Int) ≤ 0 ∧ 0 ≤ (2147483647 : Int) from by omega)
-- fm_279 Model.allDone 95
theorem sm_279_p4 {X4 : Int → Int → lf_Z → Prop} {Q : Int → lf_Z → Prop} {x1 : Int} {x2 : Int} {s : lf_Z} (hQ : ∀ (r : Int), ((-2147483648) ≤ r ∧ r ≤ 2147483647) → Q r s) {M4 : Nat} (hX4 : ∀ (x1 : Int) (x2 : Int), (-2147483648) ≤ x1 ∧ x1 ≤ 2147483647 → 0 ≤ x2 ∧ x2 ≤ 12 → (12 - x2).toNat < M4 → X4 x1 x2 s) (hM4 : (12 - x2).toNat ≤ M4) (hI : iv_A s.1 s.2.2) (bx1 : (-2147483648) ≤ x1 ∧ x1 ≤ 2147483647) (bx2 : 0 ≤ x2 ∧ x2 ≤ 12) : fm_279_p4 Q X4 x1 x2 s := by
  unfold fm_279_p4
  have b1 : 0 ≤ s.1 96 0 ∧ s.1 96 0 ≤ 12 := iv_rd96 hI (iv_f3e1fa21c (by omega))
  refine ⟨(show lf_R x2 from lf_Rof (by omega)), ?_⟩
  refine ⟨(show lf_R (s.1 96 0) from lf_Rof (by omega)), ?_⟩
  refine ⟨fun c2 => ?_, fun c2 => ?_⟩
  · skip
    replace c2 : s.1 96 0 ≤ x2 := c2
    exact hQ x1 (show (-2147483648 : Int) ≤ x1 ∧ x1 ≤ (2147483647 : Int) from by omega)
  · skip
    replace c2 : ¬ (s.1 96 0 ≤ x2) := c2
    refine sm_246 hI (show (0 : Int) ≤ x2 ∧ x2 ≤ (11 : Int) from by omega) (fun r24 q3 => ?_)
    have b4 : (-2147483648) ≤ lf_w (x1 + r24) ∧ lf_w (x1 + r24) ≤ 2147483647 := lf_wB
    exact hX4 (lf_w (x1 + r24)) (x2 + 1) (show (-2147483648 : Int) ≤ lf_w (x1 + r24) ∧ lf_w (x1 + r24) ≤ (2147483647 : Int) from by omega) (show (0 : Int) ≤ x2 + 1 ∧ x2 + 1 ≤ (12 : Int) from by omega) (show (12 - (x2 + 1)).toNat < M4 from by omega)
theorem sm_279_p4L {Q : Int → lf_Z → Prop} {x1 : Int} {x2 : Int} {s : lf_Z} (hQ : ∀ (r : Int), ((-2147483648) ≤ r ∧ r ≤ 2147483647) → Q r s) (hI : iv_A s.1 s.2.2) (bx1 : (-2147483648) ≤ x1 ∧ x1 ≤ 2147483647) (bx2 : 0 ≤ x2 ∧ x2 ≤ 12) : fm_279_p4L Q x1 x2 s := by
  intro X4 hX
  have key : ∀ (m9 : Nat) (x1 : Int) (x2 : Int), (-2147483648) ≤ x1 ∧ x1 ≤ 2147483647 → 0 ≤ x2 ∧ x2 ≤ 12 → (12 - x2).toNat < m9 → X4 x1 x2 s := by
    intro m9
    induction m9 with
    | zero => intro x1 x2 bx1 bx2 h9; exact absurd h9 (Nat.not_lt_zero _)
    | succ m9 ih => intro x1 x2 bx1 bx2 h9; exact hX _ _ _ (sm_279_p4 hQ   (fun x1' x2' bx1' bx2' h8 => ih x1' x2' bx1' bx2' (by omega)) (Nat.le_refl _)  hI  bx1 bx2  )
  exact key _ _ _ bx1 bx2   (Nat.lt_succ_self _)
theorem sm_279 {Q : Int → lf_Z → Prop} {s : lf_Z} (hI : iv_A s.1 s.2.2) (hQ : ∀ (r : Int), ((-2147483648) ≤ r ∧ r ≤ 2147483647) → Q r s) : fm_279 Q s := by
  unfold fm_279
  exact sm_279_p4L hQ hI (show (-2147483648 : Int) ≤ 0 ∧ 0 ≤ (2147483647 : Int) from by omega) (show (0 : Int) ≤ 0 ∧ 0 ≤ (12 : Int) from by omega)
-- fm_257 Model.minute 95 i
theorem sm_257 {a1 : Int} {Q : Int → lf_Z → Prop} {s : lf_Z} (hI : iv_A s.1 s.2.2) (ba1 : (-2147483648) ≤ a1 ∧ a1 ≤ 2147483647) (hQ : ∀ (r : Int) (s' : lf_Z), iv_A s'.1 s'.2.2 → lf_fq [96, 104, 107, 108, 1005, 1006] 3 true s.1 s.2.2 s'.1 s'.2.2 → ((-2147483648) ≤ r ∧ r ≤ 2147483647) → Q r s') : fm_257 a1 Q s := by
  unfold fm_257
  refine sm_183 hI (show (-2147483648 : Int) ≤ a1 ∧ a1 ≤ (2147483647 : Int) from by omega) (show (-1 : Int) ≤ 1 ∧ 1 ≤ (97 : Int) from by omega) (show (-1 : Int) ≤ 60 ∧ 60 ≤ (9999 : Int) from by omega) (fun z22 q1 => ?_)
  refine ⟨fun c2 => ?_, fun c2 => ?_⟩
  · skip
    have dc2 := q1.2 c2
    exact hQ (-1) s hI (lf_fq_rf) (show (-2147483648 : Int) ≤ (-1) ∧ (-1) ≤ (2147483647 : Int) from by omega)
  · skip
    have dc2 := q1.1 c2
    have b3 : (-2147483648) ≤ s.1 96 3 ∧ s.1 96 3 ≤ 2147483647 := iv_full hI
    have b4 : (-2147483648) ≤ lf_w ((s.1 96 3) + a1) ∧ lf_w ((s.1 96 3) + a1) ≤ 2147483647 := lf_wB
    refine ⟨fun c5 => ?_, fun c5 => ?_⟩
    · skip
      replace c5 : 999 < lf_w ((s.1 96 3) + a1) := c5
      exact hQ (-1) s hI (lf_fq_rf) (show (-2147483648 : Int) ≤ (-1) ∧ (-1) ≤ (2147483647 : Int) from by omega)
    · skip
      replace c5 : ¬ (999 < lf_w ((s.1 96 3) + a1)) := c5
      refine sm_258 hI (show (-2147483648 : Int) ≤ a1 ∧ a1 ≤ (2147483647 : Int) from by omega) (fun z24 s23 hI7 fr6 => ?_)
      have fr9 : lf_fq [96, 104, 107, 108, 1005, 1006] 3 true s.1 s.2.2 s23.1 s23.2.2 := lf_fq_tr (lf_fq_rf) (lf_fq_wk fr6 rfl (by decide) (by decide))
      refine ⟨fun c10 => ?_, fun c10 => ?_⟩
      · skip
        exact hQ (-1) s23 hI7 fr9 (show (-2147483648 : Int) ≤ (-1) ∧ (-1) ≤ (2147483647 : Int) from by omega)
      · skip
        refine sm_279 hI7 (fun r26 q11 => ?_)
        exact hQ r26 s23 hI7 fr9 (show (-2147483648 : Int) ≤ r26 ∧ r26 ≤ (2147483647 : Int) from by omega)
-- fm_99 Land.hasPerson 1 i
theorem sm_99 {a1 : Int} {Q : Bool → lf_Z → Prop} {s : lf_Z} (hI : iv_A s.1 s.2.2) (ba1 : (-2147483648) ≤ a1 ∧ a1 ≤ 2147483647) (hQ : ∀ (z : Bool), ((z = true → (0 ≤ a1 ∧ a1 < s.1 1 2)) ∧ (z = false → ¬ (0 ≤ a1 ∧ a1 < s.1 1 2))) → Q z s) : fm_99 a1 Q s := by
  unfold fm_99
  refine ⟨(show lf_R a1 from lf_Rof (by omega)), ?_⟩
  refine ⟨fun c1 => ?_, fun c1 => ?_⟩
  · skip
    replace c1 : a1 < 0 := c1
    exact hQ false (lf_pf (by omega))
  · skip
    replace c1 : ¬ (a1 < 0) := c1
    have b2 : 0 ≤ s.1 1 2 ∧ s.1 1 2 ≤ 6 := iv_r1_2 hI
    refine ⟨(show lf_R (s.1 1 2) from lf_Rof (by omega)), ?_⟩
    refine ⟨fun c3 => ?_, fun c3 => ?_⟩
    · skip
      replace c3 : s.1 1 2 ≤ a1 := c3
      exact hQ false (lf_pf (by omega))
    · skip
      replace c3 : ¬ (s.1 1 2 ≤ a1) := c3
      exact hQ true (lf_pt (by omega))
-- fm_98 ElevenBullocks.send 0 i i
theorem sm_98 {a1 : Int} {a2 : Int} {Q : Bool → lf_Z → Prop} {s : lf_Z} (hI : iv_A s.1 s.2.2) (ba1 : (-2147483648) ≤ a1 ∧ a1 ≤ 2147483647) (ba2 : (-2147483648) ≤ a2 ∧ a2 ≤ 2147483647) (hQ : ∀ (z : Bool) (s' : lf_Z), iv_A s'.1 s'.2.2 → lf_fq [20, 22, 23, 24] 1000000 true s.1 s.2.2 s'.1 s'.2.2 → Q z s') : fm_98 a1 a2 Q s := by
  unfold fm_98
  refine sm_99 hI (show (-2147483648 : Int) ≤ a1 ∧ a1 ≤ (2147483647 : Int) from by omega) (fun z22 q1 => ?_)
  have b2 : 0 ≤ s.1 1 2 ∧ s.1 1 2 ≤ 6 := iv_r1_2 hI
  refine ⟨fun c3 => ?_, fun c3 => ?_⟩
  · skip
    have dc3 := q1.2 c3
    exact hQ false s hI (lf_fq_rf)
  · skip
    have dc3 := q1.1 c3
    have b4 : 0 ≤ s.1 1 0 ∧ s.1 1 0 ≤ 12 := iv_r1_0 hI
    refine sm_15 hI (show (-2147483648 : Int) ≤ a2 ∧ a2 ≤ (2147483647 : Int) from by omega) (show (-1 : Int) ≤ (-1) ∧ (-1) ≤ (99 : Int) from by omega) (show (-2147483648 : Int) ≤ (s.1 1 0) - 1 ∧ (s.1 1 0) - 1 ≤ (2147483647 : Int) from by omega) (fun z24 q5 => ?_)
    refine ⟨fun c6 => ?_, fun c6 => ?_⟩
    · skip
      have dc6 := q5.2 c6
      exact hQ false s hI (lf_fq_rf)
    · skip
      have dc6 := q5.1 c6
      refine ⟨(show (0 : Int) ≤ a1 ∧ a1 < (6 : Int) from by omega), ?_⟩
      have b7 : (-2147483648) ≤ s.1 20 a1 ∧ s.1 20 a1 ≤ 2147483647 := iv_full hI
      refine ⟨(show lf_R (s.1 20 a1) from lf_Rof (by omega)), ?_⟩
      refine ⟨(show lf_R a2 from lf_Rof (by omega)), ?_⟩
      refine ⟨fun c8 => ?_, fun c8 => ?_⟩
      · skip
        replace c8 : s.1 20 a1 ≠ a2 := c8
        refine sm_67 hI (show (0 : Int) ≤ s.1 1 2 ∧ s.1 1 2 ≤ (6 : Int) from by omega) (fun s28 hI10 fr9 => ?_)
        have fr12 : lf_fq [20, 22, 23, 24] 1000000 true s.1 s.2.2 s28.1 s28.2.2 := lf_fq_tr (lf_fq_rf) (lf_fq_wk fr9 rfl (by decide) (by decide))
        have hI13 : iv_A (lf_up s28.1 20 a1 a2) s28.2.2 := iv_w20 hI10 (by omega)
        have fr14 : lf_fq [20, 22, 23, 24] 1000000 true s.1 s.2.2 (lf_up s28.1 20 a1 a2) s28.2.2 := lf_fq_up fr12 rfl (fun h => absurd h (by decide))
        exact hQ true (lf_up s28.1 20 a1 a2, s28.2.1, s28.2.2) hI13 fr14
      · skip
        replace c8 : ¬ (s.1 20 a1 ≠ a2) := c8
        exact hQ false s hI (lf_fq_rf)
-- fm_249 Model.isPerson 95 i
theorem sm_249 {a1 : Int} {Q : Bool → lf_Z → Prop} {s : lf_Z} (hI : iv_A s.1 s.2.2) (ba1 : (-2147483648) ≤ a1 ∧ a1 ≤ 2147483647) (hQ : ∀ (z : Bool), ((z = true → (0 ≤ a1 ∧ a1 < s.1 96 2)) ∧ (z = false → ¬ (0 ≤ a1 ∧ a1 < s.1 96 2))) → Q z s) : fm_249 a1 Q s := by
  unfold fm_249
  have b1 : 0 ≤ s.1 96 2 ∧ s.1 96 2 ≤ 6 := iv_rd96 hI (iv_f2103129b (by omega))
  have b2 : s.1 96 2 ≤ 0 ∨ 0 < s.1 96 0 := (show s.1 96 2 ≤ 0 ∨ 0 < s.1 96 0 from iv_l96_2 hI)
  refine sm_183 hI (show (-2147483648 : Int) ≤ a1 ∧ a1 ≤ (2147483647 : Int) from by omega) (show (-1 : Int) ≤ 0 ∧ 0 ≤ (97 : Int) from by omega) (show (-1 : Int) ≤ (s.1 96 2) - 1 ∧ (s.1 96 2) - 1 ≤ (9999 : Int) from by omega) (fun z22 q3 => ?_)
  exact hQ z22 ⟨fun h9 => by have h8 := q3.1 h9; omega, fun h9 => by have h8 := q3.2 h9; omega⟩
-- fm_248 Model.send 95 i i
theorem sm_248_p21 {Q : Bool → lf_Z → Prop} {x1 : Int} {x2 : Int} {s : lf_Z} (hQ : ∀ (z : Bool) (s' : lf_Z), iv_A s'.1 s'.2.2 → lf_fq [96, 1005, 1006] 9 true s.1 s.2.2 s'.1 s'.2.2 → Q z s') (hI : iv_A s.1 s.2.2) (bx1 : 0 ≤ x1 ∧ x1 ≤ 5) (bx2 : (-1) ≤ x2 ∧ x2 ≤ 11) : fm_248_p21 Q x1 x2 s := by
  unfold fm_248_p21
  refine sm_239b hI (show (0 : Int) ≤ x1 ∧ x1 ≤ (5 : Int) from by omega) (fun r25 q6 => ?_)
  obtain ⟨q6, q6x⟩ := q6
  replace q6x : r25 = s.1 96 (126 + 6 * x1 + 4) := q6x
  refine ⟨(show lf_R r25 from lf_Rof (by omega)), ?_⟩
  refine ⟨(show lf_R x2 from lf_Rof (by omega)), ?_⟩
  refine ⟨fun c7 => ?_, fun c7 => ?_⟩
  · skip
    replace c7 : r25 ≠ x2 := c7
    refine sm_244 hI (fun s28 hI9 fr8 ps11 => ?_)
    replace ps11 : kp_F ((s.1 96)) (s28.1 96) := ps11
    have fr12 : lf_fq [96, 1005, 1006] 9 true s.1 s.2.2 s28.1 s28.2.2 := lf_fq_tr (lf_fq_rf) (lf_fq_wk fr8 rfl (by decide) (by decide))
    refine sm_191e hI9 (show (0 : Int) ≤ x1 ∧ x1 ≤ (5 : Int) from by omega) (show (-1 : Int) ≤ x2 ∧ x2 ≤ (11 : Int) from by omega) (fun s29 hI14 fr13 ps16 => ?_)
    replace ps16 : ∀ i, i ≠ 126 + 6 * x1 + 4 → s29.1 96 i = (s28.1 96) i := ps16
    have fr17 : lf_fq [96, 1005, 1006] 9 true s.1 s.2.2 s29.1 s29.2.2 := lf_fq_tr fr12 (lf_fq_wk fr13 rfl (by decide) (by decide))
    exact hQ true s29 hI14 fr17
  · skip
    replace c7 : ¬ (r25 ≠ x2) := c7
    exact hQ false s hI (lf_fq_rf)
theorem sm_248 {a1 : Int} {a2 : Int} {Q : Bool → lf_Z → Prop} {s : lf_Z} (hI : iv_A s.1 s.2.2) (ba1 : (-2147483648) ≤ a1 ∧ a1 ≤ 2147483647) (ba2 : (-2147483648) ≤ a2 ∧ a2 ≤ 2147483647) (hQ : ∀ (z : Bool) (s' : lf_Z), iv_A s'.1 s'.2.2 → lf_fq [96, 1005, 1006] 9 true s.1 s.2.2 s'.1 s'.2.2 → Q z s') : fm_248 a1 a2 Q s := by
  unfold fm_248
  refine sm_249 hI (show (-2147483648 : Int) ≤ a1 ∧ a1 ≤ (2147483647 : Int) from by omega) (fun z22 q1 => ?_)
  have b2 : 0 ≤ s.1 96 2 ∧ s.1 96 2 ≤ 6 := iv_rd96 hI (iv_f2103129b (by omega))
  have b3 : s.1 96 2 ≤ 0 ∨ 0 < s.1 96 0 := (show s.1 96 2 ≤ 0 ∨ 0 < s.1 96 0 from iv_l96_2 hI)
  refine ⟨fun c4 => ?_, fun c4 => ?_⟩
  · skip
    have dc4 := q1.2 c4
    exact hQ false s hI (lf_fq_rf)
  · skip
    have dc4 := q1.1 c4
    refine ⟨(show lf_R a2 from lf_Rof (by omega)), ?_⟩
    refine ⟨fun c5 => ?_, fun c5 => ?_⟩
    · skip
      replace c5 : a2 = (-1) := c5
      exact sm_248_p21 hQ hI (show (0 : Int) ≤ a1 ∧ a1 ≤ (5 : Int) from by omega) (show (-1 : Int) ≤ a2 ∧ a2 ≤ (11 : Int) from by omega)
    · skip
      replace c5 : ¬ (a2 = (-1)) := c5
      refine sm_185 hI (show (-2147483648 : Int) ≤ a2 ∧ a2 ≤ (2147483647 : Int) from by omega) (fun z31 q18 => ?_)
      have b19 : 0 ≤ s.1 96 0 ∧ s.1 96 0 ≤ 12 := iv_rd96 hI (iv_f3e1fa21c (by omega))
      refine ⟨fun c20 => ?_, fun c20 => ?_⟩
      · skip
        have dc20 := q18.2 c20
        exact hQ false s hI (lf_fq_rf)
      · skip
        have dc20 := q18.1 c20
        exact sm_248_p21 hQ hI (show (0 : Int) ≤ a1 ∧ a1 ≤ (5 : Int) from by omega) (show (-1 : Int) ≤ a2 ∧ a2 ≤ (11 : Int) from by omega)
-- fm_101 Stand.turn 15 i
theorem sm_101 {a1 : Int} {Q : lf_Z → Prop} {s : lf_Z} (hI : iv_A s.1 s.2.2) (ba1 : 0 ≤ a1 ∧ a1 ≤ 15) (hQ : ∀  (s' : lf_Z), iv_A s'.1 s'.2.2 → lf_fq [15] 1000000 true s.1 s.2.2 s'.1 s'.2.2 → Q  s') : fm_101 a1 Q s := by
  unfold fm_101
  have b1 : (-2147483648) ≤ s.1 15 6 ∧ s.1 15 6 ≤ 2147483647 := iv_full hI
  have b2 : 1 ≤ lf_shl 1 a1 ∧ lf_shl 1 a1 ≤ 32768 := lf_shl1 (m := 15) (by omega) (by omega) (by decide)
  have b3 : (-2147483648) ≤ lf_xor (s.1 15 6) (lf_shl 1 a1) ∧ lf_xor (s.1 15 6) (lf_shl 1 a1) ≤ 2147483647 := lf_xorB
  have hI4 : iv_A (lf_up s.1 15 6 (lf_xor (s.1 15 6) (lf_shl 1 a1))) s.2.2 := iv_w15_6 hI (by omega)
  have fr5 : lf_fq [15] 1000000 true s.1 s.2.2 (lf_up s.1 15 6 (lf_xor (s.1 15 6) (lf_shl 1 a1))) s.2.2 := lf_fq_up (lf_fq_rf) rfl (fun h => absurd h (by decide))
  exact hQ (lf_up s.1 15 6 (lf_xor (s.1 15 6) (lf_shl 1 a1)), s.2.1, s.2.2) hI4 fr5
-- fm_100 ElevenBullocks.gate 0 i i
theorem sm_100 {a1 : Int} {a2 : Int} {Q : Bool → lf_Z → Prop} {s : lf_Z} (hI : iv_A s.1 s.2.2) (ba1 : (-2147483648) ≤ a1 ∧ a1 ≤ 2147483647) (ba2 : 0 ≤ a2 ∧ a2 ≤ 1) (hQ : ∀ (z : Bool) (s' : lf_Z), iv_A s'.1 s'.2.2 → lf_fq [15, 22, 23, 24] 1000000 true s.1 s.2.2 s'.1 s'.2.2 → Q z s') : fm_100 a1 a2 Q s := by
  unfold fm_100
  refine sm_89 hI (show (-2147483648 : Int) ≤ a1 ∧ a1 ≤ (2147483647 : Int) from by omega) (fun z22 q1 => ?_)
  have b2 : 0 ≤ s.1 1 1 ∧ s.1 1 1 ≤ 16 := iv_r1_1 hI
  have b3 : 0 ≤ s.1 6 a1 ∧ s.1 6 a1 ≤ 1 := iv_r6 hI _
  refine ⟨fun c4 => ?_, fun c4 => ?_⟩
  · skip
    have dc4 := q1.2 c4
    exact hQ false s hI (lf_fq_rf)
  · skip
    have dc4 := q1.1 c4
    refine sm_90 hI (show (0 : Int) ≤ a1 ∧ a1 ≤ (15 : Int) from by omega) (fun z24 => ?_)
    have b7 : 0 ≤ lf_b z24 ∧ lf_b z24 ≤ 1 := lf_b01
    refine ⟨(show lf_R a2 from lf_Rof (by omega)), ?_⟩
    refine ⟨fun c6 => ?_, fun c6 => ?_⟩
    · skip
      replace c6 : lf_b z24 ≠ a2 := c6
      have b8 : 0 ≤ s.1 1 2 ∧ s.1 1 2 ≤ 6 := iv_r1_2 hI
      refine sm_67 hI (show (0 : Int) ≤ s.1 1 2 ∧ s.1 1 2 ≤ (6 : Int) from by omega) (fun s26 hI10 fr9 => ?_)
      have fr12 : lf_fq [15, 22, 23, 24] 1000000 true s.1 s.2.2 s26.1 s26.2.2 := lf_fq_tr (lf_fq_rf) (lf_fq_wk fr9 rfl (by decide) (by decide))
      refine sm_101 hI10 (show (0 : Int) ≤ a1 ∧ a1 ≤ (15 : Int) from by omega) (fun s27 hI14 fr13 => ?_)
      have fr16 : lf_fq [15, 22, 23, 24] 1000000 true s.1 s.2.2 s27.1 s27.2.2 := lf_fq_tr fr12 (lf_fq_wk fr13 rfl (by decide) (by decide))
      exact hQ true s27 hI14 fr16
    · skip
      replace c6 : ¬ (lf_b z24 ≠ a2) := c6
      exact hQ false s hI (lf_fq_rf)
-- fm_251 Model.isWay 95 i
theorem sm_251 {a1 : Int} {Q : Bool → lf_Z → Prop} {s : lf_Z} (hI : iv_A s.1 s.2.2) (ba1 : (-2147483648) ≤ a1 ∧ a1 ≤ 2147483647) (hQ : ∀ (z : Bool), ((z = true → (0 ≤ a1 ∧ a1 < s.1 96 1)) ∧ (z = false → ¬ (0 ≤ a1 ∧ a1 < s.1 96 1))) → Q z s) : fm_251 a1 Q s := by
  unfold fm_251
  have b1 : 0 ≤ s.1 96 1 ∧ s.1 96 1 ≤ 16 := iv_rd96 hI (iv_fd6ad3e54 (by omega))
  have b2 : s.1 96 1 ≤ 0 ∨ 0 < s.1 96 0 := (show s.1 96 1 ≤ 0 ∨ 0 < s.1 96 0 from iv_l96_1 hI)
  refine sm_183 hI (show (-2147483648 : Int) ≤ a1 ∧ a1 ≤ (2147483647 : Int) from by omega) (show (-1 : Int) ≤ 0 ∧ 0 ≤ (97 : Int) from by omega) (show (-1 : Int) ≤ (s.1 96 1) - 1 ∧ (s.1 96 1) - 1 ≤ (9999 : Int) from by omega) (fun z22 q3 => ?_)
  exact hQ z22 ⟨fun h9 => by have h8 := q3.1 h9; omega, fun h9 => by have h8 := q3.2 h9; omega⟩
-- fm_250 Model.gate 95 i i
theorem sm_250_p52 {Q : Bool → lf_Z → Prop} {y1 : Int} {y2 : Int} {s : lf_Z} (hQ : ∀ (z : Bool) (s' : lf_Z), iv_A s'.1 s'.2.2 → lf_fq [96, 1004, 1005, 1006] 9 true s.1 s.2.2 s'.1 s'.2.2 → Q z s') (hI : iv_A s.1 s.2.2) (by1 : 53 ≤ y1 ∧ y1 ≤ 113) (by2 : 0 ≤ y2 ∧ y2 ≤ 1) (kv0 : (y1 - 50) % 4 = 3) : fm_250_p52 Q y1 y2 s := by
  unfold fm_250_p52
  refine ⟨(show (0 : Int) ≤ y1 ∧ y1 < (1538 : Int) from by omega), ?_⟩
  have hI16 : iv_A (lf_up s.1 96 y1 y2) s.2.2 := iv_wd96 hI (lf_le2 (iv_f2c6f65e5 (y1) (by omega) (by omega)) (by omega)) (fun h => absurd h (by omega))
  have fr17 : lf_fq [96, 1004, 1005, 1006] 9 true s.1 s.2.2 (lf_up s.1 96 y1 y2) s.2.2 := lf_fq_up (lf_fq_rf) rfl (fun _ => ⟨by omega, fr_o (Or.inr (fr_n0 (by omega))) (Or.inr (fr_n1 (by omega))) (Or.inr (fr_n2 (by omega))) (Or.inr (fr_n3 (by omega))) (Or.inl rfl) (Or.inl rfl) (Or.inl rfl)⟩)
  exact hQ true (lf_up s.1 96 y1 y2, s.2.1, s.2.2) hI16 fr17
theorem sm_250 {a1 : Int} {a2 : Int} {Q : Bool → lf_Z → Prop} {s : lf_Z} (hI : iv_A s.1 s.2.2) (ba1 : (-2147483648) ≤ a1 ∧ a1 ≤ 2147483647) (ba2 : 0 ≤ a2 ∧ a2 ≤ 1) (hQ : ∀ (z : Bool) (s' : lf_Z), iv_A s'.1 s'.2.2 → lf_fq [96, 1004, 1005, 1006] 9 true s.1 s.2.2 s'.1 s'.2.2 → Q z s') : fm_250 a1 a2 Q s := by
  unfold fm_250
  refine sm_251 hI (show (-2147483648 : Int) ≤ a1 ∧ a1 ≤ (2147483647 : Int) from by omega) (fun z22 q1 => ?_)
  have b2 : 0 ≤ s.1 96 1 ∧ s.1 96 1 ≤ 16 := iv_rd96 hI (iv_fd6ad3e54 (by omega))
  have b3 : s.1 96 1 ≤ 0 ∨ 0 < s.1 96 0 := (show s.1 96 1 ≤ 0 ∨ 0 < s.1 96 0 from iv_l96_1 hI)
  refine ⟨fun c4 => ?_, fun c4 => ?_⟩
  · skip
    have dc4 := q1.2 c4
    exact hQ false s hI (lf_fq_rf)
  · skip
    have dc4 := q1.1 c4
    refine sm_252 hI (show (0 : Int) ≤ a1 ∧ a1 ≤ (15 : Int) from by omega) (fun z24 => ?_)
    refine ⟨fun c6 => ?_, fun c6 => ?_⟩
    · skip
      exact hQ false s hI (lf_fq_rf)
    · skip
      refine sm_245 hI (show (0 : Int) ≤ a1 ∧ a1 ≤ (15 : Int) from by omega) (fun z26 => ?_)
      have b9 : 0 ≤ lf_b z26 ∧ lf_b z26 ≤ 1 := lf_b01
      refine ⟨(show lf_R a2 from lf_Rof (by omega)), ?_⟩
      refine ⟨fun c8 => ?_, fun c8 => ?_⟩
      · skip
        replace c8 : lf_b z26 ≠ a2 := c8
        refine sm_244 hI (fun s28 hI11 fr10 ps13 => ?_)
        replace ps13 : kp_F ((s.1 96)) (s28.1 96) := ps13
        have fr14 : lf_fq [96, 1004, 1005, 1006] 9 true s.1 s.2.2 s28.1 s28.2.2 := lf_fq_tr (lf_fq_rf) (lf_fq_wk fr10 rfl (by decide) (by decide))
        refine ⟨fun c15 => ?_, fun c15 => ?_⟩
        · skip
          replace c15 : a2 = 0 := c15
          exact sm_250_p52 (fun r9 t9 i9 f9 => hQ r9 t9 i9 (lf_fq_tr fr14 f9)) hI11 (show (53 : Int) ≤ (50 + (4 * a1)) + 3 ∧ (50 + (4 * a1)) + 3 ≤ (113 : Int) from by omega) (show (0 : Int) ≤ 0 ∧ 0 ≤ (1 : Int) from by omega) (show (((50 + (4 * a1)) + 3) - 50) % 4 = 3 from by omega)
        · skip
          replace c15 : ¬ (a2 = 0) := c15
          exact sm_250_p52 (fun r9 t9 i9 f9 => hQ r9 t9 i9 (lf_fq_tr fr14 f9)) hI11 (show (53 : Int) ≤ (50 + (4 * a1)) + 3 ∧ (50 + (4 * a1)) + 3 ≤ (113 : Int) from by omega) (show (0 : Int) ≤ 1 ∧ 1 ≤ (1 : Int) from by omega) (show (((50 + (4 * a1)) + 3) - 50) % 4 = 3 from by omega)
      · skip
        replace c8 : ¬ (lf_b z26 ≠ a2) := c8
        exact hQ false s hI (lf_fq_rf)
-- fm_102 ElevenBullocks.split 0 i i
theorem sm_102 {a1 : Int} {a2 : Int} {Q : Int → lf_Z → Prop} {s : lf_Z} (hI : iv_A s.1 s.2.2) (ba1 : (-2147483648) ≤ a1 ∧ a1 ≤ 2147483647) (ba2 : (-2147483648) ≤ a2 ∧ a2 ≤ 2147483647) (hQ : ∀ (r : Int) (s' : lf_Z), iv_A s'.1 s'.2.2 → lf_fq [16, 17, 18, 22, 23, 24] 1000000 true s.1 s.2.2 s'.1 s'.2.2 → ((-1) ≤ r ∧ r ≤ 3) → Q r s') : fm_102 a1 a2 Q s := by
  unfold fm_102
  refine sm_80 hI (show (-2147483648 : Int) ≤ a1 ∧ a1 ≤ (2147483647 : Int) from by omega) (fun z22 q1 => ?_)
  have b2 : (-2147483648) ≤ s.1 16 a1 ∧ s.1 16 a1 ≤ 2147483647 := iv_full hI
  refine ⟨fun c3 => ?_, fun c3 => ?_⟩
  · skip
    have dc3 := q1.2 c3
    exact hQ (-1) s hI (lf_fq_rf) (show (-1 : Int) ≤ (-1) ∧ (-1) ≤ (3 : Int) from by omega)
  · skip
    have dc3 := q1.1 c3
    refine ⟨(show (0 : Int) ≤ a1 ∧ a1 < (4 : Int) from by omega), ?_⟩
    refine sm_15 hI (show (-2147483648 : Int) ≤ a2 ∧ a2 ≤ (2147483647 : Int) from by omega) (show (-1 : Int) ≤ 1 ∧ 1 ≤ (99 : Int) from by omega) (show (-2147483648 : Int) ≤ (s.1 16 a1) - 1 ∧ (s.1 16 a1) - 1 ≤ (2147483647 : Int) from by omega) (fun z25 q4 => ?_)
    refine ⟨fun c5 => ?_, fun c5 => ?_⟩
    · skip
      have dc5 := q4.1 c5
      refine sm_66 hI (fun r27 q6 => ?_)
      refine ⟨(show lf_R r27 from lf_Rof (by omega)), ?_⟩
      refine ⟨fun c7 => ?_, fun c7 => ?_⟩
      · skip
        replace c7 : r27 = (-1) := c7
        exact hQ r27 s hI (lf_fq_rf) (show (-1 : Int) ≤ r27 ∧ r27 ≤ (3 : Int) from by omega)
      · skip
        replace c7 : ¬ (r27 = (-1)) := c7
        have b8 : 0 ≤ s.1 1 2 ∧ s.1 1 2 ≤ 6 := iv_r1_2 hI
        refine sm_67 hI (show (0 : Int) ≤ s.1 1 2 ∧ s.1 1 2 ≤ (6 : Int) from by omega) (fun s29 hI10 fr9 => ?_)
        have fr12 : lf_fq [16, 17, 18, 22, 23, 24] 1000000 true s.1 s.2.2 s29.1 s29.2.2 := lf_fq_tr (lf_fq_rf) (lf_fq_wk fr9 rfl (by decide) (by decide))
        have b13 : (-2147483648) ≤ s29.1 16 a1 ∧ s29.1 16 a1 ≤ 2147483647 := iv_full hI10
        have b14 : s29.1 16 a1 = s.1 16 a1 := congrFun (fr9.1 16 rfl) _
        have b15 : (-1) ≤ s29.1 17 a1 ∧ s29.1 17 a1 ≤ 11 := iv_r17 hI10 _
        have b16 : s29.1 17 a1 = s.1 17 a1 := congrFun (fr9.1 17 rfl) _
        have b17 : s29.1 16 a1 ≤ 0 ∨ 0 ≤ s29.1 17 a1 := (by first | exact (show s29.1 16 a1 ≤ 0 ∨ 0 ≤ s29.1 17 a1 from iv_sp hI10 (by omega) (by omega)) | exact iv_sp hI10 (by omega) (by omega))
        have hI18 : iv_A (lf_up s29.1 16 a1 ((s29.1 16 a1) - a2)) s29.2.2 := iv_w16 hI10 (by omega) (by omega)
        have fr19 : lf_fq [16, 17, 18, 22, 23, 24] 1000000 true s.1 s.2.2 (lf_up s29.1 16 a1 ((s29.1 16 a1) - a2)) s29.2.2 := lf_fq_up fr12 rfl (fun h => absurd h (by decide))
        have b20 : (lf_up s29.1 16 a1 ((s29.1 16 a1) - a2)) 16 a1 ≤ 0 ∨ 0 ≤ s29.1 17 a1 := (by first | exact (show (lf_up s29.1 16 a1 ((s29.1 16 a1) - a2)) 16 a1 ≤ 0 ∨ 0 ≤ (lf_up s29.1 16 a1 ((s29.1 16 a1) - a2)) 17 a1 from iv_sp hI18 (by omega) (by omega)) | exact iv_sp hI18 (by omega) (by omega))
        have b21 : (-1) ≤ s29.1 18 a1 ∧ s29.1 18 a1 ≤ 11 := (show (-1) ≤ (lf_up s29.1 16 a1 ((s29.1 16 a1) - a2)) 18 a1 ∧ (lf_up s29.1 16 a1 ((s29.1 16 a1) - a2)) 18 a1 ≤ 11 from iv_r18 hI18 _)
        have b22 : s29.1 18 a1 = s.1 18 a1 := congrFun (fr9.1 18 rfl) _
        refine sm_69 hI18 (show (0 : Int) ≤ r27 ∧ r27 ≤ (3 : Int) from by omega) (show (-2147483648 : Int) ≤ a2 ∧ a2 ≤ (2147483647 : Int) from by omega) (show (-1 : Int) ≤ s29.1 17 a1 ∧ s29.1 17 a1 ≤ (11 : Int) from by omega) (show (-1 : Int) ≤ s29.1 18 a1 ∧ s29.1 18 a1 ≤ (11 : Int) from by omega) (show a2 ≤ 0 ∨ 0 ≤ (s29.1 17 a1) from by omega) (fun s30 hI24 fr23 => ?_)
        have fr26 : lf_fq [16, 17, 18, 22, 23, 24] 1000000 true s.1 s.2.2 s30.1 s30.2.2 := lf_fq_tr fr19 (lf_fq_wk fr23 rfl (by decide) (by decide))
        exact hQ r27 s30 hI24 fr26 (show (-1 : Int) ≤ r27 ∧ r27 ≤ (3 : Int) from by omega)
    · skip
      have dc5 := q4.2 c5
      exact hQ (-1) s hI (lf_fq_rf) (show (-1 : Int) ≤ (-1) ∧ (-1) ≤ (3 : Int) from by omega)
-- fm_254 Model.isBunch 95 i
theorem sm_254 {a1 : Int} {Q : Bool → lf_Z → Prop} {s : lf_Z} (hI : iv_A s.1 s.2.2) (ba1 : (-2147483648) ≤ a1 ∧ a1 ≤ 2147483647) (hQ : ∀ (z : Bool), ((z = true → (0 ≤ a1 ∧ a1 ≤ 3)) ∧ (z = false → True)) → Q z s) : fm_254 a1 Q s := by
  unfold fm_254
  refine sm_183 hI (show (-2147483648 : Int) ≤ a1 ∧ a1 ≤ (2147483647 : Int) from by omega) (show (-1 : Int) ≤ 0 ∧ 0 ≤ (97 : Int) from by omega) (show (-1 : Int) ≤ 3 ∧ 3 ≤ (9999 : Int) from by omega) (fun z22 q1 => ?_)
  refine ⟨fun c2 => ?_, fun c2 => ?_⟩
  · skip
    have dc2 := q1.2 c2
    exact hQ false ⟨fun h => (by cases h), fun _ => trivial⟩
  · skip
    have dc2 := q1.1 c2
    refine sm_242 hI (show (0 : Int) ≤ a1 ∧ a1 ≤ (3 : Int) from by omega) (fun r24 q3 => ?_)
    obtain ⟨q3, q3x⟩ := q3
    replace q3x : r24 = s.1 96 (114 + 3 * a1) := q3x
    refine ⟨(show lf_R r24 from lf_Rof (by omega)), ?_⟩
    refine ⟨fun c4 => ?_, fun c4 => ?_⟩
    · skip
      replace c4 : r24 ≤ 0 := c4
      exact hQ false ⟨fun h => (by cases h), fun _ => trivial⟩
    · skip
      replace c4 : ¬ (r24 ≤ 0) := c4
      exact hQ true ⟨fun _ => by omega, fun _ => trivial⟩
-- fm_253 Model.split 95 i i
theorem sm_253 {a1 : Int} {a2 : Int} {Q : Int → lf_Z → Prop} {s : lf_Z} (hI : iv_A s.1 s.2.2) (ba1 : (-2147483648) ≤ a1 ∧ a1 ≤ 2147483647) (ba2 : (-2147483648) ≤ a2 ∧ a2 ≤ 2147483647) (hQ : ∀ (r : Int) (s' : lf_Z), iv_A s'.1 s'.2.2 → lf_fq [96, 1005, 1006] 9 true s.1 s.2.2 s'.1 s'.2.2 → ((-1) ≤ r ∧ r ≤ 3) → Q r s') : fm_253 a1 a2 Q s := by
  unfold fm_253
  refine sm_241 hI (fun r22 ps2 q1 => ?_)
  replace ps2 : r22 = -1 ∨ (s.1 96) (114 + 3 * r22) = 0 := ps2
  refine sm_254 hI (show (-2147483648 : Int) ≤ a1 ∧ a1 ≤ (2147483647 : Int) from by omega) (fun z24 q3 => ?_)
  refine ⟨fun c4 => ?_, fun c4 => ?_⟩
  · skip
    have dc4 := q3.2 c4
    exact hQ (-1) s hI (lf_fq_rf) (show (-1 : Int) ≤ (-1) ∧ (-1) ≤ (3 : Int) from by omega)
  · skip
    have dc4 := q3.1 c4
    refine sm_242 hI (show (0 : Int) ≤ a1 ∧ a1 ≤ (3 : Int) from by omega) (fun r26 q5 => ?_)
    obtain ⟨q5, q5x⟩ := q5
    replace q5x : r26 = s.1 96 (114 + 3 * a1) := q5x
    refine sm_183 hI (show (-2147483648 : Int) ≤ a2 ∧ a2 ≤ (2147483647 : Int) from by omega) (show (-1 : Int) ≤ 1 ∧ 1 ≤ (97 : Int) from by omega) (show (-1 : Int) ≤ r26 - 1 ∧ r26 - 1 ≤ (9999 : Int) from by omega) (fun z28 q6 => ?_)
    refine ⟨fun c7 => ?_, fun c7 => ?_⟩
    · skip
      have dc7 := q6.2 c7
      exact hQ (-1) s hI (lf_fq_rf) (show (-1 : Int) ≤ (-1) ∧ (-1) ≤ (3 : Int) from by omega)
    · skip
      have dc7 := q6.1 c7
      refine ⟨(show lf_R r22 from lf_Rof (by omega)), ?_⟩
      refine ⟨fun c8 => ?_, fun c8 => ?_⟩
      · skip
        replace c8 : 0 ≤ r22 := c8
        refine sm_244 hI (fun s30 hI10 fr9 ps12 => ?_)
        replace ps12 : kp_F ((s.1 96)) (s30.1 96) := ps12
        have fr13 : lf_fq [96, 1005, 1006] 9 true s.1 s.2.2 s30.1 s30.2.2 := lf_fq_tr (lf_fq_rf) (lf_fq_wk fr9 rfl (by decide) (by decide))
        have b14 : (s30.1 96) (114 + 3 * a1) = s.1 96 (114 + 3 * a1) := ps12 _ (by omega) (by omega)
        have b15 : (s30.1 96) (114 + 3 * r22) = s.1 96 (114 + 3 * r22) := ps12 _ (by omega) (by omega)
        have b16 : 0 ≤ s30.1 96 114 ∧ s30.1 96 114 ≤ 24 := iv_rd96 hI10 (iv_fda037f3c (by omega))
        have b17 : 0 ≤ s30.1 96 117 ∧ s30.1 96 117 ≤ 24 := iv_rd96 hI10 (iv_f168d6e22 (by omega))
        have b18 : 0 ≤ s30.1 96 120 ∧ s30.1 96 120 ≤ 24 := iv_rd96 hI10 (iv_f5f96ec92 (by omega))
        have b19 : 0 ≤ s30.1 96 123 ∧ s30.1 96 123 ≤ 24 := iv_rd96 hI10 (iv_fe4a5d80e (by omega))
        have b20 : (s30.1 96 114) + (s30.1 96 117) + (s30.1 96 120) + (s30.1 96 123) ≤ 24 := iv_szA hI10
        have b21 : r22 ≠ a1 := lf_ne4 (f := s.1 96) (by omega)
        refine ⟨(show (0 : Int) ≤ 114 + (3 * a1) ∧ 114 + (3 * a1) < (1538 : Int) from by omega), ?_⟩
        have b22 : 0 ≤ s30.1 96 (114 + (3 * a1)) ∧ s30.1 96 (114 + (3 * a1)) ≤ 24 := iv_rd96 hI10 (iv_f3318a158 (a1) (by omega) (by omega))
        have hI23 : iv_A (lf_up s30.1 96 (114 + (3 * a1)) ((s30.1 96 (114 + (3 * a1))) - a2)) s30.2.2 := iv_wd96 hI10 (lf_le2 (iv_fad4315e5 (a1) (by omega) (by omega)) (by omega)) (fun _ => iv_rels hI10 (by omega) (by omega))
        have fr24 : lf_fq [96, 1005, 1006] 9 true s.1 s.2.2 (lf_up s30.1 96 (114 + (3 * a1)) ((s30.1 96 (114 + (3 * a1))) - a2)) s30.2.2 := lf_fq_up fr13 rfl (fun _ => ⟨by omega, fr_o (Or.inr (fr_n0 (by omega))) (Or.inr (fr_n1 (by omega))) (Or.inr (fr_n2 (by omega))) (Or.inr (fr_n3 (by omega))) (Or.inr (fr_n4 (by omega))) (Or.inl rfl) (Or.inl rfl)⟩)
        refine sm_255 hI23 (show (0 : Int) ≤ a1 ∧ a1 ≤ (3 : Int) from by omega) (fun r33 q25 => ?_)
        refine sm_256 hI23 (show (0 : Int) ≤ a1 ∧ a1 ≤ (3 : Int) from by omega) (fun r35 q26 => ?_)
        have b27 : (lf_up s30.1 96 (114 + (3 * a1)) ((s30.1 96 (114 + (3 * a1))) - a2)) 96 114 + (lf_up s30.1 96 (114 + (3 * a1)) ((s30.1 96 (114 + (3 * a1))) - a2)) 96 117 + (lf_up s30.1 96 (114 + (3 * a1)) ((s30.1 96 (114 + (3 * a1))) - a2)) 96 120 + (lf_up s30.1 96 (114 + (3 * a1)) ((s30.1 96 (114 + (3 * a1))) - a2)) 96 123 = s30.1 96 114 + s30.1 96 117 + s30.1 96 120 + s30.1 96 123 - s30.1 96 (114 + 3 * a1) + (s30.1 96 (114 + 3 * a1) - a2) := iv_sumU (by omega)
        have b28 : (lf_up s30.1 96 (114 + (3 * a1)) ((s30.1 96 (114 + (3 * a1))) - a2)) 96 (114 + 3 * r22) = s30.1 96 (114 + 3 * r22) := lf_up_i (by omega)
        have b31 : 0 ≤ (lf_up s30.1 96 (114 + (3 * a1)) ((s30.1 96 (114 + (3 * a1))) - a2)) 96 114 ∧ (lf_up s30.1 96 (114 + (3 * a1)) ((s30.1 96 (114 + (3 * a1))) - a2)) 96 114 ≤ 24 := iv_rd96 hI23 (iv_fda037f3c (by omega))
        have b32 : 0 ≤ (lf_up s30.1 96 (114 + (3 * a1)) ((s30.1 96 (114 + (3 * a1))) - a2)) 96 117 ∧ (lf_up s30.1 96 (114 + (3 * a1)) ((s30.1 96 (114 + (3 * a1))) - a2)) 96 117 ≤ 24 := iv_rd96 hI23 (iv_f168d6e22 (by omega))
        have b33 : 0 ≤ (lf_up s30.1 96 (114 + (3 * a1)) ((s30.1 96 (114 + (3 * a1))) - a2)) 96 120 ∧ (lf_up s30.1 96 (114 + (3 * a1)) ((s30.1 96 (114 + (3 * a1))) - a2)) 96 120 ≤ 24 := iv_rd96 hI23 (iv_f5f96ec92 (by omega))
        have b34 : 0 ≤ (lf_up s30.1 96 (114 + (3 * a1)) ((s30.1 96 (114 + (3 * a1))) - a2)) 96 123 ∧ (lf_up s30.1 96 (114 + (3 * a1)) ((s30.1 96 (114 + (3 * a1))) - a2)) 96 123 ≤ 24 := iv_rd96 hI23 (iv_fe4a5d80e (by omega))
        refine sm_247 hI23 (show (0 : Int) ≤ r22 ∧ r22 ≤ (3 : Int) from by omega) (show (0 : Int) ≤ a2 ∧ a2 ≤ (24 : Int) from by omega) (show (0 : Int) ≤ r33 ∧ r33 ≤ (11 : Int) from by omega) (show (-1 : Int) ≤ r35 ∧ r35 ≤ (11 : Int) from by omega) (show ((lf_up s30.1 96 (114 + (3 * a1)) ((s30.1 96 (114 + (3 * a1))) - a2)) 96 114) + ((lf_up s30.1 96 (114 + (3 * a1)) ((s30.1 96 (114 + (3 * a1))) - a2)) 96 117) + ((lf_up s30.1 96 (114 + (3 * a1)) ((s30.1 96 (114 + (3 * a1))) - a2)) 96 120) + ((lf_up s30.1 96 (114 + (3 * a1)) ((s30.1 96 (114 + (3 * a1))) - a2)) 96 123) - ((lf_up s30.1 96 (114 + (3 * a1)) ((s30.1 96 (114 + (3 * a1))) - a2)) 96) (114 + 3 * r22) + a2 ≤ 24 from by omega) (fun s36 hI30 fr29 => ?_)
        have fr36 : lf_fq [96, 1005, 1006] 9 true s.1 s.2.2 s36.1 s36.2.2 := lf_fq_tr fr24 (lf_fq_wk fr29 rfl (by decide) (by decide))
        exact hQ r22 s36 hI30 fr36 (show (-1 : Int) ≤ r22 ∧ r22 ≤ (3 : Int) from by omega)
      · skip
        replace c8 : ¬ (0 ≤ r22) := c8
        exact hQ (-1) s hI (lf_fq_rf) (show (-1 : Int) ≤ (-1) ∧ (-1) ≤ (3 : Int) from by omega)
-- fm_104 ElevenBullocks.carryOut 0 i i i
theorem sm_104 {a1 : Int} {a2 : Int} {a3 : Int} {Q : Bool → lf_Z → Prop} {s : lf_Z} (hI : iv_A s.1 s.2.2) (ba1 : (-2147483648) ≤ a1 ∧ a1 ≤ 2147483647) (ba2 : (-2147483648) ≤ a2 ∧ a2 ≤ 2147483647) (ba3 : (-2147483648) ≤ a3 ∧ a3 ≤ 2147483647) (hQ : ∀ (z : Bool) (s' : lf_Z), iv_A s'.1 s'.2.2 → lf_fq [1, 2, 3, 4, 5, 6, 7, 8, 9, 10, 11, 12, 13, 15, 16, 17, 18, 19, 20, 21, 22, 23, 24, 63, 64, 65, 66] 1000000 true s.1 s.2.2 s'.1 s'.2.2 → Q z s') : fm_104 a1 a2 a3 Q s := by
  unfold fm_104
  refine ⟨(show lf_R a1 from lf_Rof (by omega)), ?_⟩
  refine ⟨fun c1 => ?_, fun c1 => ?_, fun c1 => ?_, fun c1 => ?_, fun c1 => ?_, fun c1 => ?_, fun c1 => ?_, fun c1 => ?_, fun c1 => ?_, fun c1 => ?_, fun c1 => ?_⟩
  · replace c1 : a1 < 23 ∨ 32 < a1 := c1
    exact hQ true s hI (lf_fq_rf)
  · replace c1 : a1 = 23 := c1
    refine sm_14 hI (show (-2147483648 : Int) ≤ a2 ∧ a2 ≤ (2147483647 : Int) from by omega) (show (-2147483648 : Int) ≤ a3 ∧ a3 ≤ (2147483647 : Int) from by omega) (fun r23 s22 hI3 fr2 q4 => ?_)
    have fr5 : lf_fq [1, 2, 3, 4, 5, 6, 7, 8, 9, 10, 11, 12, 13, 15, 16, 17, 18, 19, 20, 21, 22, 23, 24, 63, 64, 65, 66] 1000000 true s.1 s.2.2 s22.1 s22.2.2 := lf_fq_tr (lf_fq_rf) (lf_fq_wk fr2 rfl (by decide) (by decide))
    refine ⟨(show lf_R r23 from lf_Rof (by omega)), ?_⟩
    refine ⟨fun c6 => ?_, fun c6 => ?_⟩
    · skip
      replace c6 : r23 = (-1) := c6
      exact hQ false s22 hI3 fr5
    · skip
      replace c6 : ¬ (r23 = (-1)) := c6
      exact hQ true s22 hI3 fr5
  · replace c1 : a1 = 24 := c1
    refine sm_17 hI (show (-2147483648 : Int) ≤ a2 ∧ a2 ≤ (2147483647 : Int) from by omega) (show (-2147483648 : Int) ≤ a3 ∧ a3 ≤ (2147483647 : Int) from by omega) (show (0 : Int) ≤ 0 ∧ 0 ≤ (1 : Int) from by omega) (fun r26 s25 hI8 fr7 q9 => ?_)
    have fr10 : lf_fq [1, 2, 3, 4, 5, 6, 7, 8, 9, 10, 11, 12, 13, 15, 16, 17, 18, 19, 20, 21, 22, 23, 24, 63, 64, 65, 66] 1000000 true s.1 s.2.2 s25.1 s25.2.2 := lf_fq_tr (lf_fq_rf) (lf_fq_wk fr7 rfl (by decide) (by decide))
    refine ⟨(show lf_R r26 from lf_Rof (by omega)), ?_⟩
    refine ⟨fun c11 => ?_, fun c11 => ?_⟩
    · skip
      replace c11 : r26 = (-1) := c11
      exact hQ false s25 hI8 fr10
    · skip
      replace c11 : ¬ (r26 = (-1)) := c11
      exact hQ true s25 hI8 fr10
  · replace c1 : a1 = 25 := c1
    refine sm_17 hI (show (-2147483648 : Int) ≤ a2 ∧ a2 ≤ (2147483647 : Int) from by omega) (show (-2147483648 : Int) ≤ a3 ∧ a3 ≤ (2147483647 : Int) from by omega) (show (0 : Int) ≤ 1 ∧ 1 ≤ (1 : Int) from by omega) (fun r29 s28 hI13 fr12 q14 => ?_)
    have fr15 : lf_fq [1, 2, 3, 4, 5, 6, 7, 8, 9, 10, 11, 12, 13, 15, 16, 17, 18, 19, 20, 21, 22, 23, 24, 63, 64, 65, 66] 1000000 true s.1 s.2.2 s28.1 s28.2.2 := lf_fq_tr (lf_fq_rf) (lf_fq_wk fr12 rfl (by decide) (by decide))
    refine ⟨(show lf_R r29 from lf_Rof (by omega)), ?_⟩
    refine ⟨fun c16 => ?_, fun c16 => ?_⟩
    · skip
      replace c16 : r29 = (-1) := c16
      exact hQ false s28 hI13 fr15
    · skip
      replace c16 : ¬ (r29 = (-1)) := c16
      exact hQ true s28 hI13 fr15
  · replace c1 : a1 = 26 := c1
    refine sm_23 hI (show (-2147483648 : Int) ≤ a2 ∧ a2 ≤ (2147483647 : Int) from by omega) (show (0 : Int) ≤ 0 ∧ 0 ≤ (1 : Int) from by omega) (show (0 : Int) ≤ 0 ∧ 0 ≤ (1 : Int) from by omega) (show (-2147483648 : Int) ≤ a3 ∧ a3 ≤ (2147483647 : Int) from by omega) (fun r32 s31 hI18 fr17 q19 => ?_)
    have fr20 : lf_fq [1, 2, 3, 4, 5, 6, 7, 8, 9, 10, 11, 12, 13, 15, 16, 17, 18, 19, 20, 21, 22, 23, 24, 63, 64, 65, 66] 1000000 true s.1 s.2.2 s31.1 s31.2.2 := lf_fq_tr (lf_fq_rf) (lf_fq_wk fr17 rfl (by decide) (by decide))
    refine ⟨(show lf_R r32 from lf_Rof (by omega)), ?_⟩
    refine ⟨fun c21 => ?_, fun c21 => ?_⟩
    · skip
      replace c21 : r32 = (-1) := c21
      exact hQ false s31 hI18 fr20
    · skip
      replace c21 : ¬ (r32 = (-1)) := c21
      exact hQ true s31 hI18 fr20
  · replace c1 : a1 = 27 := c1
    refine sm_63 hI (show (-2147483648 : Int) ≤ a2 ∧ a2 ≤ (2147483647 : Int) from by omega) (show (-2147483648 : Int) ≤ a3 ∧ a3 ≤ (2147483647 : Int) from by omega) (fun r35 s34 hI23 fr22 q24 => ?_)
    have fr25 : lf_fq [1, 2, 3, 4, 5, 6, 7, 8, 9, 10, 11, 12, 13, 15, 16, 17, 18, 19, 20, 21, 22, 23, 24, 63, 64, 65, 66] 1000000 true s.1 s.2.2 s34.1 s34.2.2 := lf_fq_tr (lf_fq_rf) (lf_fq_wk fr22 rfl (by decide) (by decide))
    refine ⟨(show lf_R r35 from lf_Rof (by omega)), ?_⟩
    refine ⟨fun c26 => ?_, fun c26 => ?_⟩
    · skip
      replace c26 : r35 = (-1) := c26
      exact hQ false s34 hI23 fr25
    · skip
      replace c26 : ¬ (r35 = (-1)) := c26
      exact hQ true s34 hI23 fr25
  · replace c1 : a1 = 28 := c1
    refine sm_98 hI (show (-2147483648 : Int) ≤ a2 ∧ a2 ≤ (2147483647 : Int) from by omega) (show (-2147483648 : Int) ≤ a3 ∧ a3 ≤ (2147483647 : Int) from by omega) (fun z38 s37 hI28 fr27 => ?_)
    have fr30 : lf_fq [1, 2, 3, 4, 5, 6, 7, 8, 9, 10, 11, 12, 13, 15, 16, 17, 18, 19, 20, 21, 22, 23, 24, 63, 64, 65, 66] 1000000 true s.1 s.2.2 s37.1 s37.2.2 := lf_fq_tr (lf_fq_rf) (lf_fq_wk fr27 rfl (by decide) (by decide))
    exact hQ z38 s37 hI28 fr30
  · replace c1 : a1 = 29 := c1
    refine sm_100 hI (show (-2147483648 : Int) ≤ a2 ∧ a2 ≤ (2147483647 : Int) from by omega) (show (0 : Int) ≤ 0 ∧ 0 ≤ (1 : Int) from by omega) (fun z40 s39 hI32 fr31 => ?_)
    have fr34 : lf_fq [1, 2, 3, 4, 5, 6, 7, 8, 9, 10, 11, 12, 13, 15, 16, 17, 18, 19, 20, 21, 22, 23, 24, 63, 64, 65, 66] 1000000 true s.1 s.2.2 s39.1 s39.2.2 := lf_fq_tr (lf_fq_rf) (lf_fq_wk fr31 rfl (by decide) (by decide))
    exact hQ z40 s39 hI32 fr34
  · replace c1 : a1 = 30 := c1
    refine sm_100 hI (show (-2147483648 : Int) ≤ a2 ∧ a2 ≤ (2147483647 : Int) from by omega) (show (0 : Int) ≤ 1 ∧ 1 ≤ (1 : Int) from by omega) (fun z42 s41 hI36 fr35 => ?_)
    have fr38 : lf_fq [1, 2, 3, 4, 5, 6, 7, 8, 9, 10, 11, 12, 13, 15, 16, 17, 18, 19, 20, 21, 22, 23, 24, 63, 64, 65, 66] 1000000 true s.1 s.2.2 s41.1 s41.2.2 := lf_fq_tr (lf_fq_rf) (lf_fq_wk fr35 rfl (by decide) (by decide))
    exact hQ z42 s41 hI36 fr38
  · replace c1 : a1 = 31 := c1
    refine sm_102 hI (show (-2147483648 : Int) ≤ a2 ∧ a2 ≤ (2147483647 : Int) from by omega) (show (-2147483648 : Int) ≤ a3 ∧ a3 ≤ (2147483647 : Int) from by omega) (fun r44 s43 hI40 fr39 q41 => ?_)
    have fr42 : lf_fq [1, 2, 3, 4, 5, 6, 7, 8, 9, 10, 11, 12, 13, 15, 16, 17, 18, 19, 20, 21, 22, 23, 24, 63, 64, 65, 66] 1000000 true s.1 s.2.2 s43.1 s43.2.2 := lf_fq_tr (lf_fq_rf) (lf_fq_wk fr39 rfl (by decide) (by decide))
    refine ⟨(show lf_R r44 from lf_Rof (by omega)), ?_⟩
    refine ⟨fun c43 => ?_, fun c43 => ?_⟩
    · skip
      replace c43 : r44 = (-1) := c43
      exact hQ false s43 hI40 fr42
    · skip
      replace c43 : ¬ (r44 = (-1)) := c43
      exact hQ true s43 hI40 fr42
  · replace c1 : a1 = 32 := c1
    refine sm_71 hI (show (-2147483648 : Int) ≤ a2 ∧ a2 ≤ (2147483647 : Int) from by omega) (fun z47 s46 hI45 fr44 => ?_)
    have fr47 : lf_fq [1, 2, 3, 4, 5, 6, 7, 8, 9, 10, 11, 12, 13, 15, 16, 17, 18, 19, 20, 21, 22, 23, 24, 63, 64, 65, 66] 1000000 true s.1 s.2.2 s46.1 s46.2.2 := lf_fq_tr (lf_fq_rf) (lf_fq_wk fr44 rfl (by decide) (by decide))
    exact hQ z47 s46 hI45 fr47
-- fm_103 ElevenBullocks.played 0 i
theorem sm_103_p15 {X15 : Int → lf_Z → Prop} {Q : Int → lf_Z → Prop} {u2 : Nat} {x3 : Int} {s : lf_Z} (hQ : ∀ (r : Int) (s' : lf_Z), iv_A s'.1 s'.2.2 → lf_fq [1, 2, 3, 4, 5, 6, 7, 8, 9, 10, 11, 12, 13, 15, 16, 17, 18, 19, 20, 21, 22, 23, 24, 63, 64, 65, 66] 1000000 true s.1 s.2.2 s'.1 s'.2.2 → ((-2) ≤ r ∧ r ≤ 23) → Q r s') {M15 : Nat} (hX15 : ∀ (x3 : Int) (s' : lf_Z), iv_A s'.1 s'.2.2 → lf_fq [1, 2, 3, 4, 5, 6, 7, 8, 9, 10, 11, 12, 13, 15, 16, 17, 18, 19, 20, 21, 22, 23, 24, 63, 64, 65, 66] 1000000 true s.1 s.2.2 s'.1 s'.2.2 → 0 ≤ x3 ∧ x3 ≤ 24 → (24 - x3).toNat < M15 → X15 x3 s') (hM15 : (24 - x3).toNat ≤ M15) (hI : iv_A s.1 s.2.2) (bx3 : 0 ≤ x3 ∧ x3 ≤ 24) (htu2 : u2 < 4) : fm_103_p15 Q u2 X15 x3 s := by
  unfold fm_103_p15
  have b2 : 0 ≤ s.1 (35 + 7 * u2) 7 ∧ s.1 (35 + 7 * u2) 7 ≤ 24 := iv_rT_7 hI htu2
  refine ⟨(show lf_R x3 from lf_Rof (by omega)), ?_⟩
  refine ⟨(show lf_R (s.1 (35 + 7 * u2) 7) from lf_Rof (by omega)), ?_⟩
  refine ⟨fun c3 => ?_, fun c3 => ?_⟩
  · skip
    replace c3 : s.1 (35 + 7 * u2) 7 ≤ x3 := c3
    exact hQ (-1) s hI (lf_fq_rf) (show (-2 : Int) ≤ (-1) ∧ (-1) ≤ (23 : Int) from by omega)
  · skip
    replace c3 : ¬ (s.1 (35 + 7 * u2) 7 ≤ x3) := c3
    refine ⟨fun c4 => ?_, fun c4 => ?_⟩
    · skip
      replace c4 : 24 ≤ x3 := c4
      exfalso
      omega
    · skip
      replace c4 : ¬ (24 ≤ x3) := c4
      refine ⟨(show (0 : Int) ≤ x3 ∧ x3 < (24 : Int) from by omega), ?_⟩
      have b5 : (-2147483648) ≤ s.1 (39 + 7 * u2) x3 ∧ s.1 (39 + 7 * u2) x3 ≤ 2147483647 := iv_full hI
      have b6 : (-2147483648) ≤ s.1 (40 + 7 * u2) x3 ∧ s.1 (40 + 7 * u2) x3 ≤ 2147483647 := iv_full hI
      have b7 : (-2147483648) ≤ s.1 (41 + 7 * u2) x3 ∧ s.1 (41 + 7 * u2) x3 ≤ 2147483647 := iv_full hI
      refine sm_104 hI (show (-2147483648 : Int) ≤ s.1 (39 + 7 * u2) x3 ∧ s.1 (39 + 7 * u2) x3 ≤ (2147483647 : Int) from by omega) (show (-2147483648 : Int) ≤ s.1 (40 + 7 * u2) x3 ∧ s.1 (40 + 7 * u2) x3 ≤ (2147483647 : Int) from by omega) (show (-2147483648 : Int) ≤ s.1 (41 + 7 * u2) x3 ∧ s.1 (41 + 7 * u2) x3 ≤ (2147483647 : Int) from by omega) (fun z28 s27 hI9 fr8 => ?_)
      have fr11 : lf_fq [1, 2, 3, 4, 5, 6, 7, 8, 9, 10, 11, 12, 13, 15, 16, 17, 18, 19, 20, 21, 22, 23, 24, 63, 64, 65, 66] 1000000 true s.1 s.2.2 s27.1 s27.2.2 := lf_fq_tr (lf_fq_rf) (lf_fq_wk fr8 rfl (by decide) (by decide))
      refine ⟨fun c12 => ?_, fun c12 => ?_⟩
      · skip
        exact hX15 (x3 + 1) s27 hI9 fr11 (show (0 : Int) ≤ x3 + 1 ∧ x3 + 1 ≤ (24 : Int) from by omega) (show (24 - (x3 + 1)).toNat < M15 from by omega)
      · skip
        exact hQ x3 s27 hI9 fr11 (show (-2 : Int) ≤ x3 ∧ x3 ≤ (23 : Int) from by omega)
theorem sm_103_p15L {Q : Int → lf_Z → Prop} {u2 : Nat} {x3 : Int} {s : lf_Z} (hQ : ∀ (r : Int) (s' : lf_Z), iv_A s'.1 s'.2.2 → lf_fq [1, 2, 3, 4, 5, 6, 7, 8, 9, 10, 11, 12, 13, 15, 16, 17, 18, 19, 20, 21, 22, 23, 24, 63, 64, 65, 66] 1000000 true s.1 s.2.2 s'.1 s'.2.2 → ((-2) ≤ r ∧ r ≤ 23) → Q r s') (hI : iv_A s.1 s.2.2) (bx3 : 0 ≤ x3 ∧ x3 ≤ 24) (htu2 : u2 < 4) : fm_103_p15L Q u2 x3 s := by
  intro X15 hX
  have key : ∀ (m9 : Nat) (x3 : Int) (s' : lf_Z), iv_A s'.1 s'.2.2 → lf_fq [1, 2, 3, 4, 5, 6, 7, 8, 9, 10, 11, 12, 13, 15, 16, 17, 18, 19, 20, 21, 22, 23, 24, 63, 64, 65, 66] 1000000 true s.1 s.2.2 s'.1 s'.2.2 → 0 ≤ x3 ∧ x3 ≤ 24 → (24 - x3).toNat < m9 → X15 x3 s' := by
    intro m9
    induction m9 with
    | zero => intro x3 s' _ _ bx3 h9; exact absurd h9 (Nat.not_lt_zero _)
    | succ m9 ih => intro x3 s' i7 f7 bx3 h9; exact hX _ _ (sm_103_p15 (fun r9 t9 i9 f9 => hQ r9 t9 i9 (lf_fq_tr f7 f9))   (fun x3' t8 i8 f8 bx3' h8 => ih x3' t8 i8 (lf_fq_tr f7 f8) bx3' (by omega)) (Nat.le_refl _)  i7  bx3 htu2 )
  exact key _ _ s hI lf_fq_rf bx3 (Nat.lt_succ_self _)
theorem sm_103 {a1 : Int} {Q : Int → lf_Z → Prop} {s : lf_Z} (hI : iv_A s.1 s.2.2) (ba1 : (-2147483648) ≤ a1 ∧ a1 ≤ 2147483647) (hQ : ∀ (r : Int) (s' : lf_Z), iv_A s'.1 s'.2.2 → lf_fq [1, 2, 3, 4, 5, 6, 7, 8, 9, 10, 11, 12, 13, 15, 16, 17, 18, 19, 20, 21, 22, 23, 24, 63, 64, 65, 66] 1000000 true s.1 s.2.2 s'.1 s'.2.2 → ((-2) ≤ r ∧ r ≤ 23) → Q r s') : fm_103 a1 Q s := by
  unfold fm_103
  refine sm_62 hI (show (-2147483648 : Int) ≤ a1 ∧ a1 ≤ (2147483647 : Int) from by omega) (fun r23 q1 => ?_)
  refine ⟨fun et22 => ?_, fun t22 et22 => ?_⟩
  · skip
    exact hQ (-2) s hI (lf_fq_rf) (show (-2 : Int) ≤ (-2) ∧ (-2) ≤ (23 : Int) from by omega)
  · have htt22 : t22 < 4 := q1 t22 et22
    refine ⟨htt22, ?_⟩
    exact sm_103_p15L hQ hI (show (0 : Int) ≤ 0 ∧ 0 ≤ (24 : Int) from by omega) htt22
-- fm_281 Model.isPlayed 95 i
theorem sm_281 {a1 : Int} {Q : Bool → lf_Z → Prop} {s : lf_Z} (hI : iv_A s.1 s.2.2) (ba1 : 1 ≤ a1 ∧ a1 ≤ 2208) (hQ : ∀ (z : Bool) (s' : lf_Z), iv_A s'.1 s'.2.2 → lf_fq [96, 104, 107, 108, 1002, 1004, 1005, 1006] 0 true s.1 s.2.2 s'.1 s'.2.2 → Q z s') : fm_281 a1 Q s := by
  unfold fm_281
  refine ⟨(show (0 : Int) ≤ a1 + 1 ∧ a1 + 1 < (2820 : Int) from by omega), ?_⟩
  have b1 : (-2147483648) ≤ s.1 98 (a1 + 1) ∧ s.1 98 (a1 + 1) ≤ 2147483647 := iv_full hI
  refine ⟨(show (0 : Int) ≤ a1 + 2 ∧ a1 + 2 < (2820 : Int) from by omega), ?_⟩
  have b2 : (-2147483648) ≤ s.1 98 (a1 + 2) ∧ s.1 98 (a1 + 2) ≤ 2147483647 := iv_full hI
  refine ⟨(show (0 : Int) ≤ a1 ∧ a1 < (2820 : Int) from by omega), ?_⟩
  have b3 : (-2147483648) ≤ s.1 98 a1 ∧ s.1 98 a1 ≤ 2147483647 := iv_full hI
  refine ⟨(show lf_R (s.1 98 a1) from lf_Rof (by omega)), ?_⟩
  refine ⟨fun c4 => ?_, fun c4 => ?_, fun c4 => ?_, fun c4 => ?_, fun c4 => ?_, fun c4 => ?_, fun c4 => ?_, fun c4 => ?_, fun c4 => ?_, fun c4 => ?_, fun c4 => ?_⟩
  · replace c4 : s.1 98 a1 < 3 ∨ 12 < s.1 98 a1 := c4
    exact hQ true s hI (lf_fq_rf)
  · replace c4 : s.1 98 a1 = 3 := c4
    refine sm_182 hI (show (-2147483648 : Int) ≤ s.1 98 (a1 + 1) ∧ s.1 98 (a1 + 1) ≤ (2147483647 : Int) from by omega) (show (-2147483648 : Int) ≤ s.1 98 (a1 + 2) ∧ s.1 98 (a1 + 2) ≤ (2147483647 : Int) from by omega) (fun r26 s25 hI6 fr5 q7 => ?_)
    have fr8 : lf_fq [96, 104, 107, 108, 1002, 1004, 1005, 1006] 0 true s.1 s.2.2 s25.1 s25.2.2 := lf_fq_tr (lf_fq_rf) (lf_fq_wk fr5 rfl (by decide) (by decide))
    refine ⟨(show lf_R r26 from lf_Rof (by omega)), ?_⟩
    refine ⟨fun c9 => ?_, fun c9 => ?_⟩
    · skip
      replace c9 : r26 < 0 := c9
      exact hQ false s25 hI6 fr8
    · skip
      replace c9 : ¬ (r26 < 0) := c9
      exact hQ true s25 hI6 fr8
  · replace c4 : s.1 98 a1 = 4 := c4
    refine sm_184 hI (show (-2147483648 : Int) ≤ s.1 98 (a1 + 1) ∧ s.1 98 (a1 + 1) ≤ (2147483647 : Int) from by omega) (show (-2147483648 : Int) ≤ s.1 98 (a1 + 2) ∧ s.1 98 (a1 + 2) ≤ (2147483647 : Int) from by omega) (show (0 : Int) ≤ 0 ∧ 0 ≤ (1 : Int) from by omega) (fun r29 s28 hI11 fr10 q12 => ?_)
    have fr13 : lf_fq [96, 104, 107, 108, 1002, 1004, 1005, 1006] 0 true s.1 s.2.2 s28.1 s28.2.2 := lf_fq_tr (lf_fq_rf) (lf_fq_wk fr10 rfl (by decide) (by decide))
    refine ⟨(show lf_R r29 from lf_Rof (by omega)), ?_⟩
    refine ⟨fun c14 => ?_, fun c14 => ?_⟩
    · skip
      replace c14 : r29 < 0 := c14
      exact hQ false s28 hI11 fr13
    · skip
      replace c14 : ¬ (r29 < 0) := c14
      exact hQ true s28 hI11 fr13
  · replace c4 : s.1 98 a1 = 5 := c4
    refine sm_184 hI (show (-2147483648 : Int) ≤ s.1 98 (a1 + 1) ∧ s.1 98 (a1 + 1) ≤ (2147483647 : Int) from by omega) (show (-2147483648 : Int) ≤ s.1 98 (a1 + 2) ∧ s.1 98 (a1 + 2) ≤ (2147483647 : Int) from by omega) (show (0 : Int) ≤ 1 ∧ 1 ≤ (1 : Int) from by omega) (fun r32 s31 hI16 fr15 q17 => ?_)
    have fr18 : lf_fq [96, 104, 107, 108, 1002, 1004, 1005, 1006] 0 true s.1 s.2.2 s31.1 s31.2.2 := lf_fq_tr (lf_fq_rf) (lf_fq_wk fr15 rfl (by decide) (by decide))
    refine ⟨(show lf_R r32 from lf_Rof (by omega)), ?_⟩
    refine ⟨fun c19 => ?_, fun c19 => ?_⟩
    · skip
      replace c19 : r32 < 0 := c19
      exact hQ false s31 hI16 fr18
    · skip
      replace c19 : ¬ (r32 < 0) := c19
      exact hQ true s31 hI16 fr18
  · replace c4 : s.1 98 a1 = 6 := c4
    refine sm_190 hI (show (-2147483648 : Int) ≤ s.1 98 (a1 + 1) ∧ s.1 98 (a1 + 1) ≤ (2147483647 : Int) from by omega) (show (0 : Int) ≤ 0 ∧ 0 ≤ (1 : Int) from by omega) (show (0 : Int) ≤ 0 ∧ 0 ≤ (1 : Int) from by omega) (show (-2147483648 : Int) ≤ s.1 98 (a1 + 2) ∧ s.1 98 (a1 + 2) ≤ (2147483647 : Int) from by omega) (fun r35 s34 hI21 fr20 q22 => ?_)
    have fr23 : lf_fq [96, 104, 107, 108, 1002, 1004, 1005, 1006] 0 true s.1 s.2.2 s34.1 s34.2.2 := lf_fq_tr (lf_fq_rf) (lf_fq_wk fr20 rfl (by decide) (by decide))
    refine ⟨(show lf_R r35 from lf_Rof (by omega)), ?_⟩
    refine ⟨fun c24 => ?_, fun c24 => ?_⟩
    · skip
      replace c24 : r35 < 0 := c24
      exact hQ false s34 hI21 fr23
    · skip
      replace c24 : ¬ (r35 < 0) := c24
      exact hQ true s34 hI21 fr23
  · replace c4 : s.1 98 a1 = 7 := c4
    refine sm_240 hI (show (-2147483648 : Int) ≤ s.1 98 (a1 + 1) ∧ s.1 98 (a1 + 1) ≤ (2147483647 : Int) from by omega) (show (-2147483648 : Int) ≤ s.1 98 (a1 + 2) ∧ s.1 98 (a1 + 2) ≤ (2147483647 : Int) from by omega) (fun r38 s37 hI26 fr25 q27 => ?_)
    have fr28 : lf_fq [96, 104, 107, 108, 1002, 1004, 1005, 1006] 0 true s.1 s.2.2 s37.1 s37.2.2 := lf_fq_tr (lf_fq_rf) (lf_fq_wk fr25 rfl (by decide) (by decide))
    refine ⟨(show lf_R r38 from lf_Rof (by omega)), ?_⟩
    refine ⟨fun c29 => ?_, fun c29 => ?_⟩
    · skip
      replace c29 : r38 < 0 := c29
      exact hQ false s37 hI26 fr28
    · skip
      replace c29 : ¬ (r38 < 0) := c29
      exact hQ true s37 hI26 fr28
  · replace c4 : s.1 98 a1 = 8 := c4
    refine sm_248 hI (show (-2147483648 : Int) ≤ s.1 98 (a1 + 1) ∧ s.1 98 (a1 + 1) ≤ (2147483647 : Int) from by omega) (show (-2147483648 : Int) ≤ s.1 98 (a1 + 2) ∧ s.1 98 (a1 + 2) ≤ (2147483647 : Int) from by omega) (fun z41 s40 hI31 fr30 => ?_)
    have fr33 : lf_fq [96, 104, 107, 108, 1002, 1004, 1005, 1006] 0 true s.1 s.2.2 s40.1 s40.2.2 := lf_fq_tr (lf_fq_rf) (lf_fq_wk fr30 rfl (by decide) (by decide))
    exact hQ z41 s40 hI31 fr33
  · replace c4 : s.1 98 a1 = 9 := c4
    refine sm_250 hI (show (-2147483648 : Int) ≤ s.1 98 (a1 + 1) ∧ s.1 98 (a1 + 1) ≤ (2147483647 : Int) from by omega) (show (0 : Int) ≤ 0 ∧ 0 ≤ (1 : Int) from by omega) (fun z43 s42 hI35 fr34 => ?_)
    have fr37 : lf_fq [96, 104, 107, 108, 1002, 1004, 1005, 1006] 0 true s.1 s.2.2 s42.1 s42.2.2 := lf_fq_tr (lf_fq_rf) (lf_fq_wk fr34 rfl (by decide) (by decide))
    exact hQ z43 s42 hI35 fr37
  · replace c4 : s.1 98 a1 = 10 := c4
    refine sm_250 hI (show (-2147483648 : Int) ≤ s.1 98 (a1 + 1) ∧ s.1 98 (a1 + 1) ≤ (2147483647 : Int) from by omega) (show (0 : Int) ≤ 1 ∧ 1 ≤ (1 : Int) from by omega) (fun z45 s44 hI39 fr38 => ?_)
    have fr41 : lf_fq [96, 104, 107, 108, 1002, 1004, 1005, 1006] 0 true s.1 s.2.2 s44.1 s44.2.2 := lf_fq_tr (lf_fq_rf) (lf_fq_wk fr38 rfl (by decide) (by decide))
    exact hQ z45 s44 hI39 fr41
  · replace c4 : s.1 98 a1 = 11 := c4
    refine sm_253 hI (show (-2147483648 : Int) ≤ s.1 98 (a1 + 1) ∧ s.1 98 (a1 + 1) ≤ (2147483647 : Int) from by omega) (show (-2147483648 : Int) ≤ s.1 98 (a1 + 2) ∧ s.1 98 (a1 + 2) ≤ (2147483647 : Int) from by omega) (fun r47 s46 hI43 fr42 q44 => ?_)
    have fr45 : lf_fq [96, 104, 107, 108, 1002, 1004, 1005, 1006] 0 true s.1 s.2.2 s46.1 s46.2.2 := lf_fq_tr (lf_fq_rf) (lf_fq_wk fr42 rfl (by decide) (by decide))
    refine ⟨(show lf_R r47 from lf_Rof (by omega)), ?_⟩
    refine ⟨fun c46 => ?_, fun c46 => ?_⟩
    · skip
      replace c46 : r47 < 0 := c46
      exact hQ false s46 hI43 fr45
    · skip
      replace c46 : ¬ (r47 < 0) := c46
      exact hQ true s46 hI43 fr45
  · replace c4 : s.1 98 a1 = 12 := c4
    refine sm_258 hI (show (-2147483648 : Int) ≤ s.1 98 (a1 + 1) ∧ s.1 98 (a1 + 1) ≤ (2147483647 : Int) from by omega) (fun z50 s49 hI48 fr47 => ?_)
    have fr50 : lf_fq [96, 104, 107, 108, 1002, 1004, 1005, 1006] 0 true s.1 s.2.2 s49.1 s49.2.2 := lf_fq_tr (lf_fq_rf) (lf_fq_wk fr47 rfl (by decide) (by decide))
    exact hQ z50 s49 hI48 fr50
