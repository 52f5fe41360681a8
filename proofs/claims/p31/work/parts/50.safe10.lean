-- fm_91 Laws.chanceOf 63 i i i i i i
theorem sm_91_p118 {Q : Int → lf_Z → Prop} {x8 : Int} {s : lf_Z} (hQ : ∀ (r : Int) (s' : lf_Z), iv_A s'.1 s'.2.2 → lf_fq [63, 64, 65, 66] 1000000 true s.1 s.2.2 s'.1 s'.2.2 → (0 ≤ r ∧ r ≤ 1000000) → Q r s') (hI : iv_A s.1 s.2.2) (bx8 : (-2147483648) ≤ x8 ∧ x8 ≤ 2147483647) : fm_91_p118 Q x8 s := by
  unfold fm_91_p118
  refine ⟨(show lf_R x8 from lf_Rof (by omega)), ?_⟩
  refine ⟨fun c6 => ?_, fun c6 => ?_⟩
  · skip
    replace c6 : x8 ≤ 0 := c6
    exact hQ 5 s hI (lf_fq_rf) (show (0 : Int) ≤ 5 ∧ 5 ≤ (1000000 : Int) from by omega)
  · skip
    replace c6 : ¬ (x8 ≤ 0) := c6
    exact hQ 0 s hI (lf_fq_rf) (show (0 : Int) ≤ 0 ∧ 0 ≤ (1000000 : Int) from by omega)
theorem sm_91_p94 {X29 : Int → Int → Int → lf_Z → Prop} {Q : Int → lf_Z → Prop} {x1 : Int} {x2 : Int} {x3 : Int} {x4 : Int} {x5 : Int} {x7 : Int} {x8 : Int} {x9 : Int} {x10 : Int} {s : lf_Z} (hQ : ∀ (r : Int) (s' : lf_Z), iv_A s'.1 s'.2.2 → lf_fq [63, 64, 65, 66] 1000000 true s.1 s.2.2 s'.1 s'.2.2 → (0 ≤ r ∧ r ≤ 1000000) → Q r s') {M29 : Nat} (hX29 : ∀ (x8 : Int) (x9 : Int) (x10 : Int) (s' : lf_Z), iv_A s'.1 s'.2.2 → lf_fq [63, 64, 65, 66] 1000000 true s.1 s.2.2 s'.1 s'.2.2 → (-2147483648) ≤ x8 ∧ x8 ≤ 2147483647 → (-2147483648) ≤ x9 ∧ x9 ≤ 2147483647 → 0 ≤ x10 ∧ x10 ≤ 6 → (6 - x10).toNat < M29 → X29 x8 x9 x10 s') (hM29 : (6 - x10).toNat ≤ M29) (hI : iv_A s.1 s.2.2) (bx1 : (-2147483648) ≤ x1 ∧ x1 ≤ 2147483647) (bx2 : (-1) ≤ x2 ∧ x2 ≤ 11) (bx3 : 0 ≤ x3 ∧ x3 ≤ 15) (bx4 : 0 ≤ x4 ∧ x4 ≤ 1) (bx5 : 0 ≤ x5 ∧ x5 ≤ 1) (bx7 : 0 ≤ x7 ∧ x7 ≤ 11) (bx8 : (-2147483648) ≤ x8 ∧ x8 ≤ 2147483647) (bx9 : (-2147483648) ≤ x9 ∧ x9 ≤ 2147483647) (bx10 : 0 ≤ x10 ∧ x10 ≤ 5) : fm_91_p94 X29 Q x1 x2 x3 x4 x5 x7 x8 x9 x10 s := by
  unfold fm_91_p94
  exact hX29 (x8) (x9) (x10 + 1) s hI (lf_fq_rf) (show (-2147483648 : Int) ≤ x8 ∧ x8 ≤ (2147483647 : Int) from by omega) (show (-2147483648 : Int) ≤ x9 ∧ x9 ≤ (2147483647 : Int) from by omega) (show (0 : Int) ≤ x10 + 1 ∧ x10 + 1 ≤ (6 : Int) from by omega) (show (6 - (x10 + 1)).toNat < M29 from by omega)
theorem sm_91_p91 {X29 : Int → Int → Int → lf_Z → Prop} {Q : Int → lf_Z → Prop} {x1 : Int} {x2 : Int} {x3 : Int} {x4 : Int} {x5 : Int} {x7 : Int} {x8 : Int} {x10 : Int} {y0 : Int} {y1 : Int} {s : lf_Z} (hQ : ∀ (r : Int) (s' : lf_Z), iv_A s'.1 s'.2.2 → lf_fq [63, 64, 65, 66] 1000000 true s.1 s.2.2 s'.1 s'.2.2 → (0 ≤ r ∧ r ≤ 1000000) → Q r s') {M29 : Nat} (hX29 : ∀ (x8 : Int) (x9 : Int) (x10 : Int) (s' : lf_Z), iv_A s'.1 s'.2.2 → lf_fq [63, 64, 65, 66] 1000000 true s.1 s.2.2 s'.1 s'.2.2 → (-2147483648) ≤ x8 ∧ x8 ≤ 2147483647 → (-2147483648) ≤ x9 ∧ x9 ≤ 2147483647 → 0 ≤ x10 ∧ x10 ≤ 6 → (6 - x10).toNat < M29 → X29 x8 x9 x10 s') (hM29 : (6 - x10).toNat ≤ M29) (hI : iv_A s.1 s.2.2) (bx1 : (-2147483648) ≤ x1 ∧ x1 ≤ 2147483647) (bx2 : (-1) ≤ x2 ∧ x2 ≤ 11) (bx3 : 0 ≤ x3 ∧ x3 ≤ 15) (bx4 : 0 ≤ x4 ∧ x4 ≤ 1) (bx5 : 0 ≤ x5 ∧ x5 ≤ 1) (bx7 : 0 ≤ x7 ∧ x7 ≤ 11) (bx8 : (-2147483648) ≤ x8 ∧ x8 ≤ 2147483647) (bx10 : 0 ≤ x10 ∧ x10 ≤ 5) (by0 : (-2147483648) ≤ y0 ∧ y0 ≤ 2147483647) (by1 : 0 ≤ y1 ∧ y1 ≤ 1) : fm_91_p91 X29 Q x1 x2 x3 x4 x5 x7 x8 x10 y0 y1 s := by
  unfold fm_91_p91
  have b44 : (-2147483648) ≤ lf_w (y0 + y1) ∧ lf_w (y0 + y1) ≤ 2147483647 := lf_wB
  exact sm_91_p94 hQ hX29 (show (6 - x10).toNat ≤ M29 from by omega) hI (show (-2147483648 : Int) ≤ x1 ∧ x1 ≤ (2147483647 : Int) from by omega) (show (-1 : Int) ≤ x2 ∧ x2 ≤ (11 : Int) from by omega) (show (0 : Int) ≤ x3 ∧ x3 ≤ (15 : Int) from by omega) (show (0 : Int) ≤ x4 ∧ x4 ≤ (1 : Int) from by omega) (show (0 : Int) ≤ x5 ∧ x5 ≤ (1 : Int) from by omega) (show (0 : Int) ≤ x7 ∧ x7 ≤ (11 : Int) from by omega) (show (-2147483648 : Int) ≤ x8 ∧ x8 ≤ (2147483647 : Int) from by omega) (show (-2147483648 : Int) ≤ lf_w (y0 + y1) ∧ lf_w (y0 + y1) ≤ (2147483647 : Int) from by omega) (show (0 : Int) ≤ x10 ∧ x10 ≤ (5 : Int) from by omega)
theorem sm_91_p29 {X29 : Int → Int → Int → lf_Z → Prop} {Q : Int → lf_Z → Prop} {x1 : Int} {x2 : Int} {x3 : Int} {x4 : Int} {x5 : Int} {x7 : Int} {x8 : Int} {x9 : Int} {x10 : Int} {s : lf_Z} (hQ : ∀ (r : Int) (s' : lf_Z), iv_A s'.1 s'.2.2 → lf_fq [63, 64, 65, 66] 1000000 true s.1 s.2.2 s'.1 s'.2.2 → (0 ≤ r ∧ r ≤ 1000000) → Q r s') {M29 : Nat} (hX29 : ∀ (x8 : Int) (x9 : Int) (x10 : Int) (s' : lf_Z), iv_A s'.1 s'.2.2 → lf_fq [63, 64, 65, 66] 1000000 true s.1 s.2.2 s'.1 s'.2.2 → (-2147483648) ≤ x8 ∧ x8 ≤ 2147483647 → (-2147483648) ≤ x9 ∧ x9 ≤ 2147483647 → 0 ≤ x10 ∧ x10 ≤ 6 → (6 - x10).toNat < M29 → X29 x8 x9 x10 s') (hM29 : (6 - x10).toNat ≤ M29) (hI : iv_A s.1 s.2.2) (bx1 : (-2147483648) ≤ x1 ∧ x1 ≤ 2147483647) (bx2 : (-1) ≤ x2 ∧ x2 ≤ 11) (bx3 : 0 ≤ x3 ∧ x3 ≤ 15) (bx4 : 0 ≤ x4 ∧ x4 ≤ 1) (bx5 : 0 ≤ x5 ∧ x5 ≤ 1) (bx7 : 0 ≤ x7 ∧ x7 ≤ 11) (bx8 : (-2147483648) ≤ x8 ∧ x8 ≤ 2147483647) (bx9 : (-2147483648) ≤ x9 ∧ x9 ≤ 2147483647) (bx10 : 0 ≤ x10 ∧ x10 ≤ 6) : fm_91_p29 Q x1 x2 x3 x4 x5 x7 X29 x8 x9 x10 s := by
  unfold fm_91_p29
  have b4 : 0 ≤ s.1 1 2 ∧ s.1 1 2 ≤ 6 := iv_r1_2 hI
  refine ⟨(show lf_R x10 from lf_Rof (by omega)), ?_⟩
  refine ⟨(show lf_R (s.1 1 2) from lf_Rof (by omega)), ?_⟩
  refine ⟨fun c5 => ?_, fun c5 => ?_⟩
  · skip
    replace c5 : s.1 1 2 ≤ x10 := c5
    refine ⟨fun et26 => ?_, fun t26 et26 => ?_⟩
    · skip
      exact sm_91_p118 hQ hI (show (-2147483648 : Int) ≤ x8 ∧ x8 ≤ (2147483647 : Int) from by omega)
    · have htt26 : t26 < 4 := iv_t3 hI et26
      refine ⟨htt26, ?_⟩
      have n3t26 : s.2.2 3 ≠ none := lf_sn3 et26
      refine ⟨fun et28 => ?_, fun t28 et28 => ?_⟩
      · skip
        exact absurd et28 n3t26
      · have htt28 : t28 < 4 := iv_t3 hI et28
        refine ⟨htt28, ?_⟩
        refine sm_40 htt28 hI (show (0 : Int) ≤ 1 ∧ 1 ≤ (12 : Int) from by omega) (fun z30 => ?_)
        refine ⟨fun c8 => ?_, fun c8 => ?_⟩
        · skip
          refine sm_82 hI (show (-2147483648 : Int) ≤ x1 ∧ x1 ≤ (2147483647 : Int) from by omega) (show (-1 : Int) ≤ x2 ∧ x2 ≤ (11 : Int) from by omega) (show (0 : Int) ≤ x5 ∧ x5 ≤ (1 : Int) from by omega) (fun s31 hI10 fr9 => ?_)
          have fr12 : lf_fq [63, 64, 65, 66] 1000000 true s.1 s.2.2 s31.1 s31.2.2 := lf_fq_tr (lf_fq_rf) (lf_fq_wk fr9 rfl (by decide) (by decide))
          have n13 : s31.2.2 3 ≠ none := lf_fq_n3 fr9 rfl n3t26
          refine ⟨(show (0 : Int) ≤ x7 ∧ x7 < (12 : Int) from by omega), ?_⟩
          have b14 : 0 ≤ s31.1 2 x7 ∧ s31.1 2 x7 ≤ 3 := iv_r2 hI10 _
          have b15 : s31.1 2 x7 = s.1 2 x7 := congrFun (fr9.1 2 rfl) _
          have hI16 : iv_A (lf_up s31.1 64 5 (s31.1 2 x7)) s31.2.2 := iv_w64 hI10 (by omega)
          have fr17 : lf_fq [63, 64, 65, 66] 1000000 true s.1 s.2.2 (lf_up s31.1 64 5 (s31.1 2 x7)) s31.2.2 := lf_fq_up fr12 rfl (fun h => absurd h (by decide))
          have hI18 : iv_A (lf_up (lf_up s31.1 64 5 (s31.1 2 x7)) 64 6 x8) s31.2.2 := iv_w64 hI16 (by omega)
          have fr19 : lf_fq [63, 64, 65, 66] 1000000 true s.1 s.2.2 (lf_up (lf_up s31.1 64 5 (s31.1 2 x7)) 64 6 x8) s31.2.2 := lf_fq_up fr17 rfl (fun h => absurd h (by decide))
          have hI20 : iv_A (lf_up (lf_up (lf_up s31.1 64 5 (s31.1 2 x7)) 64 6 x8) 64 7 x9) s31.2.2 := iv_w64 hI18 (by omega)
          have fr21 : lf_fq [63, 64, 65, 66] 1000000 true s.1 s.2.2 (lf_up (lf_up (lf_up s31.1 64 5 (s31.1 2 x7)) 64 6 x8) 64 7 x9) s31.2.2 := lf_fq_up fr19 rfl (fun h => absurd h (by decide))
          have hI22 : iv_A (lf_up (lf_up (lf_up (lf_up s31.1 64 5 (s31.1 2 x7)) 64 6 x8) 64 7 x9) 64 8 x4) s31.2.2 := iv_w64 hI20 (by omega)
          have fr23 : lf_fq [63, 64, 65, 66] 1000000 true s.1 s.2.2 (lf_up (lf_up (lf_up (lf_up s31.1 64 5 (s31.1 2 x7)) 64 6 x8) 64 7 x9) 64 8 x4) s31.2.2 := lf_fq_up fr21 rfl (fun h => absurd h (by decide))
          have hI24 : iv_A (lf_up (lf_up (lf_up (lf_up (lf_up s31.1 64 5 (s31.1 2 x7)) 64 6 x8) 64 7 x9) 64 8 x4) 64 10 x3) s31.2.2 := iv_w64 hI22 (by omega)
          have fr25 : lf_fq [63, 64, 65, 66] 1000000 true s.1 s.2.2 (lf_up (lf_up (lf_up (lf_up (lf_up s31.1 64 5 (s31.1 2 x7)) 64 6 x8) 64 7 x9) 64 8 x4) 64 10 x3) s31.2.2 := lf_fq_up fr23 rfl (fun h => absurd h (by decide))
          refine ⟨fun et33 => ?_, fun t33 et33 => ?_⟩
          · skip
            exact absurd et33 n13
          · have htt33 : t33 < 4 := iv_t3 hI24 et33
            refine ⟨htt33, ?_⟩
            refine sm_84b htt33 hI24 (show (0 : Int) ≤ 1 ∧ 1 ≤ (2 : Int) from by omega) (fun r39 s38 hI33 fr32 q34 => ?_)
            have fr35 : lf_fq [63, 64, 65, 66] 1000000 true s.1 s.2.2 s38.1 s38.2.2 := lf_fq_tr fr25 (lf_fq_wk fr32 rfl (by decide) (by decide))
            have n36 : s38.2.2 3 ≠ none := lf_fq_n3 fr32 rfl n13
            refine sm_55 hI33 (show (-2147483648 : Int) ≤ r39 ∧ r39 ≤ (2147483647 : Int) from by omega) (show (0 : Int) ≤ 0 ∧ 0 ≤ (0 : Int) from by omega) (show (2 : Int) ≤ 10 ∧ 10 ≤ (1000000 : Int) from by omega) (fun r41 q37 => ?_)
            obtain ⟨q37, q37x⟩ := q37
            replace q37x : 0 ≤ r41 ∧ (r41 ≤ 10 ∨ r41 ≤ 0) := q37x
            exact hQ r41 s38 hI33 fr35 (show (0 : Int) ≤ r41 ∧ r41 ≤ (1000000 : Int) from by omega)
        · skip
          exact sm_91_p118 hQ hI (show (-2147483648 : Int) ≤ x8 ∧ x8 ≤ (2147483647 : Int) from by omega)
  · skip
    replace c5 : ¬ (s.1 1 2 ≤ x10) := c5
    refine ⟨(show (0 : Int) ≤ x10 ∧ x10 < (6 : Int) from by omega), ?_⟩
    have b38 : (-2147483648) ≤ s.1 19 x10 ∧ s.1 19 x10 ≤ 2147483647 := iv_full hI
    refine ⟨(show lf_R (s.1 19 x10) from lf_Rof (by omega)), ?_⟩
    refine ⟨(show lf_R x7 from lf_Rof (by omega)), ?_⟩
    refine ⟨fun c39 => ?_, fun c39 => ?_⟩
    · skip
      replace c39 : s.1 19 x10 ≠ x7 := c39
      exact sm_91_p94 hQ hX29 (show (6 - x10).toNat ≤ M29 from by omega) hI (show (-2147483648 : Int) ≤ x1 ∧ x1 ≤ (2147483647 : Int) from by omega) (show (-1 : Int) ≤ x2 ∧ x2 ≤ (11 : Int) from by omega) (show (0 : Int) ≤ x3 ∧ x3 ≤ (15 : Int) from by omega) (show (0 : Int) ≤ x4 ∧ x4 ≤ (1 : Int) from by omega) (show (0 : Int) ≤ x5 ∧ x5 ≤ (1 : Int) from by omega) (show (0 : Int) ≤ x7 ∧ x7 ≤ (11 : Int) from by omega) (show (-2147483648 : Int) ≤ x8 ∧ x8 ≤ (2147483647 : Int) from by omega) (show (-2147483648 : Int) ≤ x9 ∧ x9 ≤ (2147483647 : Int) from by omega) (show (0 : Int) ≤ x10 ∧ x10 ≤ (5 : Int) from by omega)
    · skip
      replace c39 : ¬ (s.1 19 x10 ≠ x7) := c39
      have b40 : 0 ≤ s.1 7 x10 ∧ s.1 7 x10 ≤ 9 := iv_r7 hI _
      have b41 : (-2147483648) ≤ lf_w (x8 + (s.1 7 x10)) ∧ lf_w (x8 + (s.1 7 x10)) ≤ 2147483647 := lf_wB
      have b42 : 0 ≤ s.1 9 x10 ∧ s.1 9 x10 ≤ 1 := iv_r9 hI _
      refine ⟨(show lf_R (s.1 9 x10) from lf_Rof (by omega)), ?_⟩
      refine ⟨fun c43 => ?_, fun c43 => ?_⟩
      · skip
        replace c43 : s.1 9 x10 = 0 := c43
        exact sm_91_p91 hQ hX29 (show (6 - x10).toNat ≤ M29 from by omega) hI (show (-2147483648 : Int) ≤ x1 ∧ x1 ≤ (2147483647 : Int) from by omega) (show (-1 : Int) ≤ x2 ∧ x2 ≤ (11 : Int) from by omega) (show (0 : Int) ≤ x3 ∧ x3 ≤ (15 : Int) from by omega) (show (0 : Int) ≤ x4 ∧ x4 ≤ (1 : Int) from by omega) (show (0 : Int) ≤ x5 ∧ x5 ≤ (1 : Int) from by omega) (show (0 : Int) ≤ x7 ∧ x7 ≤ (11 : Int) from by omega) (show (-2147483648 : Int) ≤ lf_w (x8 + (s.1 7 x10)) ∧ lf_w (x8 + (s.1 7 x10)) ≤ (2147483647 : Int) from by omega) (show (0 : Int) ≤ x10 ∧ x10 ≤ (5 : Int) from by omega) (show (-2147483648 : Int) ≤ x9 ∧ x9 ≤ (2147483647 : Int) from by omega) (show (0 : Int) ≤ 0 ∧ 0 ≤ (1 : Int) from by omega)
      · skip
        replace c43 : ¬ (s.1 9 x10 = 0) := c43
        exact sm_91_p91 hQ hX29 (show (6 - x10).toNat ≤ M29 from by omega) hI (show (-2147483648 : Int) ≤ x1 ∧ x1 ≤ (2147483647 : Int) from by omega) (show (-1 : Int) ≤ x2 ∧ x2 ≤ (11 : Int) from by omega) (show (0 : Int) ≤ x3 ∧ x3 ≤ (15 : Int) from by omega) (show (0 : Int) ≤ x4 ∧ x4 ≤ (1 : Int) from by omega) (show (0 : Int) ≤ x5 ∧ x5 ≤ (1 : Int) from by omega) (show (0 : Int) ≤ x7 ∧ x7 ≤ (11 : Int) from by omega) (show (-2147483648 : Int) ≤ lf_w (x8 + (s.1 7 x10)) ∧ lf_w (x8 + (s.1 7 x10)) ≤ (2147483647 : Int) from by omega) (show (0 : Int) ≤ x10 ∧ x10 ≤ (5 : Int) from by omega) (show (-2147483648 : Int) ≤ x9 ∧ x9 ≤ (2147483647 : Int) from by omega) (show (0 : Int) ≤ 1 ∧ 1 ≤ (1 : Int) from by omega)
theorem sm_91_p29L {Q : Int → lf_Z → Prop} {x1 : Int} {x2 : Int} {x3 : Int} {x4 : Int} {x5 : Int} {x7 : Int} {x8 : Int} {x9 : Int} {x10 : Int} {s : lf_Z} (hQ : ∀ (r : Int) (s' : lf_Z), iv_A s'.1 s'.2.2 → lf_fq [63, 64, 65, 66] 1000000 true s.1 s.2.2 s'.1 s'.2.2 → (0 ≤ r ∧ r ≤ 1000000) → Q r s') (hI : iv_A s.1 s.2.2) (bx1 : (-2147483648) ≤ x1 ∧ x1 ≤ 2147483647) (bx2 : (-1) ≤ x2 ∧ x2 ≤ 11) (bx3 : 0 ≤ x3 ∧ x3 ≤ 15) (bx4 : 0 ≤ x4 ∧ x4 ≤ 1) (bx5 : 0 ≤ x5 ∧ x5 ≤ 1) (bx7 : 0 ≤ x7 ∧ x7 ≤ 11) (bx8 : (-2147483648) ≤ x8 ∧ x8 ≤ 2147483647) (bx9 : (-2147483648) ≤ x9 ∧ x9 ≤ 2147483647) (bx10 : 0 ≤ x10 ∧ x10 ≤ 6) : fm_91_p29L Q x1 x2 x3 x4 x5 x7 x8 x9 x10 s := by
  intro X29 hX
  have key : ∀ (m9 : Nat) (x8 : Int) (x9 : Int) (x10 : Int) (s' : lf_Z), iv_A s'.1 s'.2.2 → lf_fq [63, 64, 65, 66] 1000000 true s.1 s.2.2 s'.1 s'.2.2 → (-2147483648) ≤ x8 ∧ x8 ≤ 2147483647 → (-2147483648) ≤ x9 ∧ x9 ≤ 2147483647 → 0 ≤ x10 ∧ x10 ≤ 6 → (6 - x10).toNat < m9 → X29 x8 x9 x10 s' := by
    intro m9
    induction m9 with
    | zero => intro x8 x9 x10 s' _ _ bx8 bx9 bx10 h9; exact absurd h9 (Nat.not_lt_zero _)
    | succ m9 ih => intro x8 x9 x10 s' i7 f7 bx8 bx9 bx10 h9; exact hX _ _ _ _ (sm_91_p29 (fun r9 t9 i9 f9 => hQ r9 t9 i9 (lf_fq_tr f7 f9))   (fun x8' x9' x10' t8 i8 f8 bx8' bx9' bx10' h8 => ih x8' x9' x10' t8 i8 (lf_fq_tr f7 f8) bx8' bx9' bx10' (by omega)) (Nat.le_refl _)  i7  bx1 bx2 bx3 bx4 bx5 bx7 bx8 bx9 bx10  )
  exact key _ _ _ _ s hI lf_fq_rf bx8 bx9 bx10 (Nat.lt_succ_self _)
theorem sm_91 {a1 : Int} {a2 : Int} {a3 : Int} {a4 : Int} {a5 : Int} {a6 : Int} {Q : Int → lf_Z → Prop} {s : lf_Z} (hI : iv_A s.1 s.2.2) (ba1 : (-2147483648) ≤ a1 ∧ a1 ≤ 2147483647) (ba2 : (-1) ≤ a2 ∧ a2 ≤ 11) (ba3 : 0 ≤ a3 ∧ a3 ≤ 15) (ba4 : 0 ≤ a4 ∧ a4 ≤ 1) (ba5 : 0 ≤ a5 ∧ a5 ≤ 1) (ba6 : (-2147483648) ≤ a6 ∧ a6 ≤ 2147483647) (hQ : ∀ (r : Int) (s' : lf_Z), iv_A s'.1 s'.2.2 → lf_fq [63, 64, 65, 66] 1000000 true s.1 s.2.2 s'.1 s'.2.2 → (0 ≤ r ∧ r ≤ 1000000) → Q r s') : fm_91 a1 a2 a3 a4 a5 a6 Q s := by
  unfold fm_91
  refine sm_78 hI (show (-1 : Int) ≤ a3 ∧ a3 ≤ (15 : Int) from by omega) (show (-2147483648 : Int) ≤ a2 ∧ a2 ≤ (2147483647 : Int) from by omega) (fun r22 q1 => ?_)
  obtain ⟨q1, q1x⟩ := q1
  have b2 : 0 ≤ s.1 1 1 ∧ s.1 1 1 ≤ 16 := iv_r1_1 hI
  replace q1x : r22 = iv_od (s.1 1 1) (s.1 4) (s.1 5) a3 a2 := q1x
  refine ⟨(show lf_R r22 from lf_Rof (by omega)), ?_⟩
  refine ⟨fun c3 => ?_, fun c3 => ?_⟩
  · skip
    replace c3 : r22 ≠ (-1) := c3
    exact sm_91_p29L hQ hI (show (-2147483648 : Int) ≤ a1 ∧ a1 ≤ (2147483647 : Int) from by omega) (show (-1 : Int) ≤ a2 ∧ a2 ≤ (11 : Int) from by omega) (show (0 : Int) ≤ a3 ∧ a3 ≤ (15 : Int) from by omega) (show (0 : Int) ≤ a4 ∧ a4 ≤ (1 : Int) from by omega) (show (0 : Int) ≤ a5 ∧ a5 ≤ (1 : Int) from by omega) (show (0 : Int) ≤ r22 ∧ r22 ≤ (11 : Int) from by omega) (show (-2147483648 : Int) ≤ a6 ∧ a6 ≤ (2147483647 : Int) from by omega) (show (-2147483648 : Int) ≤ 0 ∧ 0 ≤ (2147483647 : Int) from by omega) (show (0 : Int) ≤ 0 ∧ 0 ≤ (6 : Int) from by omega)
  · skip
    replace c3 : ¬ (r22 ≠ (-1)) := c3
    exact hQ 0 s hI (lf_fq_rf) (show (0 : Int) ≤ 0 ∧ 0 ≤ (1000000 : Int) from by omega)
-- fm_94 Stand.renew 15
theorem sm_94 {Q : lf_Z → Prop} {s : lf_Z} (hI : iv_A s.1 s.2.2) (hQ : ∀  (s' : lf_Z), iv_A s'.1 s'.2.2 → lf_fq [15] 1000000 true s.1 s.2.2 s'.1 s'.2.2 → Q  s') : fm_94 Q s := by
  unfold fm_94
  have b1 : (-2147483648) ≤ s.1 15 8 ∧ s.1 15 8 ≤ 2147483647 := iv_full hI
  have b2 : (-2147483648) ≤ lf_w ((s.1 15 8) * 239) ∧ lf_w ((s.1 15 8) * 239) ≤ 2147483647 := lf_wB
  have b3 : (-2147483648) ≤ lf_w ((lf_w ((s.1 15 8) * 239)) + 137) ∧ lf_w ((lf_w ((s.1 15 8) * 239)) + 137) ≤ 2147483647 := lf_wB
  have b4 : (-30202) ≤ (lf_w ((lf_w ((s.1 15 8) * 239)) + 137)).tmod 30203 ∧ (lf_w ((lf_w ((s.1 15 8) * 239)) + 137)).tmod 30203 ≤ 30202 := lf_tmodM (by omega) (by omega)
  have b5 : (lf_w ((lf_w ((s.1 15 8) * 239)) + 137)).tdiv 30203 ≤ 0 ∨ 0 ≤ (lf_w ((lf_w ((s.1 15 8) * 239)) + 137)).tmod 30203 := lf_tmS (by decide)
  have hI6 : iv_A (lf_up s.1 15 8 ((lf_w ((lf_w ((s.1 15 8) * 239)) + 137)).tmod 30203)) s.2.2 := iv_w15_8 hI (by omega)
  have fr7 : lf_fq [15] 1000000 true s.1 s.2.2 (lf_up s.1 15 8 ((lf_w ((lf_w ((s.1 15 8) * 239)) + 137)).tmod 30203)) s.2.2 := lf_fq_up (lf_fq_rf) rfl (fun h => absurd h (by decide))
  exact hQ (lf_up s.1 15 8 ((lf_w ((lf_w ((s.1 15 8) * 239)) + 137)).tmod 30203), s.2.1, s.2.2) hI6 fr7
-- fm_93 Stand.drawByTen 15
theorem sm_93 {Q : Int → lf_Z → Prop} {s : lf_Z} (hI : iv_A s.1 s.2.2) (hQ : ∀ (r : Int) (s' : lf_Z), iv_A s'.1 s'.2.2 → lf_fq [15] 1000000 true s.1 s.2.2 s'.1 s'.2.2 → ((-9) ≤ r ∧ r ≤ 9) → Q r s') : fm_93 Q s := by
  unfold fm_93
  have b1 : (-2147483648) ≤ s.1 15 8 ∧ s.1 15 8 ≤ 2147483647 := iv_full hI
  refine ⟨(show lf_R (s.1 15 8) from lf_Rof (by omega)), ?_⟩
  have b2 : (-9) ≤ (s.1 15 8).tmod 10 ∧ (s.1 15 8).tmod 10 ≤ 9 := lf_tmodM (by omega) (by omega)
  have b3 : (s.1 15 8).tdiv 10 ≤ 0 ∨ 0 ≤ (s.1 15 8).tmod 10 := lf_tmS (by decide)
  refine sm_94 hI (fun s22 hI5 fr4 => ?_)
  have fr7 : lf_fq [15] 1000000 true s.1 s.2.2 s22.1 s22.2.2 := lf_fq_tr (lf_fq_rf) (lf_fq_wk fr4 rfl (by decide) (by decide))
  exact hQ ((s.1 15 8).tmod 10) s22 hI5 fr7 (show (-9 : Int) ≤ (s.1 15 8).tmod 10 ∧ (s.1 15 8).tmod 10 ≤ (9 : Int) from by omega)
-- fm_92 Minutes.isTaken 67 i
theorem sm_92_p10 {Q : Bool → lf_Z → Prop} {x1 : Int} {s : lf_Z} (hQ : ∀ (z : Bool) (s' : lf_Z), iv_A s'.1 s'.2.2 → lf_fq [15] 1000000 true s.1 s.2.2 s'.1 s'.2.2 → Q z s') (hI : iv_A s.1 s.2.2) (bx1 : 0 ≤ x1 ∧ x1 ≤ 10) : fm_92_p10 Q x1 s := by
  unfold fm_92_p10
  refine ⟨(show lf_R x1 from lf_Rof (by omega)), ?_⟩
  refine ⟨fun c2 => ?_, fun c2 => ?_⟩
  · skip
    replace c2 : x1 ≠ 10 := c2
    exact hQ false s hI (lf_fq_rf)
  · skip
    replace c2 : ¬ (x1 ≠ 10) := c2
    exact hQ true s hI (lf_fq_rf)
theorem sm_92 {a1 : Int} {Q : Bool → lf_Z → Prop} {s : lf_Z} (hI : iv_A s.1 s.2.2) (ba1 : 0 ≤ a1 ∧ a1 ≤ 1000000) (hQ : ∀ (z : Bool) (s' : lf_Z), iv_A s'.1 s'.2.2 → lf_fq [15] 1000000 true s.1 s.2.2 s'.1 s'.2.2 → Q z s') : fm_92 a1 Q s := by
  unfold fm_92
  refine ⟨(show lf_R a1 from lf_Rof (by omega)), ?_⟩
  refine ⟨fun c1 => ?_, fun c1 => ?_⟩
  · skip
    replace c1 : a1 = 0 := c1
    exact sm_92_p10 hQ hI (show (0 : Int) ≤ a1 ∧ a1 ≤ (10 : Int) from by omega)
  · skip
    replace c1 : ¬ (a1 = 0) := c1
    refine ⟨fun c3 => ?_, fun c3 => ?_⟩
    · skip
      replace c3 : a1 ≠ 10 := c3
      refine sm_93 hI (fun r24 s23 hI5 fr4 q6 => ?_)
      have fr7 : lf_fq [15] 1000000 true s.1 s.2.2 s23.1 s23.2.2 := lf_fq_tr (lf_fq_rf) (lf_fq_wk fr4 rfl (by decide) (by decide))
      refine ⟨(show lf_R r24 from lf_Rof (by omega)), ?_⟩
      refine ⟨fun c8 => ?_, fun c8 => ?_⟩
      · skip
        replace c8 : a1 ≤ r24 := c8
        exact hQ false s23 hI5 fr7
      · skip
        replace c8 : ¬ (a1 ≤ r24) := c8
        exact hQ true s23 hI5 fr7
    · skip
      replace c3 : ¬ (a1 ≠ 10) := c3
      exact sm_92_p10 hQ hI (show (0 : Int) ≤ a1 ∧ a1 ≤ (10 : Int) from by omega)
-- fm_88 Minutes.moveOn 67 i
theorem sm_88_p153 {X12 : Int → lf_Z → Prop} {Q : lf_Z → Prop} {x1 : Int} {x2 : Int} {x3 : Int} {s : lf_Z} (hQ : ∀  (s' : lf_Z), iv_A s'.1 s'.2.2 → lf_fq [15, 17, 18, 63, 64, 65, 66] 1000000 true s.1 s.2.2 s'.1 s'.2.2 → Q  s') {M12 : Nat} (hX12 : ∀ (x3 : Int) (s' : lf_Z), iv_A s'.1 s'.2.2 → lf_fq [15, 17, 18, 63, 64, 65, 66] 1000000 true s.1 s.2.2 s'.1 s'.2.2 → 0 ≤ x3 ∧ x3 ≤ 4 → (4 - x3).toNat < M12 → X12 x3 s') (hM12 : (4 - x3).toNat ≤ M12) (hI : iv_A s.1 s.2.2) (bx1 : 0 ≤ x1 ∧ x1 ≤ 3) (bx2 : (-1) ≤ x2 ∧ x2 ≤ 11) (bx3 : 0 ≤ x3 ∧ x3 ≤ 3) : fm_88_p153 X12 Q x1 x2 x3 s := by
  unfold fm_88_p153
  exact hX12 (x3 + 1) s hI (lf_fq_rf) (show (0 : Int) ≤ x3 + 1 ∧ x3 + 1 ≤ (4 : Int) from by omega) (show (4 - (x3 + 1)).toNat < M12 from by omega)
theorem sm_88_p99 {X12 : Int → lf_Z → Prop} {Q : lf_Z → Prop} {x1 : Int} {x2 : Int} {x3 : Int} {x4 : Int} {x5 : Int} {y0 : Int} {s : lf_Z} (hQ : ∀  (s' : lf_Z), iv_A s'.1 s'.2.2 → lf_fq [15, 17, 18, 63, 64, 65, 66] 1000000 true s.1 s.2.2 s'.1 s'.2.2 → Q  s') {M12 : Nat} (hX12 : ∀ (x3 : Int) (s' : lf_Z), iv_A s'.1 s'.2.2 → lf_fq [15, 17, 18, 63, 64, 65, 66] 1000000 true s.1 s.2.2 s'.1 s'.2.2 → 0 ≤ x3 ∧ x3 ≤ 4 → (4 - x3).toNat < M12 → X12 x3 s') (hM12 : (4 - x3).toNat ≤ M12) (hI : iv_A s.1 s.2.2) (bx1 : 0 ≤ x1 ∧ x1 ≤ 3) (bx2 : (-1) ≤ x2 ∧ x2 ≤ 11) (bx3 : 0 ≤ x3 ∧ x3 ≤ 3) (bx4 : 0 ≤ x4 ∧ x4 ≤ 15) (bx5 : 0 ≤ x5 ∧ x5 ≤ 11) (by0 : 0 ≤ y0 ∧ y0 ≤ 1) : fm_88_p99 X12 Q x1 x2 x3 x4 x5 y0 s := by
  unfold fm_88_p99
  refine ⟨(show (0 : Int) ≤ x1 ∧ x1 < (4 : Int) from by omega), ?_⟩
  have b17 : (-2147483648) ≤ s.1 16 x1 ∧ s.1 16 x1 ≤ 2147483647 := iv_full hI
  refine sm_91 hI (show (-2147483648 : Int) ≤ s.1 16 x1 ∧ s.1 16 x1 ≤ (2147483647 : Int) from by omega) (show (-1 : Int) ≤ x2 ∧ x2 ≤ (11 : Int) from by omega) (show (0 : Int) ≤ x4 ∧ x4 ≤ (15 : Int) from by omega) (show (0 : Int) ≤ y0 ∧ y0 ≤ (1 : Int) from by omega) (show (0 : Int) ≤ 0 ∧ 0 ≤ (1 : Int) from by omega) (show (-2147483648 : Int) ≤ 0 ∧ 0 ≤ (2147483647 : Int) from by omega) (fun r39 s38 hI19 fr18 q20 => ?_)
  have fr21 : lf_fq [15, 17, 18, 63, 64, 65, 66] 1000000 true s.1 s.2.2 s38.1 s38.2.2 := lf_fq_tr (lf_fq_rf) (lf_fq_wk fr18 rfl (by decide) (by decide))
  refine sm_92 hI19 (show (0 : Int) ≤ r39 ∧ r39 ≤ (1000000 : Int) from by omega) (fun z41 s40 hI23 fr22 => ?_)
  have fr25 : lf_fq [15, 17, 18, 63, 64, 65, 66] 1000000 true s.1 s.2.2 s40.1 s40.2.2 := lf_fq_tr fr21 (lf_fq_wk fr22 rfl (by decide) (by decide))
  refine ⟨fun c26 => ?_, fun c26 => ?_⟩
  · skip
    exact sm_88_p153 (fun t9 i9 f9 => hQ t9 i9 (lf_fq_tr fr25 f9)) (fun p0 t9 i9 f9 => hX12 p0 t9 i9 (lf_fq_tr fr25 f9)) (show (4 - x3).toNat ≤ M12 from by omega) hI23 (show (0 : Int) ≤ x1 ∧ x1 ≤ (3 : Int) from by omega) (show (-1 : Int) ≤ x2 ∧ x2 ≤ (11 : Int) from by omega) (show (0 : Int) ≤ x3 ∧ x3 ≤ (3 : Int) from by omega)
  · skip
    have hI27 : iv_A (lf_up s40.1 18 x1 x2) s40.2.2 := iv_w18 hI23 (by omega)
    have fr28 : lf_fq [15, 17, 18, 63, 64, 65, 66] 1000000 true s.1 s.2.2 (lf_up s40.1 18 x1 x2) s40.2.2 := lf_fq_up fr25 rfl (fun h => absurd h (by decide))
    have b29 : (-2147483648) ≤ s40.1 16 x1 ∧ s40.1 16 x1 ≤ 2147483647 := (show (-2147483648) ≤ (lf_up s40.1 18 x1 x2) 16 x1 ∧ (lf_up s40.1 18 x1 x2) 16 x1 ≤ 2147483647 from iv_full hI27)
    have b30 : s40.1 16 x1 = s38.1 16 x1 := congrFun (fr22.1 16 rfl) _
    have b31 : s38.1 16 x1 = s.1 16 x1 := congrFun (fr18.1 16 rfl) _
    have hI32 : iv_A (lf_up (lf_up s40.1 18 x1 x2) 17 x1 x5) s40.2.2 := iv_w17 hI27 (by omega) (by omega)
    have fr33 : lf_fq [15, 17, 18, 63, 64, 65, 66] 1000000 true s.1 s.2.2 (lf_up (lf_up s40.1 18 x1 x2) 17 x1 x5) s40.2.2 := lf_fq_up fr28 rfl (fun h => absurd h (by decide))
    exact hQ (lf_up (lf_up s40.1 18 x1 x2) 17 x1 x5, s40.2.1, s40.2.2) hI32 fr33
theorem sm_88_p12 {X12 : Int → lf_Z → Prop} {Q : lf_Z → Prop} {x1 : Int} {x2 : Int} {x3 : Int} {s : lf_Z} (hQ : ∀  (s' : lf_Z), iv_A s'.1 s'.2.2 → lf_fq [15, 17, 18, 63, 64, 65, 66] 1000000 true s.1 s.2.2 s'.1 s'.2.2 → Q  s') {M12 : Nat} (hX12 : ∀ (x3 : Int) (s' : lf_Z), iv_A s'.1 s'.2.2 → lf_fq [15, 17, 18, 63, 64, 65, 66] 1000000 true s.1 s.2.2 s'.1 s'.2.2 → 0 ≤ x3 ∧ x3 ≤ 4 → (4 - x3).toNat < M12 → X12 x3 s') (hM12 : (4 - x3).toNat ≤ M12) (hI : iv_A s.1 s.2.2) (bx1 : 0 ≤ x1 ∧ x1 ≤ 3) (bx2 : (-1) ≤ x2 ∧ x2 ≤ 11) (bx3 : 0 ≤ x3 ∧ x3 ≤ 4) : fm_88_p12 Q x1 x2 X12 x3 s := by
  unfold fm_88_p12
  refine sm_76 hI (show (-2147483648 : Int) ≤ x2 ∧ x2 ≤ (2147483647 : Int) from by omega) (fun r23 q3 => ?_)
  refine ⟨(show lf_R x3 from lf_Rof (by omega)), ?_⟩
  refine ⟨(show lf_R r23 from lf_Rof (by omega)), ?_⟩
  refine ⟨fun c4 => ?_, fun c4 => ?_⟩
  · skip
    replace c4 : r23 ≤ x3 := c4
    exact hQ s hI (lf_fq_rf)
  · skip
    replace c4 : ¬ (r23 ≤ x3) := c4
    refine sm_77 hI (show (-2147483648 : Int) ≤ x2 ∧ x2 ≤ (2147483647 : Int) from by omega) (show (0 : Int) ≤ x3 ∧ x3 ≤ (3 : Int) from by omega) (fun r27 q5 => ?_)
    refine sm_78 hI (show (-1 : Int) ≤ r27 ∧ r27 ≤ (15 : Int) from by omega) (show (-2147483648 : Int) ≤ x2 ∧ x2 ≤ (2147483647 : Int) from by omega) (fun r29 q6 => ?_)
    obtain ⟨q6, q6x⟩ := q6
    have b7 : 0 ≤ s.1 1 1 ∧ s.1 1 1 ≤ 16 := iv_r1_1 hI
    replace q6x : r29 = iv_od (s.1 1 1) (s.1 4) (s.1 5) r27 x2 := q6x
    refine ⟨(show lf_R r29 from lf_Rof (by omega)), ?_⟩
    refine ⟨fun c8 => ?_, fun c8 => ?_⟩
    · skip
      replace c8 : r29 = (-1) := c8
      exact sm_88_p153 hQ hX12 (show (4 - x3).toNat ≤ M12 from by omega) hI (show (0 : Int) ≤ x1 ∧ x1 ≤ (3 : Int) from by omega) (show (-1 : Int) ≤ x2 ∧ x2 ≤ (11 : Int) from by omega) (show (0 : Int) ≤ x3 ∧ x3 ≤ (3 : Int) from by omega)
    · skip
      replace c8 : ¬ (r29 = (-1)) := c8
      refine sm_89 hI (show (-2147483648 : Int) ≤ r27 ∧ r27 ≤ (2147483647 : Int) from by omega) (fun z32 q9 => ?_)
      have b10 : 0 ≤ s.1 1 1 ∧ s.1 1 1 ≤ 16 := iv_r1_1 hI
      have b11 : 0 ≤ s.1 6 r27 ∧ s.1 6 r27 ≤ 1 := iv_r6 hI _
      refine ⟨fun c12 => ?_, fun c12 => ?_⟩
      · skip
        have dc12 := q9.2 c12
        exact sm_88_p153 hQ hX12 (show (4 - x3).toNat ≤ M12 from by omega) hI (show (0 : Int) ≤ x1 ∧ x1 ≤ (3 : Int) from by omega) (show (-1 : Int) ≤ x2 ∧ x2 ≤ (11 : Int) from by omega) (show (0 : Int) ≤ x3 ∧ x3 ≤ (3 : Int) from by omega)
      · skip
        have dc12 := q9.1 c12
        refine sm_90 hI (show (0 : Int) ≤ r27 ∧ r27 ≤ (15 : Int) from by omega) (fun z34 => ?_)
        refine ⟨fun c14 => ?_, fun c14 => ?_⟩
        · skip
          refine ⟨(show (0 : Int) ≤ x1 ∧ x1 < (4 : Int) from by omega), ?_⟩
          have b15 : (-1) ≤ s.1 18 x1 ∧ s.1 18 x1 ≤ 11 := iv_r18 hI _
          refine ⟨(show lf_R (s.1 18 x1) from lf_Rof (by omega)), ?_⟩
          refine ⟨fun c16 => ?_, fun c16 => ?_⟩
          · skip
            replace c16 : s.1 18 x1 ≠ r29 := c16
            exact sm_88_p99 hQ hX12 (show (4 - x3).toNat ≤ M12 from by omega) hI (show (0 : Int) ≤ x1 ∧ x1 ≤ (3 : Int) from by omega) (show (-1 : Int) ≤ x2 ∧ x2 ≤ (11 : Int) from by omega) (show (0 : Int) ≤ x3 ∧ x3 ≤ (3 : Int) from by omega) (show (0 : Int) ≤ r27 ∧ r27 ≤ (15 : Int) from by omega) (show (0 : Int) ≤ r29 ∧ r29 ≤ (11 : Int) from by omega) (show (0 : Int) ≤ 0 ∧ 0 ≤ (1 : Int) from by omega)
          · skip
            replace c16 : ¬ (s.1 18 x1 ≠ r29) := c16
            exact sm_88_p99 hQ hX12 (show (4 - x3).toNat ≤ M12 from by omega) hI (show (0 : Int) ≤ x1 ∧ x1 ≤ (3 : Int) from by omega) (show (-1 : Int) ≤ x2 ∧ x2 ≤ (11 : Int) from by omega) (show (0 : Int) ≤ x3 ∧ x3 ≤ (3 : Int) from by omega) (show (0 : Int) ≤ r27 ∧ r27 ≤ (15 : Int) from by omega) (show (0 : Int) ≤ r29 ∧ r29 ≤ (11 : Int) from by omega) (show (0 : Int) ≤ 1 ∧ 1 ≤ (1 : Int) from by omega)
        · skip
          exact sm_88_p153 hQ hX12 (show (4 - x3).toNat ≤ M12 from by omega) hI (show (0 : Int) ≤ x1 ∧ x1 ≤ (3 : Int) from by omega) (show (-1 : Int) ≤ x2 ∧ x2 ≤ (11 : Int) from by omega) (show (0 : Int) ≤ x3 ∧ x3 ≤ (3 : Int) from by omega)
theorem sm_88_p12L {Q : lf_Z → Prop} {x1 : Int} {x2 : Int} {x3 : Int} {s : lf_Z} (hQ : ∀  (s' : lf_Z), iv_A s'.1 s'.2.2 → lf_fq [15, 17, 18, 63, 64, 65, 66] 1000000 true s.1 s.2.2 s'.1 s'.2.2 → Q  s') (hI : iv_A s.1 s.2.2) (bx1 : 0 ≤ x1 ∧ x1 ≤ 3) (bx2 : (-1) ≤ x2 ∧ x2 ≤ 11) (bx3 : 0 ≤ x3 ∧ x3 ≤ 4) : fm_88_p12L Q x1 x2 x3 s := by
  intro X12 hX
  have key : ∀ (m9 : Nat) (x3 : Int) (s' : lf_Z), iv_A s'.1 s'.2.2 → lf_fq [15, 17, 18, 63, 64, 65, 66] 1000000 true s.1 s.2.2 s'.1 s'.2.2 → 0 ≤ x3 ∧ x3 ≤ 4 → (4 - x3).toNat < m9 → X12 x3 s' := by
    intro m9
    induction m9 with
    | zero => intro x3 s' _ _ bx3 h9; exact absurd h9 (Nat.not_lt_zero _)
    | succ m9 ih => intro x3 s' i7 f7 bx3 h9; exact hX _ _ (sm_88_p12 (fun t9 i9 f9 => hQ t9 i9 (lf_fq_tr f7 f9))   (fun x3' t8 i8 f8 bx3' h8 => ih x3' t8 i8 (lf_fq_tr f7 f8) bx3' (by omega)) (Nat.le_refl _)  i7  bx1 bx2 bx3  )
  exact key _ _ s hI lf_fq_rf bx3 (Nat.lt_succ_self _)
theorem sm_88 {a1 : Int} {Q : lf_Z → Prop} {s : lf_Z} (hI : iv_A s.1 s.2.2) (ba1 : 0 ≤ a1 ∧ a1 ≤ 3) (hQ : ∀  (s' : lf_Z), iv_A s'.1 s'.2.2 → lf_fq [15, 17, 18, 63, 64, 65, 66] 1000000 true s.1 s.2.2 s'.1 s'.2.2 → Q  s') : fm_88 a1 Q s := by
  unfold fm_88
  refine ⟨(show (0 : Int) ≤ a1 ∧ a1 < (4 : Int) from by omega), ?_⟩
  have b1 : (-1) ≤ s.1 17 a1 ∧ s.1 17 a1 ≤ 11 := iv_r17 hI _
  have b2 : s.1 16 a1 ≤ 0 ∨ 0 ≤ s.1 17 a1 := (by first | exact (show s.1 16 a1 ≤ 0 ∨ 0 ≤ s.1 17 a1 from iv_sp hI (by omega) (by omega)) | exact iv_sp hI (by omega) (by omega))
  exact sm_88_p12L hQ hI (show (0 : Int) ≤ a1 ∧ a1 ≤ (3 : Int) from by omega) (show (-1 : Int) ≤ s.1 17 a1 ∧ s.1 17 a1 ≤ (11 : Int) from by omega) (show (0 : Int) ≤ 0 ∧ 0 ≤ (4 : Int) from by omega)
-- fm_81 Laws.paceOf 63 i
theorem sm_81_p89 {Q : Int → lf_Z → Prop} {y1 : Int} {y2 : Int} {s : lf_Z} (hQ : ∀ (r : Int) (s' : lf_Z), iv_A s'.1 s'.2.2 → lf_fq [63, 64, 65, 66] 1000000 true s.1 s.2.2 s'.1 s'.2.2 → (0 ≤ r ∧ r ≤ 1000000) → Q r s') (hI : iv_A s.1 s.2.2) (by1 : 4 ≤ y1 ∧ y1 ≤ 4) (by2 : 0 ≤ y2 ∧ y2 ≤ 6) (kv0 : s.2.2 3 ≠ none) : fm_81_p89 Q y1 y2 s := by
  unfold fm_81_p89
  refine ⟨(show (0 : Int) ≤ y1 ∧ y1 < (11 : Int) from by omega), ?_⟩
  have hI17 : iv_A (lf_up s.1 64 y1 y2) s.2.2 := iv_w64 hI (by omega)
  have fr18 : lf_fq [63, 64, 65, 66] 1000000 true s.1 s.2.2 (lf_up s.1 64 y1 y2) s.2.2 := lf_fq_up (lf_fq_rf) rfl (fun h => absurd h (by decide))
  refine ⟨fun et33 => ?_, fun t33 et33 => ?_⟩
  · skip
    exact absurd et33 kv0
  · have htt33 : t33 < 4 := iv_t3 hI17 et33
    refine ⟨htt33, ?_⟩
    refine sm_84b htt33 hI17 (show (0 : Int) ≤ 0 ∧ 0 ≤ (2 : Int) from by omega) (fun r39 s38 hI26 fr25 q27 => ?_)
    have fr28 : lf_fq [63, 64, 65, 66] 1000000 true s.1 s.2.2 s38.1 s38.2.2 := lf_fq_tr fr18 (lf_fq_wk fr25 rfl (by decide) (by decide))
    have n29 : s38.2.2 3 ≠ none := lf_fq_n3 fr25 rfl kv0
    refine sm_55 hI26 (show (-2147483648 : Int) ≤ r39 ∧ r39 ≤ (2147483647 : Int) from by omega) (show (0 : Int) ≤ 0 ∧ 0 ≤ (0 : Int) from by omega) (show (2 : Int) ≤ 2 ∧ 2 ≤ (1000000 : Int) from by omega) (fun r41 q30 => ?_)
    obtain ⟨q30, q30x⟩ := q30
    replace q30x : 0 ≤ r41 ∧ (r41 ≤ 2 ∨ r41 ≤ 0) := q30x
    exact hQ r41 s38 hI26 fr28 (show (0 : Int) ≤ r41 ∧ r41 ≤ (1000000 : Int) from by omega)
theorem sm_81 {a1 : Int} {Q : Int → lf_Z → Prop} {s : lf_Z} (hI : iv_A s.1 s.2.2) (ba1 : 0 ≤ a1 ∧ a1 ≤ 3) (hQ : ∀ (r : Int) (s' : lf_Z), iv_A s'.1 s'.2.2 → lf_fq [63, 64, 65, 66] 1000000 true s.1 s.2.2 s'.1 s'.2.2 → (0 ≤ r ∧ r ≤ 1000000) → Q r s') : fm_81 a1 Q s := by
  unfold fm_81
  refine ⟨fun et21 => ?_, fun t21 et21 => ?_⟩
  · skip
    exact hQ 1 s hI (lf_fq_rf) (show (0 : Int) ≤ 1 ∧ 1 ≤ (1000000 : Int) from by omega)
  · have htt21 : t21 < 4 := iv_t3 hI et21
    refine ⟨htt21, ?_⟩
    have n3t21 : s.2.2 3 ≠ none := lf_sn3 et21
    refine ⟨fun et22 => ?_, fun t22 et22 => ?_⟩
    · skip
      exact absurd et22 n3t21
    · have htt22 : t22 < 4 := iv_t3 hI et22
      refine ⟨htt22, ?_⟩
      refine sm_40 htt22 hI (show (0 : Int) ≤ 0 ∧ 0 ≤ (12 : Int) from by omega) (fun z24 => ?_)
      refine ⟨fun c2 => ?_, fun c2 => ?_⟩
      · skip
        exact hQ 1 s hI (lf_fq_rf) (show (0 : Int) ≤ 1 ∧ 1 ≤ (1000000 : Int) from by omega)
      · skip
        refine sm_80 hI (show (-2147483648 : Int) ≤ a1 ∧ a1 ≤ (2147483647 : Int) from by omega) (fun z26 q3 => ?_)
        have b4 : (-2147483648) ≤ s.1 16 a1 ∧ s.1 16 a1 ≤ 2147483647 := iv_full hI
        refine ⟨fun c5 => ?_, fun c5 => ?_⟩
        · skip
          have dc5 := q3.1 c5
          refine ⟨(show (0 : Int) ≤ a1 ∧ a1 < (4 : Int) from by omega), ?_⟩
          have b6 : (-1) ≤ s.1 17 a1 ∧ s.1 17 a1 ≤ 11 := iv_r17 hI _
          have b7 : s.1 16 a1 ≤ 0 ∨ 0 ≤ s.1 17 a1 := (by first | exact (show s.1 16 a1 ≤ 0 ∨ 0 ≤ s.1 17 a1 from iv_sp hI (by omega) (by omega)) | exact iv_sp hI (by omega) (by omega))
          refine sm_82 hI (show (-2147483648 : Int) ≤ s.1 16 a1 ∧ s.1 16 a1 ≤ (2147483647 : Int) from by omega) (show (-1 : Int) ≤ s.1 17 a1 ∧ s.1 17 a1 ≤ (11 : Int) from by omega) (show (0 : Int) ≤ 0 ∧ 0 ≤ (1 : Int) from by omega) (fun s28 hI9 fr8 => ?_)
          have fr11 : lf_fq [63, 64, 65, 66] 1000000 true s.1 s.2.2 s28.1 s28.2.2 := lf_fq_tr (lf_fq_rf) (lf_fq_wk fr8 rfl (by decide) (by decide))
          have n12 : s28.2.2 3 ≠ none := lf_fq_n3 fr8 rfl n3t21
          have b13 : (-1) ≤ s28.1 18 a1 ∧ s28.1 18 a1 ≤ 11 := iv_r18 hI9 _
          have b14 : s28.1 18 a1 = s.1 18 a1 := congrFun (fr8.1 18 rfl) _
          refine ⟨(show lf_R (s28.1 18 a1) from lf_Rof (by omega)), ?_⟩
          refine ⟨fun c15 => ?_, fun c15 => ?_⟩
          · skip
            replace c15 : s28.1 18 a1 ≠ (-1) := c15
            refine sm_83 hI9 (show (-1 : Int) ≤ s28.1 18 a1 ∧ s28.1 18 a1 ≤ (11 : Int) from by omega) (fun r31 q16 => ?_)
            exact sm_81_p89 (fun r9 t9 i9 f9 => hQ r9 t9 i9 (lf_fq_tr fr11 f9)) hI9 (show (4 : Int) ≤ 4 ∧ 4 ≤ (4 : Int) from by omega) (show (0 : Int) ≤ r31 ∧ r31 ≤ (6 : Int) from by omega) n12
          · skip
            replace c15 : ¬ (s28.1 18 a1 ≠ (-1)) := c15
            exact sm_81_p89 (fun r9 t9 i9 f9 => hQ r9 t9 i9 (lf_fq_tr fr11 f9)) hI9 (show (4 : Int) ≤ 4 ∧ 4 ≤ (4 : Int) from by omega) (show (0 : Int) ≤ 0 ∧ 0 ≤ (6 : Int) from by omega) n12
        · skip
          have dc5 := q3.2 c5
          exact hQ 1 s hI (lf_fq_rf) (show (0 : Int) ≤ 1 ∧ 1 ≤ (1000000 : Int) from by omega)
-- fm_75 Land.distance 1 i i
theorem sm_75 {a1 : Int} {a2 : Int} {Q : Int → lf_Z → Prop} {s : lf_Z} (hI : iv_A s.1 s.2.2) (ba1 : (-2147483648) ≤ a1 ∧ a1 ≤ 2147483647) (ba2 : (-2147483648) ≤ a2 ∧ a2 ≤ 2147483647) (hQ : ∀ (r : Int), ((0 ≤ r ∧ r ≤ 1000) ∧ (1000 ≤ r ∨ (0 ≤ a1 ∧ a1 < s.1 1 0 ∧ 0 ≤ a2 ∧ a2 < s.1 1 0))) → Q r s) : fm_75 a1 a2 Q s := by
  unfold fm_75
  refine sm_18 hI (show (-2147483648 : Int) ≤ a1 ∧ a1 ≤ (2147483647 : Int) from by omega) (fun z22 q1 => ?_)
  have b2 : 0 ≤ s.1 1 0 ∧ s.1 1 0 ≤ 12 := iv_r1_0 hI
  refine ⟨fun c3 => ?_, fun c3 => ?_⟩
  · skip
    have dc3 := q1.2 c3
    exact hQ 1000 ⟨(show (0 : Int) ≤ 1000 ∧ 1000 ≤ (1000 : Int) from by omega), (show 1000 ≤ 1000 ∨ (0 ≤ a1 ∧ a1 < s.1 1 0 ∧ 0 ≤ a2 ∧ a2 < s.1 1 0) from by omega)⟩
  · skip
    have dc3 := q1.1 c3
    refine sm_18 hI (show (-2147483648 : Int) ≤ a2 ∧ a2 ≤ (2147483647 : Int) from by omega) (fun z24 q4 => ?_)
    refine ⟨fun c5 => ?_, fun c5 => ?_⟩
    · skip
      have dc5 := q4.2 c5
      exact hQ 1000 ⟨(show (0 : Int) ≤ 1000 ∧ 1000 ≤ (1000 : Int) from by omega), (show 1000 ≤ 1000 ∨ (0 ≤ a1 ∧ a1 < s.1 1 0 ∧ 0 ≤ a2 ∧ a2 < s.1 1 0) from by omega)⟩
    · skip
      have dc5 := q4.1 c5
      refine ⟨(show (0 : Int) ≤ (a1 * 12) + a2 ∧ (a1 * 12) + a2 < (144 : Int) from by omega), ?_⟩
      have b6 : 0 ≤ s.1 13 ((a1 * 12) + a2) ∧ s.1 13 ((a1 * 12) + a2) ≤ 1000 := iv_r13 hI _
      exact hQ (s.1 13 ((a1 * 12) + a2)) ⟨(show (0 : Int) ≤ s.1 13 ((a1 * 12) + a2) ∧ s.1 13 ((a1 * 12) + a2) ≤ (1000 : Int) from by omega), (show 1000 ≤ s.1 13 ((a1 * 12) + a2) ∨ (0 ≤ a1 ∧ a1 < s.1 1 0 ∧ 0 ≤ a2 ∧ a2 < s.1 1 0) from by omega)⟩
-- fm_74 Land.nextTowards 1 i i
theorem sm_74_p73 {X13 : Int → Int → lf_Z → Prop} {Q : Int → lf_Z → Prop} {x1 : Int} {x2 : Int} {x3 : Int} {x4 : Int} {x5 : Int} {s : lf_Z} (hQ : ∀ (r : Int), ((-1) ≤ r ∧ r ≤ 11) → Q r s) {M13 : Nat} (hX13 : ∀ (x3 : Int) (x5 : Int), (-1) ≤ x3 ∧ x3 ≤ 11 → 0 ≤ x5 ∧ x5 ≤ 4 → (4 - x5).toNat < M13 → X13 x3 x5 s) (hM13 : (4 - x5).toNat ≤ M13) (hI : iv_A s.1 s.2.2) (bx1 : (-2147483648) ≤ x1 ∧ x1 ≤ 2147483647) (bx2 : (-2147483648) ≤ x2 ∧ x2 ≤ 2147483647) (bx3 : (-1) ≤ x3 ∧ x3 ≤ 11) (bx4 : 0 ≤ x4 ∧ x4 ≤ 999) (bx5 : 0 ≤ x5 ∧ x5 ≤ 3) : fm_74_p73 X13 Q x1 x2 x3 x4 x5 s := by
  unfold fm_74_p73
  exact hX13 (x3) (x5 + 1) (show (-1 : Int) ≤ x3 ∧ x3 ≤ (11 : Int) from by omega) (show (0 : Int) ≤ x5 + 1 ∧ x5 + 1 ≤ (4 : Int) from by omega) (show (4 - (x5 + 1)).toNat < M13 from by omega)
theorem sm_74_p70 {X13 : Int → Int → lf_Z → Prop} {Q : Int → lf_Z → Prop} {x1 : Int} {x2 : Int} {x4 : Int} {x5 : Int} {x6 : Int} {s : lf_Z} (hQ : ∀ (r : Int), ((-1) ≤ r ∧ r ≤ 11) → Q r s) {M13 : Nat} (hX13 : ∀ (x3 : Int) (x5 : Int), (-1) ≤ x3 ∧ x3 ≤ 11 → 0 ≤ x5 ∧ x5 ≤ 4 → (4 - x5).toNat < M13 → X13 x3 x5 s) (hM13 : (4 - x5).toNat ≤ M13) (hI : iv_A s.1 s.2.2) (bx1 : (-2147483648) ≤ x1 ∧ x1 ≤ 2147483647) (bx2 : (-2147483648) ≤ x2 ∧ x2 ≤ 2147483647) (bx4 : 1 ≤ x4 ∧ x4 ≤ 999) (bx5 : 0 ≤ x5 ∧ x5 ≤ 3) (bx6 : (-1) ≤ x6 ∧ x6 ≤ 11) : fm_74_p70 X13 Q x1 x2 x4 x5 x6 s := by
  unfold fm_74_p70
  exact sm_74_p73 hQ hX13 (show (4 - x5).toNat ≤ M13 from by omega) hI (show (-2147483648 : Int) ≤ x1 ∧ x1 ≤ (2147483647 : Int) from by omega) (show (-2147483648 : Int) ≤ x2 ∧ x2 ≤ (2147483647 : Int) from by omega) (show (-1 : Int) ≤ x6 ∧ x6 ≤ (11 : Int) from by omega) (show (0 : Int) ≤ x4 ∧ x4 ≤ (999 : Int) from by omega) (show (0 : Int) ≤ x5 ∧ x5 ≤ (3 : Int) from by omega)
theorem sm_74_p13 {X13 : Int → Int → lf_Z → Prop} {Q : Int → lf_Z → Prop} {x1 : Int} {x2 : Int} {x3 : Int} {x4 : Int} {x5 : Int} {s : lf_Z} (hQ : ∀ (r : Int), ((-1) ≤ r ∧ r ≤ 11) → Q r s) {M13 : Nat} (hX13 : ∀ (x3 : Int) (x5 : Int), (-1) ≤ x3 ∧ x3 ≤ 11 → 0 ≤ x5 ∧ x5 ≤ 4 → (4 - x5).toNat < M13 → X13 x3 x5 s) (hM13 : (4 - x5).toNat ≤ M13) (hI : iv_A s.1 s.2.2) (bx1 : (-2147483648) ≤ x1 ∧ x1 ≤ 2147483647) (bx2 : (-2147483648) ≤ x2 ∧ x2 ≤ 2147483647) (bx3 : (-1) ≤ x3 ∧ x3 ≤ 11) (bx4 : 0 ≤ x4 ∧ x4 ≤ 1000) (bx5 : 0 ≤ x5 ∧ x5 ≤ 4) : fm_74_p13 Q x1 x2 x4 X13 x3 x5 s := by
  unfold fm_74_p13
  refine sm_76 hI (show (-2147483648 : Int) ≤ x1 ∧ x1 ≤ (2147483647 : Int) from by omega) (fun r24 q3 => ?_)
  refine ⟨(show lf_R x5 from lf_Rof (by omega)), ?_⟩
  refine ⟨(show lf_R r24 from lf_Rof (by omega)), ?_⟩
  refine ⟨fun c4 => ?_, fun c4 => ?_⟩
  · skip
    replace c4 : r24 ≤ x5 := c4
    exact hQ x3 (show (-1 : Int) ≤ x3 ∧ x3 ≤ (11 : Int) from by omega)
  · skip
    replace c4 : ¬ (r24 ≤ x5) := c4
    refine ⟨(show lf_R x4 from lf_Rof (by omega)), ?_⟩
    refine ⟨fun c5 => ?_, fun c5 => ?_⟩
    · skip
      replace c5 : 1000 ≤ x4 := c5
      exact hQ x3 (show (-1 : Int) ≤ x3 ∧ x3 ≤ (11 : Int) from by omega)
    · skip
      replace c5 : ¬ (1000 ≤ x4) := c5
      refine sm_77 hI (show (-2147483648 : Int) ≤ x1 ∧ x1 ≤ (2147483647 : Int) from by omega) (show (0 : Int) ≤ x5 ∧ x5 ≤ (3 : Int) from by omega) (fun r29 q6 => ?_)
      refine sm_78 hI (show (-1 : Int) ≤ r29 ∧ r29 ≤ (15 : Int) from by omega) (show (-2147483648 : Int) ≤ x1 ∧ x1 ≤ (2147483647 : Int) from by omega) (fun r31 q7 => ?_)
      obtain ⟨q7, q7x⟩ := q7
      have b8 : 0 ≤ s.1 1 1 ∧ s.1 1 1 ≤ 16 := iv_r1_1 hI
      replace q7x : r31 = iv_od (s.1 1 1) (s.1 4) (s.1 5) r29 x1 := q7x
      refine sm_75 hI (show (-2147483648 : Int) ≤ r31 ∧ r31 ≤ (2147483647 : Int) from by omega) (show (-2147483648 : Int) ≤ x2 ∧ x2 ≤ (2147483647 : Int) from by omega) (fun r33 q9 => ?_)
      obtain ⟨q9, q9x⟩ := q9
      have b10 : 0 ≤ s.1 1 0 ∧ s.1 1 0 ≤ 12 := iv_r1_0 hI
      replace q9x : 1000 ≤ r33 ∨ (0 ≤ r31 ∧ r31 < s.1 1 0 ∧ 0 ≤ x2 ∧ x2 < s.1 1 0) := q9x
      refine ⟨(show lf_R r33 from lf_Rof (by omega)), ?_⟩
      refine ⟨(show lf_R (x4 - 1) from lf_Rof (by omega)), ?_⟩
      refine ⟨fun c11 => ?_, fun c11 => ?_⟩
      · skip
        replace c11 : r33 ≠ x4 - 1 := c11
        exact sm_74_p73 hQ hX13 (show (4 - x5).toNat ≤ M13 from by omega) hI (show (-2147483648 : Int) ≤ x1 ∧ x1 ≤ (2147483647 : Int) from by omega) (show (-2147483648 : Int) ≤ x2 ∧ x2 ≤ (2147483647 : Int) from by omega) (show (-1 : Int) ≤ x3 ∧ x3 ≤ (11 : Int) from by omega) (show (0 : Int) ≤ x4 ∧ x4 ≤ (999 : Int) from by omega) (show (0 : Int) ≤ x5 ∧ x5 ≤ (3 : Int) from by omega)
      · skip
        replace c11 : ¬ (r33 ≠ x4 - 1) := c11
        refine ⟨(show lf_R x3 from lf_Rof (by omega)), ?_⟩
        refine ⟨fun c12 => ?_, fun c12 => ?_⟩
        · skip
          replace c12 : x3 = (-1) := c12
          exact sm_74_p70 hQ hX13 (show (4 - x5).toNat ≤ M13 from by omega) hI (show (-2147483648 : Int) ≤ x1 ∧ x1 ≤ (2147483647 : Int) from by omega) (show (-2147483648 : Int) ≤ x2 ∧ x2 ≤ (2147483647 : Int) from by omega) (show (1 : Int) ≤ x4 ∧ x4 ≤ (999 : Int) from by omega) (show (0 : Int) ≤ x5 ∧ x5 ≤ (3 : Int) from by omega) (show (-1 : Int) ≤ r31 ∧ r31 ≤ (11 : Int) from by omega)
        · skip
          replace c12 : ¬ (x3 = (-1)) := c12
          refine ⟨(show lf_R r31 from lf_Rof (by omega)), ?_⟩
          refine ⟨fun c13 => ?_, fun c13 => ?_⟩
          · skip
            replace c13 : x3 ≤ r31 := c13
            exact sm_74_p73 hQ hX13 (show (4 - x5).toNat ≤ M13 from by omega) hI (show (-2147483648 : Int) ≤ x1 ∧ x1 ≤ (2147483647 : Int) from by omega) (show (-2147483648 : Int) ≤ x2 ∧ x2 ≤ (2147483647 : Int) from by omega) (show (-1 : Int) ≤ x3 ∧ x3 ≤ (11 : Int) from by omega) (show (0 : Int) ≤ x4 ∧ x4 ≤ (999 : Int) from by omega) (show (0 : Int) ≤ x5 ∧ x5 ≤ (3 : Int) from by omega)
          · skip
            replace c13 : ¬ (x3 ≤ r31) := c13
            exact sm_74_p70 hQ hX13 (show (4 - x5).toNat ≤ M13 from by omega) hI (show (-2147483648 : Int) ≤ x1 ∧ x1 ≤ (2147483647 : Int) from by omega) (show (-2147483648 : Int) ≤ x2 ∧ x2 ≤ (2147483647 : Int) from by omega) (show (1 : Int) ≤ x4 ∧ x4 ≤ (999 : Int) from by omega) (show (0 : Int) ≤ x5 ∧ x5 ≤ (3 : Int) from by omega) (show (-1 : Int) ≤ r31 ∧ r31 ≤ (11 : Int) from by omega)
theorem sm_74_p13L {Q : Int → lf_Z → Prop} {x1 : Int} {x2 : Int} {x3 : Int} {x4 : Int} {x5 : Int} {s : lf_Z} (hQ : ∀ (r : Int), ((-1) ≤ r ∧ r ≤ 11) → Q r s) (hI : iv_A s.1 s.2.2) (bx1 : (-2147483648) ≤ x1 ∧ x1 ≤ 2147483647) (bx2 : (-2147483648) ≤ x2 ∧ x2 ≤ 2147483647) (bx3 : (-1) ≤ x3 ∧ x3 ≤ 11) (bx4 : 0 ≤ x4 ∧ x4 ≤ 1000) (bx5 : 0 ≤ x5 ∧ x5 ≤ 4) : fm_74_p13L Q x1 x2 x3 x4 x5 s := by
  intro X13 hX
  have key : ∀ (m9 : Nat) (x3 : Int) (x5 : Int), (-1) ≤ x3 ∧ x3 ≤ 11 → 0 ≤ x5 ∧ x5 ≤ 4 → (4 - x5).toNat < m9 → X13 x3 x5 s := by
    intro m9
    induction m9 with
    | zero => intro x3 x5 bx3 bx5 h9; exact absurd h9 (Nat.not_lt_zero _)
    | succ m9 ih => intro x3 x5 bx3 bx5 h9; exact hX _ _ _ (sm_74_p13 hQ   (fun x3' x5' bx3' bx5' h8 => ih x3' x5' bx3' bx5' (by omega)) (Nat.le_refl _)  hI  bx1 bx2 bx3 bx4 bx5  )
  exact key _ _ _ bx3 bx5   (Nat.lt_succ_self _)
theorem sm_74 {a1 : Int} {a2 : Int} {Q : Int → lf_Z → Prop} {s : lf_Z} (hI : iv_A s.1 s.2.2) (ba1 : (-2147483648) ≤ a1 ∧ a1 ≤ 2147483647) (ba2 : (-2147483648) ≤ a2 ∧ a2 ≤ 2147483647) (hQ : ∀ (r : Int), ((-1) ≤ r ∧ r ≤ 11) → Q r s) : fm_74 a1 a2 Q s := by
  unfold fm_74
  refine sm_75 hI (show (-2147483648 : Int) ≤ a1 ∧ a1 ≤ (2147483647 : Int) from by omega) (show (-2147483648 : Int) ≤ a2 ∧ a2 ≤ (2147483647 : Int) from by omega) (fun r22 q1 => ?_)
  obtain ⟨q1, q1x⟩ := q1
  have b2 : 0 ≤ s.1 1 0 ∧ s.1 1 0 ≤ 12 := iv_r1_0 hI
  replace q1x : 1000 ≤ r22 ∨ (0 ≤ a1 ∧ a1 < s.1 1 0 ∧ 0 ≤ a2 ∧ a2 < s.1 1 0) := q1x
  exact sm_74_p13L hQ hI (show (-2147483648 : Int) ≤ a1 ∧ a1 ≤ (2147483647 : Int) from by omega) (show (-2147483648 : Int) ≤ a2 ∧ a2 ≤ (2147483647 : Int) from by omega) (show (-1 : Int) ≤ (-1) ∧ (-1) ≤ (11 : Int) from by omega) (show (0 : Int) ≤ r22 ∧ r22 ≤ (1000 : Int) from by omega) (show (0 : Int) ≤ 0 ∧ 0 ≤ (4 : Int) from by omega)
-- fm_73 Minutes.goOn 67 i
theorem sm_73 {a1 : Int} {Q : lf_Z → Prop} {s : lf_Z} (hI : iv_A s.1 s.2.2) (ba1 : 0 ≤ a1 ∧ a1 ≤ 5) (hQ : ∀  (s' : lf_Z), iv_A s'.1 s'.2.2 → lf_fq [19] 1000000 true s.1 s.2.2 s'.1 s'.2.2 → Q  s') : fm_73 a1 Q s := by
  unfold fm_73
  refine ⟨(show (0 : Int) ≤ a1 ∧ a1 < (6 : Int) from by omega), ?_⟩
  have b1 : (-2147483648) ≤ s.1 20 a1 ∧ s.1 20 a1 ≤ 2147483647 := iv_full hI
  refine ⟨(show lf_R (s.1 20 a1) from lf_Rof (by omega)), ?_⟩
  refine ⟨fun c2 => ?_, fun c2 => ?_⟩
  · skip
    replace c2 : s.1 20 a1 = (-1) := c2
    exact hQ s hI (lf_fq_rf)
  · skip
    replace c2 : ¬ (s.1 20 a1 = (-1)) := c2
    have b3 : (-2147483648) ≤ s.1 19 a1 ∧ s.1 19 a1 ≤ 2147483647 := iv_full hI
    refine ⟨(show lf_R (s.1 19 a1) from lf_Rof (by omega)), ?_⟩
    refine ⟨fun c4 => ?_, fun c4 => ?_⟩
    · skip
      replace c4 : s.1 20 a1 ≠ s.1 19 a1 := c4
      refine sm_74 hI (show (-2147483648 : Int) ≤ s.1 19 a1 ∧ s.1 19 a1 ≤ (2147483647 : Int) from by omega) (show (-2147483648 : Int) ≤ s.1 20 a1 ∧ s.1 20 a1 ≤ (2147483647 : Int) from by omega) (fun r25 q5 => ?_)
      refine ⟨(show lf_R r25 from lf_Rof (by omega)), ?_⟩
      refine ⟨fun c6 => ?_, fun c6 => ?_⟩
      · skip
        replace c6 : r25 = (-1) := c6
        exact hQ s hI (lf_fq_rf)
      · skip
        replace c6 : ¬ (r25 = (-1)) := c6
        have hI7 : iv_A (lf_up s.1 19 a1 r25) s.2.2 := iv_w19 hI (by omega)
        have fr8 : lf_fq [19] 1000000 true s.1 s.2.2 (lf_up s.1 19 a1 r25) s.2.2 := lf_fq_up (lf_fq_rf) rfl (fun h => absurd h (by decide))
        exact hQ (lf_up s.1 19 a1 r25, s.2.1, s.2.2) hI7 fr8
    · skip
      replace c4 : ¬ (s.1 20 a1 ≠ s.1 19 a1) := c4
      exact hQ s hI (lf_fq_rf)
-- fm_72 Minutes.pass 67
theorem sm_72_p74 {X43 : Int → lf_Z → Prop} {X74 : Int → lf_Z → Prop} {Q : lf_Z → Prop} {x1 : Int} {x2 : Int} {x3 : Int} {s : lf_Z} (hQ : ∀  (s' : lf_Z), iv_A s'.1 s'.2.2 → lf_fq [15, 16, 17, 18, 19, 21, 63, 64, 65, 66] 1000000 true s.1 s.2.2 s'.1 s'.2.2 → Q  s') {M43 : Nat} (hX43 : ∀ (x1 : Int) (s' : lf_Z), iv_A s'.1 s'.2.2 → lf_fq [15, 16, 17, 18, 19, 21, 63, 64, 65, 66] 1000000 true s.1 s.2.2 s'.1 s'.2.2 → 0 ≤ x1 ∧ x1 ≤ 4 → (4 - x1).toNat < M43 → X43 x1 s') (hM43 : (4 - x1).toNat ≤ M43) {M74 : Nat} (hX74 : ∀ (x3 : Int) (s' : lf_Z), iv_A s'.1 s'.2.2 → lf_fq [15, 16, 17, 18, 19, 21, 63, 64, 65, 66] 1000000 true s.1 s.2.2 s'.1 s'.2.2 → 0 ≤ x3 ∧ x3 ≤ 2147483646 → (2147483646 - x3).toNat < M74 → X74 x3 s') (hM74 : (2147483646 - x3).toNat ≤ M74) (hI : iv_A s.1 s.2.2) (bx1 : 0 ≤ x1 ∧ x1 ≤ 3) (bx2 : 0 ≤ x2 ∧ x2 ≤ 1000000) (bx3 : 0 ≤ x3 ∧ x3 ≤ 2147483646) : fm_72_p74 X43 Q x1 x2 X74 x3 s := by
  unfold fm_72_p74
  refine ⟨(show lf_R x3 from lf_Rof (by omega)), ?_⟩
  refine ⟨(show lf_R x2 from lf_Rof (by omega)), ?_⟩
  refine ⟨fun c21 => ?_, fun c21 => ?_⟩
  · skip
    replace c21 : x2 ≤ x3 := c21
    exact hX43 (x1 + 1) s hI (lf_fq_rf) (show (0 : Int) ≤ x1 + 1 ∧ x1 + 1 ≤ (4 : Int) from by omega) (show (4 - (x1 + 1)).toNat < M43 from by omega)
  · skip
    replace c21 : ¬ (x2 ≤ x3) := c21
    refine sm_88 hI (show (0 : Int) ≤ x1 ∧ x1 ≤ (3 : Int) from by omega) (fun s30 hI23 fr22 => ?_)
    have fr25 : lf_fq [15, 16, 17, 18, 19, 21, 63, 64, 65, 66] 1000000 true s.1 s.2.2 s30.1 s30.2.2 := lf_fq_tr (lf_fq_rf) (lf_fq_wk fr22 rfl (by decide) (by decide))
    exact hX74 (x3 + 1) s30 hI23 fr25 (show (0 : Int) ≤ x3 + 1 ∧ x3 + 1 ≤ (2147483646 : Int) from by omega) (show (2147483646 - (x3 + 1)).toNat < M74 from by omega)
theorem sm_72_p74L {X43 : Int → lf_Z → Prop} {Q : lf_Z → Prop} {x1 : Int} {x2 : Int} {x3 : Int} {s : lf_Z} (hQ : ∀  (s' : lf_Z), iv_A s'.1 s'.2.2 → lf_fq [15, 16, 17, 18, 19, 21, 63, 64, 65, 66] 1000000 true s.1 s.2.2 s'.1 s'.2.2 → Q  s') {M43 : Nat} (hX43 : ∀ (x1 : Int) (s' : lf_Z), iv_A s'.1 s'.2.2 → lf_fq [15, 16, 17, 18, 19, 21, 63, 64, 65, 66] 1000000 true s.1 s.2.2 s'.1 s'.2.2 → 0 ≤ x1 ∧ x1 ≤ 4 → (4 - x1).toNat < M43 → X43 x1 s') (hM43 : (4 - x1).toNat ≤ M43) (hI : iv_A s.1 s.2.2) (bx1 : 0 ≤ x1 ∧ x1 ≤ 3) (bx2 : 0 ≤ x2 ∧ x2 ≤ 1000000) (bx3 : 0 ≤ x3 ∧ x3 ≤ 2147483646) : fm_72_p74L X43 Q x1 x2 x3 s := by
  intro X74 hX
  have key : ∀ (m9 : Nat) (x3 : Int) (s' : lf_Z), iv_A s'.1 s'.2.2 → lf_fq [15, 16, 17, 18, 19, 21, 63, 64, 65, 66] 1000000 true s.1 s.2.2 s'.1 s'.2.2 → 0 ≤ x3 ∧ x3 ≤ 2147483646 → (2147483646 - x3).toNat < m9 → X74 x3 s' := by
    intro m9
    induction m9 with
    | zero => intro x3 s' _ _ bx3 h9; exact absurd h9 (Nat.not_lt_zero _)
    | succ m9 ih => intro x3 s' i7 f7 bx3 h9; exact hX _ _ (sm_72_p74 (fun t9 i9 f9 => hQ t9 i9 (lf_fq_tr f7 f9))  (fun p0 t9 i9 f9 => hX43 p0 t9 i9 (lf_fq_tr f7 f9)) hM43 (fun x3' t8 i8 f8 bx3' h8 => ih x3' t8 i8 (lf_fq_tr f7 f8) bx3' (by omega)) (Nat.le_refl _)  i7  bx1 bx2 bx3  )
  exact key _ _ s hI lf_fq_rf bx3 (Nat.lt_succ_self _)
theorem sm_72_p71 {X43 : Int → lf_Z → Prop} {Q : lf_Z → Prop} {x1 : Int} {y0 : Int} {s : lf_Z} (hQ : ∀  (s' : lf_Z), iv_A s'.1 s'.2.2 → lf_fq [15, 16, 17, 18, 19, 21, 63, 64, 65, 66] 1000000 true s.1 s.2.2 s'.1 s'.2.2 → Q  s') {M43 : Nat} (hX43 : ∀ (x1 : Int) (s' : lf_Z), iv_A s'.1 s'.2.2 → lf_fq [15, 16, 17, 18, 19, 21, 63, 64, 65, 66] 1000000 true s.1 s.2.2 s'.1 s'.2.2 → 0 ≤ x1 ∧ x1 ≤ 4 → (4 - x1).toNat < M43 → X43 x1 s') (hM43 : (4 - x1).toNat ≤ M43) (hI : iv_A s.1 s.2.2) (bx1 : 0 ≤ x1 ∧ x1 ≤ 3) (by0 : 0 ≤ y0 ∧ y0 ≤ 1000000) : fm_72_p71 X43 Q x1 y0 s := by
  unfold fm_72_p71
  exact sm_72_p74L hQ hX43 (show (4 - x1).toNat ≤ M43 from by omega) hI (show (0 : Int) ≤ x1 ∧ x1 ≤ (3 : Int) from by omega) (show (0 : Int) ≤ y0 ∧ y0 ≤ (1000000 : Int) from by omega) (show (0 : Int) ≤ 0 ∧ 0 ≤ (2147483646 : Int) from by omega)
theorem sm_72_p43 {X43 : Int → lf_Z → Prop} {Q : lf_Z → Prop} {x1 : Int} {s : lf_Z} (hQ : ∀  (s' : lf_Z), iv_A s'.1 s'.2.2 → lf_fq [15, 16, 17, 18, 19, 21, 63, 64, 65, 66] 1000000 true s.1 s.2.2 s'.1 s'.2.2 → Q  s') {M43 : Nat} (hX43 : ∀ (x1 : Int) (s' : lf_Z), iv_A s'.1 s'.2.2 → lf_fq [15, 16, 17, 18, 19, 21, 63, 64, 65, 66] 1000000 true s.1 s.2.2 s'.1 s'.2.2 → 0 ≤ x1 ∧ x1 ≤ 4 → (4 - x1).toNat < M43 → X43 x1 s') (hM43 : (4 - x1).toNat ≤ M43) (hI : iv_A s.1 s.2.2) (bx1 : 0 ≤ x1 ∧ x1 ≤ 4) : fm_72_p43 Q X43 x1 s := by
  unfold fm_72_p43
  refine ⟨(show lf_R x1 from lf_Rof (by omega)), ?_⟩
  refine ⟨fun c3 => ?_, fun c3 => ?_⟩
  · skip
    replace c3 : 4 ≤ x1 := c3
    refine sm_95 hI (fun s24 hI5 fr4 => ?_)
    have fr7 : lf_fq [15, 16, 17, 18, 19, 21, 63, 64, 65, 66] 1000000 true s.1 s.2.2 s24.1 s24.2.2 := lf_fq_tr (lf_fq_rf) (lf_fq_wk fr4 rfl (by decide) (by decide))
    refine sm_96 hI5 (fun s25 hI9 fr8 => ?_)
    have fr11 : lf_fq [15, 16, 17, 18, 19, 21, 63, 64, 65, 66] 1000000 true s.1 s.2.2 s25.1 s25.2.2 := lf_fq_tr fr7 (lf_fq_wk fr8 rfl (by decide) (by decide))
    have b12 : (-2147483648) ≤ s25.1 15 7 ∧ s25.1 15 7 ≤ 2147483647 := iv_full hI9
    have b13 : s25.1 15 7 = s24.1 15 7 := congrFun (fr8.1 15 rfl) _
    have b14 : s24.1 15 7 = s.1 15 7 := congrFun (fr4.1 15 rfl) _
    have b15 : (-2147483648) ≤ lf_w ((s25.1 15 7) + 1) ∧ lf_w ((s25.1 15 7) + 1) ≤ 2147483647 := lf_wB
    have hI16 : iv_A (lf_up s25.1 15 7 (lf_w ((s25.1 15 7) + 1))) s25.2.2 := iv_w15_7 hI9 (by omega)
    have fr17 : lf_fq [15, 16, 17, 18, 19, 21, 63, 64, 65, 66] 1000000 true s.1 s.2.2 (lf_up s25.1 15 7 (lf_w ((s25.1 15 7) + 1))) s25.2.2 := lf_fq_up fr11 rfl (fun h => absurd h (by decide))
    exact hQ (lf_up s25.1 15 7 (lf_w ((s25.1 15 7) + 1)), s25.2.1, s25.2.2) hI16 fr17
  · skip
    replace c3 : ¬ (4 ≤ x1) := c3
    refine sm_80 hI (show (-2147483648 : Int) ≤ x1 ∧ x1 ≤ (2147483647 : Int) from by omega) (fun z27 q18 => ?_)
    have b19 : (-2147483648) ≤ s.1 16 x1 ∧ s.1 16 x1 ≤ 2147483647 := iv_full hI
    refine ⟨fun c20 => ?_, fun c20 => ?_⟩
    · skip
      have dc20 := q18.2 c20
      exact sm_72_p71 hQ hX43 (show (4 - x1).toNat ≤ M43 from by omega) hI (show (0 : Int) ≤ x1 ∧ x1 ≤ (3 : Int) from by omega) (show (0 : Int) ≤ 0 ∧ 0 ≤ (1000000 : Int) from by omega)
    · skip
      have dc20 := q18.1 c20
      refine sm_81 hI (show (0 : Int) ≤ x1 ∧ x1 ≤ (3 : Int) from by omega) (fun r32 s31 hI27 fr26 q28 => ?_)
      have fr29 : lf_fq [15, 16, 17, 18, 19, 21, 63, 64, 65, 66] 1000000 true s.1 s.2.2 s31.1 s31.2.2 := lf_fq_tr (lf_fq_rf) (lf_fq_wk fr26 rfl (by decide) (by decide))
      exact sm_72_p71 (fun t9 i9 f9 => hQ t9 i9 (lf_fq_tr fr29 f9)) (fun p0 t9 i9 f9 => hX43 p0 t9 i9 (lf_fq_tr fr29 f9)) (show (4 - x1).toNat ≤ M43 from by omega) hI27 (show (0 : Int) ≤ x1 ∧ x1 ≤ (3 : Int) from by omega) (show (0 : Int) ≤ r32 ∧ r32 ≤ (1000000 : Int) from by omega)
theorem sm_72_p43L {Q : lf_Z → Prop} {x1 : Int} {s : lf_Z} (hQ : ∀  (s' : lf_Z), iv_A s'.1 s'.2.2 → lf_fq [15, 16, 17, 18, 19, 21, 63, 64, 65, 66] 1000000 true s.1 s.2.2 s'.1 s'.2.2 → Q  s') (hI : iv_A s.1 s.2.2) (bx1 : 0 ≤ x1 ∧ x1 ≤ 4) : fm_72_p43L Q x1 s := by
  intro X43 hX
  have key : ∀ (m9 : Nat) (x1 : Int) (s' : lf_Z), iv_A s'.1 s'.2.2 → lf_fq [15, 16, 17, 18, 19, 21, 63, 64, 65, 66] 1000000 true s.1 s.2.2 s'.1 s'.2.2 → 0 ≤ x1 ∧ x1 ≤ 4 → (4 - x1).toNat < m9 → X43 x1 s' := by
    intro m9
    induction m9 with
    | zero => intro x1 s' _ _ bx1 h9; exact absurd h9 (Nat.not_lt_zero _)
    | succ m9 ih => intro x1 s' i7 f7 bx1 h9; exact hX _ _ (sm_72_p43 (fun t9 i9 f9 => hQ t9 i9 (lf_fq_tr f7 f9))   (fun x1' t8 i8 f8 bx1' h8 => ih x1' t8 i8 (lf_fq_tr f7 f8) bx1' (by omega)) (Nat.le_refl _)  i7  bx1  )
  exact key _ _ s hI lf_fq_rf bx1 (Nat.lt_succ_self _)
theorem sm_72_p35 {X2 : Int → lf_Z → Prop} {Q : lf_Z → Prop} {x1 : Int} {s : lf_Z} (hQ : ∀  (s' : lf_Z), iv_A s'.1 s'.2.2 → lf_fq [15, 16, 17, 18, 19, 21, 63, 64, 65, 66] 1000000 true s.1 s.2.2 s'.1 s'.2.2 → Q  s') {M2 : Nat} (hX2 : ∀ (x1 : Int) (s' : lf_Z), iv_A s'.1 s'.2.2 → lf_fq [15, 16, 17, 18, 19, 21, 63, 64, 65, 66] 1000000 true s.1 s.2.2 s'.1 s'.2.2 → 0 ≤ x1 ∧ x1 ≤ 6 → (6 - x1).toNat < M2 → X2 x1 s') (hM2 : (6 - x1).toNat ≤ M2) (hI : iv_A s.1 s.2.2) (bx1 : 0 ≤ x1 ∧ x1 ≤ 5) : fm_72_p35 X2 Q x1 s := by
  unfold fm_72_p35
  exact hX2 (x1 + 1) s hI (lf_fq_rf) (show (0 : Int) ≤ x1 + 1 ∧ x1 + 1 ≤ (6 : Int) from by omega) (show (6 - (x1 + 1)).toNat < M2 from by omega)
theorem sm_72_p2 {X2 : Int → lf_Z → Prop} {Q : lf_Z → Prop} {x1 : Int} {s : lf_Z} (hQ : ∀  (s' : lf_Z), iv_A s'.1 s'.2.2 → lf_fq [15, 16, 17, 18, 19, 21, 63, 64, 65, 66] 1000000 true s.1 s.2.2 s'.1 s'.2.2 → Q  s') {M2 : Nat} (hX2 : ∀ (x1 : Int) (s' : lf_Z), iv_A s'.1 s'.2.2 → lf_fq [15, 16, 17, 18, 19, 21, 63, 64, 65, 66] 1000000 true s.1 s.2.2 s'.1 s'.2.2 → 0 ≤ x1 ∧ x1 ≤ 6 → (6 - x1).toNat < M2 → X2 x1 s') (hM2 : (6 - x1).toNat ≤ M2) (hI : iv_A s.1 s.2.2) (bx1 : 0 ≤ x1 ∧ x1 ≤ 6) : fm_72_p2 Q X2 x1 s := by
  unfold fm_72_p2
  have b1 : 0 ≤ s.1 1 2 ∧ s.1 1 2 ≤ 6 := iv_r1_2 hI
  refine ⟨(show lf_R x1 from lf_Rof (by omega)), ?_⟩
  refine ⟨(show lf_R (s.1 1 2) from lf_Rof (by omega)), ?_⟩
  refine ⟨fun c2 => ?_, fun c2 => ?_⟩
  · skip
    replace c2 : s.1 1 2 ≤ x1 := c2
    exact sm_72_p43L hQ hI (show (0 : Int) ≤ 0 ∧ 0 ≤ (4 : Int) from by omega)
  · skip
    replace c2 : ¬ (s.1 1 2 ≤ x1) := c2
    refine sm_73 hI (show (0 : Int) ≤ x1 ∧ x1 ≤ (5 : Int) from by omega) (fun s33 hI31 fr30 => ?_)
    have fr33 : lf_fq [15, 16, 17, 18, 19, 21, 63, 64, 65, 66] 1000000 true s.1 s.2.2 s33.1 s33.2.2 := lf_fq_tr (lf_fq_rf) (lf_fq_wk fr30 rfl (by decide) (by decide))
    refine ⟨(show (0 : Int) ≤ x1 ∧ x1 < (6 : Int) from by omega), ?_⟩
    have b34 : 0 ≤ s33.1 8 x1 ∧ s33.1 8 x1 ≤ 1 := iv_r8 hI31 _
    have b35 : s33.1 8 x1 = s.1 8 x1 := congrFun (fr30.1 8 rfl) _
    refine ⟨(show lf_R (s33.1 8 x1) from lf_Rof (by omega)), ?_⟩
    refine ⟨fun c36 => ?_, fun c36 => ?_⟩
    · skip
      replace c36 : s33.1 8 x1 = 0 := c36
      exact sm_72_p35 (fun t9 i9 f9 => hQ t9 i9 (lf_fq_tr fr33 f9)) (fun p0 t9 i9 f9 => hX2 p0 t9 i9 (lf_fq_tr fr33 f9)) (show (6 - x1).toNat ≤ M2 from by omega) hI31 (show (0 : Int) ≤ x1 ∧ x1 ≤ (5 : Int) from by omega)
    · skip
      replace c36 : ¬ (s33.1 8 x1 = 0) := c36
      refine sm_73 hI31 (show (0 : Int) ≤ x1 ∧ x1 ≤ (5 : Int) from by omega) (fun s36 hI38 fr37 => ?_)
      have fr40 : lf_fq [15, 16, 17, 18, 19, 21, 63, 64, 65, 66] 1000000 true s.1 s.2.2 s36.1 s36.2.2 := lf_fq_tr fr33 (lf_fq_wk fr37 rfl (by decide) (by decide))
      exact sm_72_p35 (fun t9 i9 f9 => hQ t9 i9 (lf_fq_tr fr40 f9)) (fun p0 t9 i9 f9 => hX2 p0 t9 i9 (lf_fq_tr fr40 f9)) (show (6 - x1).toNat ≤ M2 from by omega) hI38 (show (0 : Int) ≤ x1 ∧ x1 ≤ (5 : Int) from by omega)
theorem sm_72_p2L {Q : lf_Z → Prop} {x1 : Int} {s : lf_Z} (hQ : ∀  (s' : lf_Z), iv_A s'.1 s'.2.2 → lf_fq [15, 16, 17, 18, 19, 21, 63, 64, 65, 66] 1000000 true s.1 s.2.2 s'.1 s'.2.2 → Q  s') (hI : iv_A s.1 s.2.2) (bx1 : 0 ≤ x1 ∧ x1 ≤ 6) : fm_72_p2L Q x1 s := by
  intro X2 hX
  have key : ∀ (m9 : Nat) (x1 : Int) (s' : lf_Z), iv_A s'.1 s'.2.2 → lf_fq [15, 16, 17, 18, 19, 21, 63, 64, 65, 66] 1000000 true s.1 s.2.2 s'.1 s'.2.2 → 0 ≤ x1 ∧ x1 ≤ 6 → (6 - x1).toNat < m9 → X2 x1 s' := by
    intro m9
    induction m9 with
    | zero => intro x1 s' _ _ bx1 h9; exact absurd h9 (Nat.not_lt_zero _)
    | succ m9 ih => intro x1 s' i7 f7 bx1 h9; exact hX _ _ (sm_72_p2 (fun t9 i9 f9 => hQ t9 i9 (lf_fq_tr f7 f9))   (fun x1' t8 i8 f8 bx1' h8 => ih x1' t8 i8 (lf_fq_tr f7 f8) bx1' (by omega)) (Nat.le_refl _)  i7  bx1  )
  exact key _ _ s hI lf_fq_rf bx1 (Nat.lt_succ_self _)
theorem sm_72 {Q : lf_Z → Prop} {s : lf_Z} (hI : iv_A s.1 s.2.2) (hQ : ∀  (s' : lf_Z), iv_A s'.1 s'.2.2 → lf_fq [15, 16, 17, 18, 19, 21, 63, 64, 65, 66] 1000000 true s.1 s.2.2 s'.1 s'.2.2 → Q  s') : fm_72 Q s := by
  unfold fm_72
  exact sm_72_p2L hQ hI (show (0 : Int) ≤ 0 ∧ 0 ≤ (6 : Int) from by omega)
-- fm_71 ElevenBullocks.passMinutes 0 i
theorem sm_71_p2 {X2 : Int → lf_Z → Prop} {Q : Bool → lf_Z → Prop} {x1 : Int} {x2 : Int} {s : lf_Z} (hQ : ∀ (z : Bool) (s' : lf_Z), iv_A s'.1 s'.2.2 → lf_fq [15, 16, 17, 18, 19, 21, 22, 23, 24, 63, 64, 65, 66] 1000000 true s.1 s.2.2 s'.1 s'.2.2 → Q z s') {M2 : Nat} (hX2 : ∀ (x2 : Int) (s' : lf_Z), iv_A s'.1 s'.2.2 → lf_fq [15, 16, 17, 18, 19, 21, 22, 23, 24, 63, 64, 65, 66] 1000000 true s.1 s.2.2 s'.1 s'.2.2 → 0 ≤ x2 ∧ x2 ≤ 2147483647 → (2147483647 - x2).toNat < M2 → X2 x2 s') (hM2 : (2147483647 - x2).toNat ≤ M2) (hI : iv_A s.1 s.2.2) (bx1 : (-2147483648) ≤ x1 ∧ x1 ≤ 2147483647) (bx2 : 0 ≤ x2 ∧ x2 ≤ 2147483647) : fm_71_p2 Q x1 X2 x2 s := by
  unfold fm_71_p2
  refine ⟨(show lf_R x2 from lf_Rof (by omega)), ?_⟩
  refine ⟨(show lf_R x1 from lf_Rof (by omega)), ?_⟩
  refine ⟨fun c1 => ?_, fun c1 => ?_⟩
  · skip
    replace c1 : x1 ≤ x2 := c1
    exact hQ true s hI (lf_fq_rf)
  · skip
    replace c1 : ¬ (x1 ≤ x2) := c1
    have b2 : (-2147483648) ≤ s.1 15 7 ∧ s.1 15 7 ≤ 2147483647 := iv_full hI
    refine ⟨(show lf_R (s.1 15 7) from lf_Rof (by omega)), ?_⟩
    refine ⟨fun c3 => ?_, fun c3 => ?_⟩
    · skip
      replace c3 : s.1 15 7 < 999 := c3
      have b4 : 0 ≤ s.1 1 2 ∧ s.1 1 2 ≤ 6 := iv_r1_2 hI
      refine sm_67 hI (show (0 : Int) ≤ s.1 1 2 ∧ s.1 1 2 ≤ (6 : Int) from by omega) (fun s24 hI6 fr5 => ?_)
      have fr8 : lf_fq [15, 16, 17, 18, 19, 21, 22, 23, 24, 63, 64, 65, 66] 1000000 true s.1 s.2.2 s24.1 s24.2.2 := lf_fq_tr (lf_fq_rf) (lf_fq_wk fr5 rfl (by decide) (by decide))
      refine sm_72 hI6 (fun s25 hI10 fr9 => ?_)
      have fr12 : lf_fq [15, 16, 17, 18, 19, 21, 22, 23, 24, 63, 64, 65, 66] 1000000 true s.1 s.2.2 s25.1 s25.2.2 := lf_fq_tr fr8 (lf_fq_wk fr9 rfl (by decide) (by decide))
      exact hX2 (x2 + 1) s25 hI10 fr12 (show (0 : Int) ≤ x2 + 1 ∧ x2 + 1 ≤ (2147483647 : Int) from by omega) (show (2147483647 - (x2 + 1)).toNat < M2 from by omega)
    · skip
      replace c3 : ¬ (s.1 15 7 < 999) := c3
      exact hQ false s hI (lf_fq_rf)
theorem sm_71_p2L {Q : Bool → lf_Z → Prop} {x1 : Int} {x2 : Int} {s : lf_Z} (hQ : ∀ (z : Bool) (s' : lf_Z), iv_A s'.1 s'.2.2 → lf_fq [15, 16, 17, 18, 19, 21, 22, 23, 24, 63, 64, 65, 66] 1000000 true s.1 s.2.2 s'.1 s'.2.2 → Q z s') (hI : iv_A s.1 s.2.2) (bx1 : (-2147483648) ≤ x1 ∧ x1 ≤ 2147483647) (bx2 : 0 ≤ x2 ∧ x2 ≤ 2147483647) : fm_71_p2L Q x1 x2 s := by
  intro X2 hX
  have key : ∀ (m9 : Nat) (x2 : Int) (s' : lf_Z), iv_A s'.1 s'.2.2 → lf_fq [15, 16, 17, 18, 19, 21, 22, 23, 24, 63, 64, 65, 66] 1000000 true s.1 s.2.2 s'.1 s'.2.2 → 0 ≤ x2 ∧ x2 ≤ 2147483647 → (2147483647 - x2).toNat < m9 → X2 x2 s' := by
    intro m9
    induction m9 with
    | zero => intro x2 s' _ _ bx2 h9; exact absurd h9 (Nat.not_lt_zero _)
    | succ m9 ih => intro x2 s' i7 f7 bx2 h9; exact hX _ _ (sm_71_p2 (fun r9 t9 i9 f9 => hQ r9 t9 i9 (lf_fq_tr f7 f9))   (fun x2' t8 i8 f8 bx2' h8 => ih x2' t8 i8 (lf_fq_tr f7 f8) bx2' (by omega)) (Nat.le_refl _)  i7  bx1 bx2  )
  exact key _ _ s hI lf_fq_rf bx2 (Nat.lt_succ_self _)
theorem sm_71 {a1 : Int} {Q : Bool → lf_Z → Prop} {s : lf_Z} (hI : iv_A s.1 s.2.2) (ba1 : (-2147483648) ≤ a1 ∧ a1 ≤ 2147483647) (hQ : ∀ (z : Bool) (s' : lf_Z), iv_A s'.1 s'.2.2 → lf_fq [15, 16, 17, 18, 19, 21, 22, 23, 24, 63, 64, 65, 66] 1000000 true s.1 s.2.2 s'.1 s'.2.2 → Q z s') : fm_71 a1 Q s := by
  unfold fm_71
  exact sm_71_p2L hQ hI (show (-2147483648 : Int) ≤ a1 ∧ a1 ≤ (2147483647 : Int) from by omega) (show (0 : Int) ≤ 0 ∧ 0 ≤ (2147483647 : Int) from by omega)
-- fm_65b Stand.sum 21
theorem sm_65b_p10 {X10 : Int → Int → lf_Z → Prop} {Q : Int → lf_Z → Prop} {x1 : Int} {x3 : Int} {x4 : Int} {s : lf_Z} (hQ : ∀ (r : Int), ((-2147483648) ≤ r ∧ r ≤ 2147483647) → Q r s) {M10 : Nat} (hX10 : ∀ (x1 : Int) (x4 : Int), (-2147483648) ≤ x1 ∧ x1 ≤ 2147483647 → 0 ≤ x4 ∧ x4 ≤ 12 → (12 - x4).toNat < M10 → X10 x1 x4 s) (hM10 : (12 - x4).toNat ≤ M10) (hI : iv_A s.1 s.2.2) (bx1 : (-2147483648) ≤ x1 ∧ x1 ≤ 2147483647) (bx3 : 12 ≤ x3 ∧ x3 ≤ 12) (bx4 : 0 ≤ x4 ∧ x4 ≤ 12) : fm_65b_p10 Q x3 X10 x1 x4 s := by
  unfold fm_65b_p10
  refine ⟨(show lf_R x4 from lf_Rof (by omega)), ?_⟩
  refine ⟨(show lf_R x3 from lf_Rof (by omega)), ?_⟩
  refine ⟨fun c1 => ?_, fun c1 => ?_⟩
  · skip
    replace c1 : x3 ≤ x4 := c1
    exact hQ x1 (show (-2147483648 : Int) ≤ x1 ∧ x1 ≤ (2147483647 : Int) from by omega)
  · skip
    replace c1 : ¬ (x3 ≤ x4) := c1
    refine ⟨(show (0 : Int) ≤ x4 ∧ x4 < (12 : Int) from by omega), ?_⟩
    have b2 : (-2147483648) ≤ s.1 21 x4 ∧ s.1 21 x4 ≤ 2147483647 := iv_full hI
    have b3 : (-2147483648) ≤ lf_w (x1 + (s.1 21 x4)) ∧ lf_w (x1 + (s.1 21 x4)) ≤ 2147483647 := lf_wB
    exact hX10 (lf_w (x1 + (s.1 21 x4))) (x4 + 1) (show (-2147483648 : Int) ≤ lf_w (x1 + (s.1 21 x4)) ∧ lf_w (x1 + (s.1 21 x4)) ≤ (2147483647 : Int) from by omega) (show (0 : Int) ≤ x4 + 1 ∧ x4 + 1 ≤ (12 : Int) from by omega) (show (12 - (x4 + 1)).toNat < M10 from by omega)
theorem sm_65b_p10L {Q : Int → lf_Z → Prop} {x1 : Int} {x3 : Int} {x4 : Int} {s : lf_Z} (hQ : ∀ (r : Int), ((-2147483648) ≤ r ∧ r ≤ 2147483647) → Q r s) (hI : iv_A s.1 s.2.2) (bx1 : (-2147483648) ≤ x1 ∧ x1 ≤ 2147483647) (bx3 : 12 ≤ x3 ∧ x3 ≤ 12) (bx4 : 0 ≤ x4 ∧ x4 ≤ 12) : fm_65b_p10L Q x1 x3 x4 s := by
  intro X10 hX
  have key : ∀ (m9 : Nat) (x1 : Int) (x4 : Int), (-2147483648) ≤ x1 ∧ x1 ≤ 2147483647 → 0 ≤ x4 ∧ x4 ≤ 12 → (12 - x4).toNat < m9 → X10 x1 x4 s := by
    intro m9
    induction m9 with
    | zero => intro x1 x4 bx1 bx4 h9; exact absurd h9 (Nat.not_lt_zero _)
    | succ m9 ih => intro x1 x4 bx1 bx4 h9; exact hX _ _ _ (sm_65b_p10 hQ   (fun x1' x4' bx1' bx4' h8 => ih x1' x4' bx1' bx4' (by omega)) (Nat.le_refl _)  hI  bx1 bx3 bx4  )
  exact key _ _ _ bx1 bx4   (Nat.lt_succ_self _)
theorem sm_65b {Q : Int → lf_Z → Prop} {s : lf_Z} (hI : iv_A s.1 s.2.2) (hQ : ∀ (r : Int), ((-2147483648) ≤ r ∧ r ≤ 2147483647) → Q r s) : fm_65b Q s := by
  unfold fm_65b
  exact sm_65b_p10L hQ hI (show (-2147483648 : Int) ≤ 0 ∧ 0 ≤ (2147483647 : Int) from by omega) (show (12 : Int) ≤ 12 ∧ 12 ≤ (12 : Int) from by omega) (show (0 : Int) ≤ 0 ∧ 0 ≤ (12 : Int) from by omega)
-- fm_97 Stand.allDone 15
theorem sm_97 {Q : Int → lf_Z → Prop} {s : lf_Z} (hI : iv_A s.1 s.2.2) (hQ : ∀ (r : Int), ((-2147483648) ≤ r ∧ r ≤ 2147483647) → Q r s) : fm_97 Q s := by
  unfold fm_97
  refine sm_65b hI (fun r22 q1 => ?_)
  exact hQ r22 (show (-2147483648 : Int) ≤ r22 ∧ r22 ≤ (2147483647 : Int) from by omega)
-- fm_70 ElevenBullocks.minute 0 i
theorem sm_70 {a1 : Int} {Q : Int → lf_Z → Prop} {s : lf_Z} (hI : iv_A s.1 s.2.2) (ba1 : (-2147483648) ≤ a1 ∧ a1 ≤ 2147483647) (hQ : ∀ (r : Int) (s' : lf_Z), iv_A s'.1 s'.2.2 → lf_fq [15, 16, 17, 18, 19, 21, 22, 23, 24, 63, 64, 65, 66] 1000000 true s.1 s.2.2 s'.1 s'.2.2 → ((-2147483648) ≤ r ∧ r ≤ 2147483647) → Q r s') : fm_70 a1 Q s := by
  unfold fm_70
  refine sm_15 hI (show (-2147483648 : Int) ≤ a1 ∧ a1 ≤ (2147483647 : Int) from by omega) (show (-1 : Int) ≤ 1 ∧ 1 ≤ (99 : Int) from by omega) (show (-2147483648 : Int) ≤ 60 ∧ 60 ≤ (2147483647 : Int) from by omega) (fun z22 q1 => ?_)
  refine ⟨fun c2 => ?_, fun c2 => ?_⟩
  · skip
    have dc2 := q1.2 c2
    exact hQ (-1) s hI (lf_fq_rf) (show (-2147483648 : Int) ≤ (-1) ∧ (-1) ≤ (2147483647 : Int) from by omega)
  · skip
    have dc2 := q1.1 c2
    have b3 : (-2147483648) ≤ s.1 15 7 ∧ s.1 15 7 ≤ 2147483647 := iv_full hI
    have b4 : (-2147483648) ≤ lf_w ((s.1 15 7) + a1) ∧ lf_w ((s.1 15 7) + a1) ≤ 2147483647 := lf_wB
    refine ⟨fun c5 => ?_, fun c5 => ?_⟩
    · skip
      replace c5 : lf_w ((s.1 15 7) + a1) ≤ 999 := c5
      refine sm_71 hI (show (-2147483648 : Int) ≤ a1 ∧ a1 ≤ (2147483647 : Int) from by omega) (fun z24 s23 hI7 fr6 => ?_)
      have fr9 : lf_fq [15, 16, 17, 18, 19, 21, 22, 23, 24, 63, 64, 65, 66] 1000000 true s.1 s.2.2 s23.1 s23.2.2 := lf_fq_tr (lf_fq_rf) (lf_fq_wk fr6 rfl (by decide) (by decide))
      refine sm_97 hI7 (fun r26 q10 => ?_)
      exact hQ r26 s23 hI7 fr9 (show (-2147483648 : Int) ≤ r26 ∧ r26 ≤ (2147483647 : Int) from by omega)
    · skip
      replace c5 : ¬ (lf_w ((s.1 15 7) + a1) ≤ 999) := c5
      exact hQ (-1) s hI (lf_fq_rf) (show (-2147483648 : Int) ≤ (-1) ∧ (-1) ≤ (2147483647 : Int) from by omega)
-- fm_255 Model.atOf 95 i
theorem sm_255 {a1 : Int} {Q : Int → lf_Z → Prop} {s : lf_Z} (hI : iv_A s.1 s.2.2) (ba1 : 0 ≤ a1 ∧ a1 ≤ 3) (hQ : ∀ (r : Int), (0 ≤ r ∧ r ≤ 11) → Q r s) : fm_255 a1 Q s := by
  unfold fm_255
  refine ⟨(show (0 : Int) ≤ (114 + (3 * a1)) + 1 ∧ (114 + (3 * a1)) + 1 < (1538 : Int) from by omega), ?_⟩
  have b1 : 0 ≤ s.1 96 ((114 + (3 * a1)) + 1) ∧ s.1 96 ((114 + (3 * a1)) + 1) ≤ 11 := iv_rd96 hI (iv_f4d82ee43 (a1) (by omega) (by omega))
  exact hQ (s.1 96 ((114 + (3 * a1)) + 1)) (show (0 : Int) ≤ s.1 96 ((114 + (3 * a1)) + 1) ∧ s.1 96 ((114 + (3 * a1)) + 1) ≤ (11 : Int) from by omega)
-- fm_278 Model.join 95
theorem sm_278_p79 {X2 : Int → lf_Z → Prop} {X11 : Int → lf_Z → Prop} {Q : lf_Z → Prop} {x1 : Int} {x2 : Int} {s : lf_Z} (hQ : ∀  (s' : lf_Z), iv_A s'.1 s'.2.2 → lf_fq [96] 114 true s.1 s.2.2 s'.1 s'.2.2 → Q  s') {M2 : Nat} (hX2 : ∀ (x1 : Int) (s' : lf_Z), iv_A s'.1 s'.2.2 → lf_fq [96] 114 true s.1 s.2.2 s'.1 s'.2.2 → 0 ≤ x1 ∧ x1 ≤ 4 → (4 - x1).toNat < M2 → X2 x1 s') (hM2 : (4 - x1).toNat ≤ M2) {M11 : Nat} (hX11 : ∀ (x2 : Int) (s' : lf_Z), iv_A s'.1 s'.2.2 → lf_fq [96] 114 true s.1 s.2.2 s'.1 s'.2.2 → 1 ≤ x2 ∧ x2 ≤ 4 → (x1 < x2) → (4 - x2).toNat < M11 → X11 x2 s') (hM11 : (4 - x2).toNat ≤ M11) (hI : iv_A s.1 s.2.2) (bx1 : 0 ≤ x1 ∧ x1 ≤ 3) (bx2 : 1 ≤ x2 ∧ x2 ≤ 3) (kv0 : x1 < x2) : fm_278_p79 X2 X11 Q x1 x2 s := by
  unfold fm_278_p79
  exact hX11 (x2 + 1) s hI (lf_fq_rf) (show (1 : Int) ≤ x2 + 1 ∧ x2 + 1 ≤ (4 : Int) from by omega) (show x1 < (x2 + 1) from by omega) (show (4 - (x2 + 1)).toNat < M11 from by omega)
theorem sm_278_p11 {X2 : Int → lf_Z → Prop} {X11 : Int → lf_Z → Prop} {Q : lf_Z → Prop} {x1 : Int} {x2 : Int} {s : lf_Z} (hQ : ∀  (s' : lf_Z), iv_A s'.1 s'.2.2 → lf_fq [96] 114 true s.1 s.2.2 s'.1 s'.2.2 → Q  s') {M2 : Nat} (hX2 : ∀ (x1 : Int) (s' : lf_Z), iv_A s'.1 s'.2.2 → lf_fq [96] 114 true s.1 s.2.2 s'.1 s'.2.2 → 0 ≤ x1 ∧ x1 ≤ 4 → (4 - x1).toNat < M2 → X2 x1 s') (hM2 : (4 - x1).toNat ≤ M2) {M11 : Nat} (hX11 : ∀ (x2 : Int) (s' : lf_Z), iv_A s'.1 s'.2.2 → lf_fq [96] 114 true s.1 s.2.2 s'.1 s'.2.2 → 1 ≤ x2 ∧ x2 ≤ 4 → (x1 < x2) → (4 - x2).toNat < M11 → X11 x2 s') (hM11 : (4 - x2).toNat ≤ M11) (hI : iv_A s.1 s.2.2) (bx1 : 0 ≤ x1 ∧ x1 ≤ 3) (bx2 : 1 ≤ x2 ∧ x2 ≤ 4) (kv0 : x1 < x2) : fm_278_p11 X2 Q x1 X11 x2 s := by
  unfold fm_278_p11
  refine ⟨(show lf_R x2 from lf_Rof (by omega)), ?_⟩
  refine ⟨fun c2 => ?_, fun c2 => ?_⟩
  · skip
    replace c2 : 4 ≤ x2 := c2
    exact hX2 (x1 + 1) s hI (lf_fq_rf) (show (0 : Int) ≤ x1 + 1 ∧ x1 + 1 ≤ (4 : Int) from by omega) (show (4 - (x1 + 1)).toNat < M2 from by omega)
  · skip
    replace c2 : ¬ (4 ≤ x2) := c2
    refine sm_242 hI (show (0 : Int) ≤ x1 ∧ x1 ≤ (3 : Int) from by omega) (fun r24 q3 => ?_)
    obtain ⟨q3, q3x⟩ := q3
    replace q3x : r24 = s.1 96 (114 + 3 * x1) := q3x
    refine ⟨(show lf_R r24 from lf_Rof (by omega)), ?_⟩
    refine ⟨fun c4 => ?_, fun c4 => ?_⟩
    · skip
      replace c4 : r24 = 0 := c4
      exact sm_278_p79 hQ hX2 (show (4 - x1).toNat ≤ M2 from by omega) hX11 (show (4 - x2).toNat ≤ M11 from by omega) hI (show (0 : Int) ≤ x1 ∧ x1 ≤ (3 : Int) from by omega) (show (1 : Int) ≤ x2 ∧ x2 ≤ (3 : Int) from by omega) (show x1 < x2 from by omega)
    · skip
      replace c4 : ¬ (r24 = 0) := c4
      refine sm_242 hI (show (0 : Int) ≤ x2 ∧ x2 ≤ (3 : Int) from by omega) (fun r27 q5 => ?_)
      obtain ⟨q5, q5x⟩ := q5
      replace q5x : r27 = s.1 96 (114 + 3 * x2) := q5x
      refine ⟨(show lf_R r27 from lf_Rof (by omega)), ?_⟩
      refine ⟨fun c6 => ?_, fun c6 => ?_⟩
      · skip
        replace c6 : r27 = 0 := c6
        exact sm_278_p79 hQ hX2 (show (4 - x1).toNat ≤ M2 from by omega) hX11 (show (4 - x2).toNat ≤ M11 from by omega) hI (show (0 : Int) ≤ x1 ∧ x1 ≤ (3 : Int) from by omega) (show (1 : Int) ≤ x2 ∧ x2 ≤ (3 : Int) from by omega) (show x1 < x2 from by omega)
      · skip
        replace c6 : ¬ (r27 = 0) := c6
        refine sm_255 hI (show (0 : Int) ≤ x1 ∧ x1 ≤ (3 : Int) from by omega) (fun r30 q7 => ?_)
        refine sm_255 hI (show (0 : Int) ≤ x2 ∧ x2 ≤ (3 : Int) from by omega) (fun r32 q8 => ?_)
        refine ⟨(show lf_R r30 from lf_Rof (by omega)), ?_⟩
        refine ⟨(show lf_R r32 from lf_Rof (by omega)), ?_⟩
        refine ⟨fun c9 => ?_, fun c9 => ?_⟩
        · skip
          replace c9 : r30 = r32 := c9
          refine ⟨(show (0 : Int) ≤ 114 + (3 * x1) ∧ 114 + (3 * x1) < (1538 : Int) from by omega), ?_⟩
          have b10 : 0 ≤ s.1 96 (114 + (3 * x1)) ∧ s.1 96 (114 + (3 * x1)) ≤ 24 := iv_rd96 hI (iv_f3318a158 (x1) (by omega) (by omega))
          refine sm_242 hI (show (0 : Int) ≤ x2 ∧ x2 ≤ (3 : Int) from by omega) (fun r37 q11 => ?_)
          obtain ⟨q11, q11x⟩ := q11
          replace q11x : r37 = s.1 96 (114 + 3 * x2) := q11x
          have fr12 : lf_fq [96] 114 true s.1 s.2.2 (lf_up s.1 96 (114 + (3 * x1)) ((s.1 96 (114 + (3 * x1))) + r37)) s.2.2 := lf_fq_up (lf_fq_rf) rfl (fun _ => by omega)
          refine ⟨(show (0 : Int) ≤ 114 + (3 * x2) ∧ 114 + (3 * x2) < (1538 : Int) from by omega), ?_⟩
          have hI13 : iv_A (lf_up (lf_up s.1 96 (114 + (3 * x1)) ((s.1 96 (114 + (3 * x1))) + r37)) 96 (114 + (3 * x2)) 0) s.2.2 := iv_jn hI (by omega) (by omega) (by omega) (by omega)
          have fr14 : lf_fq [96] 114 true s.1 s.2.2 (lf_up (lf_up s.1 96 (114 + (3 * x1)) ((s.1 96 (114 + (3 * x1))) + r37)) 96 (114 + (3 * x2)) 0) s.2.2 := lf_fq_up fr12 rfl (fun _ => by omega)
          exact sm_278_p79 (fun t9 i9 f9 => hQ t9 i9 (lf_fq_tr fr14 f9)) (fun p0 t9 i9 f9 => hX2 p0 t9 i9 (lf_fq_tr fr14 f9)) (show (4 - x1).toNat ≤ M2 from by omega) (fun p0 t9 i9 f9 => hX11 p0 t9 i9 (lf_fq_tr fr14 f9)) (show (4 - x2).toNat ≤ M11 from by omega) hI13 (show (0 : Int) ≤ x1 ∧ x1 ≤ (3 : Int) from by omega) (show (1 : Int) ≤ x2 ∧ x2 ≤ (3 : Int) from by omega) (show x1 < x2 from by omega)
        · skip
          replace c9 : ¬ (r30 = r32) := c9
          exact sm_278_p79 hQ hX2 (show (4 - x1).toNat ≤ M2 from by omega) hX11 (show (4 - x2).toNat ≤ M11 from by omega) hI (show (0 : Int) ≤ x1 ∧ x1 ≤ (3 : Int) from by omega) (show (1 : Int) ≤ x2 ∧ x2 ≤ (3 : Int) from by omega) (show x1 < x2 from by omega)
theorem sm_278_p11L {X2 : Int → lf_Z → Prop} {Q : lf_Z → Prop} {x1 : Int} {x2 : Int} {s : lf_Z} (hQ : ∀  (s' : lf_Z), iv_A s'.1 s'.2.2 → lf_fq [96] 114 true s.1 s.2.2 s'.1 s'.2.2 → Q  s') {M2 : Nat} (hX2 : ∀ (x1 : Int) (s' : lf_Z), iv_A s'.1 s'.2.2 → lf_fq [96] 114 true s.1 s.2.2 s'.1 s'.2.2 → 0 ≤ x1 ∧ x1 ≤ 4 → (4 - x1).toNat < M2 → X2 x1 s') (hM2 : (4 - x1).toNat ≤ M2) (hI : iv_A s.1 s.2.2) (bx1 : 0 ≤ x1 ∧ x1 ≤ 3) (bx2 : 1 ≤ x2 ∧ x2 ≤ 4) (kv0 : x1 < x2) : fm_278_p11L X2 Q x1 x2 s := by
  intro X11 hX
  have key : ∀ (m9 : Nat) (x2 : Int) (s' : lf_Z), iv_A s'.1 s'.2.2 → lf_fq [96] 114 true s.1 s.2.2 s'.1 s'.2.2 → 1 ≤ x2 ∧ x2 ≤ 4 → (x1 < x2) → (4 - x2).toNat < m9 → X11 x2 s' := by
    intro m9
    induction m9 with
    | zero => intro x2 s' _ _ bx2 kv0 h9; exact absurd h9 (Nat.not_lt_zero _)
    | succ m9 ih => intro x2 s' i7 f7 bx2 kv0 h9; exact hX _ _ (sm_278_p11 (fun t9 i9 f9 => hQ t9 i9 (lf_fq_tr f7 f9))  (fun p0 t9 i9 f9 => hX2 p0 t9 i9 (lf_fq_tr f7 f9)) hM2 (fun x2' t8 i8 f8 bx2' kv0' h8 => ih x2' t8 i8 (lf_fq_tr f7 f8) bx2' kv0' (by omega)) (Nat.le_refl _)  i7  bx1 bx2  kv0)
  exact key _ _ s hI lf_fq_rf bx2 kv0 (Nat.lt_succ_self _)
theorem sm_278_p2 {X2 : Int → lf_Z → Prop} {Q : lf_Z → Prop} {x1 : Int} {s : lf_Z} (hQ : ∀  (s' : lf_Z), iv_A s'.1 s'.2.2 → lf_fq [96] 114 true s.1 s.2.2 s'.1 s'.2.2 → Q  s') {M2 : Nat} (hX2 : ∀ (x1 : Int) (s' : lf_Z), iv_A s'.1 s'.2.2 → lf_fq [96] 114 true s.1 s.2.2 s'.1 s'.2.2 → 0 ≤ x1 ∧ x1 ≤ 4 → (4 - x1).toNat < M2 → X2 x1 s') (hM2 : (4 - x1).toNat ≤ M2) (hI : iv_A s.1 s.2.2) (bx1 : 0 ≤ x1 ∧ x1 ≤ 4) : fm_278_p2 Q X2 x1 s := by
  unfold fm_278_p2
  refine ⟨(show lf_R x1 from lf_Rof (by omega)), ?_⟩
  refine ⟨fun c1 => ?_, fun c1 => ?_⟩
  · skip
    replace c1 : 4 ≤ x1 := c1
    exact hQ s hI (lf_fq_rf)
  · skip
    replace c1 : ¬ (4 ≤ x1) := c1
    exact sm_278_p11L hQ hX2 (show (4 - x1).toNat ≤ M2 from by omega) hI (show (0 : Int) ≤ x1 ∧ x1 ≤ (3 : Int) from by omega) (show (1 : Int) ≤ x1 + 1 ∧ x1 + 1 ≤ (4 : Int) from by omega) (show x1 < (x1 + 1) from by omega)
theorem sm_278_p2L {Q : lf_Z → Prop} {x1 : Int} {s : lf_Z} (hQ : ∀  (s' : lf_Z), iv_A s'.1 s'.2.2 → lf_fq [96] 114 true s.1 s.2.2 s'.1 s'.2.2 → Q  s') (hI : iv_A s.1 s.2.2) (bx1 : 0 ≤ x1 ∧ x1 ≤ 4) : fm_278_p2L Q x1 s := by
  intro X2 hX
  have key : ∀ (m9 : Nat) (x1 : Int) (s' : lf_Z), iv_A s'.1 s'.2.2 → lf_fq [96] 114 true s.1 s.2.2 s'.1 s'.2.2 → 0 ≤ x1 ∧ x1 ≤ 4 → (4 - x1).toNat < m9 → X2 x1 s' := by
    intro m9
    induction m9 with
    | zero => intro x1 s' _ _ bx1 h9; exact absurd h9 (Nat.not_lt_zero _)
    | succ m9 ih => intro x1 s' i7 f7 bx1 h9; exact hX _ _ (sm_278_p2 (fun t9 i9 f9 => hQ t9 i9 (lf_fq_tr f7 f9))   (fun x1' t8 i8 f8 bx1' h8 => ih x1' t8 i8 (lf_fq_tr f7 f8) bx1' (by omega)) (Nat.le_refl _)  i7  bx1  )
  exact key _ _ s hI lf_fq_rf bx1 (Nat.lt_succ_self _)
theorem sm_278 {Q : lf_Z → Prop} {s : lf_Z} (hI : iv_A s.1 s.2.2) (hQ : ∀  (s' : lf_Z), iv_A s'.1 s'.2.2 → lf_fq [96] 114 true s.1 s.2.2 s'.1 s'.2.2 → Q  s') : fm_278 Q s := by
  unfold fm_278
  exact sm_278_p2L hQ hI (show (0 : Int) ≤ 0 ∧ 0 ≤ (4 : Int) from by omega)
