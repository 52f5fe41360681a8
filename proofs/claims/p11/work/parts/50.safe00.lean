-- fm_15 ElevenBullocks.within i i i
theorem sm_15 {a0 : Int} {a1 : Int} {a2 : Int} {Q : Bool → lf_Z → Prop} {s : lf_Z} (hI : iv_A s.1 s.2.2) (ba0 : (-2147483648) ≤ a0 ∧ a0 ≤ 2147483647) (ba1 : (-1) ≤ a1 ∧ a1 ≤ 99) (ba2 : (-2147483648) ≤ a2 ∧ a2 ≤ 2147483647) (hQ : ∀ (z : Bool), ((z = true → (a1 ≤ a0 ∧ a0 ≤ a2)) ∧ (z = false → ¬ (a1 ≤ a0 ∧ a0 ≤ a2))) → Q z s) : fm_15 a0 a1 a2 Q s := by
  unfold fm_15
  refine ⟨(show lf_R a0 from lf_Rof (by omega)), ?_⟩
  refine ⟨(show lf_R a1 from lf_Rof (by omega)), ?_⟩
  refine ⟨fun c1 => ?_, fun c1 => ?_⟩
  · skip
    replace c1 : a0 < a1 := c1
    exact hQ false (lf_pf (by omega))
  · skip
    replace c1 : ¬ (a0 < a1) := c1
    refine ⟨(show lf_R a2 from lf_Rof (by omega)), ?_⟩
    refine ⟨fun c2 => ?_, fun c2 => ?_⟩
    · skip
      replace c2 : a2 < a0 := c2
      exact hQ false (lf_pf (by omega))
    · skip
      replace c2 : ¬ (a2 < a0) := c2
      exact hQ true (lf_pt (by omega))
-- fm_16 Land.addStretch 1 i i
theorem sm_16 {a1 : Int} {a2 : Int} {Q : Int → lf_Z → Prop} {s : lf_Z} (hI : iv_A s.1 s.2.2) (ba1 : 0 ≤ a1 ∧ a1 ≤ 3) (ba2 : 0 ≤ a2 ∧ a2 ≤ 99) (hQ : ∀ (r : Int) (s' : lf_Z), iv_A s'.1 s'.2.2 → lf_fq [1, 2, 3] 1000000 true s.1 s.2.2 s'.1 s'.2.2 → ((-1) ≤ r ∧ r ≤ 11) → Q r s') : fm_16 a1 a2 Q s := by
  unfold fm_16
  have b1 : 0 ≤ s.1 1 0 ∧ s.1 1 0 ≤ 12 := iv_r1_0 hI
  refine ⟨(show lf_R (s.1 1 0) from lf_Rof (by omega)), ?_⟩
  refine ⟨fun c2 => ?_, fun c2 => ?_⟩
  · skip
    replace c2 : s.1 1 0 < 12 := c2
    refine ⟨(show (0 : Int) ≤ s.1 1 0 ∧ s.1 1 0 < (12 : Int) from by omega), ?_⟩
    have hI3 : iv_A (lf_up s.1 2 (s.1 1 0) a1) s.2.2 := iv_w2 hI (by omega)
    have fr4 : lf_fq [1, 2, 3] 1000000 true s.1 s.2.2 (lf_up s.1 2 (s.1 1 0) a1) s.2.2 := lf_fq_up (lf_fq_rf) rfl (fun h => absurd h (by decide))
    have hI5 : iv_A (lf_up (lf_up s.1 2 (s.1 1 0) a1) 3 (s.1 1 0) a2) s.2.2 := iv_w3 hI3 (by omega)
    have fr6 : lf_fq [1, 2, 3] 1000000 true s.1 s.2.2 (lf_up (lf_up s.1 2 (s.1 1 0) a1) 3 (s.1 1 0) a2) s.2.2 := lf_fq_up fr4 rfl (fun h => absurd h (by decide))
    have hI7 : iv_A (lf_up (lf_up (lf_up s.1 2 (s.1 1 0) a1) 3 (s.1 1 0) a2) 1 0 ((s.1 1 0) + 1)) s.2.2 := iv_w1_0 hI5 (by omega)
    have fr8 : lf_fq [1, 2, 3] 1000000 true s.1 s.2.2 (lf_up (lf_up (lf_up s.1 2 (s.1 1 0) a1) 3 (s.1 1 0) a2) 1 0 ((s.1 1 0) + 1)) s.2.2 := lf_fq_up fr6 rfl (fun h => absurd h (by decide))
    exact hQ (((s.1 1 0) + 1) - 1) (lf_up (lf_up (lf_up s.1 2 (s.1 1 0) a1) 3 (s.1 1 0) a2) 1 0 ((s.1 1 0) + 1), s.2.1, s.2.2) hI7 fr8 (show (-1 : Int) ≤ ((s.1 1 0) + 1) - 1 ∧ ((s.1 1 0) + 1) - 1 ≤ (11 : Int) from by omega)
  · skip
    replace c2 : ¬ (s.1 1 0 < 12) := c2
    exact hQ (-1) s hI (lf_fq_rf) (show (-1 : Int) ≤ (-1) ∧ (-1) ≤ (11 : Int) from by omega)
-- fm_14 ElevenBullocks.stretch 0 i i
theorem sm_14 {a1 : Int} {a2 : Int} {Q : Int → lf_Z → Prop} {s : lf_Z} (hI : iv_A s.1 s.2.2) (ba1 : (-2147483648) ≤ a1 ∧ a1 ≤ 2147483647) (ba2 : (-2147483648) ≤ a2 ∧ a2 ≤ 2147483647) (hQ : ∀ (r : Int) (s' : lf_Z), iv_A s'.1 s'.2.2 → lf_fq [1, 2, 3] 1000000 true s.1 s.2.2 s'.1 s'.2.2 → ((-1) ≤ r ∧ r ≤ 11) → Q r s') : fm_14 a1 a2 Q s := by
  unfold fm_14
  refine sm_15 hI (show (-2147483648 : Int) ≤ a1 ∧ a1 ≤ (2147483647 : Int) from by omega) (show (-1 : Int) ≤ 0 ∧ 0 ≤ (99 : Int) from by omega) (show (-2147483648 : Int) ≤ 3 ∧ 3 ≤ (2147483647 : Int) from by omega) (fun z22 q1 => ?_)
  refine ⟨fun c2 => ?_, fun c2 => ?_⟩
  · skip
    have dc2 := q1.2 c2
    exact hQ (-1) s hI (lf_fq_rf) (show (-1 : Int) ≤ (-1) ∧ (-1) ≤ (11 : Int) from by omega)
  · skip
    have dc2 := q1.1 c2
    refine sm_15 hI (show (-2147483648 : Int) ≤ a2 ∧ a2 ≤ (2147483647 : Int) from by omega) (show (-1 : Int) ≤ 0 ∧ 0 ≤ (99 : Int) from by omega) (show (-2147483648 : Int) ≤ 99 ∧ 99 ≤ (2147483647 : Int) from by omega) (fun z24 q3 => ?_)
    refine ⟨fun c4 => ?_, fun c4 => ?_⟩
    · skip
      have dc4 := q3.1 c4
      refine sm_16 hI (show (0 : Int) ≤ a1 ∧ a1 ≤ (3 : Int) from by omega) (show (0 : Int) ≤ a2 ∧ a2 ≤ (99 : Int) from by omega) (fun r26 s25 hI6 fr5 q7 => ?_)
      have fr8 : lf_fq [1, 2, 3] 1000000 true s.1 s.2.2 s25.1 s25.2.2 := lf_fq_tr (lf_fq_rf) (lf_fq_wk fr5 rfl (by decide) (by decide))
      exact hQ r26 s25 hI6 fr8 (show (-1 : Int) ≤ r26 ∧ r26 ≤ (11 : Int) from by omega)
    · skip
      have dc4 := q3.2 c4
      exact hQ (-1) s hI (lf_fq_rf) (show (-1 : Int) ≤ (-1) ∧ (-1) ≤ (11 : Int) from by omega)
-- fm_183 Model.isIn i i i
theorem sm_183 {a0 : Int} {a1 : Int} {a2 : Int} {Q : Bool → lf_Z → Prop} {s : lf_Z} (hI : iv_A s.1 s.2.2) (ba0 : (-2147483648) ≤ a0 ∧ a0 ≤ 2147483647) (ba1 : (-1) ≤ a1 ∧ a1 ≤ 97) (ba2 : (-1) ≤ a2 ∧ a2 ≤ 9999) (hQ : ∀ (z : Bool), ((z = true → (a1 ≤ a0 ∧ a0 ≤ a2)) ∧ (z = false → ¬ (a1 ≤ a0 ∧ a0 ≤ a2))) → Q z s) : fm_183 a0 a1 a2 Q s := by
  unfold fm_183
  refine ⟨(show lf_R a0 from lf_Rof (by omega)), ?_⟩
  refine ⟨(show lf_R a1 from lf_Rof (by omega)), ?_⟩
  refine ⟨fun c1 => ?_, fun c1 => ?_⟩
  · skip
    replace c1 : a0 < a1 := c1
    exact hQ false (lf_pf (by omega))
  · skip
    replace c1 : ¬ (a0 < a1) := c1
    refine ⟨(show lf_R a2 from lf_Rof (by omega)), ?_⟩
    refine ⟨fun c2 => ?_, fun c2 => ?_⟩
    · skip
      replace c2 : a2 < a0 := c2
      exact hQ false (lf_pf (by omega))
    · skip
      replace c2 : ¬ (a2 < a0) := c2
      exact hQ true (lf_pt (by omega))
-- fm_182 Model.stretch 95 i i
theorem sm_182 {a1 : Int} {a2 : Int} {Q : Int → lf_Z → Prop} {s : lf_Z} (hI : iv_A s.1 s.2.2) (ba1 : (-2147483648) ≤ a1 ∧ a1 ≤ 2147483647) (ba2 : (-2147483648) ≤ a2 ∧ a2 ≤ 2147483647) (hQ : ∀ (r : Int) (s' : lf_Z), iv_A s'.1 s'.2.2 → lf_fq [96, 1004, 1006] 0 true s.1 s.2.2 s'.1 s'.2.2 → ((-1) ≤ r ∧ r ≤ 11) → Q r s') : fm_182 a1 a2 Q s := by
  unfold fm_182
  refine sm_183 hI (show (-2147483648 : Int) ≤ a1 ∧ a1 ≤ (2147483647 : Int) from by omega) (show (-1 : Int) ≤ 0 ∧ 0 ≤ (97 : Int) from by omega) (show (-1 : Int) ≤ 3 ∧ 3 ≤ (9999 : Int) from by omega) (fun z22 q1 => ?_)
  refine ⟨fun c2 => ?_, fun c2 => ?_⟩
  · skip
    have dc2 := q1.2 c2
    exact hQ (-1) s hI (lf_fq_rf) (show (-1 : Int) ≤ (-1) ∧ (-1) ≤ (11 : Int) from by omega)
  · skip
    have dc2 := q1.1 c2
    refine sm_183 hI (show (-2147483648 : Int) ≤ a2 ∧ a2 ≤ (2147483647 : Int) from by omega) (show (-1 : Int) ≤ 0 ∧ 0 ≤ (97 : Int) from by omega) (show (-1 : Int) ≤ 99 ∧ 99 ≤ (9999 : Int) from by omega) (fun z24 q3 => ?_)
    refine ⟨fun c4 => ?_, fun c4 => ?_⟩
    · skip
      have dc4 := q3.2 c4
      exact hQ (-1) s hI (lf_fq_rf) (show (-1 : Int) ≤ (-1) ∧ (-1) ≤ (11 : Int) from by omega)
    · skip
      have dc4 := q3.1 c4
      have b5 : 0 ≤ s.1 96 0 ∧ s.1 96 0 ≤ 12 := iv_rd96 hI (iv_f3e1fa21c (by omega))
      refine ⟨(show lf_R (s.1 96 0) from lf_Rof (by omega)), ?_⟩
      refine ⟨fun c6 => ?_, fun c6 => ?_⟩
      · skip
        replace c6 : s.1 96 0 ≠ 12 := c6
        refine ⟨(show (0 : Int) ≤ 14 + (3 * (s.1 96 0)) ∧ 14 + (3 * (s.1 96 0)) < (1538 : Int) from by omega), ?_⟩
        have hI7 : iv_A (lf_up s.1 96 (14 + (3 * (s.1 96 0))) a1) s.2.2 := iv_wd96 hI (lf_le2 (iv_f9ef4f91d (s.1 96 0) (by omega) (by omega)) (by omega)) (fun h => absurd h (by omega))
        have fr8 : lf_fq [96, 1004, 1006] 0 true s.1 s.2.2 (lf_up s.1 96 (14 + (3 * (s.1 96 0))) a1) s.2.2 := lf_fq_up (lf_fq_rf) rfl (fun _ => ⟨by omega, fr_o (Or.inr (fr_n0 (by omega))) (Or.inr (fr_n1 (by omega))) (Or.inr (fr_n2 (by omega))) (Or.inr (fr_n3 (by omega))) (Or.inl rfl) (Or.inr (fr_n5 (by omega))) (Or.inl rfl)⟩)
        refine ⟨(show (0 : Int) ≤ (14 + (3 * (s.1 96 0))) + 1 ∧ (14 + (3 * (s.1 96 0))) + 1 < (1538 : Int) from by omega), ?_⟩
        have hI9 : iv_A (lf_up (lf_up s.1 96 (14 + (3 * (s.1 96 0))) a1) 96 ((14 + (3 * (s.1 96 0))) + 1) a2) s.2.2 := iv_wd96 hI7 (lf_le2 (iv_f509b3304 (s.1 96 0) (by omega) (by omega)) (by omega)) (fun h => absurd h (by omega))
        have fr10 : lf_fq [96, 1004, 1006] 0 true s.1 s.2.2 (lf_up (lf_up s.1 96 (14 + (3 * (s.1 96 0))) a1) 96 ((14 + (3 * (s.1 96 0))) + 1) a2) s.2.2 := lf_fq_up fr8 rfl (fun _ => ⟨by omega, fr_o (Or.inr (fr_n0 (by omega))) (Or.inr (fr_n1 (by omega))) (Or.inr (fr_n2 (by omega))) (Or.inr (fr_n3 (by omega))) (Or.inl rfl) (Or.inr (fr_n5 (by omega))) (Or.inl rfl)⟩)
        refine ⟨(show (0 : Int) ≤ (14 + (3 * (s.1 96 0))) + 2 ∧ (14 + (3 * (s.1 96 0))) + 2 < (1538 : Int) from by omega), ?_⟩
        have hI11 : iv_A (lf_up (lf_up (lf_up s.1 96 (14 + (3 * (s.1 96 0))) a1) 96 ((14 + (3 * (s.1 96 0))) + 1) a2) 96 ((14 + (3 * (s.1 96 0))) + 2) 0) s.2.2 := iv_wd96 hI9 (lf_le2 (iv_f06618364 (s.1 96 0) (by omega) (by omega)) (by omega)) (fun h => absurd h (by omega))
        have fr12 : lf_fq [96, 1004, 1006] 0 true s.1 s.2.2 (lf_up (lf_up (lf_up s.1 96 (14 + (3 * (s.1 96 0))) a1) 96 ((14 + (3 * (s.1 96 0))) + 1) a2) 96 ((14 + (3 * (s.1 96 0))) + 2) 0) s.2.2 := lf_fq_up fr10 rfl (fun _ => ⟨by omega, fr_o (Or.inr (fr_n0 (by omega))) (Or.inr (fr_n1 (by omega))) (Or.inr (fr_n2 (by omega))) (Or.inr (fr_n3 (by omega))) (Or.inl rfl) (Or.inr (fr_n5 (by omega))) (Or.inl rfl)⟩)
        have b13 : 0 ≤ (lf_up (lf_up (lf_up s.1 96 (14 + (3 * (s.1 96 0))) a1) 96 ((14 + (3 * (s.1 96 0))) + 1) a2) 96 ((14 + (3 * (s.1 96 0))) + 2) 0) 96 0 ∧ (lf_up (lf_up (lf_up s.1 96 (14 + (3 * (s.1 96 0))) a1) 96 ((14 + (3 * (s.1 96 0))) + 1) a2) 96 ((14 + (3 * (s.1 96 0))) + 2) 0) 96 0 ≤ 12 := iv_rd96 hI11 (iv_f3e1fa21c (by omega))
        have b14 : (lf_up (lf_up (lf_up s.1 96 (14 + (3 * (s.1 96 0))) a1) 96 ((14 + (3 * (s.1 96 0))) + 1) a2) 96 ((14 + (3 * (s.1 96 0))) + 2) 0) 96 0 = (lf_up (lf_up s.1 96 (14 + (3 * (s.1 96 0))) a1) 96 ((14 + (3 * (s.1 96 0))) + 1) a2) 96 0 := lf_up_i (by omega)
        have b15 : (lf_up (lf_up s.1 96 (14 + (3 * (s.1 96 0))) a1) 96 ((14 + (3 * (s.1 96 0))) + 1) a2) 96 0 = (lf_up s.1 96 (14 + (3 * (s.1 96 0))) a1) 96 0 := lf_up_i (by omega)
        have b16 : (lf_up s.1 96 (14 + (3 * (s.1 96 0))) a1) 96 0 = s.1 96 0 := lf_up_i (by omega)
        have hI17 : iv_A (lf_up (lf_up (lf_up (lf_up s.1 96 (14 + (3 * (s.1 96 0))) a1) 96 ((14 + (3 * (s.1 96 0))) + 1) a2) 96 ((14 + (3 * (s.1 96 0))) + 2) 0) 96 0 (((lf_up (lf_up (lf_up s.1 96 (14 + (3 * (s.1 96 0))) a1) 96 ((14 + (3 * (s.1 96 0))) + 1) a2) 96 ((14 + (3 * (s.1 96 0))) + 2) 0) 96 0) + 1)) s.2.2 := iv_wd96 hI11 (lf_le2 (iv_fa511c528 (by omega)) (by omega)) (fun _ => iv_rel0 hI11 (by omega))
        have fr18 : lf_fq [96, 1004, 1006] 0 true s.1 s.2.2 (lf_up (lf_up (lf_up (lf_up s.1 96 (14 + (3 * (s.1 96 0))) a1) 96 ((14 + (3 * (s.1 96 0))) + 1) a2) 96 ((14 + (3 * (s.1 96 0))) + 2) 0) 96 0 (((lf_up (lf_up (lf_up s.1 96 (14 + (3 * (s.1 96 0))) a1) 96 ((14 + (3 * (s.1 96 0))) + 1) a2) 96 ((14 + (3 * (s.1 96 0))) + 2) 0) 96 0) + 1)) s.2.2 := lf_fq_up fr12 rfl (fun _ => ⟨by omega, fr_o (Or.inr (fr_n0 (by omega))) (Or.inr (fr_n1 (by omega))) (Or.inr (fr_n2 (by omega))) (Or.inr (fr_n3 (by omega))) (Or.inl rfl) (Or.inr (fr_n5 (by omega))) (Or.inl rfl)⟩)
        exact hQ ((((lf_up (lf_up (lf_up s.1 96 (14 + (3 * (s.1 96 0))) a1) 96 ((14 + (3 * (s.1 96 0))) + 1) a2) 96 ((14 + (3 * (s.1 96 0))) + 2) 0) 96 0) + 1) - 1) (lf_up (lf_up (lf_up (lf_up s.1 96 (14 + (3 * (s.1 96 0))) a1) 96 ((14 + (3 * (s.1 96 0))) + 1) a2) 96 ((14 + (3 * (s.1 96 0))) + 2) 0) 96 0 (((lf_up (lf_up (lf_up s.1 96 (14 + (3 * (s.1 96 0))) a1) 96 ((14 + (3 * (s.1 96 0))) + 1) a2) 96 ((14 + (3 * (s.1 96 0))) + 2) 0) 96 0) + 1), s.2.1, s.2.2) hI17 fr18 (show (-1 : Int) ≤ (((lf_up (lf_up (lf_up s.1 96 (14 + (3 * (s.1 96 0))) a1) 96 ((14 + (3 * (s.1 96 0))) + 1) a2) 96 ((14 + (3 * (s.1 96 0))) + 2) 0) 96 0) + 1) - 1 ∧ (((lf_up (lf_up (lf_up s.1 96 (14 + (3 * (s.1 96 0))) a1) 96 ((14 + (3 * (s.1 96 0))) + 1) a2) 96 ((14 + (3 * (s.1 96 0))) + 2) 0) 96 0) + 1) - 1 ≤ (11 : Int) from by omega)
      · skip
        replace c6 : ¬ (s.1 96 0 ≠ 12) := c6
        exact hQ (-1) s hI (lf_fq_rf) (show (-1 : Int) ≤ (-1) ∧ (-1) ≤ (11 : Int) from by omega)
-- fm_18 Land.hasStretch 1 i
theorem sm_18 {a1 : Int} {Q : Bool → lf_Z → Prop} {s : lf_Z} (hI : iv_A s.1 s.2.2) (ba1 : (-2147483648) ≤ a1 ∧ a1 ≤ 2147483647) (hQ : ∀ (z : Bool), ((z = true → (0 ≤ a1 ∧ a1 < s.1 1 0)) ∧ (z = false → ¬ (0 ≤ a1 ∧ a1 < s.1 1 0))) → Q z s) : fm_18 a1 Q s := by
  unfold fm_18
  refine ⟨(show lf_R a1 from lf_Rof (by omega)), ?_⟩
  refine ⟨fun c1 => ?_, fun c1 => ?_⟩
  · skip
    replace c1 : a1 < 0 := c1
    exact hQ false (lf_pf (by omega))
  · skip
    replace c1 : ¬ (a1 < 0) := c1
    have b2 : 0 ≤ s.1 1 0 ∧ s.1 1 0 ≤ 12 := iv_r1_0 hI
    refine ⟨(show lf_R (s.1 1 0) from lf_Rof (by omega)), ?_⟩
    refine ⟨fun c3 => ?_, fun c3 => ?_⟩
    · skip
      replace c3 : s.1 1 0 ≤ a1 := c3
      exact hQ false (lf_pf (by omega))
    · skip
      replace c3 : ¬ (s.1 1 0 ≤ a1) := c3
      exact hQ true (lf_pt (by omega))
-- fm_21 Land.noteWayAt 1 i i
theorem sm_21 {a1 : Int} {a2 : Int} {Q : lf_Z → Prop} {s : lf_Z} (hI : iv_A s.1 s.2.2) (ba1 : 0 ≤ a1 ∧ a1 ≤ 11) (ba2 : 0 ≤ a2 ∧ a2 ≤ 15) (hQ : ∀  (s' : lf_Z), iv_A s'.1 s'.2.2 → lf_fq [11, 12] 1000000 true s.1 s.2.2 s'.1 s'.2.2 → Q  s') : fm_21 a1 a2 Q s := by
  unfold fm_21
  refine ⟨(show (0 : Int) ≤ a1 ∧ a1 < (12 : Int) from by omega), ?_⟩
  have b1 : 0 ≤ s.1 12 a1 ∧ s.1 12 a1 ≤ 4 := iv_r12 hI _
  refine ⟨(show lf_R (s.1 12 a1) from lf_Rof (by omega)), ?_⟩
  refine ⟨fun c2 => ?_, fun c2 => ?_⟩
  · skip
    replace c2 : 4 ≤ s.1 12 a1 := c2
    exact hQ s hI (lf_fq_rf)
  · skip
    replace c2 : ¬ (4 ≤ s.1 12 a1) := c2
    refine ⟨(show (0 : Int) ≤ (a1 * 4) + (s.1 12 a1) ∧ (a1 * 4) + (s.1 12 a1) < (48 : Int) from by omega), ?_⟩
    have hI3 : iv_A (lf_up s.1 11 ((a1 * 4) + (s.1 12 a1)) a2) s.2.2 := iv_w11 hI (by omega)
    have fr4 : lf_fq [11, 12] 1000000 true s.1 s.2.2 (lf_up s.1 11 ((a1 * 4) + (s.1 12 a1)) a2) s.2.2 := lf_fq_up (lf_fq_rf) rfl (fun h => absurd h (by decide))
    have hI5 : iv_A (lf_up (lf_up s.1 11 ((a1 * 4) + (s.1 12 a1)) a2) 12 a1 ((s.1 12 a1) + 1)) s.2.2 := iv_w12 hI3 (by omega)
    have fr6 : lf_fq [11, 12] 1000000 true s.1 s.2.2 (lf_up (lf_up s.1 11 ((a1 * 4) + (s.1 12 a1)) a2) 12 a1 ((s.1 12 a1) + 1)) s.2.2 := lf_fq_up fr4 rfl (fun h => absurd h (by decide))
    exact hQ (lf_up (lf_up s.1 11 ((a1 * 4) + (s.1 12 a1)) a2) 12 a1 ((s.1 12 a1) + 1), s.2.1, s.2.2) hI5 fr6
-- fm_22 Land.bringNear 1 13 i i
theorem sm_22_p22 {X3 : Int → lf_Z → Prop} {X22 : Int → lf_Z → Prop} {Q : lf_Z → Prop} {x2 : Int} {x3 : Int} {x4 : Int} {x5 : Int} {x6 : Int} {s : lf_Z} (hQ : ∀  (s' : lf_Z), iv_A s'.1 s'.2.2 → lf_fq [13] 1000000 true s.1 s.2.2 s'.1 s'.2.2 → Q  s') {M3 : Nat} (hX3 : ∀ (x4 : Int) (s' : lf_Z), iv_A s'.1 s'.2.2 → lf_fq [13] 1000000 true s.1 s.2.2 s'.1 s'.2.2 → 0 ≤ x4 ∧ x4 ≤ 12 → (12 - x4).toNat < M3 → X3 x4 s') (hM3 : (12 - x4).toNat ≤ M3) {M22 : Nat} (hX22 : ∀ (x6 : Int) (s' : lf_Z), iv_A s'.1 s'.2.2 → lf_fq [13] 1000000 true s.1 s.2.2 s'.1 s'.2.2 → 0 ≤ x6 ∧ x6 ≤ 12 → (12 - x6).toNat < M22 → X22 x6 s') (hM22 : (12 - x6).toNat ≤ M22) (hI : iv_A s.1 s.2.2) (bx2 : 0 ≤ x2 ∧ x2 ≤ 11) (bx3 : 0 ≤ x3 ∧ x3 ≤ 11) (bx4 : 0 ≤ x4 ∧ x4 ≤ 11) (bx5 : 0 ≤ x5 ∧ x5 ≤ 132) (bx6 : 0 ≤ x6 ∧ x6 ≤ 12) : fm_22_p22 X3 Q x2 x3 x4 x5 X22 x6 s := by
  unfold fm_22_p22
  have b3 : 0 ≤ s.1 1 0 ∧ s.1 1 0 ≤ 12 := iv_r1_0 hI
  refine ⟨(show lf_R x6 from lf_Rof (by omega)), ?_⟩
  refine ⟨(show lf_R (s.1 1 0) from lf_Rof (by omega)), ?_⟩
  refine ⟨fun c4 => ?_, fun c4 => ?_⟩
  · skip
    replace c4 : s.1 1 0 ≤ x6 := c4
    exact hX3 (x4 + 1) s hI (lf_fq_rf) (show (0 : Int) ≤ x4 + 1 ∧ x4 + 1 ≤ (12 : Int) from by omega) (show (12 - (x4 + 1)).toNat < M3 from by omega)
  · skip
    replace c4 : ¬ (s.1 1 0 ≤ x6) := c4
    refine ⟨(show (0 : Int) ≤ x5 + x2 ∧ x5 + x2 < (144 : Int) from by omega), ?_⟩
    have b5 : 0 ≤ s.1 13 (x5 + x2) ∧ s.1 13 (x5 + x2) ≤ 1000 := iv_r13 hI _
    refine ⟨(show (0 : Int) ≤ (x3 * 12) + x6 ∧ (x3 * 12) + x6 < (144 : Int) from by omega), ?_⟩
    have b6 : 0 ≤ s.1 13 ((x3 * 12) + x6) ∧ s.1 13 ((x3 * 12) + x6) ≤ 1000 := iv_r13 hI _
    refine ⟨(show (0 : Int) ≤ x5 + x3 ∧ x5 + x3 < (144 : Int) from by omega), ?_⟩
    have b7 : 0 ≤ s.1 13 (x5 + x3) ∧ s.1 13 (x5 + x3) ≤ 1000 := iv_r13 hI _
    refine ⟨(show (0 : Int) ≤ (x2 * 12) + x6 ∧ (x2 * 12) + x6 < (144 : Int) from by omega), ?_⟩
    have b8 : 0 ≤ s.1 13 ((x2 * 12) + x6) ∧ s.1 13 ((x2 * 12) + x6) ≤ 1000 := iv_r13 hI _
    refine ⟨(show (0 : Int) ≤ x5 + x6 ∧ x5 + x6 < (144 : Int) from by omega), ?_⟩
    have b9 : 0 ≤ s.1 13 (x5 + x6) ∧ s.1 13 (x5 + x6) ≤ 1000 := iv_r13 hI _
    refine ⟨(show lf_R (((s.1 13 (x5 + x2)) + 1) + (s.1 13 ((x3 * 12) + x6))) from lf_Rof (by omega)), ?_⟩
    refine ⟨(show lf_R (((s.1 13 (x5 + x3)) + 1) + (s.1 13 ((x2 * 12) + x6))) from lf_Rof (by omega)), ?_⟩
    refine ⟨(show lf_R (s.1 13 (x5 + x6)) from lf_Rof (by omega)), ?_⟩
    refine ⟨(show lf_R (min (((s.1 13 (x5 + x2)) + 1) + (s.1 13 ((x3 * 12) + x6))) (((s.1 13 (x5 + x3)) + 1) + (s.1 13 ((x2 * 12) + x6)))) from lf_Rof (by omega)), ?_⟩
    have hI10 : iv_A (lf_up s.1 13 (x5 + x6) (min (s.1 13 (x5 + x6)) (min (((s.1 13 (x5 + x2)) + 1) + (s.1 13 ((x3 * 12) + x6))) (((s.1 13 (x5 + x3)) + 1) + (s.1 13 ((x2 * 12) + x6)))))) s.2.2 := iv_w13 hI (by omega)
    have fr11 : lf_fq [13] 1000000 true s.1 s.2.2 (lf_up s.1 13 (x5 + x6) (min (s.1 13 (x5 + x6)) (min (((s.1 13 (x5 + x2)) + 1) + (s.1 13 ((x3 * 12) + x6))) (((s.1 13 (x5 + x3)) + 1) + (s.1 13 ((x2 * 12) + x6)))))) s.2.2 := lf_fq_up (lf_fq_rf) rfl (fun h => absurd h (by decide))
    exact hX22 (x6 + 1) (lf_up s.1 13 (x5 + x6) (min (s.1 13 (x5 + x6)) (min (((s.1 13 (x5 + x2)) + 1) + (s.1 13 ((x3 * 12) + x6))) (((s.1 13 (x5 + x3)) + 1) + (s.1 13 ((x2 * 12) + x6))))), s.2.1, s.2.2) hI10 fr11 (show (0 : Int) ≤ x6 + 1 ∧ x6 + 1 ≤ (12 : Int) from by omega) (show (12 - (x6 + 1)).toNat < M22 from by omega)
theorem sm_22_p22L {X3 : Int → lf_Z → Prop} {Q : lf_Z → Prop} {x2 : Int} {x3 : Int} {x4 : Int} {x5 : Int} {x6 : Int} {s : lf_Z} (hQ : ∀  (s' : lf_Z), iv_A s'.1 s'.2.2 → lf_fq [13] 1000000 true s.1 s.2.2 s'.1 s'.2.2 → Q  s') {M3 : Nat} (hX3 : ∀ (x4 : Int) (s' : lf_Z), iv_A s'.1 s'.2.2 → lf_fq [13] 1000000 true s.1 s.2.2 s'.1 s'.2.2 → 0 ≤ x4 ∧ x4 ≤ 12 → (12 - x4).toNat < M3 → X3 x4 s') (hM3 : (12 - x4).toNat ≤ M3) (hI : iv_A s.1 s.2.2) (bx2 : 0 ≤ x2 ∧ x2 ≤ 11) (bx3 : 0 ≤ x3 ∧ x3 ≤ 11) (bx4 : 0 ≤ x4 ∧ x4 ≤ 11) (bx5 : 0 ≤ x5 ∧ x5 ≤ 132) (bx6 : 0 ≤ x6 ∧ x6 ≤ 12) : fm_22_p22L X3 Q x2 x3 x4 x5 x6 s := by
  intro X22 hX
  have key : ∀ (m9 : Nat) (x6 : Int) (s' : lf_Z), iv_A s'.1 s'.2.2 → lf_fq [13] 1000000 true s.1 s.2.2 s'.1 s'.2.2 → 0 ≤ x6 ∧ x6 ≤ 12 → (12 - x6).toNat < m9 → X22 x6 s' := by
    intro m9
    induction m9 with
    | zero => intro x6 s' _ _ bx6 h9; exact absurd h9 (Nat.not_lt_zero _)
    | succ m9 ih => intro x6 s' i7 f7 bx6 h9; exact hX _ _ (sm_22_p22 (fun t9 i9 f9 => hQ t9 i9 (lf_fq_tr f7 f9))  (fun p0 t9 i9 f9 => hX3 p0 t9 i9 (lf_fq_tr f7 f9)) hM3 (fun x6' t8 i8 f8 bx6' h8 => ih x6' t8 i8 (lf_fq_tr f7 f8) bx6' (by omega)) (Nat.le_refl _)  i7  bx2 bx3 bx4 bx5 bx6  )
  exact key _ _ s hI lf_fq_rf bx6 (Nat.lt_succ_self _)
theorem sm_22_p3 {X3 : Int → lf_Z → Prop} {Q : lf_Z → Prop} {x2 : Int} {x3 : Int} {x4 : Int} {s : lf_Z} (hQ : ∀  (s' : lf_Z), iv_A s'.1 s'.2.2 → lf_fq [13] 1000000 true s.1 s.2.2 s'.1 s'.2.2 → Q  s') {M3 : Nat} (hX3 : ∀ (x4 : Int) (s' : lf_Z), iv_A s'.1 s'.2.2 → lf_fq [13] 1000000 true s.1 s.2.2 s'.1 s'.2.2 → 0 ≤ x4 ∧ x4 ≤ 12 → (12 - x4).toNat < M3 → X3 x4 s') (hM3 : (12 - x4).toNat ≤ M3) (hI : iv_A s.1 s.2.2) (bx2 : 0 ≤ x2 ∧ x2 ≤ 11) (bx3 : 0 ≤ x3 ∧ x3 ≤ 11) (bx4 : 0 ≤ x4 ∧ x4 ≤ 12) : fm_22_p3 Q x2 x3 X3 x4 s := by
  unfold fm_22_p3
  have b1 : 0 ≤ s.1 1 0 ∧ s.1 1 0 ≤ 12 := iv_r1_0 hI
  refine ⟨(show lf_R x4 from lf_Rof (by omega)), ?_⟩
  refine ⟨(show lf_R (s.1 1 0) from lf_Rof (by omega)), ?_⟩
  refine ⟨fun c2 => ?_, fun c2 => ?_⟩
  · skip
    replace c2 : s.1 1 0 ≤ x4 := c2
    exact hQ s hI (lf_fq_rf)
  · skip
    replace c2 : ¬ (s.1 1 0 ≤ x4) := c2
    exact sm_22_p22L hQ hX3 (show (12 - x4).toNat ≤ M3 from by omega) hI (show (0 : Int) ≤ x2 ∧ x2 ≤ (11 : Int) from by omega) (show (0 : Int) ≤ x3 ∧ x3 ≤ (11 : Int) from by omega) (show (0 : Int) ≤ x4 ∧ x4 ≤ (11 : Int) from by omega) (show (0 : Int) ≤ x4 * 12 ∧ x4 * 12 ≤ (132 : Int) from by omega) (show (0 : Int) ≤ 0 ∧ 0 ≤ (12 : Int) from by omega)
theorem sm_22_p3L {Q : lf_Z → Prop} {x2 : Int} {x3 : Int} {x4 : Int} {s : lf_Z} (hQ : ∀  (s' : lf_Z), iv_A s'.1 s'.2.2 → lf_fq [13] 1000000 true s.1 s.2.2 s'.1 s'.2.2 → Q  s') (hI : iv_A s.1 s.2.2) (bx2 : 0 ≤ x2 ∧ x2 ≤ 11) (bx3 : 0 ≤ x3 ∧ x3 ≤ 11) (bx4 : 0 ≤ x4 ∧ x4 ≤ 12) : fm_22_p3L Q x2 x3 x4 s := by
  intro X3 hX
  have key : ∀ (m9 : Nat) (x4 : Int) (s' : lf_Z), iv_A s'.1 s'.2.2 → lf_fq [13] 1000000 true s.1 s.2.2 s'.1 s'.2.2 → 0 ≤ x4 ∧ x4 ≤ 12 → (12 - x4).toNat < m9 → X3 x4 s' := by
    intro m9
    induction m9 with
    | zero => intro x4 s' _ _ bx4 h9; exact absurd h9 (Nat.not_lt_zero _)
    | succ m9 ih => intro x4 s' i7 f7 bx4 h9; exact hX _ _ (sm_22_p3 (fun t9 i9 f9 => hQ t9 i9 (lf_fq_tr f7 f9))   (fun x4' t8 i8 f8 bx4' h8 => ih x4' t8 i8 (lf_fq_tr f7 f8) bx4' (by omega)) (Nat.le_refl _)  i7  bx2 bx3 bx4  )
  exact key _ _ s hI lf_fq_rf bx4 (Nat.lt_succ_self _)
theorem sm_22 {a2 : Int} {a3 : Int} {Q : lf_Z → Prop} {s : lf_Z} (hI : iv_A s.1 s.2.2) (ba2 : 0 ≤ a2 ∧ a2 ≤ 11) (ba3 : 0 ≤ a3 ∧ a3 ≤ 11) (hQ : ∀  (s' : lf_Z), iv_A s'.1 s'.2.2 → lf_fq [13] 1000000 true s.1 s.2.2 s'.1 s'.2.2 → Q  s') : fm_22 a2 a3 Q s := by
  unfold fm_22
  exact sm_22_p3L hQ hI (show (0 : Int) ≤ a2 ∧ a2 ≤ (11 : Int) from by omega) (show (0 : Int) ≤ a3 ∧ a3 ≤ (11 : Int) from by omega) (show (0 : Int) ≤ 0 ∧ 0 ≤ (12 : Int) from by omega)
-- fm_20 Land.layWay 1 i
theorem sm_20 {a1 : Int} {Q : lf_Z → Prop} {s : lf_Z} (hI : iv_A s.1 s.2.2) (ba1 : 0 ≤ a1 ∧ a1 ≤ 15) (hQ : ∀  (s' : lf_Z), iv_A s'.1 s'.2.2 → lf_fq [11, 12, 13] 1000000 true s.1 s.2.2 s'.1 s'.2.2 → Q  s') : fm_20 a1 Q s := by
  unfold fm_20
  refine ⟨(show (0 : Int) ≤ a1 ∧ a1 < (16 : Int) from by omega), ?_⟩
  have b1 : 0 ≤ s.1 4 a1 ∧ s.1 4 a1 ≤ 11 := iv_r4 hI _
  refine sm_21 hI (show (0 : Int) ≤ s.1 4 a1 ∧ s.1 4 a1 ≤ (11 : Int) from by omega) (show (0 : Int) ≤ a1 ∧ a1 ≤ (15 : Int) from by omega) (fun s22 hI3 fr2 => ?_)
  have fr5 : lf_fq [11, 12, 13] 1000000 true s.1 s.2.2 s22.1 s22.2.2 := lf_fq_tr (lf_fq_rf) (lf_fq_wk fr2 rfl (by decide) (by decide))
  have b6 : 0 ≤ s22.1 5 a1 ∧ s22.1 5 a1 ≤ 11 := iv_r5 hI3 _
  have b7 : s22.1 5 a1 = s.1 5 a1 := congrFun (fr2.1 5 rfl) _
  refine sm_21 hI3 (show (0 : Int) ≤ s22.1 5 a1 ∧ s22.1 5 a1 ≤ (11 : Int) from by omega) (show (0 : Int) ≤ a1 ∧ a1 ≤ (15 : Int) from by omega) (fun s23 hI9 fr8 => ?_)
  have fr11 : lf_fq [11, 12, 13] 1000000 true s.1 s.2.2 s23.1 s23.2.2 := lf_fq_tr fr5 (lf_fq_wk fr8 rfl (by decide) (by decide))
  have b12 : 0 ≤ s23.1 4 a1 ∧ s23.1 4 a1 ≤ 11 := iv_r4 hI9 _
  have b13 : s23.1 4 a1 = s22.1 4 a1 := congrFun (fr8.1 4 rfl) _
  have b14 : s22.1 4 a1 = s.1 4 a1 := congrFun (fr2.1 4 rfl) _
  have b15 : 0 ≤ s23.1 5 a1 ∧ s23.1 5 a1 ≤ 11 := iv_r5 hI9 _
  have b16 : s23.1 5 a1 = s22.1 5 a1 := congrFun (fr8.1 5 rfl) _
  refine sm_22 hI9 (show (0 : Int) ≤ s23.1 4 a1 ∧ s23.1 4 a1 ≤ (11 : Int) from by omega) (show (0 : Int) ≤ s23.1 5 a1 ∧ s23.1 5 a1 ≤ (11 : Int) from by omega) (fun s24 hI18 fr17 => ?_)
  have fr20 : lf_fq [11, 12, 13] 1000000 true s.1 s.2.2 s24.1 s24.2.2 := lf_fq_tr fr11 (lf_fq_wk fr17 rfl (by decide) (by decide))
  exact hQ s24 hI18 fr20
-- fm_19 Land.addWay 1 i i i
theorem sm_19 {a1 : Int} {a2 : Int} {a3 : Int} {Q : Int → lf_Z → Prop} {s : lf_Z} (hI : iv_A s.1 s.2.2) (ba1 : 0 ≤ a1 ∧ a1 ≤ 11) (ba2 : 0 ≤ a2 ∧ a2 ≤ 11) (ba3 : 0 ≤ a3 ∧ a3 ≤ 1) (hQ : ∀ (r : Int) (s' : lf_Z), iv_A s'.1 s'.2.2 → lf_fq [1, 4, 5, 6, 11, 12, 13] 1000000 true s.1 s.2.2 s'.1 s'.2.2 → ((-1) ≤ r ∧ r ≤ 15) → Q r s') : fm_19 a1 a2 a3 Q s := by
  unfold fm_19
  have b1 : 0 ≤ s.1 1 1 ∧ s.1 1 1 ≤ 16 := iv_r1_1 hI
  refine ⟨(show lf_R (s.1 1 1) from lf_Rof (by omega)), ?_⟩
  refine ⟨fun c2 => ?_, fun c2 => ?_⟩
  · skip
    replace c2 : 16 ≤ s.1 1 1 := c2
    exact hQ (-1) s hI (lf_fq_rf) (show (-1 : Int) ≤ (-1) ∧ (-1) ≤ (15 : Int) from by omega)
  · skip
    replace c2 : ¬ (16 ≤ s.1 1 1) := c2
    refine ⟨(show (0 : Int) ≤ a1 ∧ a1 < (12 : Int) from by omega), ?_⟩
    have b3 : 0 ≤ s.1 12 a1 ∧ s.1 12 a1 ≤ 4 := iv_r12 hI _
    refine ⟨(show lf_R (s.1 12 a1) from lf_Rof (by omega)), ?_⟩
    refine ⟨fun c4 => ?_, fun c4 => ?_⟩
    · skip
      replace c4 : 4 ≤ s.1 12 a1 := c4
      exact hQ (-1) s hI (lf_fq_rf) (show (-1 : Int) ≤ (-1) ∧ (-1) ≤ (15 : Int) from by omega)
    · skip
      replace c4 : ¬ (4 ≤ s.1 12 a1) := c4
      refine ⟨(show (0 : Int) ≤ a2 ∧ a2 < (12 : Int) from by omega), ?_⟩
      have b5 : 0 ≤ s.1 12 a2 ∧ s.1 12 a2 ≤ 4 := iv_r12 hI _
      refine ⟨(show lf_R (s.1 12 a2) from lf_Rof (by omega)), ?_⟩
      refine ⟨fun c6 => ?_, fun c6 => ?_⟩
      · skip
        replace c6 : s.1 12 a2 < 4 := c6
        refine ⟨(show (0 : Int) ≤ s.1 1 1 ∧ s.1 1 1 < (16 : Int) from by omega), ?_⟩
        have hI7 : iv_A (lf_up s.1 4 (s.1 1 1) a1) s.2.2 := iv_w4 hI (by omega)
        have fr8 : lf_fq [1, 4, 5, 6, 11, 12, 13] 1000000 true s.1 s.2.2 (lf_up s.1 4 (s.1 1 1) a1) s.2.2 := lf_fq_up (lf_fq_rf) rfl (fun h => absurd h (by decide))
        have hI9 : iv_A (lf_up (lf_up s.1 4 (s.1 1 1) a1) 5 (s.1 1 1) a2) s.2.2 := iv_w5 hI7 (by omega)
        have fr10 : lf_fq [1, 4, 5, 6, 11, 12, 13] 1000000 true s.1 s.2.2 (lf_up (lf_up s.1 4 (s.1 1 1) a1) 5 (s.1 1 1) a2) s.2.2 := lf_fq_up fr8 rfl (fun h => absurd h (by decide))
        refine ⟨(show a3 = 0 ∨ a3 = 1 from by omega), ?_⟩
        have hI11 : iv_A (lf_up (lf_up (lf_up s.1 4 (s.1 1 1) a1) 5 (s.1 1 1) a2) 6 (s.1 1 1) a3) s.2.2 := iv_w6 hI9 (by omega)
        have fr12 : lf_fq [1, 4, 5, 6, 11, 12, 13] 1000000 true s.1 s.2.2 (lf_up (lf_up (lf_up s.1 4 (s.1 1 1) a1) 5 (s.1 1 1) a2) 6 (s.1 1 1) a3) s.2.2 := lf_fq_up fr10 rfl (fun h => absurd h (by decide))
        have hI13 : iv_A (lf_up (lf_up (lf_up (lf_up s.1 4 (s.1 1 1) a1) 5 (s.1 1 1) a2) 6 (s.1 1 1) a3) 1 1 ((s.1 1 1) + 1)) s.2.2 := iv_w1_1 hI11 (by omega)
        have fr14 : lf_fq [1, 4, 5, 6, 11, 12, 13] 1000000 true s.1 s.2.2 (lf_up (lf_up (lf_up (lf_up s.1 4 (s.1 1 1) a1) 5 (s.1 1 1) a2) 6 (s.1 1 1) a3) 1 1 ((s.1 1 1) + 1)) s.2.2 := lf_fq_up fr12 rfl (fun h => absurd h (by decide))
        refine sm_20 hI13 (show (0 : Int) ≤ ((s.1 1 1) + 1) - 1 ∧ ((s.1 1 1) + 1) - 1 ≤ (15 : Int) from by omega) (fun s28 hI16 fr15 => ?_)
        have fr18 : lf_fq [1, 4, 5, 6, 11, 12, 13] 1000000 true s.1 s.2.2 s28.1 s28.2.2 := lf_fq_tr fr14 (lf_fq_wk fr15 rfl (by decide) (by decide))
        have b19 : 0 ≤ s28.1 1 1 ∧ s28.1 1 1 ≤ 16 := iv_r1_1 hI16
        have b20 : s28.1 1 1 = (s.1 1 1) + 1 := congrFun (fr15.1 1 rfl) _
        exact hQ ((s28.1 1 1) - 1) s28 hI16 fr18 (show (-1 : Int) ≤ (s28.1 1 1) - 1 ∧ (s28.1 1 1) - 1 ≤ (15 : Int) from by omega)
      · skip
        replace c6 : ¬ (s.1 12 a2 < 4) := c6
        exact hQ (-1) s hI (lf_fq_rf) (show (-1 : Int) ≤ (-1) ∧ (-1) ≤ (15 : Int) from by omega)
-- fm_17 ElevenBullocks.way 0 i i i
theorem sm_17 {a1 : Int} {a2 : Int} {a3 : Int} {Q : Int → lf_Z → Prop} {s : lf_Z} (hI : iv_A s.1 s.2.2) (ba1 : (-2147483648) ≤ a1 ∧ a1 ≤ 2147483647) (ba2 : (-2147483648) ≤ a2 ∧ a2 ≤ 2147483647) (ba3 : 0 ≤ a3 ∧ a3 ≤ 1) (hQ : ∀ (r : Int) (s' : lf_Z), iv_A s'.1 s'.2.2 → lf_fq [1, 4, 5, 6, 11, 12, 13] 1000000 true s.1 s.2.2 s'.1 s'.2.2 → ((-1) ≤ r ∧ r ≤ 15) → Q r s') : fm_17 a1 a2 a3 Q s := by
  unfold fm_17
  refine sm_18 hI (show (-2147483648 : Int) ≤ a1 ∧ a1 ≤ (2147483647 : Int) from by omega) (fun z22 q1 => ?_)
  have b2 : 0 ≤ s.1 1 0 ∧ s.1 1 0 ≤ 12 := iv_r1_0 hI
  refine ⟨fun c3 => ?_, fun c3 => ?_⟩
  · skip
    have dc3 := q1.2 c3
    exact hQ (-1) s hI (lf_fq_rf) (show (-1 : Int) ≤ (-1) ∧ (-1) ≤ (15 : Int) from by omega)
  · skip
    have dc3 := q1.1 c3
    refine sm_18 hI (show (-2147483648 : Int) ≤ a2 ∧ a2 ≤ (2147483647 : Int) from by omega) (fun z24 q4 => ?_)
    refine ⟨fun c5 => ?_, fun c5 => ?_⟩
    · skip
      have dc5 := q4.2 c5
      exact hQ (-1) s hI (lf_fq_rf) (show (-1 : Int) ≤ (-1) ∧ (-1) ≤ (15 : Int) from by omega)
    · skip
      have dc5 := q4.1 c5
      refine ⟨(show lf_R a1 from lf_Rof (by omega)), ?_⟩
      refine ⟨(show lf_R a2 from lf_Rof (by omega)), ?_⟩
      refine ⟨fun c6 => ?_, fun c6 => ?_⟩
      · skip
        replace c6 : a1 ≠ a2 := c6
        refine sm_19 hI (show (0 : Int) ≤ a1 ∧ a1 ≤ (11 : Int) from by omega) (show (0 : Int) ≤ a2 ∧ a2 ≤ (11 : Int) from by omega) (show (0 : Int) ≤ a3 ∧ a3 ≤ (1 : Int) from by omega) (fun r28 s27 hI8 fr7 q9 => ?_)
        have fr10 : lf_fq [1, 4, 5, 6, 11, 12, 13] 1000000 true s.1 s.2.2 s27.1 s27.2.2 := lf_fq_tr (lf_fq_rf) (lf_fq_wk fr7 rfl (by decide) (by decide))
        exact hQ r28 s27 hI8 fr10 (show (-1 : Int) ≤ r28 ∧ r28 ≤ (15 : Int) from by omega)
      · skip
        replace c6 : ¬ (a1 ≠ a2) := c6
        exact hQ (-1) s hI (lf_fq_rf) (show (-1 : Int) ≤ (-1) ∧ (-1) ≤ (15 : Int) from by omega)
-- fm_185 Model.isStretch 95 i
theorem sm_185 {a1 : Int} {Q : Bool → lf_Z → Prop} {s : lf_Z} (hI : iv_A s.1 s.2.2) (ba1 : (-2147483648) ≤ a1 ∧ a1 ≤ 2147483647) (hQ : ∀ (z : Bool), ((z = true → (0 ≤ a1 ∧ a1 < s.1 96 0)) ∧ (z = false → ¬ (0 ≤ a1 ∧ a1 < s.1 96 0))) → Q z s) : fm_185 a1 Q s := by
  unfold fm_185
  have b1 : 0 ≤ s.1 96 0 ∧ s.1 96 0 ≤ 12 := iv_rd96 hI (iv_f3e1fa21c (by omega))
  refine sm_183 hI (show (-2147483648 : Int) ≤ a1 ∧ a1 ≤ (2147483647 : Int) from by omega) (show (-1 : Int) ≤ 0 ∧ 0 ≤ (97 : Int) from by omega) (show (-1 : Int) ≤ (s.1 96 0) - 1 ∧ (s.1 96 0) - 1 ≤ (9999 : Int) from by omega) (fun z22 q2 => ?_)
  exact hQ z22 ⟨fun h9 => by have h8 := q2.1 h9; omega, fun h9 => by have h8 := q2.2 h9; omega⟩
-- fm_187 Model.acrossOf 95 i i
theorem sm_187 {a1 : Int} {a2 : Int} {Q : Int → lf_Z → Prop} {s : lf_Z} (hI : iv_A s.1 s.2.2) (ba1 : 0 ≤ a1 ∧ a1 ≤ 15) (ba2 : 0 ≤ a2 ∧ a2 ≤ 11) (hQ : ∀ (r : Int), (((-1) ≤ r ∧ r ≤ 11) ∧ (r = iv_os (s.1 96) a1 a2)) → Q r s) : fm_187 a1 a2 Q s := by
  unfold fm_187
  refine ⟨(show (0 : Int) ≤ 50 + (4 * a1) ∧ 50 + (4 * a1) < (1538 : Int) from by omega), ?_⟩
  have b1 : 0 ≤ s.1 96 (50 + (4 * a1)) ∧ s.1 96 (50 + (4 * a1)) ≤ 11 := iv_rd96 hI (iv_f76190a29 (a1) (by omega) (by omega))
  refine ⟨(show (0 : Int) ≤ (50 + (4 * a1)) + 1 ∧ (50 + (4 * a1)) + 1 < (1538 : Int) from by omega), ?_⟩
  have b2 : 0 ≤ s.1 96 ((50 + (4 * a1)) + 1) ∧ s.1 96 ((50 + (4 * a1)) + 1) ≤ 11 := iv_rd96 hI (iv_fba8b7512 (a1) (by omega) (by omega))
  refine ⟨(show lf_R (s.1 96 (50 + (4 * a1))) from lf_Rof (by omega)), ?_⟩
  refine ⟨(show lf_R a2 from lf_Rof (by omega)), ?_⟩
  refine ⟨fun c3 => ?_, fun c3 => ?_⟩
  · skip
    replace c3 : s.1 96 (50 + (4 * a1)) ≠ a2 := c3
    refine ⟨(show lf_R (s.1 96 ((50 + (4 * a1)) + 1)) from lf_Rof (by omega)), ?_⟩
    refine ⟨fun c4 => ?_, fun c4 => ?_⟩
    · skip
      replace c4 : s.1 96 ((50 + (4 * a1)) + 1) ≠ a2 := c4
      exact hQ (-1) ⟨(show (-1 : Int) ≤ (-1) ∧ (-1) ≤ (11 : Int) from by omega), (show (-1) = iv_os (s.1 96) a1 a2 from by unfold iv_os; (repeat' split) <;> first | rfl | omega | contradiction)⟩
    · skip
      replace c4 : ¬ (s.1 96 ((50 + (4 * a1)) + 1) ≠ a2) := c4
      exact hQ (s.1 96 (50 + (4 * a1))) ⟨(show (-1 : Int) ≤ s.1 96 (50 + (4 * a1)) ∧ s.1 96 (50 + (4 * a1)) ≤ (11 : Int) from by omega), (show s.1 96 (50 + (4 * a1)) = iv_os (s.1 96) a1 a2 from by unfold iv_os; (repeat' split) <;> first | rfl | omega | contradiction)⟩
  · skip
    replace c3 : ¬ (s.1 96 (50 + (4 * a1)) ≠ a2) := c3
    exact hQ (s.1 96 ((50 + (4 * a1)) + 1)) ⟨(show (-1 : Int) ≤ s.1 96 ((50 + (4 * a1)) + 1) ∧ s.1 96 ((50 + (4 * a1)) + 1) ≤ (11 : Int) from by omega), (show s.1 96 ((50 + (4 * a1)) + 1) = iv_os (s.1 96) a1 a2 from by unfold iv_os; (repeat' split) <;> first | rfl | omega | contradiction)⟩
-- fm_186 Model.waysAt 95 i
theorem sm_186_p31 {X4 : Int → Int → lf_Z → Prop} {Q : Int → lf_Z → Prop} {x1 : Int} {x3 : Int} {y0 : Int} {y1 : Int} {s : lf_Z} (hQ : ∀ (r : Int), ((-2147483648) ≤ r ∧ r ≤ 2147483647) → Q r s) {M4 : Nat} (hX4 : ∀ (x2 : Int) (x3 : Int), (-2147483648) ≤ x2 ∧ x2 ≤ 2147483647 → 0 ≤ x3 ∧ x3 ≤ 16 → (16 - x3).toNat < M4 → X4 x2 x3 s) (hM4 : (16 - x3).toNat ≤ M4) (hI : iv_A s.1 s.2.2) (bx1 : 0 ≤ x1 ∧ x1 ≤ 11) (bx3 : 0 ≤ x3 ∧ x3 ≤ 15) (by0 : (-2147483648) ≤ y0 ∧ y0 ≤ 2147483647) (by1 : 0 ≤ y1 ∧ y1 ≤ 32768) : fm_186_p31 X4 Q x1 x3 y0 y1 s := by
  unfold fm_186_p31
  have b6 : (-2147483648) ≤ lf_or y0 y1 ∧ lf_or y0 y1 ≤ 2147483647 := lf_orB
  exact hX4 (lf_or y0 y1) (x3 + 1) (show (-2147483648 : Int) ≤ lf_or y0 y1 ∧ lf_or y0 y1 ≤ (2147483647 : Int) from by omega) (show (0 : Int) ≤ x3 + 1 ∧ x3 + 1 ≤ (16 : Int) from by omega) (show (16 - (x3 + 1)).toNat < M4 from by omega)
theorem sm_186_p4 {X4 : Int → Int → lf_Z → Prop} {Q : Int → lf_Z → Prop} {x1 : Int} {x2 : Int} {x3 : Int} {s : lf_Z} (hQ : ∀ (r : Int), ((-2147483648) ≤ r ∧ r ≤ 2147483647) → Q r s) {M4 : Nat} (hX4 : ∀ (x2 : Int) (x3 : Int), (-2147483648) ≤ x2 ∧ x2 ≤ 2147483647 → 0 ≤ x3 ∧ x3 ≤ 16 → (16 - x3).toNat < M4 → X4 x2 x3 s) (hM4 : (16 - x3).toNat ≤ M4) (hI : iv_A s.1 s.2.2) (bx1 : 0 ≤ x1 ∧ x1 ≤ 11) (bx2 : (-2147483648) ≤ x2 ∧ x2 ≤ 2147483647) (bx3 : 0 ≤ x3 ∧ x3 ≤ 16) : fm_186_p4 Q x1 X4 x2 x3 s := by
  unfold fm_186_p4
  have b1 : 0 ≤ s.1 96 1 ∧ s.1 96 1 ≤ 16 := iv_rd96 hI (iv_fd6ad3e54 (by omega))
  have b2 : s.1 96 1 ≤ 0 ∨ 0 < s.1 96 0 := (show s.1 96 1 ≤ 0 ∨ 0 < s.1 96 0 from iv_l96_1 hI)
  refine ⟨(show lf_R x3 from lf_Rof (by omega)), ?_⟩
  refine ⟨(show lf_R (s.1 96 1) from lf_Rof (by omega)), ?_⟩
  refine ⟨fun c3 => ?_, fun c3 => ?_⟩
  · skip
    replace c3 : s.1 96 1 ≤ x3 := c3
    exact hQ x2 (show (-2147483648 : Int) ≤ x2 ∧ x2 ≤ (2147483647 : Int) from by omega)
  · skip
    replace c3 : ¬ (s.1 96 1 ≤ x3) := c3
    refine sm_187 hI (show (0 : Int) ≤ x3 ∧ x3 ≤ (15 : Int) from by omega) (show (0 : Int) ≤ x1 ∧ x1 ≤ (11 : Int) from by omega) (fun r24 q4 => ?_)
    obtain ⟨q4, q4x⟩ := q4
    replace q4x : r24 = iv_os (s.1 96) x3 x1 := q4x
    refine ⟨(show lf_R r24 from lf_Rof (by omega)), ?_⟩
    refine ⟨fun c5 => ?_, fun c5 => ?_⟩
    · skip
      replace c5 : r24 < 0 := c5
      exact sm_186_p31 hQ hX4 (show (16 - x3).toNat ≤ M4 from by omega) hI (show (0 : Int) ≤ x1 ∧ x1 ≤ (11 : Int) from by omega) (show (0 : Int) ≤ x3 ∧ x3 ≤ (15 : Int) from by omega) (show (-2147483648 : Int) ≤ x2 ∧ x2 ≤ (2147483647 : Int) from by omega) (show (0 : Int) ≤ 0 ∧ 0 ≤ (32768 : Int) from by omega)
    · skip
      replace c5 : ¬ (r24 < 0) := c5
      have b7 : 1 ≤ lf_shl 1 x3 ∧ lf_shl 1 x3 ≤ 32768 := lf_shl1 (m := 15) (by omega) (by omega) (by decide)
      exact sm_186_p31 hQ hX4 (show (16 - x3).toNat ≤ M4 from by omega) hI (show (0 : Int) ≤ x1 ∧ x1 ≤ (11 : Int) from by omega) (show (0 : Int) ≤ x3 ∧ x3 ≤ (15 : Int) from by omega) (show (-2147483648 : Int) ≤ x2 ∧ x2 ≤ (2147483647 : Int) from by omega) (show (0 : Int) ≤ lf_shl 1 x3 ∧ lf_shl 1 x3 ≤ (32768 : Int) from by omega)
theorem sm_186_p4L {Q : Int → lf_Z → Prop} {x1 : Int} {x2 : Int} {x3 : Int} {s : lf_Z} (hQ : ∀ (r : Int), ((-2147483648) ≤ r ∧ r ≤ 2147483647) → Q r s) (hI : iv_A s.1 s.2.2) (bx1 : 0 ≤ x1 ∧ x1 ≤ 11) (bx2 : (-2147483648) ≤ x2 ∧ x2 ≤ 2147483647) (bx3 : 0 ≤ x3 ∧ x3 ≤ 16) : fm_186_p4L Q x1 x2 x3 s := by
  intro X4 hX
  have key : ∀ (m9 : Nat) (x2 : Int) (x3 : Int), (-2147483648) ≤ x2 ∧ x2 ≤ 2147483647 → 0 ≤ x3 ∧ x3 ≤ 16 → (16 - x3).toNat < m9 → X4 x2 x3 s := by
    intro m9
    induction m9 with
    | zero => intro x2 x3 bx2 bx3 h9; exact absurd h9 (Nat.not_lt_zero _)
    | succ m9 ih => intro x2 x3 bx2 bx3 h9; exact hX _ _ _ (sm_186_p4 hQ   (fun x2' x3' bx2' bx3' h8 => ih x2' x3' bx2' bx3' (by omega)) (Nat.le_refl _)  hI  bx1 bx2 bx3  )
  exact key _ _ _ bx2 bx3   (Nat.lt_succ_self _)
theorem sm_186 {a1 : Int} {Q : Int → lf_Z → Prop} {s : lf_Z} (hI : iv_A s.1 s.2.2) (ba1 : 0 ≤ a1 ∧ a1 ≤ 11) (hQ : ∀ (r : Int), ((-2147483648) ≤ r ∧ r ≤ 2147483647) → Q r s) : fm_186 a1 Q s := by
  unfold fm_186
  exact sm_186_p4L hQ hI (show (0 : Int) ≤ a1 ∧ a1 ≤ (11 : Int) from by omega) (show (-2147483648 : Int) ≤ 0 ∧ 0 ≤ (2147483647 : Int) from by omega) (show (0 : Int) ≤ 0 ∧ 0 ≤ (16 : Int) from by omega)
-- fm_188 Model.bits i
theorem sm_188_p4 {X4 : Int → Int → lf_Z → Prop} {Q : Int → lf_Z → Prop} {x0 : Int} {x1 : Int} {x2 : Int} {s : lf_Z} {s0 : lf_Z} (hQ : ∀ (r : Int), (r = lf_bt (x0) 16) → (0 ≤ r ∧ r ≤ 16) → Q r s) {M4 : Nat} (hX4 : ∀ (x1 : Int) (x2 : Int), 0 ≤ x1 ∧ x1 ≤ 16 → 0 ≤ x2 ∧ x2 ≤ 16 → (x1 = lf_bt (x0) (x2)) → (0 ≤ x1 ∧ x1 ≤ x2) → (16 - x2).toNat < M4 → X4 x1 x2 s) (hM4 : (16 - x2).toNat ≤ M4) (hI : iv_A s.1 s.2.2) (bx0 : (-2147483648) ≤ x0 ∧ x0 ≤ 2147483647) (bx1 : 0 ≤ x1 ∧ x1 ≤ 16) (bx2 : 0 ≤ x2 ∧ x2 ≤ 16) (kv0 : x1 = lf_bt (x0) (x2)) (kv1 : 0 ≤ x1 ∧ x1 ≤ x2) : fm_188_p4 Q x0 X4 x1 x2 s := by
  unfold fm_188_p4
  refine ⟨(show lf_R x2 from lf_Rof (by omega)), ?_⟩
  refine ⟨fun c2 => ?_, fun c2 => ?_⟩
  · skip
    replace c2 : 16 ≤ x2 := c2
    have b3 : lf_bt (x0) (x2) = lf_bt (x0) 16 := congrArg (lf_bt x0) (by omega)
    exact hQ x1 (show x1 = lf_bt (x0) 16 from by omega) (show (0 : Int) ≤ x1 ∧ x1 ≤ (16 : Int) from by omega)
  · skip
    replace c2 : ¬ (16 ≤ x2) := c2
    have b4 : lf_bt (x0) (x2 + 1) = lf_bt (x0) (x2) + lf_and (lf_shr (x0) (x2)) 1 := lf_btS (by omega)
    have b5 : (-2147483648) ≤ lf_shr x0 x2 ∧ lf_shr x0 x2 ≤ 2147483647 := lf_shrB
    have b6 : 0 ≤ lf_and (lf_shr x0 x2) 1 ∧ lf_and (lf_shr x0 x2) 1 ≤ 1 := lf_andB (by omega) (by omega)
    have b7 : lf_bt (x0) 0 = 0 := rfl
    exact hX4 (x1 + (lf_and (lf_shr x0 x2) 1)) (x2 + 1) (show (0 : Int) ≤ x1 + (lf_and (lf_shr x0 x2) 1) ∧ x1 + (lf_and (lf_shr x0 x2) 1) ≤ (16 : Int) from by omega) (show (0 : Int) ≤ x2 + 1 ∧ x2 + 1 ≤ (16 : Int) from by omega) (show (x1 + (lf_and (lf_shr x0 x2) 1)) = lf_bt (x0) ((x2 + 1)) from by omega) (show 0 ≤ (x1 + (lf_and (lf_shr x0 x2) 1)) ∧ (x1 + (lf_and (lf_shr x0 x2) 1)) ≤ (x2 + 1) from by omega) (show (16 - (x2 + 1)).toNat < M4 from by omega)
theorem sm_188_p4L {Q : Int → lf_Z → Prop} {x0 : Int} {x1 : Int} {x2 : Int} {s : lf_Z} {s0 : lf_Z} (hQ : ∀ (r : Int), (r = lf_bt (x0) 16) → (0 ≤ r ∧ r ≤ 16) → Q r s) (hI : iv_A s.1 s.2.2) (bx0 : (-2147483648) ≤ x0 ∧ x0 ≤ 2147483647) (bx1 : 0 ≤ x1 ∧ x1 ≤ 16) (bx2 : 0 ≤ x2 ∧ x2 ≤ 16) (kv0 : x1 = lf_bt (x0) (x2)) (kv1 : 0 ≤ x1 ∧ x1 ≤ x2) : fm_188_p4L Q x0 x1 x2 s := by
  intro X4 hX
  have key : ∀ (m9 : Nat) (x1 : Int) (x2 : Int), 0 ≤ x1 ∧ x1 ≤ 16 → 0 ≤ x2 ∧ x2 ≤ 16 → (x1 = lf_bt (x0) (x2)) → (0 ≤ x1 ∧ x1 ≤ x2) → (16 - x2).toNat < m9 → X4 x1 x2 s := by
    intro m9
    induction m9 with
    | zero => intro x1 x2 bx1 bx2 kv0 kv1 h9; exact absurd h9 (Nat.not_lt_zero _)
    | succ m9 ih => intro x1 x2 bx1 bx2 kv0 kv1 h9; exact hX _ _ _ (sm_188_p4 (s0 := s0) hQ   (fun x1' x2' bx1' bx2' kv0' kv1' h8 => ih x1' x2' bx1' bx2' kv0' kv1' (by omega)) (Nat.le_refl _)  hI  bx0 bx1 bx2  kv0 kv1)
  exact key _ _ _ bx1 bx2  kv0 kv1 (Nat.lt_succ_self _)
theorem sm_188 {a0 : Int} {Q : Int → lf_Z → Prop} {s : lf_Z} (hI : iv_A s.1 s.2.2) (ba0 : (-2147483648) ≤ a0 ∧ a0 ≤ 2147483647) (hQ : ∀ (r : Int), (r = lf_bt (a0) 16) → (0 ≤ r ∧ r ≤ 16) → Q r s) : fm_188 a0 Q s := by
  unfold fm_188
  have b1 : lf_bt (a0) 0 = 0 := rfl
  exact sm_188_p4L (s0 := s) hQ hI (show (-2147483648 : Int) ≤ a0 ∧ a0 ≤ (2147483647 : Int) from by omega) (show (0 : Int) ≤ 0 ∧ 0 ≤ (16 : Int) from by omega) (show (0 : Int) ≤ 0 ∧ 0 ≤ (16 : Int) from by omega) (show 0 = lf_bt (a0) (0) from by omega) (show 0 ≤ 0 ∧ 0 ≤ 0 from by omega)
-- fm_184 Model.way 95 i i i
theorem sm_184_p106 {Q : Int → lf_Z → Prop} {x4 : Int} {y1 : Int} {y2 : Int} {s : lf_Z} (hQ : ∀ (r : Int) (s' : lf_Z), iv_A s'.1 s'.2.2 → lf_fq [96, 1002, 1004, 1006] 1 true s.1 s.2.2 s'.1 s'.2.2 → ((-1) ≤ r ∧ r ≤ 15) → Q r s') (hI : iv_A s.1 s.2.2) (bx4 : 50 ≤ x4 ∧ x4 ≤ 110) (by1 : 52 ≤ y1 ∧ y1 ≤ 112) (by2 : 0 ≤ y2 ∧ y2 ≤ 1) (kv0 : s.1 96 1 < 16) (kv1 : 0 < s.1 96 0) (kv2 : x4 = 50 + 4 * s.1 96 1) (kv3 : y1 = x4 + 2) (kv4 : s.1 96 (x4) < s.1 96 0) (kv5 : s.1 96 (x4 + 1) < s.1 96 0) : fm_184_p106 Q x4 y1 y2 s := by
  unfold fm_184_p106
  refine ⟨(show (0 : Int) ≤ y1 ∧ y1 < (1538 : Int) from by omega), ?_⟩
  have hI35 : iv_A (lf_up s.1 96 y1 y2) s.2.2 := iv_wd96 hI (lf_le2 (iv_fb705ee40 (y1) (by omega) (by omega)) (by omega)) (fun h => absurd h (by omega))
  have fr36 : lf_fq [96, 1002, 1004, 1006] 1 true s.1 s.2.2 (lf_up s.1 96 y1 y2) s.2.2 := lf_fq_up (lf_fq_rf) rfl (fun _ => ⟨by omega, fr_o (Or.inr (fr_n0 (by omega))) (Or.inr (fr_n1 (by omega))) (Or.inl rfl) (Or.inr (fr_n3 (by omega))) (Or.inl rfl) (Or.inr (fr_n5 (by omega))) (Or.inl rfl)⟩)
  refine ⟨(show (0 : Int) ≤ x4 + 3 ∧ x4 + 3 < (1538 : Int) from by omega), ?_⟩
  have hI37 : iv_A (lf_up (lf_up s.1 96 y1 y2) 96 (x4 + 3) 1) s.2.2 := iv_wd96 hI35 (lf_le2 (iv_fb613c05e (x4) (by omega) (by omega)) (by omega)) (fun h => absurd h (by omega))
  have fr38 : lf_fq [96, 1002, 1004, 1006] 1 true s.1 s.2.2 (lf_up (lf_up s.1 96 y1 y2) 96 (x4 + 3) 1) s.2.2 := lf_fq_up fr36 rfl (fun _ => ⟨by omega, fr_o (Or.inr (fr_n0 (by omega))) (Or.inr (fr_n1 (by omega))) (Or.inl rfl) (Or.inr (fr_n3 (by omega))) (Or.inl rfl) (Or.inr (fr_n5 (by omega))) (Or.inl rfl)⟩)
  have b39 : 0 ≤ (lf_up (lf_up s.1 96 y1 y2) 96 (x4 + 3) 1) 96 1 ∧ (lf_up (lf_up s.1 96 y1 y2) 96 (x4 + 3) 1) 96 1 ≤ 16 := iv_rd96 hI37 (iv_fd6ad3e54 (by omega))
  have b40 : (lf_up (lf_up s.1 96 y1 y2) 96 (x4 + 3) 1) 96 1 = (lf_up s.1 96 y1 y2) 96 1 := lf_up_i (by omega)
  have b41 : (lf_up s.1 96 y1 y2) 96 1 = s.1 96 1 := lf_up_i (by omega)
  have b42 : (lf_up (lf_up s.1 96 y1 y2) 96 (x4 + 3) 1) 96 1 ≤ 0 ∨ 0 < (lf_up (lf_up s.1 96 y1 y2) 96 (x4 + 3) 1) 96 0 := (show (lf_up (lf_up s.1 96 y1 y2) 96 (x4 + 3) 1) 96 1 ≤ 0 ∨ 0 < (lf_up (lf_up s.1 96 y1 y2) 96 (x4 + 3) 1) 96 0 from iv_l96_1 hI37)
  refine ⟨(show (0 : Int) ≤ 174 + (5 * ((lf_up (lf_up s.1 96 y1 y2) 96 (x4 + 3) 1) 96 1)) ∧ 174 + (5 * ((lf_up (lf_up s.1 96 y1 y2) 96 (x4 + 3) 1) 96 1)) < (1538 : Int) from by omega), ?_⟩
  have hI43 : iv_A (lf_up (lf_up (lf_up s.1 96 y1 y2) 96 (x4 + 3) 1) 96 (174 + (5 * ((lf_up (lf_up s.1 96 y1 y2) 96 (x4 + 3) 1) 96 1))) 0) s.2.2 := iv_wd96 hI37 (lf_le2 (iv_fff015721 ((lf_up (lf_up s.1 96 y1 y2) 96 (x4 + 3) 1) 96 1) (by omega) (by omega)) (by omega)) (fun h => absurd h (by omega))
  have fr44 : lf_fq [96, 1002, 1004, 1006] 1 true s.1 s.2.2 (lf_up (lf_up (lf_up s.1 96 y1 y2) 96 (x4 + 3) 1) 96 (174 + (5 * ((lf_up (lf_up s.1 96 y1 y2) 96 (x4 + 3) 1) 96 1))) 0) s.2.2 := lf_fq_up fr38 rfl (fun _ => ⟨by omega, fr_o (Or.inr (fr_n0 (by omega))) (Or.inr (fr_n1 (by omega))) (Or.inl rfl) (Or.inr (fr_n3 (by omega))) (Or.inl rfl) (Or.inr (fr_n5 (by omega))) (Or.inl rfl)⟩)
  have b45 : 0 ≤ (lf_up (lf_up (lf_up s.1 96 y1 y2) 96 (x4 + 3) 1) 96 (174 + (5 * ((lf_up (lf_up s.1 96 y1 y2) 96 (x4 + 3) 1) 96 1))) 0) 96 1 ∧ (lf_up (lf_up (lf_up s.1 96 y1 y2) 96 (x4 + 3) 1) 96 (174 + (5 * ((lf_up (lf_up s.1 96 y1 y2) 96 (x4 + 3) 1) 96 1))) 0) 96 1 ≤ 16 := iv_rd96 hI43 (iv_fd6ad3e54 (by omega))
  have b46 : (lf_up (lf_up (lf_up s.1 96 y1 y2) 96 (x4 + 3) 1) 96 (174 + (5 * ((lf_up (lf_up s.1 96 y1 y2) 96 (x4 + 3) 1) 96 1))) 0) 96 1 = (lf_up (lf_up s.1 96 y1 y2) 96 (x4 + 3) 1) 96 1 := lf_up_i (by omega)
  have b47 : (lf_up (lf_up (lf_up s.1 96 y1 y2) 96 (x4 + 3) 1) 96 (174 + (5 * ((lf_up (lf_up s.1 96 y1 y2) 96 (x4 + 3) 1) 96 1))) 0) 96 1 ≤ 0 ∨ 0 < (lf_up (lf_up (lf_up s.1 96 y1 y2) 96 (x4 + 3) 1) 96 (174 + (5 * ((lf_up (lf_up s.1 96 y1 y2) 96 (x4 + 3) 1) 96 1))) 0) 96 0 := (show (lf_up (lf_up (lf_up s.1 96 y1 y2) 96 (x4 + 3) 1) 96 (174 + (5 * ((lf_up (lf_up s.1 96 y1 y2) 96 (x4 + 3) 1) 96 1))) 0) 96 1 ≤ 0 ∨ 0 < (lf_up (lf_up (lf_up s.1 96 y1 y2) 96 (x4 + 3) 1) 96 (174 + (5 * ((lf_up (lf_up s.1 96 y1 y2) 96 (x4 + 3) 1) 96 1))) 0) 96 0 from iv_l96_1 hI43)
  have b48 : (lf_up (lf_up (lf_up s.1 96 y1 y2) 96 (x4 + 3) 1) 96 (174 + (5 * ((lf_up (lf_up s.1 96 y1 y2) 96 (x4 + 3) 1) 96 1))) 0) 96 (50 + 4 * (lf_up (lf_up (lf_up s.1 96 y1 y2) 96 (x4 + 3) 1) 96 (174 + (5 * ((lf_up (lf_up s.1 96 y1 y2) 96 (x4 + 3) 1) 96 1))) 0) 96 1) = s.1 96 x4 := ((lf_up_i (by omega)).trans ((lf_up_i (by omega)).trans (lf_up_i (by omega)))).trans (congrArg (s.1 96) (by omega))
  have b49 : (lf_up (lf_up (lf_up s.1 96 y1 y2) 96 (x4 + 3) 1) 96 (174 + (5 * ((lf_up (lf_up s.1 96 y1 y2) 96 (x4 + 3) 1) 96 1))) 0) 96 (50 + 4 * (lf_up (lf_up (lf_up s.1 96 y1 y2) 96 (x4 + 3) 1) 96 (174 + (5 * ((lf_up (lf_up s.1 96 y1 y2) 96 (x4 + 3) 1) 96 1))) 0) 96 1 + 1) = s.1 96 (x4 + 1) := ((lf_up_i (by omega)).trans ((lf_up_i (by omega)).trans (lf_up_i (by omega)))).trans (congrArg (s.1 96) (by omega))
  have b50 : 0 ≤ (lf_up (lf_up (lf_up s.1 96 y1 y2) 96 (x4 + 3) 1) 96 (174 + (5 * ((lf_up (lf_up s.1 96 y1 y2) 96 (x4 + 3) 1) 96 1))) 0) 96 0 ∧ (lf_up (lf_up (lf_up s.1 96 y1 y2) 96 (x4 + 3) 1) 96 (174 + (5 * ((lf_up (lf_up s.1 96 y1 y2) 96 (x4 + 3) 1) 96 1))) 0) 96 0 ≤ 12 := iv_rd96 hI43 (iv_f3e1fa21c (by omega))
  have b51 : (lf_up (lf_up (lf_up s.1 96 y1 y2) 96 (x4 + 3) 1) 96 (174 + (5 * ((lf_up (lf_up s.1 96 y1 y2) 96 (x4 + 3) 1) 96 1))) 0) 96 0 = (lf_up (lf_up s.1 96 y1 y2) 96 (x4 + 3) 1) 96 0 := lf_up_i (by omega)
  have b52 : (lf_up (lf_up s.1 96 y1 y2) 96 (x4 + 3) 1) 96 0 = (lf_up s.1 96 y1 y2) 96 0 := lf_up_i (by omega)
  have b53 : (lf_up s.1 96 y1 y2) 96 0 = s.1 96 0 := lf_up_i (by omega)
  have hI54 : iv_A (lf_up (lf_up (lf_up (lf_up s.1 96 y1 y2) 96 (x4 + 3) 1) 96 (174 + (5 * ((lf_up (lf_up s.1 96 y1 y2) 96 (x4 + 3) 1) 96 1))) 0) 96 1 (((lf_up (lf_up (lf_up s.1 96 y1 y2) 96 (x4 + 3) 1) 96 (174 + (5 * ((lf_up (lf_up s.1 96 y1 y2) 96 (x4 + 3) 1) 96 1))) 0) 96 1) + 1)) s.2.2 := iv_wd96 hI43 (lf_le2 (iv_febe3d830 (by omega)) (by omega)) (fun _ => iv_rel1 hI43 (by omega) (by omega) (by omega) (by omega))
  have fr55 : lf_fq [96, 1002, 1004, 1006] 1 true s.1 s.2.2 (lf_up (lf_up (lf_up (lf_up s.1 96 y1 y2) 96 (x4 + 3) 1) 96 (174 + (5 * ((lf_up (lf_up s.1 96 y1 y2) 96 (x4 + 3) 1) 96 1))) 0) 96 1 (((lf_up (lf_up (lf_up s.1 96 y1 y2) 96 (x4 + 3) 1) 96 (174 + (5 * ((lf_up (lf_up s.1 96 y1 y2) 96 (x4 + 3) 1) 96 1))) 0) 96 1) + 1)) s.2.2 := lf_fq_up fr44 rfl (fun _ => ⟨by omega, fr_o (Or.inr (fr_n0 (by omega))) (Or.inr (fr_n1 (by omega))) (Or.inl rfl) (Or.inr (fr_n3 (by omega))) (Or.inl rfl) (Or.inr (fr_n5 (by omega))) (Or.inl rfl)⟩)
  exact hQ ((((lf_up (lf_up (lf_up s.1 96 y1 y2) 96 (x4 + 3) 1) 96 (174 + (5 * ((lf_up (lf_up s.1 96 y1 y2) 96 (x4 + 3) 1) 96 1))) 0) 96 1) + 1) - 1) (lf_up (lf_up (lf_up (lf_up s.1 96 y1 y2) 96 (x4 + 3) 1) 96 (174 + (5 * ((lf_up (lf_up s.1 96 y1 y2) 96 (x4 + 3) 1) 96 1))) 0) 96 1 (((lf_up (lf_up (lf_up s.1 96 y1 y2) 96 (x4 + 3) 1) 96 (174 + (5 * ((lf_up (lf_up s.1 96 y1 y2) 96 (x4 + 3) 1) 96 1))) 0) 96 1) + 1), s.2.1, s.2.2) hI54 fr55 (show (-1 : Int) ≤ (((lf_up (lf_up (lf_up s.1 96 y1 y2) 96 (x4 + 3) 1) 96 (174 + (5 * ((lf_up (lf_up s.1 96 y1 y2) 96 (x4 + 3) 1) 96 1))) 0) 96 1) + 1) - 1 ∧ (((lf_up (lf_up (lf_up s.1 96 y1 y2) 96 (x4 + 3) 1) 96 (174 + (5 * ((lf_up (lf_up s.1 96 y1 y2) 96 (x4 + 3) 1) 96 1))) 0) 96 1) + 1) - 1 ≤ (15 : Int) from by omega)
theorem sm_184 {a1 : Int} {a2 : Int} {a3 : Int} {Q : Int → lf_Z → Prop} {s : lf_Z} (hI : iv_A s.1 s.2.2) (ba1 : (-2147483648) ≤ a1 ∧ a1 ≤ 2147483647) (ba2 : (-2147483648) ≤ a2 ∧ a2 ≤ 2147483647) (ba3 : 0 ≤ a3 ∧ a3 ≤ 1) (hQ : ∀ (r : Int) (s' : lf_Z), iv_A s'.1 s'.2.2 → lf_fq [96, 1002, 1004, 1006] 1 true s.1 s.2.2 s'.1 s'.2.2 → ((-1) ≤ r ∧ r ≤ 15) → Q r s') : fm_184 a1 a2 a3 Q s := by
  unfold fm_184
  refine sm_185 hI (show (-2147483648 : Int) ≤ a1 ∧ a1 ≤ (2147483647 : Int) from by omega) (fun z22 q1 => ?_)
  have b2 : 0 ≤ s.1 96 0 ∧ s.1 96 0 ≤ 12 := iv_rd96 hI (iv_f3e1fa21c (by omega))
  refine ⟨fun c3 => ?_, fun c3 => ?_⟩
  · skip
    have dc3 := q1.2 c3
    exact hQ (-1) s hI (lf_fq_rf) (show (-1 : Int) ≤ (-1) ∧ (-1) ≤ (15 : Int) from by omega)
  · skip
    have dc3 := q1.1 c3
    refine sm_185 hI (show (-2147483648 : Int) ≤ a2 ∧ a2 ≤ (2147483647 : Int) from by omega) (fun z24 q4 => ?_)
    refine ⟨fun c5 => ?_, fun c5 => ?_⟩
    · skip
      have dc5 := q4.2 c5
      exact hQ (-1) s hI (lf_fq_rf) (show (-1 : Int) ≤ (-1) ∧ (-1) ≤ (15 : Int) from by omega)
    · skip
      have dc5 := q4.1 c5
      refine ⟨(show lf_R a1 from lf_Rof (by omega)), ?_⟩
      refine ⟨(show lf_R a2 from lf_Rof (by omega)), ?_⟩
      refine ⟨fun c6 => ?_, fun c6 => ?_⟩
      · skip
        replace c6 : a1 = a2 := c6
        exact hQ (-1) s hI (lf_fq_rf) (show (-1 : Int) ≤ (-1) ∧ (-1) ≤ (15 : Int) from by omega)
      · skip
        replace c6 : ¬ (a1 = a2) := c6
        refine sm_186 hI (show (0 : Int) ≤ a1 ∧ a1 ≤ (11 : Int) from by omega) (fun r28 q7 => ?_)
        refine sm_188 hI (show (-2147483648 : Int) ≤ r28 ∧ r28 ≤ (2147483647 : Int) from by omega) (fun r30 ps9 q8 => ?_)
        replace ps9 : r30 = lf_bt (r28) 16 := ps9
        refine ⟨(show lf_R r30 from lf_Rof (by omega)), ?_⟩
        refine ⟨fun c10 => ?_, fun c10 => ?_⟩
        · skip
          replace c10 : r30 = 4 := c10
          exact hQ (-1) s hI (lf_fq_rf) (show (-1 : Int) ≤ (-1) ∧ (-1) ≤ (15 : Int) from by omega)
        · skip
          replace c10 : ¬ (r30 = 4) := c10
          refine sm_186 hI (show (0 : Int) ≤ a2 ∧ a2 ≤ (11 : Int) from by omega) (fun r33 q11 => ?_)
          refine sm_188 hI (show (-2147483648 : Int) ≤ r33 ∧ r33 ≤ (2147483647 : Int) from by omega) (fun r35 ps13 q12 => ?_)
          replace ps13 : r35 = lf_bt (r33) 16 := ps13
          refine ⟨(show lf_R r35 from lf_Rof (by omega)), ?_⟩
          refine ⟨fun c14 => ?_, fun c14 => ?_⟩
          · skip
            replace c14 : r35 = 4 := c14
            exact hQ (-1) s hI (lf_fq_rf) (show (-1 : Int) ≤ (-1) ∧ (-1) ≤ (15 : Int) from by omega)
          · skip
            replace c14 : ¬ (r35 = 4) := c14
            have b15 : 0 ≤ s.1 96 1 ∧ s.1 96 1 ≤ 16 := iv_rd96 hI (iv_fd6ad3e54 (by omega))
            have b16 : s.1 96 1 ≤ 0 ∨ 0 < s.1 96 0 := (show s.1 96 1 ≤ 0 ∨ 0 < s.1 96 0 from iv_l96_1 hI)
            refine ⟨(show lf_R (s.1 96 1) from lf_Rof (by omega)), ?_⟩
            refine ⟨fun c17 => ?_, fun c17 => ?_⟩
            · skip
              replace c17 : s.1 96 1 ≠ 16 := c17
              refine ⟨(show (0 : Int) ≤ 50 + (4 * (s.1 96 1)) ∧ 50 + (4 * (s.1 96 1)) < (1538 : Int) from by omega), ?_⟩
              have hI18 : iv_A (lf_up s.1 96 (50 + (4 * (s.1 96 1))) a1) s.2.2 := iv_wd96 hI (lf_le2 (iv_f1bf78659 (s.1 96 1) (by omega) (by omega)) (by omega)) (fun _ => iv_relw hI (by omega))
              have fr19 : lf_fq [96, 1002, 1004, 1006] 1 true s.1 s.2.2 (lf_up s.1 96 (50 + (4 * (s.1 96 1))) a1) s.2.2 := lf_fq_up (lf_fq_rf) rfl (fun _ => ⟨by omega, fr_o (Or.inr (fr_n0 (by omega))) (Or.inr (fr_n1 (by omega))) (Or.inl rfl) (Or.inr (fr_n3 (by omega))) (Or.inl rfl) (Or.inr (fr_n5 (by omega))) (Or.inl rfl)⟩)
              have b20 : 0 ≤ (lf_up s.1 96 (50 + (4 * (s.1 96 1))) a1) 96 1 ∧ (lf_up s.1 96 (50 + (4 * (s.1 96 1))) a1) 96 1 ≤ 16 := iv_rd96 hI18 (iv_fd6ad3e54 (by omega))
              have b21 : (lf_up s.1 96 (50 + (4 * (s.1 96 1))) a1) 96 1 = s.1 96 1 := lf_up_i (by omega)
              have b22 : (lf_up s.1 96 (50 + (4 * (s.1 96 1))) a1) 96 1 ≤ 0 ∨ 0 < (lf_up s.1 96 (50 + (4 * (s.1 96 1))) a1) 96 0 := (show (lf_up s.1 96 (50 + (4 * (s.1 96 1))) a1) 96 1 ≤ 0 ∨ 0 < (lf_up s.1 96 (50 + (4 * (s.1 96 1))) a1) 96 0 from iv_l96_1 hI18)
              have b23 : ((lf_up s.1 96 (50 + (4 * (s.1 96 1))) a1) 96 1) = s.1 96 1 := lf_up_i (by omega)
              refine ⟨(show (0 : Int) ≤ (50 + (4 * (s.1 96 1))) + 1 ∧ (50 + (4 * (s.1 96 1))) + 1 < (1538 : Int) from by omega), ?_⟩
              have hI24 : iv_A (lf_up (lf_up s.1 96 (50 + (4 * (s.1 96 1))) a1) 96 ((50 + (4 * (s.1 96 1))) + 1) a2) s.2.2 := iv_wd96 hI18 (lf_le2 (iv_f22fa496a (s.1 96 1) (by omega) (by omega)) (by omega)) (fun _ => iv_relw hI18 (by omega))
              have fr25 : lf_fq [96, 1002, 1004, 1006] 1 true s.1 s.2.2 (lf_up (lf_up s.1 96 (50 + (4 * (s.1 96 1))) a1) 96 ((50 + (4 * (s.1 96 1))) + 1) a2) s.2.2 := lf_fq_up fr19 rfl (fun _ => ⟨by omega, fr_o (Or.inr (fr_n0 (by omega))) (Or.inr (fr_n1 (by omega))) (Or.inl rfl) (Or.inr (fr_n3 (by omega))) (Or.inl rfl) (Or.inr (fr_n5 (by omega))) (Or.inl rfl)⟩)
              refine ⟨(show lf_R a3 from lf_Rof (by omega)), ?_⟩
              refine ⟨fun c26 => ?_, fun c26 => ?_⟩
              · skip
                replace c26 : a3 = 0 := c26
                have b27 : 0 ≤ (lf_up (lf_up s.1 96 (50 + (4 * (s.1 96 1))) a1) 96 ((50 + (4 * (s.1 96 1))) + 1) a2) 96 1 ∧ (lf_up (lf_up s.1 96 (50 + (4 * (s.1 96 1))) a1) 96 ((50 + (4 * (s.1 96 1))) + 1) a2) 96 1 ≤ 16 := iv_rd96 hI24 (iv_fd6ad3e54 (by omega))
                have b28 : (lf_up (lf_up s.1 96 (50 + (4 * (s.1 96 1))) a1) 96 ((50 + (4 * (s.1 96 1))) + 1) a2) 96 1 = (lf_up s.1 96 (50 + (4 * (s.1 96 1))) a1) 96 1 := lf_up_i (by omega)
                have b29 : (lf_up (lf_up s.1 96 (50 + (4 * (s.1 96 1))) a1) 96 ((50 + (4 * (s.1 96 1))) + 1) a2) 96 1 ≤ 0 ∨ 0 < (lf_up (lf_up s.1 96 (50 + (4 * (s.1 96 1))) a1) 96 ((50 + (4 * (s.1 96 1))) + 1) a2) 96 0 := (show (lf_up (lf_up s.1 96 (50 + (4 * (s.1 96 1))) a1) 96 ((50 + (4 * (s.1 96 1))) + 1) a2) 96 1 ≤ 0 ∨ 0 < (lf_up (lf_up s.1 96 (50 + (4 * (s.1 96 1))) a1) 96 ((50 + (4 * (s.1 96 1))) + 1) a2) 96 0 from iv_l96_1 hI24)
                have b30 : 0 ≤ (lf_up (lf_up s.1 96 (50 + (4 * (s.1 96 1))) a1) 96 ((50 + (4 * (s.1 96 1))) + 1) a2) 96 0 ∧ (lf_up (lf_up s.1 96 (50 + (4 * (s.1 96 1))) a1) 96 ((50 + (4 * (s.1 96 1))) + 1) a2) 96 0 ≤ 12 := iv_rd96 hI24 (iv_f3e1fa21c (by omega))
                have b31 : (lf_up (lf_up s.1 96 (50 + (4 * (s.1 96 1))) a1) 96 ((50 + (4 * (s.1 96 1))) + 1) a2) 96 0 = (lf_up s.1 96 (50 + (4 * (s.1 96 1))) a1) 96 0 := lf_up_i (by omega)
                have b32 : (lf_up s.1 96 (50 + (4 * (s.1 96 1))) a1) 96 0 = s.1 96 0 := lf_up_i (by omega)
                have b33 : ((lf_up (lf_up s.1 96 (50 + (4 * (s.1 96 1))) a1) 96 ((50 + (4 * (s.1 96 1))) + 1) a2) 96) ((50 + (4 * (s.1 96 1)))) = a1 := (lf_up_i (by omega)).trans lf_up_s
                have b34 : ((lf_up (lf_up s.1 96 (50 + (4 * (s.1 96 1))) a1) 96 ((50 + (4 * (s.1 96 1))) + 1) a2) 96) ((50 + (4 * (s.1 96 1))) + 1) = a2 := lf_up_s
                exact sm_184_p106 (fun r9 t9 i9 f9 => hQ r9 t9 i9 (lf_fq_tr fr25 f9)) hI24 (show (50 : Int) ≤ 50 + (4 * (s.1 96 1)) ∧ 50 + (4 * (s.1 96 1)) ≤ (110 : Int) from by omega) (show (52 : Int) ≤ (50 + (4 * (s.1 96 1))) + 2 ∧ (50 + (4 * (s.1 96 1))) + 2 ≤ (112 : Int) from by omega) (show (0 : Int) ≤ 0 ∧ 0 ≤ (1 : Int) from by omega) (show ((lf_up (lf_up s.1 96 (50 + (4 * (s.1 96 1))) a1) 96 ((50 + (4 * (s.1 96 1))) + 1) a2) 96 1) < 16 from by omega) (show 0 < ((lf_up (lf_up s.1 96 (50 + (4 * (s.1 96 1))) a1) 96 ((50 + (4 * (s.1 96 1))) + 1) a2) 96 0) from by omega) (show (50 + (4 * (s.1 96 1))) = 50 + 4 * ((lf_up (lf_up s.1 96 (50 + (4 * (s.1 96 1))) a1) 96 ((50 + (4 * (s.1 96 1))) + 1) a2) 96 1) from by omega) (show ((50 + (4 * (s.1 96 1))) + 2) = (50 + (4 * (s.1 96 1))) + 2 from by omega) (show ((lf_up (lf_up s.1 96 (50 + (4 * (s.1 96 1))) a1) 96 ((50 + (4 * (s.1 96 1))) + 1) a2) 96) ((50 + (4 * (s.1 96 1)))) < ((lf_up (lf_up s.1 96 (50 + (4 * (s.1 96 1))) a1) 96 ((50 + (4 * (s.1 96 1))) + 1) a2) 96 0) from by omega) (show ((lf_up (lf_up s.1 96 (50 + (4 * (s.1 96 1))) a1) 96 ((50 + (4 * (s.1 96 1))) + 1) a2) 96) ((50 + (4 * (s.1 96 1))) + 1) < ((lf_up (lf_up s.1 96 (50 + (4 * (s.1 96 1))) a1) 96 ((50 + (4 * (s.1 96 1))) + 1) a2) 96 0) from by omega)
              · skip
                replace c26 : ¬ (a3 = 0) := c26
                have b56 : 0 ≤ (lf_up (lf_up s.1 96 (50 + (4 * (s.1 96 1))) a1) 96 ((50 + (4 * (s.1 96 1))) + 1) a2) 96 1 ∧ (lf_up (lf_up s.1 96 (50 + (4 * (s.1 96 1))) a1) 96 ((50 + (4 * (s.1 96 1))) + 1) a2) 96 1 ≤ 16 := iv_rd96 hI24 (iv_fd6ad3e54 (by omega))
                have b57 : (lf_up (lf_up s.1 96 (50 + (4 * (s.1 96 1))) a1) 96 ((50 + (4 * (s.1 96 1))) + 1) a2) 96 1 = (lf_up s.1 96 (50 + (4 * (s.1 96 1))) a1) 96 1 := lf_up_i (by omega)
                have b58 : (lf_up (lf_up s.1 96 (50 + (4 * (s.1 96 1))) a1) 96 ((50 + (4 * (s.1 96 1))) + 1) a2) 96 1 ≤ 0 ∨ 0 < (lf_up (lf_up s.1 96 (50 + (4 * (s.1 96 1))) a1) 96 ((50 + (4 * (s.1 96 1))) + 1) a2) 96 0 := (show (lf_up (lf_up s.1 96 (50 + (4 * (s.1 96 1))) a1) 96 ((50 + (4 * (s.1 96 1))) + 1) a2) 96 1 ≤ 0 ∨ 0 < (lf_up (lf_up s.1 96 (50 + (4 * (s.1 96 1))) a1) 96 ((50 + (4 * (s.1 96 1))) + 1) a2) 96 0 from iv_l96_1 hI24)
                have b59 : 0 ≤ (lf_up (lf_up s.1 96 (50 + (4 * (s.1 96 1))) a1) 96 ((50 + (4 * (s.1 96 1))) + 1) a2) 96 0 ∧ (lf_up (lf_up s.1 96 (50 + (4 * (s.1 96 1))) a1) 96 ((50 + (4 * (s.1 96 1))) + 1) a2) 96 0 ≤ 12 := iv_rd96 hI24 (iv_f3e1fa21c (by omega))
                have b60 : (lf_up (lf_up s.1 96 (50 + (4 * (s.1 96 1))) a1) 96 ((50 + (4 * (s.1 96 1))) + 1) a2) 96 0 = (lf_up s.1 96 (50 + (4 * (s.1 96 1))) a1) 96 0 := lf_up_i (by omega)
                have b61 : (lf_up s.1 96 (50 + (4 * (s.1 96 1))) a1) 96 0 = s.1 96 0 := lf_up_i (by omega)
                have b62 : ((lf_up (lf_up s.1 96 (50 + (4 * (s.1 96 1))) a1) 96 ((50 + (4 * (s.1 96 1))) + 1) a2) 96) ((50 + (4 * (s.1 96 1)))) = a1 := (lf_up_i (by omega)).trans lf_up_s
                have b63 : ((lf_up (lf_up s.1 96 (50 + (4 * (s.1 96 1))) a1) 96 ((50 + (4 * (s.1 96 1))) + 1) a2) 96) ((50 + (4 * (s.1 96 1))) + 1) = a2 := lf_up_s
                exact sm_184_p106 (fun r9 t9 i9 f9 => hQ r9 t9 i9 (lf_fq_tr fr25 f9)) hI24 (show (50 : Int) ≤ 50 + (4 * (s.1 96 1)) ∧ 50 + (4 * (s.1 96 1)) ≤ (110 : Int) from by omega) (show (52 : Int) ≤ (50 + (4 * (s.1 96 1))) + 2 ∧ (50 + (4 * (s.1 96 1))) + 2 ≤ (112 : Int) from by omega) (show (0 : Int) ≤ 1 ∧ 1 ≤ (1 : Int) from by omega) (show ((lf_up (lf_up s.1 96 (50 + (4 * (s.1 96 1))) a1) 96 ((50 + (4 * (s.1 96 1))) + 1) a2) 96 1) < 16 from by omega) (show 0 < ((lf_up (lf_up s.1 96 (50 + (4 * (s.1 96 1))) a1) 96 ((50 + (4 * (s.1 96 1))) + 1) a2) 96 0) from by omega) (show (50 + (4 * (s.1 96 1))) = 50 + 4 * ((lf_up (lf_up s.1 96 (50 + (4 * (s.1 96 1))) a1) 96 ((50 + (4 * (s.1 96 1))) + 1) a2) 96 1) from by omega) (show ((50 + (4 * (s.1 96 1))) + 2) = (50 + (4 * (s.1 96 1))) + 2 from by omega) (show ((lf_up (lf_up s.1 96 (50 + (4 * (s.1 96 1))) a1) 96 ((50 + (4 * (s.1 96 1))) + 1) a2) 96) ((50 + (4 * (s.1 96 1)))) < ((lf_up (lf_up s.1 96 (50 + (4 * (s.1 96 1))) a1) 96 ((50 + (4 * (s.1 96 1))) + 1) a2) 96 0) from by omega) (show ((lf_up (lf_up s.1 96 (50 + (4 * (s.1 96 1))) a1) 96 ((50 + (4 * (s.1 96 1))) + 1) a2) 96) ((50 + (4 * (s.1 96 1))) + 1) < ((lf_up (lf_up s.1 96 (50 + (4 * (s.1 96 1))) a1) 96 ((50 + (4 * (s.1 96 1))) + 1) a2) 96 0) from by omega)
            · skip
              replace c17 : ¬ (s.1 96 1 ≠ 16) := c17
              exact hQ (-1) s hI (lf_fq_rf) (show (-1 : Int) ≤ (-1) ∧ (-1) ≤ (15 : Int) from by omega)
-- fm_24 Land.addPerson 1 i i i i
theorem sm_24 {a1 : Int} {a2 : Int} {a3 : Int} {a4 : Int} {Q : Int → lf_Z → Prop} {s : lf_Z} (hI : iv_A s.1 s.2.2) (ba1 : 0 ≤ a1 ∧ a1 ≤ 9) (ba2 : 0 ≤ a2 ∧ a2 ≤ 1) (ba3 : 0 ≤ a3 ∧ a3 ≤ 1) (ba4 : 0 ≤ a4 ∧ a4 ≤ 11) (hQ : ∀ (r : Int) (s' : lf_Z), iv_A s'.1 s'.2.2 → lf_fq [1, 7, 8, 9, 10] 1000000 true s.1 s.2.2 s'.1 s'.2.2 → ((-1) ≤ r ∧ r ≤ 5) → Q r s') : fm_24 a1 a2 a3 a4 Q s := by
  unfold fm_24
  have b1 : 0 ≤ s.1 1 2 ∧ s.1 1 2 ≤ 6 := iv_r1_2 hI
  refine ⟨(show lf_R (s.1 1 2) from lf_Rof (by omega)), ?_⟩
  refine ⟨fun c2 => ?_, fun c2 => ?_⟩
  · skip
    replace c2 : s.1 1 2 < 6 := c2
    refine ⟨(show (0 : Int) ≤ s.1 1 2 ∧ s.1 1 2 < (6 : Int) from by omega), ?_⟩
    have hI3 : iv_A (lf_up s.1 7 (s.1 1 2) a1) s.2.2 := iv_w7 hI (by omega)
    have fr4 : lf_fq [1, 7, 8, 9, 10] 1000000 true s.1 s.2.2 (lf_up s.1 7 (s.1 1 2) a1) s.2.2 := lf_fq_up (lf_fq_rf) rfl (fun h => absurd h (by decide))
    refine ⟨(show a2 = 0 ∨ a2 = 1 from by omega), ?_⟩
    have hI5 : iv_A (lf_up (lf_up s.1 7 (s.1 1 2) a1) 8 (s.1 1 2) a2) s.2.2 := iv_w8 hI3 (by omega)
    have fr6 : lf_fq [1, 7, 8, 9, 10] 1000000 true s.1 s.2.2 (lf_up (lf_up s.1 7 (s.1 1 2) a1) 8 (s.1 1 2) a2) s.2.2 := lf_fq_up fr4 rfl (fun h => absurd h (by decide))
    refine ⟨(show a3 = 0 ∨ a3 = 1 from by omega), ?_⟩
    have hI7 : iv_A (lf_up (lf_up (lf_up s.1 7 (s.1 1 2) a1) 8 (s.1 1 2) a2) 9 (s.1 1 2) a3) s.2.2 := iv_w9 hI5 (by omega)
    have fr8 : lf_fq [1, 7, 8, 9, 10] 1000000 true s.1 s.2.2 (lf_up (lf_up (lf_up s.1 7 (s.1 1 2) a1) 8 (s.1 1 2) a2) 9 (s.1 1 2) a3) s.2.2 := lf_fq_up fr6 rfl (fun h => absurd h (by decide))
    have hI9 : iv_A (lf_up (lf_up (lf_up (lf_up s.1 7 (s.1 1 2) a1) 8 (s.1 1 2) a2) 9 (s.1 1 2) a3) 10 (s.1 1 2) a4) s.2.2 := iv_w10 hI7 (by omega)
    have fr10 : lf_fq [1, 7, 8, 9, 10] 1000000 true s.1 s.2.2 (lf_up (lf_up (lf_up (lf_up s.1 7 (s.1 1 2) a1) 8 (s.1 1 2) a2) 9 (s.1 1 2) a3) 10 (s.1 1 2) a4) s.2.2 := lf_fq_up fr8 rfl (fun h => absurd h (by decide))
    have hI11 : iv_A (lf_up (lf_up (lf_up (lf_up (lf_up s.1 7 (s.1 1 2) a1) 8 (s.1 1 2) a2) 9 (s.1 1 2) a3) 10 (s.1 1 2) a4) 1 2 ((s.1 1 2) + 1)) s.2.2 := iv_w1_2 hI9 (by omega)
    have fr12 : lf_fq [1, 7, 8, 9, 10] 1000000 true s.1 s.2.2 (lf_up (lf_up (lf_up (lf_up (lf_up s.1 7 (s.1 1 2) a1) 8 (s.1 1 2) a2) 9 (s.1 1 2) a3) 10 (s.1 1 2) a4) 1 2 ((s.1 1 2) + 1)) s.2.2 := lf_fq_up fr10 rfl (fun h => absurd h (by decide))
    exact hQ (((s.1 1 2) + 1) - 1) (lf_up (lf_up (lf_up (lf_up (lf_up s.1 7 (s.1 1 2) a1) 8 (s.1 1 2) a2) 9 (s.1 1 2) a3) 10 (s.1 1 2) a4) 1 2 ((s.1 1 2) + 1), s.2.1, s.2.2) hI11 fr12 (show (-1 : Int) ≤ ((s.1 1 2) + 1) - 1 ∧ ((s.1 1 2) + 1) - 1 ≤ (5 : Int) from by omega)
  · skip
    replace c2 : ¬ (s.1 1 2 < 6) := c2
    exact hQ (-1) s hI (lf_fq_rf) (show (-1 : Int) ≤ (-1) ∧ (-1) ≤ (5 : Int) from by omega)
-- fm_23 ElevenBullocks.person 0 i i i i
theorem sm_23 {a1 : Int} {a2 : Int} {a3 : Int} {a4 : Int} {Q : Int → lf_Z → Prop} {s : lf_Z} (hI : iv_A s.1 s.2.2) (ba1 : (-2147483648) ≤ a1 ∧ a1 ≤ 2147483647) (ba2 : 0 ≤ a2 ∧ a2 ≤ 1) (ba3 : 0 ≤ a3 ∧ a3 ≤ 1) (ba4 : (-2147483648) ≤ a4 ∧ a4 ≤ 2147483647) (hQ : ∀ (r : Int) (s' : lf_Z), iv_A s'.1 s'.2.2 → lf_fq [1, 7, 8, 9, 10, 19, 20] 1000000 true s.1 s.2.2 s'.1 s'.2.2 → ((-1) ≤ r ∧ r ≤ 5) → Q r s') : fm_23 a1 a2 a3 a4 Q s := by
  unfold fm_23
  refine sm_15 hI (show (-2147483648 : Int) ≤ a1 ∧ a1 ≤ (2147483647 : Int) from by omega) (show (-1 : Int) ≤ 0 ∧ 0 ≤ (99 : Int) from by omega) (show (-2147483648 : Int) ≤ 9 ∧ 9 ≤ (2147483647 : Int) from by omega) (fun z22 q1 => ?_)
  refine ⟨fun c2 => ?_, fun c2 => ?_⟩
  · skip
    have dc2 := q1.2 c2
    exact hQ (-1) s hI (lf_fq_rf) (show (-1 : Int) ≤ (-1) ∧ (-1) ≤ (5 : Int) from by omega)
  · skip
    have dc2 := q1.1 c2
    refine sm_18 hI (show (-2147483648 : Int) ≤ a4 ∧ a4 ≤ (2147483647 : Int) from by omega) (fun z24 q3 => ?_)
    have b4 : 0 ≤ s.1 1 0 ∧ s.1 1 0 ≤ 12 := iv_r1_0 hI
    refine ⟨fun c5 => ?_, fun c5 => ?_⟩
    · skip
      have dc5 := q3.1 c5
      refine sm_24 hI (show (0 : Int) ≤ a1 ∧ a1 ≤ (9 : Int) from by omega) (show (0 : Int) ≤ a2 ∧ a2 ≤ (1 : Int) from by omega) (show (0 : Int) ≤ a3 ∧ a3 ≤ (1 : Int) from by omega) (show (0 : Int) ≤ a4 ∧ a4 ≤ (11 : Int) from by omega) (fun r26 s25 hI7 fr6 q8 => ?_)
      have fr9 : lf_fq [1, 7, 8, 9, 10, 19, 20] 1000000 true s.1 s.2.2 s25.1 s25.2.2 := lf_fq_tr (lf_fq_rf) (lf_fq_wk fr6 rfl (by decide) (by decide))
      refine ⟨(show lf_R r26 from lf_Rof (by omega)), ?_⟩
      refine ⟨fun c10 => ?_, fun c10 => ?_⟩
      · skip
        replace c10 : r26 = (-1) := c10
        exact hQ r26 s25 hI7 fr9 (show (-1 : Int) ≤ r26 ∧ r26 ≤ (5 : Int) from by omega)
      · skip
        replace c10 : ¬ (r26 = (-1)) := c10
        refine ⟨(show (0 : Int) ≤ r26 ∧ r26 < (6 : Int) from by omega), ?_⟩
        have hI11 : iv_A (lf_up s25.1 19 r26 a4) s25.2.2 := iv_w19 hI7 (by omega)
        have fr12 : lf_fq [1, 7, 8, 9, 10, 19, 20] 1000000 true s.1 s.2.2 (lf_up s25.1 19 r26 a4) s25.2.2 := lf_fq_up fr9 rfl (fun h => absurd h (by decide))
        have hI13 : iv_A (lf_up (lf_up s25.1 19 r26 a4) 20 r26 (-1)) s25.2.2 := iv_w20 hI11 (by omega)
        have fr14 : lf_fq [1, 7, 8, 9, 10, 19, 20] 1000000 true s.1 s.2.2 (lf_up (lf_up s25.1 19 r26 a4) 20 r26 (-1)) s25.2.2 := lf_fq_up fr12 rfl (fun h => absurd h (by decide))
        exact hQ r26 (lf_up (lf_up s25.1 19 r26 a4) 20 r26 (-1), s25.2.1, s25.2.2) hI13 fr14 (show (-1 : Int) ≤ r26 ∧ r26 ≤ (5 : Int) from by omega)
    · skip
      have dc5 := q3.2 c5
      exact hQ (-1) s hI (lf_fq_rf) (show (-1 : Int) ≤ (-1) ∧ (-1) ≤ (5 : Int) from by omega)
-- fm_191 Model.set 95 i 0 i
theorem sm_191 {a1 : Int} {a3 : Int} {Q : lf_Z → Prop} {s : lf_Z} (hI : iv_A s.1 s.2.2) (ba1 : 0 ≤ a1 ∧ a1 ≤ 5) (ba3 : (-2147483648) ≤ a3 ∧ a3 ≤ 2147483647) (hQ : ∀  (s' : lf_Z), iv_A s'.1 s'.2.2 → lf_fq [96, 1004] 126 true s.1 s.2.2 s'.1 s'.2.2 → (∀ i, i ≠ 126 + 6 * a1 + 0 → s'.1 96 i = s.1 96 i) → Q  s') : fm_191 a1 a3 Q s := by
  unfold fm_191
  refine ⟨(show (0 : Int) ≤ (126 + (6 * a1)) + 0 ∧ (126 + (6 * a1)) + 0 < (1538 : Int) from by omega), ?_⟩
  have hI1 : iv_A (lf_up s.1 96 ((126 + (6 * a1)) + 0) a3) s.2.2 := iv_wd96 hI (lf_le2 (iv_f34718fbc (a1) (by omega) (by omega)) (by omega)) (fun h => absurd h (by omega))
  have fr2 : lf_fq [96, 1004] 126 true s.1 s.2.2 (lf_up s.1 96 ((126 + (6 * a1)) + 0) a3) s.2.2 := lf_fq_up (lf_fq_rf) rfl (fun _ => ⟨by omega, fr_o (Or.inr (fr_n0 (by omega))) (Or.inr (fr_n1 (by omega))) (Or.inr (fr_n2 (by omega))) (Or.inr (fr_n3 (by omega))) (Or.inl rfl) (Or.inr (fr_n5 (by omega))) (Or.inr (fr_n6 (by omega)))⟩)
  have b3 : ∀ i, i ≠ 126 + 6 * a1 + 0 → ((lf_up s.1 96 ((126 + (6 * a1)) + 0) a3) 96) i = s.1 96 i := fun i hi => lf_up_i hi
  exact hQ (lf_up s.1 96 ((126 + (6 * a1)) + 0) a3, s.2.1, s.2.2) hI1 fr2 (show ∀ i, i ≠ 126 + 6 * a1 + 0 → ((lf_up s.1 96 ((126 + (6 * a1)) + 0) a3) 96) i = s.1 96 i from by first | with_reducible assumption | assumption)
-- fm_191b Model.set 95 i 1 i
theorem sm_191b {a1 : Int} {a3 : Int} {Q : lf_Z → Prop} {s : lf_Z} (hI : iv_A s.1 s.2.2) (ba1 : 0 ≤ a1 ∧ a1 ≤ 5) (ba3 : 0 ≤ a3 ∧ a3 ≤ 1) (hQ : ∀  (s' : lf_Z), iv_A s'.1 s'.2.2 → lf_fq [96, 1004] 127 true s.1 s.2.2 s'.1 s'.2.2 → (∀ i, i ≠ 126 + 6 * a1 + 1 → s'.1 96 i = s.1 96 i) → Q  s') : fm_191b a1 a3 Q s := by
  unfold fm_191b
  refine ⟨(show (0 : Int) ≤ (126 + (6 * a1)) + 1 ∧ (126 + (6 * a1)) + 1 < (1538 : Int) from by omega), ?_⟩
  have hI1 : iv_A (lf_up s.1 96 ((126 + (6 * a1)) + 1) a3) s.2.2 := iv_wd96 hI (lf_le2 (iv_faf15f4fa (a1) (by omega) (by omega)) (by omega)) (fun h => absurd h (by omega))
  have fr2 : lf_fq [96, 1004] 127 true s.1 s.2.2 (lf_up s.1 96 ((126 + (6 * a1)) + 1) a3) s.2.2 := lf_fq_up (lf_fq_rf) rfl (fun _ => ⟨by omega, fr_o (Or.inr (fr_n0 (by omega))) (Or.inr (fr_n1 (by omega))) (Or.inr (fr_n2 (by omega))) (Or.inr (fr_n3 (by omega))) (Or.inl rfl) (Or.inr (fr_n5 (by omega))) (Or.inr (fr_n6 (by omega)))⟩)
  have b3 : ∀ i, i ≠ 126 + 6 * a1 + 1 → ((lf_up s.1 96 ((126 + (6 * a1)) + 1) a3) 96) i = s.1 96 i := fun i hi => lf_up_i hi
  exact hQ (lf_up s.1 96 ((126 + (6 * a1)) + 1) a3, s.2.1, s.2.2) hI1 fr2 (show ∀ i, i ≠ 126 + 6 * a1 + 1 → ((lf_up s.1 96 ((126 + (6 * a1)) + 1) a3) 96) i = s.1 96 i from by first | with_reducible assumption | assumption)
-- fm_191c Model.set 95 i 2 i
theorem sm_191c {a1 : Int} {a3 : Int} {Q : lf_Z → Prop} {s : lf_Z} (hI : iv_A s.1 s.2.2) (ba1 : 0 ≤ a1 ∧ a1 ≤ 5) (ba3 : 0 ≤ a3 ∧ a3 ≤ 1) (hQ : ∀  (s' : lf_Z), iv_A s'.1 s'.2.2 → lf_fq [96, 1004] 128 true s.1 s.2.2 s'.1 s'.2.2 → (∀ i, i ≠ 126 + 6 * a1 + 2 → s'.1 96 i = s.1 96 i) → Q  s') : fm_191c a1 a3 Q s := by
  unfold fm_191c
  refine ⟨(show (0 : Int) ≤ (126 + (6 * a1)) + 2 ∧ (126 + (6 * a1)) + 2 < (1538 : Int) from by omega), ?_⟩
  have hI1 : iv_A (lf_up s.1 96 ((126 + (6 * a1)) + 2) a3) s.2.2 := iv_wd96 hI (lf_le2 (iv_f991cbfbb (a1) (by omega) (by omega)) (by omega)) (fun h => absurd h (by omega))
  have fr2 : lf_fq [96, 1004] 128 true s.1 s.2.2 (lf_up s.1 96 ((126 + (6 * a1)) + 2) a3) s.2.2 := lf_fq_up (lf_fq_rf) rfl (fun _ => ⟨by omega, fr_o (Or.inr (fr_n0 (by omega))) (Or.inr (fr_n1 (by omega))) (Or.inr (fr_n2 (by omega))) (Or.inr (fr_n3 (by omega))) (Or.inl rfl) (Or.inr (fr_n5 (by omega))) (Or.inr (fr_n6 (by omega)))⟩)
  have b3 : ∀ i, i ≠ 126 + 6 * a1 + 2 → ((lf_up s.1 96 ((126 + (6 * a1)) + 2) a3) 96) i = s.1 96 i := fun i hi => lf_up_i hi
  exact hQ (lf_up s.1 96 ((126 + (6 * a1)) + 2) a3, s.2.1, s.2.2) hI1 fr2 (show ∀ i, i ≠ 126 + 6 * a1 + 2 → ((lf_up s.1 96 ((126 + (6 * a1)) + 2) a3) 96) i = s.1 96 i from by first | with_reducible assumption | assumption)
-- fm_191d Model.set 95 i 3 i
theorem sm_191d {a1 : Int} {a3 : Int} {Q : lf_Z → Prop} {s : lf_Z} (hI : iv_A s.1 s.2.2) (ba1 : 0 ≤ a1 ∧ a1 ≤ 5) (ba3 : 0 ≤ a3 ∧ a3 ≤ 11) (hQ : ∀  (s' : lf_Z), iv_A s'.1 s'.2.2 → lf_fq [96, 1006] 129 true s.1 s.2.2 s'.1 s'.2.2 → (∀ i, i ≠ 126 + 6 * a1 + 3 → s'.1 96 i = s.1 96 i) → Q  s') : fm_191d a1 a3 Q s := by
  unfold fm_191d
  refine ⟨(show (0 : Int) ≤ (126 + (6 * a1)) + 3 ∧ (126 + (6 * a1)) + 3 < (1538 : Int) from by omega), ?_⟩
  have hI1 : iv_A (lf_up s.1 96 ((126 + (6 * a1)) + 3) a3) s.2.2 := iv_wd96 hI (lf_le2 (iv_f6516b99e (a1) (by omega) (by omega)) (by omega)) (fun h => absurd h (by omega))
  have fr2 : lf_fq [96, 1006] 129 true s.1 s.2.2 (lf_up s.1 96 ((126 + (6 * a1)) + 3) a3) s.2.2 := lf_fq_up (lf_fq_rf) rfl (fun _ => ⟨by omega, fr_o (Or.inr (fr_n0 (by omega))) (Or.inr (fr_n1 (by omega))) (Or.inr (fr_n2 (by omega))) (Or.inr (fr_n3 (by omega))) (Or.inr (fr_n4 (by omega))) (Or.inr (fr_n5 (by omega))) (Or.inl rfl)⟩)
  have b3 : ∀ i, i ≠ 126 + 6 * a1 + 3 → ((lf_up s.1 96 ((126 + (6 * a1)) + 3) a3) 96) i = s.1 96 i := fun i hi => lf_up_i hi
  exact hQ (lf_up s.1 96 ((126 + (6 * a1)) + 3) a3, s.2.1, s.2.2) hI1 fr2 (show ∀ i, i ≠ 126 + 6 * a1 + 3 → ((lf_up s.1 96 ((126 + (6 * a1)) + 3) a3) 96) i = s.1 96 i from by first | with_reducible assumption | assumption)
-- fm_191e Model.set 95 i 4 i
theorem sm_191e {a1 : Int} {a3 : Int} {Q : lf_Z → Prop} {s : lf_Z} (hI : iv_A s.1 s.2.2) (ba1 : 0 ≤ a1 ∧ a1 ≤ 5) (ba3 : (-1) ≤ a3 ∧ a3 ≤ 11) (hQ : ∀  (s' : lf_Z), iv_A s'.1 s'.2.2 → lf_fq [96, 1006] 130 true s.1 s.2.2 s'.1 s'.2.2 → (∀ i, i ≠ 126 + 6 * a1 + 4 → s'.1 96 i = s.1 96 i) → Q  s') : fm_191e a1 a3 Q s := by
  unfold fm_191e
  refine ⟨(show (0 : Int) ≤ (126 + (6 * a1)) + 4 ∧ (126 + (6 * a1)) + 4 < (1538 : Int) from by omega), ?_⟩
  have hI1 : iv_A (lf_up s.1 96 ((126 + (6 * a1)) + 4) a3) s.2.2 := iv_wd96 hI (lf_le2 (iv_f80bf31e9 (a1) (by omega) (by omega)) (by omega)) (fun h => absurd h (by omega))
  have fr2 : lf_fq [96, 1006] 130 true s.1 s.2.2 (lf_up s.1 96 ((126 + (6 * a1)) + 4) a3) s.2.2 := lf_fq_up (lf_fq_rf) rfl (fun _ => ⟨by omega, fr_o (Or.inr (fr_n0 (by omega))) (Or.inr (fr_n1 (by omega))) (Or.inr (fr_n2 (by omega))) (Or.inr (fr_n3 (by omega))) (Or.inr (fr_n4 (by omega))) (Or.inr (fr_n5 (by omega))) (Or.inl rfl)⟩)
  have b3 : ∀ i, i ≠ 126 + 6 * a1 + 4 → ((lf_up s.1 96 ((126 + (6 * a1)) + 4) a3) 96) i = s.1 96 i := fun i hi => lf_up_i hi
  exact hQ (lf_up s.1 96 ((126 + (6 * a1)) + 4) a3, s.2.1, s.2.2) hI1 fr2 (show ∀ i, i ≠ 126 + 6 * a1 + 4 → ((lf_up s.1 96 ((126 + (6 * a1)) + 4) a3) 96) i = s.1 96 i from by first | with_reducible assumption | assumption)
