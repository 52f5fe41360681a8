-- fm_90 Stand.isOpen 15 i
theorem sm_90 {a1 : Int} {Q : Bool → lf_Z → Prop} {s : lf_Z} (hI : iv_A s.1 s.2.2) (ba1 : 0 ≤ a1 ∧ a1 ≤ 15) (hQ : ∀ (z : Bool), Q z s) : fm_90 a1 Q s := by
  unfold fm_90
  have b1 : (-2147483648) ≤ s.1 15 6 ∧ s.1 15 6 ≤ 2147483647 := iv_full hI
  have b2 : (-2147483648) ≤ lf_shr (s.1 15 6) a1 ∧ lf_shr (s.1 15 6) a1 ≤ 2147483647 := lf_shrB
  have b3 : 0 ≤ lf_and (lf_shr (s.1 15 6) a1) 1 ∧ lf_and (lf_shr (s.1 15 6) a1) 1 ≤ 1 := lf_andB (by omega) (by omega)
  refine ⟨fun c4 => ?_, fun c4 => ?_⟩
  · skip
    replace c4 : lf_and (lf_shr (s.1 15 6) a1) 1 ≠ 0 := c4
    exact hQ false
  · skip
    replace c4 : ¬ (lf_and (lf_shr (s.1 15 6) a1) 1 ≠ 0) := c4
    exact hQ true
-- fm_83 Laws.peopleAt 63 i
theorem sm_83_p31 {X4 : Int → Int → lf_Z → Prop} {Q : Int → lf_Z → Prop} {x1 : Int} {x2 : Int} {x3 : Int} {s : lf_Z} (hQ : ∀ (r : Int), (0 ≤ r ∧ r ≤ 6) → Q r s) {M4 : Nat} (hX4 : ∀ (x2 : Int) (x3 : Int), 0 ≤ x2 ∧ x2 ≤ 6 → 0 ≤ x3 ∧ x3 ≤ 6 → (x2 ≤ x3) → (6 - x3).toNat < M4 → X4 x2 x3 s) (hM4 : (6 - x3).toNat ≤ M4) (hI : iv_A s.1 s.2.2) (bx1 : (-1) ≤ x1 ∧ x1 ≤ 11) (bx2 : 0 ≤ x2 ∧ x2 ≤ 6) (bx3 : 0 ≤ x3 ∧ x3 ≤ 5) (kv0 : x2 ≤ x3 + 1) : fm_83_p31 X4 Q x1 x2 x3 s := by
  unfold fm_83_p31
  exact hX4 (x2) (x3 + 1) (show (0 : Int) ≤ x2 ∧ x2 ≤ (6 : Int) from by omega) (show (0 : Int) ≤ x3 + 1 ∧ x3 + 1 ≤ (6 : Int) from by omega) (show x2 ≤ (x3 + 1) from by omega) (show (6 - (x3 + 1)).toNat < M4 from by omega)
theorem sm_83_p4 {X4 : Int → Int → lf_Z → Prop} {Q : Int → lf_Z → Prop} {x1 : Int} {x2 : Int} {x3 : Int} {s : lf_Z} (hQ : ∀ (r : Int), (0 ≤ r ∧ r ≤ 6) → Q r s) {M4 : Nat} (hX4 : ∀ (x2 : Int) (x3 : Int), 0 ≤ x2 ∧ x2 ≤ 6 → 0 ≤ x3 ∧ x3 ≤ 6 → (x2 ≤ x3) → (6 - x3).toNat < M4 → X4 x2 x3 s) (hM4 : (6 - x3).toNat ≤ M4) (hI : iv_A s.1 s.2.2) (bx1 : (-1) ≤ x1 ∧ x1 ≤ 11) (bx2 : 0 ≤ x2 ∧ x2 ≤ 6) (bx3 : 0 ≤ x3 ∧ x3 ≤ 6) (kv0 : x2 ≤ x3) : fm_83_p4 Q x1 X4 x2 x3 s := by
  unfold fm_83_p4
  have b1 : 0 ≤ s.1 1 2 ∧ s.1 1 2 ≤ 6 := iv_r1_2 hI
  refine ⟨(show lf_R x3 from lf_Rof (by omega)), ?_⟩
  refine ⟨(show lf_R (s.1 1 2) from lf_Rof (by omega)), ?_⟩
  refine ⟨fun c2 => ?_, fun c2 => ?_⟩
  · skip
    replace c2 : s.1 1 2 ≤ x3 := c2
    exact hQ x2 (show (0 : Int) ≤ x2 ∧ x2 ≤ (6 : Int) from by omega)
  · skip
    replace c2 : ¬ (s.1 1 2 ≤ x3) := c2
    refine ⟨(show (0 : Int) ≤ x3 ∧ x3 < (6 : Int) from by omega), ?_⟩
    have b3 : (-2147483648) ≤ s.1 19 x3 ∧ s.1 19 x3 ≤ 2147483647 := iv_full hI
    refine ⟨(show lf_R (s.1 19 x3) from lf_Rof (by omega)), ?_⟩
    refine ⟨(show lf_R x1 from lf_Rof (by omega)), ?_⟩
    refine ⟨fun c4 => ?_, fun c4 => ?_⟩
    · skip
      replace c4 : s.1 19 x3 ≠ x1 := c4
      exact sm_83_p31 hQ hX4 (show (6 - x3).toNat ≤ M4 from by omega) hI (show (-1 : Int) ≤ x1 ∧ x1 ≤ (11 : Int) from by omega) (show (0 : Int) ≤ x2 ∧ x2 ≤ (6 : Int) from by omega) (show (0 : Int) ≤ x3 ∧ x3 ≤ (5 : Int) from by omega) (show x2 ≤ x3 + 1 from by omega)
    · skip
      replace c4 : ¬ (s.1 19 x3 ≠ x1) := c4
      exact sm_83_p31 hQ hX4 (show (6 - x3).toNat ≤ M4 from by omega) hI (show (-1 : Int) ≤ x1 ∧ x1 ≤ (11 : Int) from by omega) (show (0 : Int) ≤ x2 + 1 ∧ x2 + 1 ≤ (6 : Int) from by omega) (show (0 : Int) ≤ x3 ∧ x3 ≤ (5 : Int) from by omega) (show (x2 + 1) ≤ x3 + 1 from by omega)
theorem sm_83_p4L {Q : Int → lf_Z → Prop} {x1 : Int} {x2 : Int} {x3 : Int} {s : lf_Z} (hQ : ∀ (r : Int), (0 ≤ r ∧ r ≤ 6) → Q r s) (hI : iv_A s.1 s.2.2) (bx1 : (-1) ≤ x1 ∧ x1 ≤ 11) (bx2 : 0 ≤ x2 ∧ x2 ≤ 6) (bx3 : 0 ≤ x3 ∧ x3 ≤ 6) (kv0 : x2 ≤ x3) : fm_83_p4L Q x1 x2 x3 s := by
  intro X4 hX
  have key : ∀ (m9 : Nat) (x2 : Int) (x3 : Int), 0 ≤ x2 ∧ x2 ≤ 6 → 0 ≤ x3 ∧ x3 ≤ 6 → (x2 ≤ x3) → (6 - x3).toNat < m9 → X4 x2 x3 s := by
    intro m9
    induction m9 with
    | zero => intro x2 x3 bx2 bx3 kv0 h9; exact absurd h9 (Nat.not_lt_zero _)
    | succ m9 ih => intro x2 x3 bx2 bx3 kv0 h9; exact hX _ _ _ (sm_83_p4 hQ   (fun x2' x3' bx2' bx3' kv0' h8 => ih x2' x3' bx2' bx3' kv0' (by omega)) (Nat.le_refl _)  hI  bx1 bx2 bx3  kv0)
  exact key _ _ _ bx2 bx3  kv0 (Nat.lt_succ_self _)
theorem sm_83 {a1 : Int} {Q : Int → lf_Z → Prop} {s : lf_Z} (hI : iv_A s.1 s.2.2) (ba1 : (-1) ≤ a1 ∧ a1 ≤ 11) (hQ : ∀ (r : Int), (0 ≤ r ∧ r ≤ 6) → Q r s) : fm_83 a1 Q s := by
  unfold fm_83
  exact sm_83_p4L hQ hI (show (-1 : Int) ≤ a1 ∧ a1 ≤ (11 : Int) from by omega) (show (0 : Int) ≤ 0 ∧ 0 ≤ (6 : Int) from by omega) (show (0 : Int) ≤ 0 ∧ 0 ≤ (6 : Int) from by omega) (show 0 ≤ 0 from by omega)
-- fm_82 Laws.nameAll 63 i i i
theorem sm_82_p43 {Q : lf_Z → Prop} {x2 : Int} {x3 : Int} {y1 : Int} {y2 : Int} {s : lf_Z} (hQ : ∀  (s' : lf_Z), iv_A s'.1 s'.2.2 → lf_fq [64] 1000000 true s.1 s.2.2 s'.1 s'.2.2 → Q  s') (hI : iv_A s.1 s.2.2) (bx2 : (-1) ≤ x2 ∧ x2 ≤ 11) (bx3 : 0 ≤ x3 ∧ x3 ≤ 1) (by1 : 2 ≤ y1 ∧ y1 ≤ 2) (by2 : 0 ≤ y2 ∧ y2 ≤ 3) : fm_82_p43 Q x2 x3 y1 y2 s := by
  unfold fm_82_p43
  refine ⟨(show (0 : Int) ≤ y1 ∧ y1 < (11 : Int) from by omega), ?_⟩
  have hI8 : iv_A (lf_up s.1 64 y1 y2) s.2.2 := iv_w64 hI (by omega)
  have fr9 : lf_fq [64] 1000000 true s.1 s.2.2 (lf_up s.1 64 y1 y2) s.2.2 := lf_fq_up (lf_fq_rf) rfl (fun h => absurd h (by decide))
  refine sm_83 hI8 (show (-1 : Int) ≤ x2 ∧ x2 ≤ (11 : Int) from by omega) (fun r25 q10 => ?_)
  have hI11 : iv_A (lf_up (lf_up s.1 64 y1 y2) 64 3 (r25 + x3)) s.2.2 := iv_w64 hI8 (by omega)
  have fr12 : lf_fq [64] 1000000 true s.1 s.2.2 (lf_up (lf_up s.1 64 y1 y2) 64 3 (r25 + x3)) s.2.2 := lf_fq_up fr9 rfl (fun h => absurd h (by decide))
  exact hQ (lf_up (lf_up s.1 64 y1 y2) 64 3 (r25 + x3), s.2.1, s.2.2) hI11 fr12
theorem sm_82 {a1 : Int} {a2 : Int} {a3 : Int} {Q : lf_Z → Prop} {s : lf_Z} (hI : iv_A s.1 s.2.2) (ba1 : (-2147483648) ≤ a1 ∧ a1 ≤ 2147483647) (ba2 : (-1) ≤ a2 ∧ a2 ≤ 11) (ba3 : 0 ≤ a3 ∧ a3 ≤ 1) (hQ : ∀  (s' : lf_Z), iv_A s'.1 s'.2.2 → lf_fq [64] 1000000 true s.1 s.2.2 s'.1 s'.2.2 → Q  s') : fm_82 a1 a2 a3 Q s := by
  unfold fm_82
  have hI1 : iv_A (lf_up s.1 64 0 a1) s.2.2 := iv_w64 hI (by omega)
  have fr2 : lf_fq [64] 1000000 true s.1 s.2.2 (lf_up s.1 64 0 a1) s.2.2 := lf_fq_up (lf_fq_rf) rfl (fun h => absurd h (by decide))
  have hI3 : iv_A (lf_up (lf_up s.1 64 0 a1) 64 1 a2) s.2.2 := iv_w64 hI1 (by omega)
  have fr4 : lf_fq [64] 1000000 true s.1 s.2.2 (lf_up (lf_up s.1 64 0 a1) 64 1 a2) s.2.2 := lf_fq_up fr2 rfl (fun h => absurd h (by decide))
  refine sm_18 hI3 (show (-2147483648 : Int) ≤ a2 ∧ a2 ≤ (2147483647 : Int) from by omega) (fun z22 q5 => ?_)
  replace q5 : (z22 = true → (0 ≤ a2 ∧ a2 < (s.1 1 0))) ∧ (z22 = false → ¬ (0 ≤ a2 ∧ a2 < (s.1 1 0))) := q5
  have b6 : 0 ≤ s.1 1 0 ∧ s.1 1 0 ≤ 12 := (show 0 ≤ (lf_up (lf_up s.1 64 0 a1) 64 1 a2) 1 0 ∧ (lf_up (lf_up s.1 64 0 a1) 64 1 a2) 1 0 ≤ 12 from iv_r1_0 hI3)
  refine ⟨fun c7 => ?_, fun c7 => ?_⟩
  · skip
    have dc7 := q5.2 c7
    exact sm_82_p43 (fun t9 i9 f9 => hQ t9 i9 (lf_fq_tr fr4 f9)) hI3 (show (-1 : Int) ≤ a2 ∧ a2 ≤ (11 : Int) from by omega) (show (0 : Int) ≤ a3 ∧ a3 ≤ (1 : Int) from by omega) (show (2 : Int) ≤ 2 ∧ 2 ≤ (2 : Int) from by omega) (show (0 : Int) ≤ 0 ∧ 0 ≤ (3 : Int) from by omega)
  · skip
    have dc7 := q5.1 c7
    refine ⟨(show (0 : Int) ≤ a2 ∧ a2 < (12 : Int) from by omega), ?_⟩
    have b13 : 0 ≤ s.1 2 a2 ∧ s.1 2 a2 ≤ 3 := (show 0 ≤ (lf_up (lf_up s.1 64 0 a1) 64 1 a2) 2 a2 ∧ (lf_up (lf_up s.1 64 0 a1) 64 1 a2) 2 a2 ≤ 3 from iv_r2 hI3 _)
    exact sm_82_p43 (fun t9 i9 f9 => hQ t9 i9 (lf_fq_tr fr4 f9)) hI3 (show (-1 : Int) ≤ a2 ∧ a2 ≤ (11 : Int) from by omega) (show (0 : Int) ≤ a3 ∧ a3 ≤ (1 : Int) from by omega) (show (2 : Int) ≤ 2 ∧ 2 ≤ (2 : Int) from by omega) (show (0 : Int) ≤ s.1 2 a2 ∧ s.1 2 a2 ≤ (3 : Int) from by omega)
-- fm_84 Laws.answer 63 n i
-- fm_86 Laws.pop 63
theorem sm_86 {Q : Int → lf_Z → Prop} {s : lf_Z} (hI : iv_A s.1 s.2.2) (hQ : ∀ (r : Int) (s' : lf_Z), iv_A s'.1 s'.2.2 → lf_fq [63] 1000000 true s.1 s.2.2 s'.1 s'.2.2 → ((-2147483648) ≤ r ∧ r ≤ 2147483647) → Q r s') : fm_86 Q s := by
  unfold fm_86
  have b1 : 0 ≤ s.1 63 6 ∧ s.1 63 6 ≤ 300 := iv_r63_6 hI
  refine ⟨(show lf_R (s.1 63 6) from lf_Rof (by omega)), ?_⟩
  refine ⟨fun c2 => ?_, fun c2 => ?_⟩
  · skip
    replace c2 : s.1 63 6 ≠ 0 := c2
    have hI3 : iv_A (lf_up s.1 63 6 ((s.1 63 6) - 1)) s.2.2 := iv_w63_6 hI (by omega)
    have fr4 : lf_fq [63] 1000000 true s.1 s.2.2 (lf_up s.1 63 6 ((s.1 63 6) - 1)) s.2.2 := lf_fq_up (lf_fq_rf) rfl (fun h => absurd h (by decide))
    refine ⟨(show (0 : Int) ≤ (s.1 63 6) - 1 ∧ (s.1 63 6) - 1 < (300 : Int) from by omega), ?_⟩
    have b5 : (-2147483648) ≤ s.1 66 ((s.1 63 6) - 1) ∧ s.1 66 ((s.1 63 6) - 1) ≤ 2147483647 := (show (-2147483648) ≤ (lf_up s.1 63 6 ((s.1 63 6) - 1)) 66 ((s.1 63 6) - 1) ∧ (lf_up s.1 63 6 ((s.1 63 6) - 1)) 66 ((s.1 63 6) - 1) ≤ 2147483647 from iv_full hI3)
    exact hQ (s.1 66 ((s.1 63 6) - 1)) (lf_up s.1 63 6 ((s.1 63 6) - 1), s.2.1, s.2.2) hI3 fr4 (show (-2147483648 : Int) ≤ s.1 66 ((s.1 63 6) - 1) ∧ s.1 66 ((s.1 63 6) - 1) ≤ (2147483647 : Int) from by omega)
  · skip
    replace c2 : ¬ (s.1 63 6 ≠ 0) := c2
    exact hQ 0 s hI (lf_fq_rf) (show (-2147483648 : Int) ≤ 0 ∧ 0 ≤ (2147483647 : Int) from by omega)
-- fm_87 Laws.joined i i i
theorem sm_87_p310 {Q : Int → lf_Z → Prop} {x1 : Int} {x2 : Int} {s : lf_Z} (hQ : ∀ (r : Int), ((-2147483648) ≤ r ∧ r ≤ 2147483647) → Q r s) (hI : iv_A s.1 s.2.2) (bx1 : (-2147483648) ≤ x1 ∧ x1 ≤ 2147483647) (bx2 : (-2147483648) ≤ x2 ∧ x2 ≤ 2147483647) : fm_87_p310 Q x1 x2 s := by
  unfold fm_87_p310
  refine ⟨(show lf_R x1 from lf_Rof (by omega)), ?_⟩
  refine ⟨(show lf_R x2 from lf_Rof (by omega)), ?_⟩
  refine ⟨fun c2 => ?_, fun c2 => ?_⟩
  · skip
    replace c2 : x1 = x2 := c2
    exact hQ 0 (show (-2147483648 : Int) ≤ 0 ∧ 0 ≤ (2147483647 : Int) from by omega)
  · skip
    replace c2 : ¬ (x1 = x2) := c2
    exact hQ 1 (show (-2147483648 : Int) ≤ 1 ∧ 1 ≤ (2147483647 : Int) from by omega)
theorem sm_87 {a0 : Int} {a1 : Int} {a2 : Int} {Q : Int → lf_Z → Prop} {s : lf_Z} (hI : iv_A s.1 s.2.2) (ba0 : (-214748) ≤ a0 ∧ a0 ≤ 214748) (ba1 : (-2147483648) ≤ a1 ∧ a1 ≤ 2147483647) (ba2 : (-2147483648) ≤ a2 ∧ a2 ≤ 2147483647) (hQ : ∀ (r : Int), ((-2147483648) ≤ r ∧ r ≤ 2147483647) → Q r s) : fm_87 a0 a1 a2 Q s := by
  unfold fm_87
  refine ⟨(show lf_R a0 from lf_Rof (by omega)), ?_⟩
  refine ⟨fun c1 => ?_, fun c1 => ?_, fun c1 => ?_, fun c1 => ?_, fun c1 => ?_, fun c1 => ?_, fun c1 => ?_, fun c1 => ?_, fun c1 => ?_, fun c1 => ?_, fun c1 => ?_, fun c1 => ?_, fun c1 => ?_, fun c1 => ?_, fun c1 => ?_, fun c1 => ?_, fun c1 => ?_, fun c1 => ?_, fun c1 => ?_, fun c1 => ?_, fun c1 => ?_, fun c1 => ?_, fun c1 => ?_, fun c1 => ?_, fun c1 => ?_, fun c1 => ?_, fun c1 => ?_, fun c1 => ?_, fun c1 => ?_, fun c1 => ?_, fun c1 => ?_, fun c1 => ?_, fun c1 => ?_, fun c1 => ?_, fun c1 => ?_, fun c1 => ?_, fun c1 => ?_, fun c1 => ?_, fun c1 => ?_, fun c1 => ?_, fun c1 => ?_, fun c1 => ?_, fun c1 => ?_, fun c1 => ?_⟩
  · replace c1 : a0 < 4 ∨ 46 < a0 := c1
    exact sm_87_p310 hQ hI (show (-2147483648 : Int) ≤ a1 ∧ a1 ≤ (2147483647 : Int) from by omega) (show (-2147483648 : Int) ≤ a2 ∧ a2 ≤ (2147483647 : Int) from by omega)
  · replace c1 : a0 = 4 := c1
    refine ⟨(show lf_R a1 from lf_Rof (by omega)), ?_⟩
    refine ⟨(show lf_R a2 from lf_Rof (by omega)), ?_⟩
    refine ⟨fun c3 => ?_, fun c3 => ?_⟩
    · skip
      replace c3 : a2 ≤ a1 := c3
      exact hQ 0 (show (-2147483648 : Int) ≤ 0 ∧ 0 ≤ (2147483647 : Int) from by omega)
    · skip
      replace c3 : ¬ (a2 ≤ a1) := c3
      exact hQ 1 (show (-2147483648 : Int) ≤ 1 ∧ 1 ≤ (2147483647 : Int) from by omega)
  · replace c1 : a0 = 5 := c1
    refine ⟨(show lf_R a1 from lf_Rof (by omega)), ?_⟩
    refine ⟨(show lf_R a2 from lf_Rof (by omega)), ?_⟩
    refine ⟨fun c4 => ?_, fun c4 => ?_⟩
    · skip
      replace c4 : a2 < a1 := c4
      exact hQ 0 (show (-2147483648 : Int) ≤ 0 ∧ 0 ≤ (2147483647 : Int) from by omega)
    · skip
      replace c4 : ¬ (a2 < a1) := c4
      exact hQ 1 (show (-2147483648 : Int) ≤ 1 ∧ 1 ≤ (2147483647 : Int) from by omega)
  · replace c1 : a0 = 6 := c1
    refine ⟨(show lf_R a1 from lf_Rof (by omega)), ?_⟩
    refine ⟨(show lf_R a2 from lf_Rof (by omega)), ?_⟩
    refine ⟨fun c5 => ?_, fun c5 => ?_⟩
    · skip
      replace c5 : a1 ≤ a2 := c5
      exact hQ 0 (show (-2147483648 : Int) ≤ 0 ∧ 0 ≤ (2147483647 : Int) from by omega)
    · skip
      replace c5 : ¬ (a1 ≤ a2) := c5
      exact hQ 1 (show (-2147483648 : Int) ≤ 1 ∧ 1 ≤ (2147483647 : Int) from by omega)
  · replace c1 : a0 = 7 := c1
    refine ⟨(show lf_R a1 from lf_Rof (by omega)), ?_⟩
    refine ⟨(show lf_R a2 from lf_Rof (by omega)), ?_⟩
    refine ⟨fun c6 => ?_, fun c6 => ?_⟩
    · skip
      replace c6 : a1 < a2 := c6
      exact hQ 0 (show (-2147483648 : Int) ≤ 0 ∧ 0 ≤ (2147483647 : Int) from by omega)
    · skip
      replace c6 : ¬ (a1 < a2) := c6
      exact hQ 1 (show (-2147483648 : Int) ≤ 1 ∧ 1 ≤ (2147483647 : Int) from by omega)
  · replace c1 : a0 = 8 := c1
    refine ⟨(show lf_R a1 from lf_Rof (by omega)), ?_⟩
    refine ⟨(show lf_R a2 from lf_Rof (by omega)), ?_⟩
    refine ⟨fun c7 => ?_, fun c7 => ?_⟩
    · skip
      replace c7 : a1 ≠ a2 := c7
      exact hQ 0 (show (-2147483648 : Int) ≤ 0 ∧ 0 ≤ (2147483647 : Int) from by omega)
    · skip
      replace c7 : ¬ (a1 ≠ a2) := c7
      exact hQ 1 (show (-2147483648 : Int) ≤ 1 ∧ 1 ≤ (2147483647 : Int) from by omega)
  · replace c1 : a0 = 9 := c1
    exact sm_87_p310 hQ hI (show (-2147483648 : Int) ≤ a1 ∧ a1 ≤ (2147483647 : Int) from by omega) (show (-2147483648 : Int) ≤ a2 ∧ a2 ≤ (2147483647 : Int) from by omega)
  · replace c1 : a0 = 10 := c1
    have b8 : (-2147483648) ≤ lf_w (a1 + a2) ∧ lf_w (a1 + a2) ≤ 2147483647 := lf_wB
    refine ⟨(show lf_R (min 1000000 (lf_w (a1 + a2))) from lf_Rof (by omega)), ?_⟩
    exact hQ (max (-1000000) (min 1000000 (lf_w (a1 + a2)))) (show (-2147483648 : Int) ≤ max (-1000000) (min 1000000 (lf_w (a1 + a2))) ∧ max (-1000000) (min 1000000 (lf_w (a1 + a2))) ≤ (2147483647 : Int) from by omega)
  · replace c1 : a0 = 11 := c1
    have b9 : (-2147483648) ≤ lf_w (a1 - a2) ∧ lf_w (a1 - a2) ≤ 2147483647 := lf_wB
    refine ⟨(show lf_R (min 1000000 (lf_w (a1 - a2))) from lf_Rof (by omega)), ?_⟩
    exact hQ (max (-1000000) (min 1000000 (lf_w (a1 - a2)))) (show (-2147483648 : Int) ≤ max (-1000000) (min 1000000 (lf_w (a1 - a2))) ∧ max (-1000000) (min 1000000 (lf_w (a1 - a2))) ≤ (2147483647 : Int) from by omega)
  · replace c1 : a0 = 12 := c1
    refine ⟨(show lf_R a1 from lf_Rof (by omega)), ?_⟩
    refine ⟨(show lf_R a2 from lf_Rof (by omega)), ?_⟩
    have b10 : (-2147483648) ≤ lf_w (lf_wl (max (-1000000) (lf_wl (min 1000000 (lf_wl (a1 * a2)))))) ∧ lf_w (lf_wl (max (-1000000) (lf_wl (min 1000000 (lf_wl (a1 * a2)))))) ≤ 2147483647 := lf_wB
    exact hQ (lf_w (lf_wl (max (-1000000) (lf_wl (min 1000000 (lf_wl (a1 * a2))))))) (show (-2147483648 : Int) ≤ lf_w (lf_wl (max (-1000000) (lf_wl (min 1000000 (lf_wl (a1 * a2)))))) ∧ lf_w (lf_wl (max (-1000000) (lf_wl (min 1000000 (lf_wl (a1 * a2)))))) ≤ (2147483647 : Int) from by omega)
  · replace c1 : a0 = 13 := c1
    refine ⟨(show lf_R a2 from lf_Rof (by omega)), ?_⟩
    refine ⟨fun c11 => ?_, fun c11 => ?_⟩
    · skip
      replace c11 : a2 ≠ 0 := c11
      refine ⟨(show lf_R a1 from lf_Rof (by omega)), ?_⟩
      refine ⟨(show a2 ≠ 0 from by omega), ?_⟩
      have b12 : (-2147483648) ≤ lf_w (a1.tdiv a2) ∧ lf_w (a1.tdiv a2) ≤ 2147483647 := lf_wB
      exact hQ (lf_w (a1.tdiv a2)) (show (-2147483648 : Int) ≤ lf_w (a1.tdiv a2) ∧ lf_w (a1.tdiv a2) ≤ (2147483647 : Int) from by omega)
    · skip
      replace c11 : ¬ (a2 ≠ 0) := c11
      exact hQ 0 (show (-2147483648 : Int) ≤ 0 ∧ 0 ≤ (2147483647 : Int) from by omega)
  · replace c1 : a0 = 14 := c1
    exact sm_87_p310 hQ hI (show (-2147483648 : Int) ≤ a1 ∧ a1 ≤ (2147483647 : Int) from by omega) (show (-2147483648 : Int) ≤ a2 ∧ a2 ≤ (2147483647 : Int) from by omega)
  · replace c1 : a0 = 15 := c1
    exact sm_87_p310 hQ hI (show (-2147483648 : Int) ≤ a1 ∧ a1 ≤ (2147483647 : Int) from by omega) (show (-2147483648 : Int) ≤ a2 ∧ a2 ≤ (2147483647 : Int) from by omega)
  · replace c1 : a0 = 16 := c1
    exact sm_87_p310 hQ hI (show (-2147483648 : Int) ≤ a1 ∧ a1 ≤ (2147483647 : Int) from by omega) (show (-2147483648 : Int) ≤ a2 ∧ a2 ≤ (2147483647 : Int) from by omega)
  · replace c1 : a0 = 17 := c1
    exact sm_87_p310 hQ hI (show (-2147483648 : Int) ≤ a1 ∧ a1 ≤ (2147483647 : Int) from by omega) (show (-2147483648 : Int) ≤ a2 ∧ a2 ≤ (2147483647 : Int) from by omega)
  · replace c1 : a0 = 18 := c1
    exact sm_87_p310 hQ hI (show (-2147483648 : Int) ≤ a1 ∧ a1 ≤ (2147483647 : Int) from by omega) (show (-2147483648 : Int) ≤ a2 ∧ a2 ≤ (2147483647 : Int) from by omega)
  · replace c1 : a0 = 19 := c1
    exact sm_87_p310 hQ hI (show (-2147483648 : Int) ≤ a1 ∧ a1 ≤ (2147483647 : Int) from by omega) (show (-2147483648 : Int) ≤ a2 ∧ a2 ≤ (2147483647 : Int) from by omega)
  · replace c1 : a0 = 20 := c1
    exact sm_87_p310 hQ hI (show (-2147483648 : Int) ≤ a1 ∧ a1 ≤ (2147483647 : Int) from by omega) (show (-2147483648 : Int) ≤ a2 ∧ a2 ≤ (2147483647 : Int) from by omega)
  · replace c1 : a0 = 21 := c1
    exact sm_87_p310 hQ hI (show (-2147483648 : Int) ≤ a1 ∧ a1 ≤ (2147483647 : Int) from by omega) (show (-2147483648 : Int) ≤ a2 ∧ a2 ≤ (2147483647 : Int) from by omega)
  · replace c1 : a0 = 22 := c1
    exact sm_87_p310 hQ hI (show (-2147483648 : Int) ≤ a1 ∧ a1 ≤ (2147483647 : Int) from by omega) (show (-2147483648 : Int) ≤ a2 ∧ a2 ≤ (2147483647 : Int) from by omega)
  · replace c1 : a0 = 23 := c1
    exact sm_87_p310 hQ hI (show (-2147483648 : Int) ≤ a1 ∧ a1 ≤ (2147483647 : Int) from by omega) (show (-2147483648 : Int) ≤ a2 ∧ a2 ≤ (2147483647 : Int) from by omega)
  · replace c1 : a0 = 24 := c1
    exact sm_87_p310 hQ hI (show (-2147483648 : Int) ≤ a1 ∧ a1 ≤ (2147483647 : Int) from by omega) (show (-2147483648 : Int) ≤ a2 ∧ a2 ≤ (2147483647 : Int) from by omega)
  · replace c1 : a0 = 25 := c1
    exact sm_87_p310 hQ hI (show (-2147483648 : Int) ≤ a1 ∧ a1 ≤ (2147483647 : Int) from by omega) (show (-2147483648 : Int) ≤ a2 ∧ a2 ≤ (2147483647 : Int) from by omega)
  · replace c1 : a0 = 26 := c1
    exact sm_87_p310 hQ hI (show (-2147483648 : Int) ≤ a1 ∧ a1 ≤ (2147483647 : Int) from by omega) (show (-2147483648 : Int) ≤ a2 ∧ a2 ≤ (2147483647 : Int) from by omega)
  · replace c1 : a0 = 27 := c1
    exact sm_87_p310 hQ hI (show (-2147483648 : Int) ≤ a1 ∧ a1 ≤ (2147483647 : Int) from by omega) (show (-2147483648 : Int) ≤ a2 ∧ a2 ≤ (2147483647 : Int) from by omega)
  · replace c1 : a0 = 28 := c1
    exact sm_87_p310 hQ hI (show (-2147483648 : Int) ≤ a1 ∧ a1 ≤ (2147483647 : Int) from by omega) (show (-2147483648 : Int) ≤ a2 ∧ a2 ≤ (2147483647 : Int) from by omega)
  · replace c1 : a0 = 29 := c1
    exact sm_87_p310 hQ hI (show (-2147483648 : Int) ≤ a1 ∧ a1 ≤ (2147483647 : Int) from by omega) (show (-2147483648 : Int) ≤ a2 ∧ a2 ≤ (2147483647 : Int) from by omega)
  · replace c1 : a0 = 30 := c1
    exact sm_87_p310 hQ hI (show (-2147483648 : Int) ≤ a1 ∧ a1 ≤ (2147483647 : Int) from by omega) (show (-2147483648 : Int) ≤ a2 ∧ a2 ≤ (2147483647 : Int) from by omega)
  · replace c1 : a0 = 31 := c1
    exact sm_87_p310 hQ hI (show (-2147483648 : Int) ≤ a1 ∧ a1 ≤ (2147483647 : Int) from by omega) (show (-2147483648 : Int) ≤ a2 ∧ a2 ≤ (2147483647 : Int) from by omega)
  · replace c1 : a0 = 32 := c1
    exact sm_87_p310 hQ hI (show (-2147483648 : Int) ≤ a1 ∧ a1 ≤ (2147483647 : Int) from by omega) (show (-2147483648 : Int) ≤ a2 ∧ a2 ≤ (2147483647 : Int) from by omega)
  · replace c1 : a0 = 33 := c1
    exact sm_87_p310 hQ hI (show (-2147483648 : Int) ≤ a1 ∧ a1 ≤ (2147483647 : Int) from by omega) (show (-2147483648 : Int) ≤ a2 ∧ a2 ≤ (2147483647 : Int) from by omega)
  · replace c1 : a0 = 34 := c1
    exact sm_87_p310 hQ hI (show (-2147483648 : Int) ≤ a1 ∧ a1 ≤ (2147483647 : Int) from by omega) (show (-2147483648 : Int) ≤ a2 ∧ a2 ≤ (2147483647 : Int) from by omega)
  · replace c1 : a0 = 35 := c1
    exact sm_87_p310 hQ hI (show (-2147483648 : Int) ≤ a1 ∧ a1 ≤ (2147483647 : Int) from by omega) (show (-2147483648 : Int) ≤ a2 ∧ a2 ≤ (2147483647 : Int) from by omega)
  · replace c1 : a0 = 36 := c1
    exact sm_87_p310 hQ hI (show (-2147483648 : Int) ≤ a1 ∧ a1 ≤ (2147483647 : Int) from by omega) (show (-2147483648 : Int) ≤ a2 ∧ a2 ≤ (2147483647 : Int) from by omega)
  · replace c1 : a0 = 37 := c1
    exact sm_87_p310 hQ hI (show (-2147483648 : Int) ≤ a1 ∧ a1 ≤ (2147483647 : Int) from by omega) (show (-2147483648 : Int) ≤ a2 ∧ a2 ≤ (2147483647 : Int) from by omega)
  · replace c1 : a0 = 38 := c1
    exact sm_87_p310 hQ hI (show (-2147483648 : Int) ≤ a1 ∧ a1 ≤ (2147483647 : Int) from by omega) (show (-2147483648 : Int) ≤ a2 ∧ a2 ≤ (2147483647 : Int) from by omega)
  · replace c1 : a0 = 39 := c1
    exact sm_87_p310 hQ hI (show (-2147483648 : Int) ≤ a1 ∧ a1 ≤ (2147483647 : Int) from by omega) (show (-2147483648 : Int) ≤ a2 ∧ a2 ≤ (2147483647 : Int) from by omega)
  · replace c1 : a0 = 40 := c1
    exact sm_87_p310 hQ hI (show (-2147483648 : Int) ≤ a1 ∧ a1 ≤ (2147483647 : Int) from by omega) (show (-2147483648 : Int) ≤ a2 ∧ a2 ≤ (2147483647 : Int) from by omega)
  · replace c1 : a0 = 41 := c1
    exact sm_87_p310 hQ hI (show (-2147483648 : Int) ≤ a1 ∧ a1 ≤ (2147483647 : Int) from by omega) (show (-2147483648 : Int) ≤ a2 ∧ a2 ≤ (2147483647 : Int) from by omega)
  · replace c1 : a0 = 42 := c1
    exact sm_87_p310 hQ hI (show (-2147483648 : Int) ≤ a1 ∧ a1 ≤ (2147483647 : Int) from by omega) (show (-2147483648 : Int) ≤ a2 ∧ a2 ≤ (2147483647 : Int) from by omega)
  · replace c1 : a0 = 43 := c1
    exact sm_87_p310 hQ hI (show (-2147483648 : Int) ≤ a1 ∧ a1 ≤ (2147483647 : Int) from by omega) (show (-2147483648 : Int) ≤ a2 ∧ a2 ≤ (2147483647 : Int) from by omega)
  · replace c1 : a0 = 44 := c1
    exact sm_87_p310 hQ hI (show (-2147483648 : Int) ≤ a1 ∧ a1 ≤ (2147483647 : Int) from by omega) (show (-2147483648 : Int) ≤ a2 ∧ a2 ≤ (2147483647 : Int) from by omega)
  · replace c1 : a0 = 45 := c1
    have b13 : (-2147483648) ≤ lf_and a1 a2 ∧ lf_and a1 a2 ≤ 2147483647 := lf_andF
    exact hQ (lf_and a1 a2) (show (-2147483648 : Int) ≤ lf_and a1 a2 ∧ lf_and a1 a2 ≤ (2147483647 : Int) from by omega)
  · replace c1 : a0 = 46 := c1
    have b14 : (-2147483648) ≤ lf_or a1 a2 ∧ lf_or a1 a2 ≤ 2147483647 := lf_orB
    exact hQ (lf_or a1 a2) (show (-2147483648 : Int) ≤ lf_or a1 a2 ∧ lf_or a1 a2 ≤ (2147483647 : Int) from by omega)
-- fm_85 Laws.push 63 i
theorem sm_85 {a1 : Int} {Q : lf_Z → Prop} {s : lf_Z} (hI : iv_A s.1 s.2.2) (ba1 : (-2147483648) ≤ a1 ∧ a1 ≤ 2147483647) (hQ : ∀  (s' : lf_Z), iv_A s'.1 s'.2.2 → lf_fq [63, 66] 1000000 true s.1 s.2.2 s'.1 s'.2.2 → Q  s') : fm_85 a1 Q s := by
  unfold fm_85
  have b1 : 0 ≤ s.1 63 6 ∧ s.1 63 6 ≤ 300 := iv_r63_6 hI
  refine ⟨(show lf_R (s.1 63 6) from lf_Rof (by omega)), ?_⟩
  refine ⟨fun c2 => ?_, fun c2 => ?_⟩
  · skip
    replace c2 : 300 ≤ s.1 63 6 := c2
    exact hQ s hI (lf_fq_rf)
  · skip
    replace c2 : ¬ (300 ≤ s.1 63 6) := c2
    refine ⟨(show (0 : Int) ≤ s.1 63 6 ∧ s.1 63 6 < (300 : Int) from by omega), ?_⟩
    have hI3 : iv_A (lf_up s.1 66 (s.1 63 6) a1) s.2.2 := iv_w66 hI (by omega)
    have fr4 : lf_fq [63, 66] 1000000 true s.1 s.2.2 (lf_up s.1 66 (s.1 63 6) a1) s.2.2 := lf_fq_up (lf_fq_rf) rfl (fun h => absurd h (by decide))
    have hI5 : iv_A (lf_up (lf_up s.1 66 (s.1 63 6) a1) 63 6 ((s.1 63 6) + 1)) s.2.2 := iv_w63_6 hI3 (by omega)
    have fr6 : lf_fq [63, 66] 1000000 true s.1 s.2.2 (lf_up (lf_up s.1 66 (s.1 63 6) a1) 63 6 ((s.1 63 6) + 1)) s.2.2 := lf_fq_up fr4 rfl (fun h => absurd h (by decide))
    exact hQ (lf_up (lf_up s.1 66 (s.1 63 6) a1) 63 6 ((s.1 63 6) + 1), s.2.1, s.2.2) hI5 fr6
-- fm_84b Laws.answer 63 t i
theorem sm_84b_p311 {Q : Int → lf_Z → Prop} {s : lf_Z} (hQ : ∀ (r : Int) (s' : lf_Z), iv_A s'.1 s'.2.2 → lf_fq [63, 65, 66] 1000000 true s.1 s.2.2 s'.1 s'.2.2 → ((-2147483648) ≤ r ∧ r ≤ 2147483647) → Q r s') (hI : iv_A s.1 s.2.2) : fm_84b_p311 Q s := by
  unfold fm_84b_p311
  refine sm_86 hI (fun r25 s24 hI9 fr8 q10 => ?_)
  have fr11 : lf_fq [63, 65, 66] 1000000 true s.1 s.2.2 s24.1 s24.2.2 := lf_fq_tr (lf_fq_rf) (lf_fq_wk fr8 rfl (by decide) (by decide))
  exact hQ r25 s24 hI9 fr11 (show (-2147483648 : Int) ≤ r25 ∧ r25 ≤ (2147483647 : Int) from by omega)
theorem sm_84b_p305 {X29 : Int → Int → lf_Z → Prop} {Q : Int → lf_Z → Prop} {u1 : Nat} {x3 : Int} {x4 : Int} {x5 : Int} {s : lf_Z} (hQ : ∀ (r : Int) (s' : lf_Z), iv_A s'.1 s'.2.2 → lf_fq [63, 65, 66] 1000000 true s.1 s.2.2 s'.1 s'.2.2 → ((-2147483648) ≤ r ∧ r ≤ 2147483647) → Q r s') {M29 : Nat} (hX29 : ∀ (x4 : Int) (x5 : Int) (s' : lf_Z), iv_A s'.1 s'.2.2 → lf_fq [63, 65, 66] 1000000 true s.1 s.2.2 s'.1 s'.2.2 → (-2147483648) ≤ x4 ∧ x4 ≤ 2147483647 → 0 ≤ x5 ∧ x5 ≤ 300 → (300 - x5).toNat < M29 → X29 x4 x5 s') (hM29 : (300 - x5).toNat ≤ M29) (hI : iv_A s.1 s.2.2) (bx3 : 1 ≤ x3 ∧ x3 ≤ 300) (bx4 : (-9999) ≤ x4 ∧ x4 ≤ 9999) (bx5 : 0 ≤ x5 ∧ x5 ≤ 299) (htu1 : u1 < 4) : fm_84b_p305 X29 Q u1 x3 x4 x5 s := by
  unfold fm_84b_p305
  exact hX29 (x4) (x5 + 1) s hI (lf_fq_rf) (show (-2147483648 : Int) ≤ x4 ∧ x4 ≤ (2147483647 : Int) from by omega) (show (0 : Int) ≤ x5 + 1 ∧ x5 + 1 ≤ (300 : Int) from by omega) (show (300 - (x5 + 1)).toNat < M29 from by omega)
theorem sm_84b_p208 {X29 : Int → Int → lf_Z → Prop} {Q : Int → lf_Z → Prop} {u1 : Nat} {x3 : Int} {x4 : Int} {x5 : Int} {y1 : Int} {s : lf_Z} (hQ : ∀ (r : Int) (s' : lf_Z), iv_A s'.1 s'.2.2 → lf_fq [63, 65, 66] 1000000 true s.1 s.2.2 s'.1 s'.2.2 → ((-2147483648) ≤ r ∧ r ≤ 2147483647) → Q r s') {M29 : Nat} (hX29 : ∀ (x4 : Int) (x5 : Int) (s' : lf_Z), iv_A s'.1 s'.2.2 → lf_fq [63, 65, 66] 1000000 true s.1 s.2.2 s'.1 s'.2.2 → (-2147483648) ≤ x4 ∧ x4 ≤ 2147483647 → 0 ≤ x5 ∧ x5 ≤ 300 → (300 - x5).toNat < M29 → X29 x4 x5 s') (hM29 : (300 - x5).toNat ≤ M29) (hI : iv_A s.1 s.2.2) (bx3 : 1 ≤ x3 ∧ x3 ≤ 300) (bx4 : 1 ≤ x4 ∧ x4 ≤ 300) (bx5 : 0 ≤ x5 ∧ x5 ≤ 299) (by1 : (-2147483648) ≤ y1 ∧ y1 ≤ 2147483647) (htu1 : u1 < 4) : fm_84b_p208 X29 Q u1 x3 x4 x5 y1 s := by
  unfold fm_84b_p208
  refine sm_85 hI (show (-2147483648 : Int) ≤ y1 ∧ y1 ≤ (2147483647 : Int) from by omega) (fun s40 hI38 fr37 => ?_)
  have fr40 : lf_fq [63, 65, 66] 1000000 true s.1 s.2.2 s40.1 s40.2.2 := lf_fq_tr (lf_fq_rf) (lf_fq_wk fr37 rfl (by decide) (by decide))
  exact sm_84b_p305 (fun r9 t9 i9 f9 => hQ r9 t9 i9 (lf_fq_tr fr40 f9)) (fun p0 p1 t9 i9 f9 => hX29 p0 p1 t9 i9 (lf_fq_tr fr40 f9)) (show (300 - x5).toNat ≤ M29 from by omega) hI38 (show (1 : Int) ≤ x3 ∧ x3 ≤ (300 : Int) from by omega) (show (-9999 : Int) ≤ x4 ∧ x4 ≤ (9999 : Int) from by omega) (show (0 : Int) ≤ x5 ∧ x5 ≤ (299 : Int) from by omega) htu1
theorem sm_84b_p183 {X29 : Int → Int → lf_Z → Prop} {Q : Int → lf_Z → Prop} {u1 : Nat} {x3 : Int} {x4 : Int} {x5 : Int} {y1 : Int} {s : lf_Z} (hQ : ∀ (r : Int) (s' : lf_Z), iv_A s'.1 s'.2.2 → lf_fq [63, 65, 66] 1000000 true s.1 s.2.2 s'.1 s'.2.2 → ((-2147483648) ≤ r ∧ r ≤ 2147483647) → Q r s') {M29 : Nat} (hX29 : ∀ (x4 : Int) (x5 : Int) (s' : lf_Z), iv_A s'.1 s'.2.2 → lf_fq [63, 65, 66] 1000000 true s.1 s.2.2 s'.1 s'.2.2 → (-2147483648) ≤ x4 ∧ x4 ≤ 2147483647 → 0 ≤ x5 ∧ x5 ≤ 300 → (300 - x5).toNat < M29 → X29 x4 x5 s') (hM29 : (300 - x5).toNat ≤ M29) (hI : iv_A s.1 s.2.2) (bx3 : 1 ≤ x3 ∧ x3 ≤ 300) (bx4 : 1 ≤ x4 ∧ x4 ≤ 300) (bx5 : 0 ≤ x5 ∧ x5 ≤ 299) (by1 : (-2147483648) ≤ y1 ∧ y1 ≤ 2147483647) (htu1 : u1 < 4) : fm_84b_p183 X29 Q u1 x3 x4 x5 y1 s := by
  unfold fm_84b_p183
  refine sm_85 hI (show (-2147483648 : Int) ≤ y1 ∧ y1 ≤ (2147483647 : Int) from by omega) (fun s43 hI44 fr43 => ?_)
  have fr46 : lf_fq [63, 65, 66] 1000000 true s.1 s.2.2 s43.1 s43.2.2 := lf_fq_tr (lf_fq_rf) (lf_fq_wk fr43 rfl (by decide) (by decide))
  exact sm_84b_p305 (fun r9 t9 i9 f9 => hQ r9 t9 i9 (lf_fq_tr fr46 f9)) (fun p0 p1 t9 i9 f9 => hX29 p0 p1 t9 i9 (lf_fq_tr fr46 f9)) (show (300 - x5).toNat ≤ M29 from by omega) hI44 (show (1 : Int) ≤ x3 ∧ x3 ≤ (300 : Int) from by omega) (show (-9999 : Int) ≤ x4 ∧ x4 ≤ (9999 : Int) from by omega) (show (0 : Int) ≤ x5 ∧ x5 ≤ (299 : Int) from by omega) htu1
theorem sm_84b_p247 {X29 : Int → Int → lf_Z → Prop} {Q : Int → lf_Z → Prop} {u1 : Nat} {x3 : Int} {x5 : Int} {y0 : Int} {s : lf_Z} (hQ : ∀ (r : Int) (s' : lf_Z), iv_A s'.1 s'.2.2 → lf_fq [63, 65, 66] 1000000 true s.1 s.2.2 s'.1 s'.2.2 → ((-2147483648) ≤ r ∧ r ≤ 2147483647) → Q r s') {M29 : Nat} (hX29 : ∀ (x4 : Int) (x5 : Int) (s' : lf_Z), iv_A s'.1 s'.2.2 → lf_fq [63, 65, 66] 1000000 true s.1 s.2.2 s'.1 s'.2.2 → (-2147483648) ≤ x4 ∧ x4 ≤ 2147483647 → 0 ≤ x5 ∧ x5 ≤ 300 → (300 - x5).toNat < M29 → X29 x4 x5 s') (hM29 : (300 - x5).toNat ≤ M29) (hI : iv_A s.1 s.2.2) (bx3 : 1 ≤ x3 ∧ x3 ≤ 300) (bx5 : 0 ≤ x5 ∧ x5 ≤ 299) (by0 : (-9999) ≤ y0 ∧ y0 ≤ 9999) (htu1 : u1 < 4) : fm_84b_p247 X29 Q u1 x3 x5 y0 s := by
  unfold fm_84b_p247
  exact sm_84b_p305 hQ hX29 (show (300 - x5).toNat ≤ M29 from by omega) hI (show (1 : Int) ≤ x3 ∧ x3 ≤ (300 : Int) from by omega) (show (-9999 : Int) ≤ y0 ∧ y0 ≤ (9999 : Int) from by omega) (show (0 : Int) ≤ x5 ∧ x5 ≤ (299 : Int) from by omega) htu1
theorem sm_84b_p29 {X29 : Int → Int → lf_Z → Prop} {Q : Int → lf_Z → Prop} {u1 : Nat} {x3 : Int} {x4 : Int} {x5 : Int} {s : lf_Z} (hQ : ∀ (r : Int) (s' : lf_Z), iv_A s'.1 s'.2.2 → lf_fq [63, 65, 66] 1000000 true s.1 s.2.2 s'.1 s'.2.2 → ((-2147483648) ≤ r ∧ r ≤ 2147483647) → Q r s') {M29 : Nat} (hX29 : ∀ (x4 : Int) (x5 : Int) (s' : lf_Z), iv_A s'.1 s'.2.2 → lf_fq [63, 65, 66] 1000000 true s.1 s.2.2 s'.1 s'.2.2 → (-2147483648) ≤ x4 ∧ x4 ≤ 2147483647 → 0 ≤ x5 ∧ x5 ≤ 300 → (300 - x5).toNat < M29 → X29 x4 x5 s') (hM29 : (300 - x5).toNat ≤ M29) (hI : iv_A s.1 s.2.2) (bx3 : (-2147483648) ≤ x3 ∧ x3 ≤ 300) (bx4 : (-2147483648) ≤ x4 ∧ x4 ≤ 2147483647) (bx5 : 0 ≤ x5 ∧ x5 ≤ 300) (htu1 : u1 < 4) : fm_84b_p29 Q u1 x3 X29 x4 x5 s := by
  unfold fm_84b_p29
  refine ⟨(show lf_R x5 from lf_Rof (by omega)), ?_⟩
  refine ⟨fun c7 => ?_, fun c7 => ?_⟩
  · skip
    replace c7 : 300 ≤ x5 := c7
    exact sm_84b_p311 hQ hI
  · skip
    replace c7 : ¬ (300 ≤ x5) := c7
    refine ⟨(show lf_R x4 from lf_Rof (by omega)), ?_⟩
    refine ⟨fun c12 => ?_, fun c12 => ?_⟩
    · skip
      replace c12 : x4 < 0 := c12
      exact sm_84b_p311 hQ hI
    · skip
      replace c12 : ¬ (x4 < 0) := c12
      refine ⟨(show lf_R x3 from lf_Rof (by omega)), ?_⟩
      refine ⟨fun c13 => ?_, fun c13 => ?_⟩
      · skip
        replace c13 : x3 ≤ x4 := c13
        exact sm_84b_p311 hQ hI
      · skip
        replace c13 : ¬ (x3 ≤ x4) := c13
        refine ⟨(show (0 : Int) ≤ x4 ∧ x4 < (300 : Int) from by omega), ?_⟩
        have b14 : (-2147483648) ≤ s.1 (36 + 7 * u1) x4 ∧ s.1 (36 + 7 * u1) x4 ≤ 2147483647 := iv_full hI
        refine ⟨(show lf_R (s.1 (36 + 7 * u1) x4) from lf_Rof (by omega)), ?_⟩
        have b15 : (-214748) ≤ (s.1 (36 + 7 * u1) x4).tdiv 10000 ∧ (s.1 (36 + 7 * u1) x4).tdiv 10000 ≤ 214748 := lf_tdivB (p := -2147483648) (q := 2147483647) (by omega) (by omega) (by decide) (by decide) (by decide)
        have b16 : (-9999) ≤ (s.1 (36 + 7 * u1) x4).tmod 10000 ∧ (s.1 (36 + 7 * u1) x4).tmod 10000 ≤ 9999 := lf_tmodM (by omega) (by omega)
        have b17 : (s.1 (36 + 7 * u1) x4).tdiv 10000 ≤ 0 ∨ 0 ≤ (s.1 (36 + 7 * u1) x4).tmod 10000 := lf_tmS (by decide)
        refine ⟨(show lf_R ((s.1 (36 + 7 * u1) x4).tdiv 10000) from lf_Rof (by omega)), ?_⟩
        refine ⟨fun c18 => ?_, fun c18 => ?_, fun c18 => ?_, fun c18 => ?_, fun c18 => ?_, fun c18 => ?_, fun c18 => ?_, fun c18 => ?_, fun c18 => ?_⟩
        · replace c18 : (s.1 (36 + 7 * u1) x4).tdiv 10000 ≠ 2 ∧ (s.1 (36 + 7 * u1) x4).tdiv 10000 ≠ 3 ∧ (s.1 (36 + 7 * u1) x4).tdiv 10000 ≠ 17 ∧ (s.1 (36 + 7 * u1) x4).tdiv 10000 ≠ 18 ∧ (s.1 (36 + 7 * u1) x4).tdiv 10000 ≠ 38 ∧ (s.1 (36 + 7 * u1) x4).tdiv 10000 ≠ 39 ∧ (s.1 (36 + 7 * u1) x4).tdiv 10000 ≠ 43 ∧ (s.1 (36 + 7 * u1) x4).tdiv 10000 ≠ 44 := c18
          refine sm_86 hI (fun r32 s31 hI20 fr19 q21 => ?_)
          have fr22 : lf_fq [63, 65, 66] 1000000 true s.1 s.2.2 s31.1 s31.2.2 := lf_fq_tr (lf_fq_rf) (lf_fq_wk fr19 rfl (by decide) (by decide))
          refine sm_86 hI20 (fun r34 s33 hI24 fr23 q25 => ?_)
          have fr26 : lf_fq [63, 65, 66] 1000000 true s.1 s.2.2 s33.1 s33.2.2 := lf_fq_tr fr22 (lf_fq_wk fr23 rfl (by decide) (by decide))
          refine sm_87 hI24 (show (-214748 : Int) ≤ (s.1 (36 + 7 * u1) x4).tdiv 10000 ∧ (s.1 (36 + 7 * u1) x4).tdiv 10000 ≤ (214748 : Int) from by omega) (show (-2147483648 : Int) ≤ r34 ∧ r34 ≤ (2147483647 : Int) from by omega) (show (-2147483648 : Int) ≤ r32 ∧ r32 ≤ (2147483647 : Int) from by omega) (fun r36 q27 => ?_)
          refine sm_85 hI24 (show (-2147483648 : Int) ≤ r36 ∧ r36 ≤ (2147483647 : Int) from by omega) (fun s37 hI29 fr28 => ?_)
          have fr31 : lf_fq [63, 65, 66] 1000000 true s.1 s.2.2 s37.1 s37.2.2 := lf_fq_tr fr26 (lf_fq_wk fr28 rfl (by decide) (by decide))
          exact sm_84b_p305 (fun r9 t9 i9 f9 => hQ r9 t9 i9 (lf_fq_tr fr31 f9)) (fun p0 p1 t9 i9 f9 => hX29 p0 p1 t9 i9 (lf_fq_tr fr31 f9)) (show (300 - x5).toNat ≤ M29 from by omega) hI29 (show (1 : Int) ≤ x3 ∧ x3 ≤ (300 : Int) from by omega) (show (-9999 : Int) ≤ x4 + 1 ∧ x4 + 1 ≤ (9999 : Int) from by omega) (show (0 : Int) ≤ x5 ∧ x5 ≤ (299 : Int) from by omega) htu1
        · replace c18 : (s.1 (36 + 7 * u1) x4).tdiv 10000 = 2 := c18
          refine sm_85 hI (show (-2147483648 : Int) ≤ (s.1 (36 + 7 * u1) x4).tmod 10000 ∧ (s.1 (36 + 7 * u1) x4).tmod 10000 ≤ (2147483647 : Int) from by omega) (fun s38 hI33 fr32 => ?_)
          have fr35 : lf_fq [63, 65, 66] 1000000 true s.1 s.2.2 s38.1 s38.2.2 := lf_fq_tr (lf_fq_rf) (lf_fq_wk fr32 rfl (by decide) (by decide))
          exact sm_84b_p305 (fun r9 t9 i9 f9 => hQ r9 t9 i9 (lf_fq_tr fr35 f9)) (fun p0 p1 t9 i9 f9 => hX29 p0 p1 t9 i9 (lf_fq_tr fr35 f9)) (show (300 - x5).toNat ≤ M29 from by omega) hI33 (show (1 : Int) ≤ x3 ∧ x3 ≤ (300 : Int) from by omega) (show (-9999 : Int) ≤ x4 + 1 ∧ x4 + 1 ≤ (9999 : Int) from by omega) (show (0 : Int) ≤ x5 ∧ x5 ≤ (299 : Int) from by omega) htu1
        · replace c18 : (s.1 (36 + 7 * u1) x4).tdiv 10000 = 3 := c18
          refine ⟨(show lf_R ((s.1 (36 + 7 * u1) x4).tmod 10000) from lf_Rof (by omega)), ?_⟩
          refine ⟨fun c36 => ?_, fun c36 => ?_⟩
          · skip
            replace c36 : 8 ≤ (s.1 (36 + 7 * u1) x4).tmod 10000 := c36
            exact sm_84b_p208 hQ hX29 (show (300 - x5).toNat ≤ M29 from by omega) hI (show (1 : Int) ≤ x3 ∧ x3 ≤ (300 : Int) from by omega) (show (1 : Int) ≤ x4 + 1 ∧ x4 + 1 ≤ (300 : Int) from by omega) (show (0 : Int) ≤ x5 ∧ x5 ≤ (299 : Int) from by omega) (show (-2147483648 : Int) ≤ 0 ∧ 0 ≤ (2147483647 : Int) from by omega) htu1
          · skip
            replace c36 : ¬ (8 ≤ (s.1 (36 + 7 * u1) x4).tmod 10000) := c36
            refine ⟨(show (0 : Int) ≤ (s.1 (36 + 7 * u1) x4).tmod 10000 ∧ (s.1 (36 + 7 * u1) x4).tmod 10000 < (8 : Int) from by omega), ?_⟩
            have b41 : (-2147483648) ≤ s.1 65 ((s.1 (36 + 7 * u1) x4).tmod 10000) ∧ s.1 65 ((s.1 (36 + 7 * u1) x4).tmod 10000) ≤ 2147483647 := iv_full hI
            exact sm_84b_p208 hQ hX29 (show (300 - x5).toNat ≤ M29 from by omega) hI (show (1 : Int) ≤ x3 ∧ x3 ≤ (300 : Int) from by omega) (show (1 : Int) ≤ x4 + 1 ∧ x4 + 1 ≤ (300 : Int) from by omega) (show (0 : Int) ≤ x5 ∧ x5 ≤ (299 : Int) from by omega) (show (-2147483648 : Int) ≤ s.1 65 ((s.1 (36 + 7 * u1) x4).tmod 10000) ∧ s.1 65 ((s.1 (36 + 7 * u1) x4).tmod 10000) ≤ (2147483647 : Int) from by omega) htu1
        · replace c18 : (s.1 (36 + 7 * u1) x4).tdiv 10000 = 17 := c18
          refine ⟨(show lf_R ((s.1 (36 + 7 * u1) x4).tmod 10000) from lf_Rof (by omega)), ?_⟩
          refine ⟨fun c42 => ?_, fun c42 => ?_⟩
          · skip
            replace c42 : 11 ≤ (s.1 (36 + 7 * u1) x4).tmod 10000 := c42
            exact sm_84b_p183 hQ hX29 (show (300 - x5).toNat ≤ M29 from by omega) hI (show (1 : Int) ≤ x3 ∧ x3 ≤ (300 : Int) from by omega) (show (1 : Int) ≤ x4 + 1 ∧ x4 + 1 ≤ (300 : Int) from by omega) (show (0 : Int) ≤ x5 ∧ x5 ≤ (299 : Int) from by omega) (show (-2147483648 : Int) ≤ 0 ∧ 0 ≤ (2147483647 : Int) from by omega) htu1
          · skip
            replace c42 : ¬ (11 ≤ (s.1 (36 + 7 * u1) x4).tmod 10000) := c42
            refine ⟨(show (0 : Int) ≤ (s.1 (36 + 7 * u1) x4).tmod 10000 ∧ (s.1 (36 + 7 * u1) x4).tmod 10000 < (11 : Int) from by omega), ?_⟩
            have b47 : (-2147483648) ≤ s.1 64 ((s.1 (36 + 7 * u1) x4).tmod 10000) ∧ s.1 64 ((s.1 (36 + 7 * u1) x4).tmod 10000) ≤ 2147483647 := iv_full hI
            exact sm_84b_p183 hQ hX29 (show (300 - x5).toNat ≤ M29 from by omega) hI (show (1 : Int) ≤ x3 ∧ x3 ≤ (300 : Int) from by omega) (show (1 : Int) ≤ x4 + 1 ∧ x4 + 1 ≤ (300 : Int) from by omega) (show (0 : Int) ≤ x5 ∧ x5 ≤ (299 : Int) from by omega) (show (-2147483648 : Int) ≤ s.1 64 ((s.1 (36 + 7 * u1) x4).tmod 10000) ∧ s.1 64 ((s.1 (36 + 7 * u1) x4).tmod 10000) ≤ (2147483647 : Int) from by omega) htu1
        · replace c18 : (s.1 (36 + 7 * u1) x4).tdiv 10000 = 18 := c18
          refine sm_86 hI (fun r46 s45 hI49 fr48 q50 => ?_)
          have fr51 : lf_fq [63, 65, 66] 1000000 true s.1 s.2.2 s45.1 s45.2.2 := lf_fq_tr (lf_fq_rf) (lf_fq_wk fr48 rfl (by decide) (by decide))
          have b52 : (-2147483648) ≤ lf_w (-r46) ∧ lf_w (-r46) ≤ 2147483647 := lf_wB
          refine sm_85 hI49 (show (-2147483648 : Int) ≤ lf_w (-r46) ∧ lf_w (-r46) ≤ (2147483647 : Int) from by omega) (fun s47 hI54 fr53 => ?_)
          have fr56 : lf_fq [63, 65, 66] 1000000 true s.1 s.2.2 s47.1 s47.2.2 := lf_fq_tr fr51 (lf_fq_wk fr53 rfl (by decide) (by decide))
          exact sm_84b_p305 (fun r9 t9 i9 f9 => hQ r9 t9 i9 (lf_fq_tr fr56 f9)) (fun p0 p1 t9 i9 f9 => hX29 p0 p1 t9 i9 (lf_fq_tr fr56 f9)) (show (300 - x5).toNat ≤ M29 from by omega) hI54 (show (1 : Int) ≤ x3 ∧ x3 ≤ (300 : Int) from by omega) (show (-9999 : Int) ≤ x4 + 1 ∧ x4 + 1 ≤ (9999 : Int) from by omega) (show (0 : Int) ≤ x5 ∧ x5 ≤ (299 : Int) from by omega) htu1
        · replace c18 : (s.1 (36 + 7 * u1) x4).tdiv 10000 = 38 := c18
          refine sm_86 hI (fun r49 s48 hI58 fr57 q59 => ?_)
          have fr60 : lf_fq [63, 65, 66] 1000000 true s.1 s.2.2 s48.1 s48.2.2 := lf_fq_tr (lf_fq_rf) (lf_fq_wk fr57 rfl (by decide) (by decide))
          refine ⟨(show lf_R r49 from lf_Rof (by omega)), ?_⟩
          refine ⟨fun c61 => ?_, fun c61 => ?_⟩
          · skip
            replace c61 : r49 ≠ 0 := c61
            exact sm_84b_p247 (fun r9 t9 i9 f9 => hQ r9 t9 i9 (lf_fq_tr fr60 f9)) (fun p0 p1 t9 i9 f9 => hX29 p0 p1 t9 i9 (lf_fq_tr fr60 f9)) (show (300 - x5).toNat ≤ M29 from by omega) hI58 (show (1 : Int) ≤ x3 ∧ x3 ≤ (300 : Int) from by omega) (show (0 : Int) ≤ x5 ∧ x5 ≤ (299 : Int) from by omega) (show (-9999 : Int) ≤ x4 + 1 ∧ x4 + 1 ≤ (9999 : Int) from by omega) htu1
          · skip
            replace c61 : ¬ (r49 ≠ 0) := c61
            exact sm_84b_p247 (fun r9 t9 i9 f9 => hQ r9 t9 i9 (lf_fq_tr fr60 f9)) (fun p0 p1 t9 i9 f9 => hX29 p0 p1 t9 i9 (lf_fq_tr fr60 f9)) (show (300 - x5).toNat ≤ M29 from by omega) hI58 (show (1 : Int) ≤ x3 ∧ x3 ≤ (300 : Int) from by omega) (show (0 : Int) ≤ x5 ∧ x5 ≤ (299 : Int) from by omega) (show (-9999 : Int) ≤ (s.1 (36 + 7 * u1) x4).tmod 10000 ∧ (s.1 (36 + 7 * u1) x4).tmod 10000 ≤ (9999 : Int) from by omega) htu1
        · replace c18 : (s.1 (36 + 7 * u1) x4).tdiv 10000 = 39 := c18
          exact sm_84b_p305 hQ hX29 (show (300 - x5).toNat ≤ M29 from by omega) hI (show (1 : Int) ≤ x3 ∧ x3 ≤ (300 : Int) from by omega) (show (-9999 : Int) ≤ (s.1 (36 + 7 * u1) x4).tmod 10000 ∧ (s.1 (36 + 7 * u1) x4).tmod 10000 ≤ (9999 : Int) from by omega) (show (0 : Int) ≤ x5 ∧ x5 ≤ (299 : Int) from by omega) htu1
        · replace c18 : (s.1 (36 + 7 * u1) x4).tdiv 10000 = 43 := c18
          refine ⟨(show lf_R ((s.1 (36 + 7 * u1) x4).tmod 10000) from lf_Rof (by omega)), ?_⟩
          refine sm_86 hI (fun r53 s52 hI63 fr62 q64 => ?_)
          have fr65 : lf_fq [63, 65, 66] 1000000 true s.1 s.2.2 s52.1 s52.2.2 := lf_fq_tr (lf_fq_rf) (lf_fq_wk fr62 rfl (by decide) (by decide))
          refine ⟨(show (0 : Int) ≤ min ((s.1 (36 + 7 * u1) x4).tmod 10000) 7 ∧ min ((s.1 (36 + 7 * u1) x4).tmod 10000) 7 < (8 : Int) from by omega), ?_⟩
          have hI66 : iv_A (lf_up s52.1 65 (min ((s.1 (36 + 7 * u1) x4).tmod 10000) 7) r53) s52.2.2 := iv_w65 hI63 (by omega)
          have fr67 : lf_fq [63, 65, 66] 1000000 true s.1 s.2.2 (lf_up s52.1 65 (min ((s.1 (36 + 7 * u1) x4).tmod 10000) 7) r53) s52.2.2 := lf_fq_up fr65 rfl (fun h => absurd h (by decide))
          exact sm_84b_p305 (fun r9 t9 i9 f9 => hQ r9 t9 i9 (lf_fq_tr fr67 f9)) (fun p0 p1 t9 i9 f9 => hX29 p0 p1 t9 i9 (lf_fq_tr fr67 f9)) (show (300 - x5).toNat ≤ M29 from by omega) hI66 (show (1 : Int) ≤ x3 ∧ x3 ≤ (300 : Int) from by omega) (show (-9999 : Int) ≤ x4 + 1 ∧ x4 + 1 ≤ (9999 : Int) from by omega) (show (0 : Int) ≤ x5 ∧ x5 ≤ (299 : Int) from by omega) htu1
        · replace c18 : (s.1 (36 + 7 * u1) x4).tdiv 10000 = 44 := c18
          refine sm_86 hI (fun r56 s55 hI69 fr68 q70 => ?_)
          have fr71 : lf_fq [63, 65, 66] 1000000 true s.1 s.2.2 s55.1 s55.2.2 := lf_fq_tr (lf_fq_rf) (lf_fq_wk fr68 rfl (by decide) (by decide))
          have b72 : (-2147483648) ≤ lf_w (1 - r56) ∧ lf_w (1 - r56) ≤ 2147483647 := lf_wB
          refine sm_85 hI69 (show (-2147483648 : Int) ≤ lf_w (1 - r56) ∧ lf_w (1 - r56) ≤ (2147483647 : Int) from by omega) (fun s57 hI74 fr73 => ?_)
          have fr76 : lf_fq [63, 65, 66] 1000000 true s.1 s.2.2 s57.1 s57.2.2 := lf_fq_tr fr71 (lf_fq_wk fr73 rfl (by decide) (by decide))
          exact sm_84b_p305 (fun r9 t9 i9 f9 => hQ r9 t9 i9 (lf_fq_tr fr76 f9)) (fun p0 p1 t9 i9 f9 => hX29 p0 p1 t9 i9 (lf_fq_tr fr76 f9)) (show (300 - x5).toNat ≤ M29 from by omega) hI74 (show (1 : Int) ≤ x3 ∧ x3 ≤ (300 : Int) from by omega) (show (-9999 : Int) ≤ x4 + 1 ∧ x4 + 1 ≤ (9999 : Int) from by omega) (show (0 : Int) ≤ x5 ∧ x5 ≤ (299 : Int) from by omega) htu1
theorem sm_84b_p29L {Q : Int → lf_Z → Prop} {u1 : Nat} {x3 : Int} {x4 : Int} {x5 : Int} {s : lf_Z} (hQ : ∀ (r : Int) (s' : lf_Z), iv_A s'.1 s'.2.2 → lf_fq [63, 65, 66] 1000000 true s.1 s.2.2 s'.1 s'.2.2 → ((-2147483648) ≤ r ∧ r ≤ 2147483647) → Q r s') (hI : iv_A s.1 s.2.2) (bx3 : (-2147483648) ≤ x3 ∧ x3 ≤ 300) (bx4 : (-2147483648) ≤ x4 ∧ x4 ≤ 2147483647) (bx5 : 0 ≤ x5 ∧ x5 ≤ 300) (htu1 : u1 < 4) : fm_84b_p29L Q u1 x3 x4 x5 s := by
  intro X29 hX
  have key : ∀ (m9 : Nat) (x4 : Int) (x5 : Int) (s' : lf_Z), iv_A s'.1 s'.2.2 → lf_fq [63, 65, 66] 1000000 true s.1 s.2.2 s'.1 s'.2.2 → (-2147483648) ≤ x4 ∧ x4 ≤ 2147483647 → 0 ≤ x5 ∧ x5 ≤ 300 → (300 - x5).toNat < m9 → X29 x4 x5 s' := by
    intro m9
    induction m9 with
    | zero => intro x4 x5 s' _ _ bx4 bx5 h9; exact absurd h9 (Nat.not_lt_zero _)
    | succ m9 ih => intro x4 x5 s' i7 f7 bx4 bx5 h9; exact hX _ _ _ (sm_84b_p29 (fun r9 t9 i9 f9 => hQ r9 t9 i9 (lf_fq_tr f7 f9))   (fun x4' x5' t8 i8 f8 bx4' bx5' h8 => ih x4' x5' t8 i8 (lf_fq_tr f7 f8) bx4' bx5' (by omega)) (Nat.le_refl _)  i7  bx3 bx4 bx5 htu1 )
  exact key _ _ _ s hI lf_fq_rf bx4 bx5 (Nat.lt_succ_self _)
theorem sm_84b {t1 : Nat} {a2 : Int} {Q : Int → lf_Z → Prop} {s : lf_Z} (htt1 : t1 < 4) (hI : iv_A s.1 s.2.2) (ba2 : 0 ≤ a2 ∧ a2 ≤ 2) (hQ : ∀ (r : Int) (s' : lf_Z), iv_A s'.1 s'.2.2 → lf_fq [63, 65, 66] 1000000 true s.1 s.2.2 s'.1 s'.2.2 → ((-2147483648) ≤ r ∧ r ≤ 2147483647) → Q r s') : fm_84b t1 a2 Q s := by
  unfold fm_84b
  have hI1 : iv_A (lf_up s.1 63 6 0) s.2.2 := iv_w63_6 hI (by omega)
  have fr2 : lf_fq [63, 65, 66] 1000000 true s.1 s.2.2 (lf_up s.1 63 6 0) s.2.2 := lf_fq_up (lf_fq_rf) rfl (fun h => absurd h (by decide))
  refine ⟨(show (0 : Int) ≤ a2 ∧ a2 < (3 : Int) from by omega), ?_⟩
  have b3 : (-2147483648) ≤ (lf_up s.1 63 6 0) (38 + 7 * t1) a2 ∧ (lf_up s.1 63 6 0) (38 + 7 * t1) a2 ≤ 2147483647 := iv_full hI1
  have b4 : (lf_up s.1 63 6 0) (38 + 7 * t1) a2 = s.1 (38 + 7 * t1) a2 := lf_up_c (by omega)
  refine ⟨(show lf_R ((lf_up s.1 63 6 0) (38 + 7 * t1) a2) from lf_Rof (by omega)), ?_⟩
  have b5 : (-2147483648) ≤ (lf_up s.1 63 6 0) (37 + 7 * t1) a2 ∧ (lf_up s.1 63 6 0) (37 + 7 * t1) a2 ≤ 2147483647 := iv_full hI1
  have b6 : (lf_up s.1 63 6 0) (37 + 7 * t1) a2 = s.1 (37 + 7 * t1) a2 := lf_up_c (by omega)
  exact sm_84b_p29L (fun r9 t9 i9 f9 => hQ r9 t9 i9 (lf_fq_tr fr2 f9)) hI1 (show (-2147483648 : Int) ≤ min ((lf_up s.1 63 6 0) (38 + 7 * t1) a2) 300 ∧ min ((lf_up s.1 63 6 0) (38 + 7 * t1) a2) 300 ≤ (300 : Int) from by omega) (show (-2147483648 : Int) ≤ (lf_up s.1 63 6 0) (37 + 7 * t1) a2 ∧ (lf_up s.1 63 6 0) (37 + 7 * t1) a2 ≤ (2147483647 : Int) from by omega) (show (0 : Int) ≤ 0 ∧ 0 ≤ (300 : Int) from by omega) htt1
-- fm_91 Laws.chanceOf 63 i i i i i i
theorem sm_91_p118 {Q : Int → lf_Z → Prop} {x8 : Int} {s : lf_Z} (hQ : ∀ (r : Int) (s' : lf_Z), iv_A s'.1 s'.2.2 → lf_fq [63, 64, 65, 66] 1000000 true s.1 s.2.2 s'.1 s'.2.2 → (0 ≤ r ∧ r ≤ 1000000) → Q r s') (hI : iv_A s.1 s.2.2) (bx8 : (-2147483648) ≤ x8 ∧ x8 ≤ 2147483647) : fm_91_p118 Q x8 s := by
  unfold fm_91_p118
  refine ⟨(show lf_R x8 from lf_Rof (by omega)), ?_⟩
  refine ⟨fun c6 => ?_, fun c6 => ?_⟩
  · skip
    replace c6 : x8 ≤ 0 := c6
    exact hQ 5 s hI (lf_fq_rf) (show (0 : Int) ≤ 5 ∧ 5 ≤ (1000000 : Int) from by omega)
  · skip
    replace c6 : ¬ (x8 ≤ 0) := c6
    exact hQ 0 s hI (lf_fq_rf) (show (0 : Int) ≤ 0 ∧ 0 ≤ (1000000 : Int) from by omega)
theorem sm_91_p94 {X29 : Int → Int → Int → lf_Z → Prop} {Q : Int → lf_Z → Prop} {x1 : Int} {x2 : Int} {x3 : Int} {x4 : Int} {x5 : Int} {x7 : Int} {x8 : Int} {x9 : Int} {x10 : Int} {s : lf_Z} (hQ : ∀ (r : Int) (s' : lf_Z), iv_A s'.1 s'.2.2 → lf_fq [63, 64, 65, 66] 1000000 true s.1 s.2.2 s'.1 s'.2.2 → (0 ≤ r ∧ r ≤ 1000000) → Q r s') {M29 : Nat} (hX29 : ∀ (x8 : Int) (x9 : Int) (x10 : Int) (s' : lf_Z), iv_A s'.1 s'.2.2 → lf_fq [63, 64, 65, 66] 1000000 true s.1 s.2.2 s'.1 s'.2.2 → (-2147483648) ≤ x8 ∧ x8 ≤ 2147483647 → (-2147483648) ≤ x9 ∧ x9 ≤ 2147483647 → 0 ≤ x10 ∧ x10 ≤ 6 → (6 - x10).toNat < M29 → X29 x8 x9 x10 s') (hM29 : (6 - x10).toNat ≤ M29) (hI : iv_A s.1 s.2.2) (bx1 : (-2147483648) ≤ x1 ∧ x1 ≤ 2147483647) (bx2 : (-1) ≤ x2 ∧ x2 ≤ 11) (bx3 : 0 ≤ x3 ∧ x3 ≤ 15) (bx4 : 0 ≤ x4 ∧ x4 ≤ 1) (bx5 : 0 ≤ x5 ∧ x5 ≤ 1) (bx7 : 0 ≤ x7 ∧ x7 ≤ 11) (bx8 : (-2147483648) ≤ x8 ∧ x8 ≤ 2147483647) (bx9 : (-2147483648) ≤ x9 ∧ x9 ≤ 2147483647) (bx10 : 0 ≤ x10 ∧ x10 ≤ 5) : fm_91_p94 X29 Q x1 x2 x3 x4 x5 x7 x8 x9 x10 s := by
  unfold fm_91_p94
  exact hX29 (x8) (x9) (x10 + 1) s hI (lf_fq_rf) (show (-2147483648 : Int) ≤ x8 ∧ x8 ≤ (2147483647 : Int) from by omega) (show (-2147483648 : Int) ≤ x9 ∧ x9 ≤ (2147483647 : Int) from by omega) (show (0 : Int) ≤ x10 + 1 ∧ x10 + 1 ≤ (6 : Int) from by omega) (show (6 - (x10 + 1)).toNat < M29 from by omega)
theorem sm_91_p91 {X29 : Int → Int → Int → lf_Z → Prop} {Q : Int → lf_Z → Prop} {x1 : Int} {x2 : Int} {x3 : Int} {x4 : Int} {x5 : Int} {x7 : Int} {x8 : Int} {x10 : Int} {y0 : Int} {y1 : Int} {s : lf_Z} (hQ : ∀ (r : Int) (s' : lf_Z), iv_A s'.1 s'.2.2 → lf_fq [63, 64, 65, 66] 1000000 true s.1 s.2.2 s'.1 s'.2.2 → (0 ≤ r ∧ r ≤ 1000000) → Q r s') {M29 : Nat} (hX29 : ∀ (x8 : Int) (x9 : Int) (x10 : Int) (s' : lf_Z), iv_A s'.1 s'.2.2 → lf_fq [63, 64, 65, 66] 1000000 true s.1 s.2.2 s'.1 s'.2.2 → (-2147483648) ≤ x8 ∧ x8 ≤ 2147483647 → (-2147483648) ≤ x9 ∧ x9 ≤ 2147483647 → 0 ≤ x10 ∧ x10 ≤ 6 → (6 - x10).toNat < M29 → X29 x8 x9 x10 s') (hM29 : (6 - x10).toNat ≤ M29) (hI : iv_A s.1 s.2.2) (bx1 : (-2147483648) ≤ x1 ∧ x1 ≤ 2147483647) (bx2 : (-1) ≤ x2 ∧ x2 ≤ 11) (bx3 : 0 ≤ x3 ∧ x3 ≤ 15) (bx4 : 0 ≤ x4 ∧ x4 ≤ 1) (bx5 : 0 ≤ x5 ∧ x5 ≤ 1) (bx7 : 0 ≤ x7 ∧ x7 ≤ 11) (bx8 : (-2147483648) ≤ x8 ∧ x8 ≤ 2147483647) (bx10 : 0 ≤ x10 ∧ x10 ≤ 5) (by0 : (-2147483648) ≤ y0 ∧ y0 ≤ 2147483647) (by1 : 0 ≤ y1 ∧ y1 ≤ 1) : fm_91_p91 X29 Q x1 x2 x3 x4 x5 x7 x8 x10 y0 y1 s := by
  unfold fm_91_p91
  have b44 : (-2147483648) ≤ lf_w (y0 + y1) ∧ lf_w (y0 + y1) ≤ 2147483647 := lf_wB
  exact sm_91_p94 hQ hX29 (show (6 - x10).toNat ≤ M29 from by omega) hI (show (-2147483648 : Int) ≤ x1 ∧ x1 ≤ (2147483647 : Int) from by omega) (show (-1 : Int) ≤ x2 ∧ x2 ≤ (11 : Int) from by omega) (show (0 : Int) ≤ x3 ∧ x3 ≤ (15 : Int) from by omega) (show (0 : Int) ≤ x4 ∧ x4 ≤ (1 : Int) from by omega) (show (0 : Int) ≤ x5 ∧ x5 ≤ (1 : Int) from by omega) (show (0 : Int) ≤ x7 ∧ x7 ≤ (11 : Int) from by omega) (show (-2147483648 : Int) ≤ x8 ∧ x8 ≤ (2147483647 : Int) from by omega) (show (-2147483648 : Int) ≤ lf_w (y0 + y1) ∧ lf_w (y0 + y1) ≤ (2147483647 : Int) from by omega) (show (0 : Int) ≤ x10 ∧ x10 ≤ (5 : Int) from by omega)
theorem sm_91_p29 {X29 : Int → Int → Int → lf_Z → Prop} {Q : Int → lf_Z → Prop} {x1 : Int} {x2 : Int} {x3 : Int} {x4 : Int} {x5 : Int} {x7 : Int} {x8 : Int} {x9 : Int} {x10 : Int} {s : lf_Z} (hQ : ∀ (r : Int) (s' : lf_Z), iv_A s'.1 s'.2.2 → lf_fq [63, 64, 65, 66] 1000000 true s.1 s.2.2 s'.1 s'.2.2 → (0 ≤ r ∧ r ≤ 1000000) → Q r s') {M29 : Nat} (hX29 : ∀ (x8 : Int) (x9 : Int) (x10 : Int) (s' : lf_Z), iv_A s'.1 s'.2.2 → lf_fq [63, 64, 65, 66] 1000000 true s.1 s.2.2 s'.1 s'.2.2 → (-2147483648) ≤ x8 ∧ x8 ≤ 2147483647 → (-2147483648) ≤ x9 ∧ x9 ≤ 2147483647 → 0 ≤ x10 ∧ x10 ≤ 6 → (6 - x10).toNat < M29 → X29 x8 x9 x10 s') (hM29 : (6 - x10).toNat ≤ M29) (hI : iv_A s.1 s.2.2) (bx1 : (-2147483648) ≤ x1 ∧ x1 ≤ 2147483647) (bx2 : (-1) ≤ x2 ∧ x2 ≤ 11) (bx3 : 0 ≤ x3 ∧ x3 ≤ 15) (bx4 : 0 ≤ x4 ∧ x4 ≤ 1) (bx5 : 0 ≤ x5 ∧ x5 ≤ 1) (bx7 : 0 ≤ x7 ∧ x7 ≤ 11) (bx8 : (-2147483648) ≤ x8 ∧ x8 ≤ 2147483647) (bx9 : (-2147483648) ≤ x9 ∧ x9 ≤ 2147483647) (bx10 : 0 ≤ x10 ∧ x10 ≤ 6) : fm_91_p29 Q x1 x2 x3 x4 x5 x7 X29 x8 x9 x10 s := by
  unfold fm_91_p29
  have b4 : 0 ≤ s.1 1 2 ∧ s.1 1 2 ≤ 6 := iv_r1_2 hI
  refine ⟨(show lf_R x10 from lf_Rof (by omega)), ?_⟩
  refine ⟨(show lf_R (s.1 1 2) from lf_Rof (by omega)), ?_⟩
  refine ⟨fun c5 => ?_, fun c5 => ?_⟩
  · skip
    replace c5 : s.1 1 2 ≤ x10 := c5
    refine ⟨fun et26 => ?_, fun t26 et26 => ?_⟩
    · skip
      exact sm_91_p118 hQ hI (show (-2147483648 : Int) ≤ x8 ∧ x8 ≤ (2147483647 : Int) from by omega)
    · have htt26 : t26 < 4 := iv_t3 hI et26
      refine ⟨htt26, ?_⟩
      have n3t26 : s.2.2 3 ≠ none := lf_sn3 et26
      refine ⟨fun et28 => ?_, fun t28 et28 => ?_⟩
      · skip
        exact absurd et28 n3t26
      · have htt28 : t28 < 4 := iv_t3 hI et28
        refine ⟨htt28, ?_⟩
        refine sm_40 htt28 hI (show (0 : Int) ≤ 1 ∧ 1 ≤ (12 : Int) from by omega) (fun z30 => ?_)
        refine ⟨fun c8 => ?_, fun c8 => ?_⟩
        · skip
          refine sm_82 hI (show (-2147483648 : Int) ≤ x1 ∧ x1 ≤ (2147483647 : Int) from by omega) (show (-1 : Int) ≤ x2 ∧ x2 ≤ (11 : Int) from by omega) (show (0 : Int) ≤ x5 ∧ x5 ≤ (1 : Int) from by omega) (fun s31 hI10 fr9 => ?_)
          have fr12 : lf_fq [63, 64, 65, 66] 1000000 true s.1 s.2.2 s31.1 s31.2.2 := lf_fq_tr (lf_fq_rf) (lf_fq_wk fr9 rfl (by decide) (by decide))
          have n13 : s31.2.2 3 ≠ none := lf_fq_n3 fr9 rfl n3t26
          refine ⟨(show (0 : Int) ≤ x7 ∧ x7 < (12 : Int) from by omega), ?_⟩
          have b14 : 0 ≤ s31.1 2 x7 ∧ s31.1 2 x7 ≤ 3 := iv_r2 hI10 _
          have b15 : s31.1 2 x7 = s.1 2 x7 := congrFun (fr9.1 2 rfl) _
          have hI16 : iv_A (lf_up s31.1 64 5 (s31.1 2 x7)) s31.2.2 := iv_w64 hI10 (by omega)
          have fr17 : lf_fq [63, 64, 65, 66] 1000000 true s.1 s.2.2 (lf_up s31.1 64 5 (s31.1 2 x7)) s31.2.2 := lf_fq_up fr12 rfl (fun h => absurd h (by decide))
          have hI18 : iv_A (lf_up (lf_up s31.1 64 5 (s31.1 2 x7)) 64 6 x8) s31.2.2 := iv_w64 hI16 (by omega)
          have fr19 : lf_fq [63, 64, 65, 66] 1000000 true s.1 s.2.2 (lf_up (lf_up s31.1 64 5 (s31.1 2 x7)) 64 6 x8) s31.2.2 := lf_fq_up fr17 rfl (fun h => absurd h (by decide))
          have hI20 : iv_A (lf_up (lf_up (lf_up s31.1 64 5 (s31.1 2 x7)) 64 6 x8) 64 7 x9) s31.2.2 := iv_w64 hI18 (by omega)
          have fr21 : lf_fq [63, 64, 65, 66] 1000000 true s.1 s.2.2 (lf_up (lf_up (lf_up s31.1 64 5 (s31.1 2 x7)) 64 6 x8) 64 7 x9) s31.2.2 := lf_fq_up fr19 rfl (fun h => absurd h (by decide))
          have hI22 : iv_A (lf_up (lf_up (lf_up (lf_up s31.1 64 5 (s31.1 2 x7)) 64 6 x8) 64 7 x9) 64 8 x4) s31.2.2 := iv_w64 hI20 (by omega)
          have fr23 : lf_fq [63, 64, 65, 66] 1000000 true s.1 s.2.2 (lf_up (lf_up (lf_up (lf_up s31.1 64 5 (s31.1 2 x7)) 64 6 x8) 64 7 x9) 64 8 x4) s31.2.2 := lf_fq_up fr21 rfl (fun h => absurd h (by decide))
          have hI24 : iv_A (lf_up (lf_up (lf_up (lf_up (lf_up s31.1 64 5 (s31.1 2 x7)) 64 6 x8) 64 7 x9) 64 8 x4) 64 10 x3) s31.2.2 := iv_w64 hI22 (by omega)
          have fr25 : lf_fq [63, 64, 65, 66] 1000000 true s.1 s.2.2 (lf_up (lf_up (lf_up (lf_up (lf_up s31.1 64 5 (s31.1 2 x7)) 64 6 x8) 64 7 x9) 64 8 x4) 64 10 x3) s31.2.2 := lf_fq_up fr23 rfl (fun h => absurd h (by decide))
          refine ⟨fun et33 => ?_, fun t33 et33 => ?_⟩
          · skip
            exact absurd et33 n13
          · have htt33 : t33 < 4 := iv_t3 hI24 et33
            refine ⟨htt33, ?_⟩
            refine sm_84b htt33 hI24 (show (0 : Int) ≤ 1 ∧ 1 ≤ (2 : Int) from by omega) (fun r39 s38 hI33 fr32 q34 => ?_)
            have fr35 : lf_fq [63, 64, 65, 66] 1000000 true s.1 s.2.2 s38.1 s38.2.2 := lf_fq_tr fr25 (lf_fq_wk fr32 rfl (by decide) (by decide))
            have n36 : s38.2.2 3 ≠ none := lf_fq_n3 fr32 rfl n13
            refine sm_55 hI33 (show (-2147483648 : Int) ≤ r39 ∧ r39 ≤ (2147483647 : Int) from by omega) (show (0 : Int) ≤ 0 ∧ 0 ≤ (0 : Int) from by omega) (show (2 : Int) ≤ 10 ∧ 10 ≤ (1000000 : Int) from by omega) (fun r41 q37 => ?_)
            obtain ⟨q37, q37x⟩ := q37
            replace q37x : 0 ≤ r41 ∧ (r41 ≤ 10 ∨ r41 ≤ 0) := q37x
            exact hQ r41 s38 hI33 fr35 (show (0 : Int) ≤ r41 ∧ r41 ≤ (1000000 : Int) from by omega)
        · skip
          exact sm_91_p118 hQ hI (show (-2147483648 : Int) ≤ x8 ∧ x8 ≤ (2147483647 : Int) from by omega)
  · skip
    replace c5 : ¬ (s.1 1 2 ≤ x10) := c5
    refine ⟨(show (0 : Int) ≤ x10 ∧ x10 < (6 : Int) from by omega), ?_⟩
    have b38 : (-2147483648) ≤ s.1 19 x10 ∧ s.1 19 x10 ≤ 2147483647 := iv_full hI
    refine ⟨(show lf_R (s.1 19 x10) from lf_Rof (by omega)), ?_⟩
    refine ⟨(show lf_R x7 from lf_Rof (by omega)), ?_⟩
    refine ⟨fun c39 => ?_, fun c39 => ?_⟩
    · skip
      replace c39 : s.1 19 x10 ≠ x7 := c39
      exact sm_91_p94 hQ hX29 (show (6 - x10).toNat ≤ M29 from by omega) hI (show (-2147483648 : Int) ≤ x1 ∧ x1 ≤ (2147483647 : Int) from by omega) (show (-1 : Int) ≤ x2 ∧ x2 ≤ (11 : Int) from by omega) (show (0 : Int) ≤ x3 ∧ x3 ≤ (15 : Int) from by omega) (show (0 : Int) ≤ x4 ∧ x4 ≤ (1 : Int) from by omega) (show (0 : Int) ≤ x5 ∧ x5 ≤ (1 : Int) from by omega) (show (0 : Int) ≤ x7 ∧ x7 ≤ (11 : Int) from by omega) (show (-2147483648 : Int) ≤ x8 ∧ x8 ≤ (2147483647 : Int) from by omega) (show (-2147483648 : Int) ≤ x9 ∧ x9 ≤ (2147483647 : Int) from by omega) (show (0 : Int) ≤ x10 ∧ x10 ≤ (5 : Int) from by omega)
    · skip
      replace c39 : ¬ (s.1 19 x10 ≠ x7) := c39
      have b40 : 0 ≤ s.1 7 x10 ∧ s.1 7 x10 ≤ 9 := iv_r7 hI _
      have b41 : (-2147483648) ≤ lf_w (x8 + (s.1 7 x10)) ∧ lf_w (x8 + (s.1 7 x10)) ≤ 2147483647 := lf_wB
      have b42 : 0 ≤ s.1 9 x10 ∧ s.1 9 x10 ≤ 1 := iv_r9 hI _
      refine ⟨(show lf_R (s.1 9 x10) from lf_Rof (by omega)), ?_⟩
      refine ⟨fun c43 => ?_, fun c43 => ?_⟩
      · skip
        replace c43 : s.1 9 x10 = 0 := c43
        exact sm_91_p91 hQ hX29 (show (6 - x10).toNat ≤ M29 from by omega) hI (show (-2147483648 : Int) ≤ x1 ∧ x1 ≤ (2147483647 : Int) from by omega) (show (-1 : Int) ≤ x2 ∧ x2 ≤ (11 : Int) from by omega) (show (0 : Int) ≤ x3 ∧ x3 ≤ (15 : Int) from by omega) (show (0 : Int) ≤ x4 ∧ x4 ≤ (1 : Int) from by omega) (show (0 : Int) ≤ x5 ∧ x5 ≤ (1 : Int) from by omega) (show (0 : Int) ≤ x7 ∧ x7 ≤ (11 : Int) from by omega) (show (-2147483648 : Int) ≤ lf_w (x8 + (s.1 7 x10)) ∧ lf_w (x8 + (s.1 7 x10)) ≤ (2147483647 : Int) from by omega) (show (0 : Int) ≤ x10 ∧ x10 ≤ (5 : Int) from by omega) (show (-2147483648 : Int) ≤ x9 ∧ x9 ≤ (2147483647 : Int) from by omega) (show (0 : Int) ≤ 0 ∧ 0 ≤ (1 : Int) from by omega)
      · skip
        replace c43 : ¬ (s.1 9 x10 = 0) := c43
        exact sm_91_p91 hQ hX29 (show (6 - x10).toNat ≤ M29 from by omega) hI (show (-2147483648 : Int) ≤ x1 ∧ x1 ≤ (2147483647 : Int) from by omega) (show (-1 : Int) ≤ x2 ∧ x2 ≤ (11 : Int) from by omega) (show (0 : Int) ≤ x3 ∧ x3 ≤ (15 : Int) from by omega) (show (0 : Int) ≤ x4 ∧ x4 ≤ (1 : Int) from by omega) (show (0 : Int) ≤ x5 ∧ x5 ≤ (1 : Int) from by omega) (show (0 : Int) ≤ x7 ∧ x7 ≤ (11 : Int) from by omega) (show (-2147483648 : Int) ≤ lf_w (x8 + (s.1 7 x10)) ∧ lf_w (x8 + (s.1 7 x10)) ≤ (2147483647 : Int) from by omega) (show (0 : Int) ≤ x10 ∧ x10 ≤ (5 : Int) from by omega) (show (-2147483648 : Int) ≤ x9 ∧ x9 ≤ (2147483647 : Int) from by omega) (show (0 : Int) ≤ 1 ∧ 1 ≤ (1 : Int) from by omega)
theorem sm_91_p29L {Q : Int → lf_Z → Prop} {x1 : Int} {x2 : Int} {x3 : Int} {x4 : Int} {x5 : Int} {x7 : Int} {x8 : Int} {x9 : Int} {x10 : Int} {s : lf_Z} (hQ : ∀ (r : Int) (s' : lf_Z), iv_A s'.1 s'.2.2 → lf_fq [63, 64, 65, 66] 1000000 true s.1 s.2.2 s'.1 s'.2.2 → (0 ≤ r ∧ r ≤ 1000000) → Q r s') (hI : iv_A s.1 s.2.2) (bx1 : (-2147483648) ≤ x1 ∧ x1 ≤ 2147483647) (bx2 : (-1) ≤ x2 ∧ x2 ≤ 11) (bx3 : 0 ≤ x3 ∧ x3 ≤ 15) (bx4 : 0 ≤ x4 ∧ x4 ≤ 1) (bx5 : 0 ≤ x5 ∧ x5 ≤ 1) (bx7 : 0 ≤ x7 ∧ x7 ≤ 11) (bx8 : (-2147483648) ≤ x8 ∧ x8 ≤ 2147483647) (bx9 : (-2147483648) ≤ x9 ∧ x9 ≤ 2147483647) (bx10 : 0 ≤ x10 ∧ x10 ≤ 6) : fm_91_p29L Q x1 x2 x3 x4 x5 x7 x8 x9 x10 s := by
  intro X29 hX
  have key : ∀ (m9 : Nat) (x8 : Int) (x9 : Int) (x10 : Int) (s' : lf_Z), iv_A s'.1 s'.2.2 → lf_fq [63, 64, 65, 66] 1000000 true s.1 s.2.2 s'.1 s'.2.2 → (-2147483648) ≤ x8 ∧ x8 ≤ 2147483647 → (-2147483648) ≤ x9 ∧ x9 ≤ 2147483647 → 0 ≤ x10 ∧ x10 ≤ 6 → (6 - x10).toNat < m9 → X29 x8 x9 x10 s' := by
    intro m9
    induction m9 with
    | zero => intro x8 x9 x10 s' _ _ bx8 bx9 bx10 h9; exact absurd h9 (Nat.not_lt_zero _)
    | succ m9 ih => intro x8 x9 x10 s' i7 f7 bx8 bx9 bx10 h9; exact hX _ _ _ _ (sm_91_p29 (fun r9 t9 i9 f9 => hQ r9 t9 i9 (lf_fq_tr f7 f9))   (fun x8' x9' x10' t8 i8 f8 bx8' bx9' bx10' h8 => ih x8' x9' x10' t8 i8 (lf_fq_tr f7 f8) bx8' bx9' bx10' (by omega)) (Nat.le_refl _)  i7  bx1 bx2 bx3 bx4 bx5 bx7 bx8 bx9 bx10  )
  exact key _ _ _ _ s hI lf_fq_rf bx8 bx9 bx10 (Nat.lt_succ_self _)
theorem sm_91 {a1 : Int} {a2 : Int} {a3 : Int} {a4 : Int} {a5 : Int} {a6 : Int} {Q : Int → lf_Z → Prop} {s : lf_Z} (hI : iv_A s.1 s.2.2) (ba1 : (-2147483648) ≤ a1 ∧ a1 ≤ 2147483647) (ba2 : (-1) ≤ a2 ∧ a2 ≤ 11) (ba3 : 0 ≤ a3 ∧ a3 ≤ 15) (ba4 : 0 ≤ a4 ∧ a4 ≤ 1) (ba5 : 0 ≤ a5 ∧ a5 ≤ 1) (ba6 : (-2147483648) ≤ a6 ∧ a6 ≤ 2147483647) (hQ : ∀ (r : Int) (s' : lf_Z), iv_A s'.1 s'.2.2 → lf_fq [63, 64, 65, 66] 1000000 true s.1 s.2.2 s'.1 s'.2.2 → (0 ≤ r ∧ r ≤ 1000000) → Q r s') : fm_91 a1 a2 a3 a4 a5 a6 Q s := by
  unfold fm_91
  refine sm_78 hI (show (-1 : Int) ≤ a3 ∧ a3 ≤ (15 : Int) from by omega) (show (-2147483648 : Int) ≤ a2 ∧ a2 ≤ (2147483647 : Int) from by omega) (fun r22 q1 => ?_)
  obtain ⟨q1, q1x⟩ := q1
  have b2 : 0 ≤ s.1 1 1 ∧ s.1 1 1 ≤ 16 := iv_r1_1 hI
  replace q1x : r22 = iv_od (s.1 1 1) (s.1 4) (s.1 5) a3 a2 := q1x
  refine ⟨(show lf_R r22 from lf_Rof (by omega)), ?_⟩
  refine ⟨fun c3 => ?_, fun c3 => ?_⟩
  · skip
    replace c3 : r22 ≠ (-1) := c3
    exact sm_91_p29L hQ hI (show (-2147483648 : Int) ≤ a1 ∧ a1 ≤ (2147483647 : Int) from by omega) (show (-1 : Int) ≤ a2 ∧ a2 ≤ (11 : Int) from by omega) (show (0 : Int) ≤ a3 ∧ a3 ≤ (15 : Int) from by omega) (show (0 : Int) ≤ a4 ∧ a4 ≤ (1 : Int) from by omega) (show (0 : Int) ≤ a5 ∧ a5 ≤ (1 : Int) from by omega) (show (0 : Int) ≤ r22 ∧ r22 ≤ (11 : Int) from by omega) (show (-2147483648 : Int) ≤ a6 ∧ a6 ≤ (2147483647 : Int) from by omega) (show (-2147483648 : Int) ≤ 0 ∧ 0 ≤ (2147483647 : Int) from by omega) (show (0 : Int) ≤ 0 ∧ 0 ≤ (6 : Int) from by omega)
  · skip
    replace c3 : ¬ (r22 ≠ (-1)) := c3
    exact hQ 0 s hI (lf_fq_rf) (show (0 : Int) ≤ 0 ∧ 0 ≤ (1000000 : Int) from by omega)
-- fm_94 Stand.renew 15
theorem sm_94 {Q : lf_Z → Prop} {s : lf_Z} (hI : iv_A s.1 s.2.2) (hQ : ∀  (s' : lf_Z), iv_A s'.1 s'.2.2 → lf_fq [15] 1000000 true s.1 s.2.2 s'.1 s'.2.2 → Q  s') : fm_94 Q s := by
  unfold fm_94
  have b1 : (-2147483648) ≤ s.1 15 8 ∧ s.1 15 8 ≤ 2147483647 := iv_full hI
  have b2 : (-2147483648) ≤ lf_w ((s.1 15 8) * 239) ∧ lf_w ((s.1 15 8) * 239) ≤ 2147483647 := lf_wB
  have b3 : (-2147483648) ≤ lf_w ((lf_w ((s.1 15 8) * 239)) + 137) ∧ lf_w ((lf_w ((s.1 15 8) * 239)) + 137) ≤ 2147483647 := lf_wB
  have b4 : (-30202) ≤ (lf_w ((lf_w ((s.1 15 8) * 239)) + 137)).tmod 30203 ∧ (lf_w ((lf_w ((s.1 15 8) * 239)) + 137)).tmod 30203 ≤ 30202 := lf_tmodM (by omega) (by omega)
  have b5 : (lf_w ((lf_w ((s.1 15 8) * 239)) + 137)).tdiv 30203 ≤ 0 ∨ 0 ≤ (lf_w ((lf_w ((s.1 15 8) * 239)) + 137)).tmod 30203 := lf_tmS (by decide)
  have hI6 : iv_A (lf_up s.1 15 8 ((lf_w ((lf_w ((s.1 15 8) * 239)) + 137)).tmod 30203)) s.2.2 := iv_w15_8 hI (by omega)
  have fr7 : lf_fq [15] 1000000 true s.1 s.2.2 (lf_up s.1 15 8 ((lf_w ((lf_w ((s.1 15 8) * 239)) + 137)).tmod 30203)) s.2.2 := lf_fq_up (lf_fq_rf) rfl (fun h => absurd h (by decide))
  exact hQ (lf_up s.1 15 8 ((lf_w ((lf_w ((s.1 15 8) * 239)) + 137)).tmod 30203), s.2.1, s.2.2) hI6 fr7
-- fm_93 Stand.drawByTen 15
theorem sm_93 {Q : Int → lf_Z → Prop} {s : lf_Z} (hI : iv_A s.1 s.2.2) (hQ : ∀ (r : Int) (s' : lf_Z), iv_A s'.1 s'.2.2 → lf_fq [15] 1000000 true s.1 s.2.2 s'.1 s'.2.2 → ((-9) ≤ r ∧ r ≤ 9) → Q r s') : fm_93 Q s := by
  unfold fm_93
  have b1 : (-2147483648) ≤ s.1 15 8 ∧ s.1 15 8 ≤ 2147483647 := iv_full hI
  refine ⟨(show lf_R (s.1 15 8) from lf_Rof (by omega)), ?_⟩
  have b2 : (-9) ≤ (s.1 15 8).tmod 10 ∧ (s.1 15 8).tmod 10 ≤ 9 := lf_tmodM (by omega) (by omega)
  have b3 : (s.1 15 8).tdiv 10 ≤ 0 ∨ 0 ≤ (s.1 15 8).tmod 10 := lf_tmS (by decide)
  refine sm_94 hI (fun s22 hI5 fr4 => ?_)
  have fr7 : lf_fq [15] 1000000 true s.1 s.2.2 s22.1 s22.2.2 := lf_fq_tr (lf_fq_rf) (lf_fq_wk fr4 rfl (by decide) (by decide))
  exact hQ ((s.1 15 8).tmod 10) s22 hI5 fr7 (show (-9 : Int) ≤ (s.1 15 8).tmod 10 ∧ (s.1 15 8).tmod 10 ≤ (9 : Int) from by omega)
-- fm_92 Minutes.isTaken 67 i
theorem sm_92_p10 {Q : Bool → lf_Z → Prop} {x1 : Int} {s : lf_Z} (hQ : ∀ (z : Bool) (s' : lf_Z), iv_A s'.1 s'.2.2 → lf_fq [15] 1000000 true s.1 s.2.2 s'.1 s'.2.2 → Q z s') (hI : iv_A s.1 s.2.2) (bx1 : 0 ≤ x1 ∧ x1 ≤ 10) : fm_92_p10 Q x1 s := by
  unfold fm_92_p10
  refine ⟨(show lf_R x1 from lf_Rof (by omega)), ?_⟩
  refine ⟨fun c2 => ?_, fun c2 => ?_⟩
  · skip
    replace c2 : x1 ≠ 10 := c2
    exact hQ false s hI (lf_fq_rf)
  · skip
    replace c2 : ¬ (x1 ≠ 10) := c2
    exact hQ true s hI (lf_fq_rf)
theorem sm_92 {a1 : Int} {Q : Bool → lf_Z → Prop} {s : lf_Z} (hI : iv_A s.1 s.2.2) (ba1 : 0 ≤ a1 ∧ a1 ≤ 1000000) (hQ : ∀ (z : Bool) (s' : lf_Z), iv_A s'.1 s'.2.2 → lf_fq [15] 1000000 true s.1 s.2.2 s'.1 s'.2.2 → Q z s') : fm_92 a1 Q s := by
  unfold fm_92
  refine ⟨(show lf_R a1 from lf_Rof (by omega)), ?_⟩
  refine ⟨fun c1 => ?_, fun c1 => ?_⟩
  · skip
    replace c1 : a1 = 0 := c1
    exact sm_92_p10 hQ hI (show (0 : Int) ≤ a1 ∧ a1 ≤ (10 : Int) from by omega)
  · skip
    replace c1 : ¬ (a1 = 0) := c1
    refine ⟨fun c3 => ?_, fun c3 => ?_⟩
    · skip
      replace c3 : a1 ≠ 10 := c3
      refine sm_93 hI (fun r24 s23 hI5 fr4 q6 => ?_)
      have fr7 : lf_fq [15] 1000000 true s.1 s.2.2 s23.1 s23.2.2 := lf_fq_tr (lf_fq_rf) (lf_fq_wk fr4 rfl (by decide) (by decide))
      refine ⟨(show lf_R r24 from lf_Rof (by omega)), ?_⟩
      refine ⟨fun c8 => ?_, fun c8 => ?_⟩
      · skip
        replace c8 : a1 ≤ r24 := c8
        exact hQ false s23 hI5 fr7
      · skip
        replace c8 : ¬ (a1 ≤ r24) := c8
        exact hQ true s23 hI5 fr7
    · skip
      replace c3 : ¬ (a1 ≠ 10) := c3
      exact sm_92_p10 hQ hI (show (0 : Int) ≤ a1 ∧ a1 ≤ (10 : Int) from by omega)
-- fm_88 Minutes.moveOn 67 i
theorem sm_88_p153 {X12 : Int → lf_Z → Prop} {Q : lf_Z → Prop} {x1 : Int} {x2 : Int} {x3 : Int} {s : lf_Z} (hQ : ∀  (s' : lf_Z), iv_A s'.1 s'.2.2 → lf_fq [15, 17, 18, 63, 64, 65, 66] 1000000 true s.1 s.2.2 s'.1 s'.2.2 → Q  s') {M12 : Nat} (hX12 : ∀ (x3 : Int) (s' : lf_Z), iv_A s'.1 s'.2.2 → lf_fq [15, 17, 18, 63, 64, 65, 66] 1000000 true s.1 s.2.2 s'.1 s'.2.2 → 0 ≤ x3 ∧ x3 ≤ 4 → (4 - x3).toNat < M12 → X12 x3 s') (hM12 : (4 - x3).toNat ≤ M12) (hI : iv_A s.1 s.2.2) (bx1 : 0 ≤ x1 ∧ x1 ≤ 3) (bx2 : (-1) ≤ x2 ∧ x2 ≤ 11) (bx3 : 0 ≤ x3 ∧ x3 ≤ 3) : fm_88_p153 X12 Q x1 x2 x3 s := by
  unfold fm_88_p153
  exact hX12 (x3 + 1) s hI (lf_fq_rf) (show (0 : Int) ≤ x3 + 1 ∧ x3 + 1 ≤ (4 : Int) from by omega) (show (4 - (x3 + 1)).toNat < M12 from by omega)
theorem sm_88_p99 {X12 : Int → lf_Z → Prop} {Q : lf_Z → Prop} {x1 : Int} {x2 : Int} {x3 : Int} {x4 : Int} {x5 : Int} {y0 : Int} {s : lf_Z} (hQ : ∀  (s' : lf_Z), iv_A s'.1 s'.2.2 → lf_fq [15, 17, 18, 63, 64, 65, 66] 1000000 true s.1 s.2.2 s'.1 s'.2.2 → Q  s') {M12 : Nat} (hX12 : ∀ (x3 : Int) (s' : lf_Z), iv_A s'.1 s'.2.2 → lf_fq [15, 17, 18, 63, 64, 65, 66] 1000000 true s.1 s.2.2 s'.1 s'.2.2 → 0 ≤ x3 ∧ x3 ≤ 4 → (4 - x3).toNat < M12 → X12 x3 s') (hM12 : (4 - x3).toNat ≤ M12) (hI : iv_A s.1 s.2.2) (bx1 : 0 ≤ x1 ∧ x1 ≤ 3) (bx2 : (-1) ≤ x2 ∧ x2 ≤ 11) (bx3 : 0 ≤ x3 ∧ x3 ≤ 3) (bx4 : 0 ≤ x4 ∧ x4 ≤ 15) (bx5 : 0 ≤ x5 ∧ x5 ≤ 11) (by0 : 0 ≤ y0 ∧ y0 ≤ 1) : fm_88_p99 X12 Q x1 x2 x3 x4 x5 y0 s := by
  unfold fm_88_p99
  refine ⟨(show (0 : Int) ≤ x1 ∧ x1 < (4 : Int) from by omega), ?_⟩
  have b17 : (-2147483648) ≤ s.1 16 x1 ∧ s.1 16 x1 ≤ 2147483647 := iv_full hI
  refine sm_91 hI (show (-2147483648 : Int) ≤ s.1 16 x1 ∧ s.1 16 x1 ≤ (2147483647 : Int) from by omega) (show (-1 : Int) ≤ x2 ∧ x2 ≤ (11 : Int) from by omega) (show (0 : Int) ≤ x4 ∧ x4 ≤ (15 : Int) from by omega) (show (0 : Int) ≤ y0 ∧ y0 ≤ (1 : Int) from by omega) (show (0 : Int) ≤ 0 ∧ 0 ≤ (1 : Int) from by omega) (show (-2147483648 : Int) ≤ 0 ∧ 0 ≤ (2147483647 : Int) from by omega) (fun r39 s38 hI19 fr18 q20 => ?_)
  have fr21 : lf_fq [15, 17, 18, 63, 64, 65, 66] 1000000 true s.1 s.2.2 s38.1 s38.2.2 := lf_fq_tr (lf_fq_rf) (lf_fq_wk fr18 rfl (by decide) (by decide))
  refine sm_92 hI19 (show (0 : Int) ≤ r39 ∧ r39 ≤ (1000000 : Int) from by omega) (fun z41 s40 hI23 fr22 => ?_)
  have fr25 : lf_fq [15, 17, 18, 63, 64, 65, 66] 1000000 true s.1 s.2.2 s40.1 s40.2.2 := lf_fq_tr fr21 (lf_fq_wk fr22 rfl (by decide) (by decide))
  refine ⟨fun c26 => ?_, fun c26 => ?_⟩
  · skip
    exact sm_88_p153 (fun t9 i9 f9 => hQ t9 i9 (lf_fq_tr fr25 f9)) (fun p0 t9 i9 f9 => hX12 p0 t9 i9 (lf_fq_tr fr25 f9)) (show (4 - x3).toNat ≤ M12 from by omega) hI23 (show (0 : Int) ≤ x1 ∧ x1 ≤ (3 : Int) from by omega) (show (-1 : Int) ≤ x2 ∧ x2 ≤ (11 : Int) from by omega) (show (0 : Int) ≤ x3 ∧ x3 ≤ (3 : Int) from by omega)
  · skip
    have hI27 : iv_A (lf_up s40.1 18 x1 x2) s40.2.2 := iv_w18 hI23 (by omega)
    have fr28 : lf_fq [15, 17, 18, 63, 64, 65, 66] 1000000 true s.1 s.2.2 (lf_up s40.1 18 x1 x2) s40.2.2 := lf_fq_up fr25 rfl (fun h => absurd h (by decide))
    have b29 : (-2147483648) ≤ s40.1 16 x1 ∧ s40.1 16 x1 ≤ 2147483647 := (show (-2147483648) ≤ (lf_up s40.1 18 x1 x2) 16 x1 ∧ (lf_up s40.1 18 x1 x2) 16 x1 ≤ 2147483647 from iv_full hI27)
    have b30 : s40.1 16 x1 = s38.1 16 x1 := congrFun (fr22.1 16 rfl) _
    have b31 : s38.1 16 x1 = s.1 16 x1 := congrFun (fr18.1 16 rfl) _
    have hI32 : iv_A (lf_up (lf_up s40.1 18 x1 x2) 17 x1 x5) s40.2.2 := iv_w17 hI27 (by omega) (by omega)
    have fr33 : lf_fq [15, 17, 18, 63, 64, 65, 66] 1000000 true s.1 s.2.2 (lf_up (lf_up s40.1 18 x1 x2) 17 x1 x5) s40.2.2 := lf_fq_up fr28 rfl (fun h => absurd h (by decide))
    exact hQ (lf_up (lf_up s40.1 18 x1 x2) 17 x1 x5, s40.2.1, s40.2.2) hI32 fr33
theorem sm_88_p12 {X12 : Int → lf_Z → Prop} {Q : lf_Z → Prop} {x1 : Int} {x2 : Int} {x3 : Int} {s : lf_Z} (hQ : ∀  (s' : lf_Z), iv_A s'.1 s'.2.2 → lf_fq [15, 17, 18, 63, 64, 65, 66] 1000000 true s.1 s.2.2 s'.1 s'.2.2 → Q  s') {M12 : Nat} (hX12 : ∀ (x3 : Int) (s' : lf_Z), iv_A s'.1 s'.2.2 → lf_fq [15, 17, 18, 63, 64, 65, 66] 1000000 true s.1 s.2.2 s'.1 s'.2.2 → 0 ≤ x3 ∧ x3 ≤ 4 → (4 - x3).toNat < M12 → X12 x3 s') (hM12 : (4 - x3).toNat ≤ M12) (hI : iv_A s.1 s.2.2) (bx1 : 0 ≤ x1 ∧ x1 ≤ 3) (bx2 : (-1) ≤ x2 ∧ x2 ≤ 11) (bx3 : 0 ≤ x3 ∧ x3 ≤ 4) : fm_88_p12 Q x1 x2 X12 x3 s := by
  unfold fm_88_p12
  refine sm_76 hI (show (-2147483648 : Int) ≤ x2 ∧ x2 ≤ (2147483647 : Int) from by omega) (fun r23 q3 => ?_)
  refine ⟨(show lf_R x3 from lf_Rof (by omega)), ?_⟩
  refine ⟨(show lf_R r23 from lf_Rof (by omega)), ?_⟩
  refine ⟨fun c4 => ?_, fun c4 => ?_⟩
  · skip
    replace c4 : r23 ≤ x3 := c4
    exact hQ s hI (lf_fq_rf)
  · skip
    replace c4 : ¬ (r23 ≤ x3) := c4
    refine sm_77 hI (show (-2147483648 : Int) ≤ x2 ∧ x2 ≤ (2147483647 : Int) from by omega) (show (0 : Int) ≤ x3 ∧ x3 ≤ (3 : Int) from by omega) (fun r27 q5 => ?_)
    refine sm_78 hI (show (-1 : Int) ≤ r27 ∧ r27 ≤ (15 : Int) from by omega) (show (-2147483648 : Int) ≤ x2 ∧ x2 ≤ (2147483647 : Int) from by omega) (fun r29 q6 => ?_)
    obtain ⟨q6, q6x⟩ := q6
    have b7 : 0 ≤ s.1 1 1 ∧ s.1 1 1 ≤ 16 := iv_r1_1 hI
    replace q6x : r29 = iv_od (s.1 1 1) (s.1 4) (s.1 5) r27 x2 := q6x
    refine ⟨(show lf_R r29 from lf_Rof (by omega)), ?_⟩
    refine ⟨fun c8 => ?_, fun c8 => ?_⟩
    · skip
      replace c8 : r29 = (-1) := c8
      exact sm_88_p153 hQ hX12 (show (4 - x3).toNat ≤ M12 from by omega) hI (show (0 : Int) ≤ x1 ∧ x1 ≤ (3 : Int) from by omega) (show (-1 : Int) ≤ x2 ∧ x2 ≤ (11 : Int) from by omega) (show (0 : Int) ≤ x3 ∧ x3 ≤ (3 : Int) from by omega)
    · skip
      replace c8 : ¬ (r29 = (-1)) := c8
      refine sm_89 hI (show (-2147483648 : Int) ≤ r27 ∧ r27 ≤ (2147483647 : Int) from by omega) (fun z32 q9 => ?_)
      have b10 : 0 ≤ s.1 1 1 ∧ s.1 1 1 ≤ 16 := iv_r1_1 hI
      have b11 : 0 ≤ s.1 6 r27 ∧ s.1 6 r27 ≤ 1 := iv_r6 hI _
      refine ⟨fun c12 => ?_, fun c12 => ?_⟩
      · skip
        have dc12 := q9.2 c12
        exact sm_88_p153 hQ hX12 (show (4 - x3).toNat ≤ M12 from by omega) hI (show (0 : Int) ≤ x1 ∧ x1 ≤ (3 : Int) from by omega) (show (-1 : Int) ≤ x2 ∧ x2 ≤ (11 : Int) from by omega) (show (0 : Int) ≤ x3 ∧ x3 ≤ (3 : Int) from by omega)
      · skip
        have dc12 := q9.1 c12
        refine sm_90 hI (show (0 : Int) ≤ r27 ∧ r27 ≤ (15 : Int) from by omega) (fun z34 => ?_)
        refine ⟨fun c14 => ?_, fun c14 => ?_⟩
        · skip
          refine ⟨(show (0 : Int) ≤ x1 ∧ x1 < (4 : Int) from by omega), ?_⟩
          have b15 : (-1) ≤ s.1 18 x1 ∧ s.1 18 x1 ≤ 11 := iv_r18 hI _
          refine ⟨(show lf_R (s.1 18 x1) from lf_Rof (by omega)), ?_⟩
          refine ⟨fun c16 => ?_, fun c16 => ?_⟩
          · skip
            replace c16 : s.1 18 x1 ≠ r29 := c16
            exact sm_88_p99 hQ hX12 (show (4 - x3).toNat ≤ M12 from by omega) hI (show (0 : Int) ≤ x1 ∧ x1 ≤ (3 : Int) from by omega) (show (-1 : Int) ≤ x2 ∧ x2 ≤ (11 : Int) from by omega) (show (0 : Int) ≤ x3 ∧ x3 ≤ (3 : Int) from by omega) (show (0 : Int) ≤ r27 ∧ r27 ≤ (15 : Int) from by omega) (show (0 : Int) ≤ r29 ∧ r29 ≤ (11 : Int) from by omega) (show (0 : Int) ≤ 0 ∧ 0 ≤ (1 : Int) from by omega)
          · skip
            replace c16 : ¬ (s.1 18 x1 ≠ r29) := c16
            exact sm_88_p99 hQ hX12 (show (4 - x3).toNat ≤ M12 from by omega) hI (show (0 : Int) ≤ x1 ∧ x1 ≤ (3 : Int) from by omega) (show (-1 : Int) ≤ x2 ∧ x2 ≤ (11 : Int) from by omega) (show (0 : Int) ≤ x3 ∧ x3 ≤ (3 : Int) from by omega) (show (0 : Int) ≤ r27 ∧ r27 ≤ (15 : Int) from by omega) (show (0 : Int) ≤ r29 ∧ r29 ≤ (11 : Int) from by omega) (show (0 : Int) ≤ 1 ∧ 1 ≤ (1 : Int) from by omega)
        · skip
          exact sm_88_p153 hQ hX12 (show (4 - x3).toNat ≤ M12 from by omega) hI (show (0 : Int) ≤ x1 ∧ x1 ≤ (3 : Int) from by omega) (show (-1 : Int) ≤ x2 ∧ x2 ≤ (11 : Int) from by omega) (show (0 : Int) ≤ x3 ∧ x3 ≤ (3 : Int) from by omega)
theorem sm_88_p12L {Q : lf_Z → Prop} {x1 : Int} {x2 : Int} {x3 : Int} {s : lf_Z} (hQ : ∀  (s' : lf_Z), iv_A s'.1 s'.2.2 → lf_fq [15, 17, 18, 63, 64, 65, 66] 1000000 true s.1 s.2.2 s'.1 s'.2.2 → Q  s') (hI : iv_A s.1 s.2.2) (bx1 : 0 ≤ x1 ∧ x1 ≤ 3) (bx2 : (-1) ≤ x2 ∧ x2 ≤ 11) (bx3 : 0 ≤ x3 ∧ x3 ≤ 4) : fm_88_p12L Q x1 x2 x3 s := by
  intro X12 hX
  have key : ∀ (m9 : Nat) (x3 : Int) (s' : lf_Z), iv_A s'.1 s'.2.2 → lf_fq [15, 17, 18, 63, 64, 65, 66] 1000000 true s.1 s.2.2 s'.1 s'.2.2 → 0 ≤ x3 ∧ x3 ≤ 4 → (4 - x3).toNat < m9 → X12 x3 s' := by
    intro m9
    induction m9 with
    | zero => intro x3 s' _ _ bx3 h9; exact absurd h9 (Nat.not_lt_zero _)
    | succ m9 ih => intro x3 s' i7 f7 bx3 h9; exact hX _ _ (sm_88_p12 (fun t9 i9 f9 => hQ t9 i9 (lf_fq_tr f7 f9))   (fun x3' t8 i8 f8 bx3' h8 => ih x3' t8 i8 (lf_fq_tr f7 f8) bx3' (by omega)) (Nat.le_refl _)  i7  bx1 bx2 bx3  )
  exact key _ _ s hI lf_fq_rf bx3 (Nat.lt_succ_self _)
theorem sm_88 {a1 : Int} {Q : lf_Z → Prop} {s : lf_Z} (hI : iv_A s.1 s.2.2) (ba1 : 0 ≤ a1 ∧ a1 ≤ 3) (hQ : ∀  (s' : lf_Z), iv_A s'.1 s'.2.2 → lf_fq [15, 17, 18, 63, 64, 65, 66] 1000000 true s.1 s.2.2 s'.1 s'.2.2 → Q  s') : fm_88 a1 Q s := by
  unfold fm_88
  refine ⟨(show (0 : Int) ≤ a1 ∧ a1 < (4 : Int) from by omega), ?_⟩
  have b1 : (-1) ≤ s.1 17 a1 ∧ s.1 17 a1 ≤ 11 := iv_r17 hI _
  have b2 : s.1 16 a1 ≤ 0 ∨ 0 ≤ s.1 17 a1 := (by first | exact (show s.1 16 a1 ≤ 0 ∨ 0 ≤ s.1 17 a1 from iv_sp hI (by omega) (by omega)) | exact iv_sp hI (by omega) (by omega))
  exact sm_88_p12L hQ hI (show (0 : Int) ≤ a1 ∧ a1 ≤ (3 : Int) from by omega) (show (-1 : Int) ≤ s.1 17 a1 ∧ s.1 17 a1 ≤ (11 : Int) from by omega) (show (0 : Int) ≤ 0 ∧ 0 ≤ (4 : Int) from by omega)
