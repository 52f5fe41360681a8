-- cl_139 cluster
theorem sc_139T : ∀ n : Nat, (∀ {a1 a2 a3 : Int} {Q : lf_Z → Prop} {s : lf_Z}, (7 - a1).toNat < n → iv_A s.1 s.2.2 → 0 ≤ a1 ∧ a1 ≤ 6 → 0 ≤ a2 ∧ a2 ≤ 63 → 0 ≤ a3 ∧ a3 ≤ 999 → (∀  (s' : lf_Z), iv_A s'.1 s'.2.2 → lf_fq [74, 76, 77] 1000000 true s.1 s.2.2 s'.1 s'.2.2 → Q  s') → (fc_139T n) a1 a2 a3 Q s)
  | 0 => by intros; omega
  | n + 1 => fun hm hI b1 b2 b3 hQ => sm_139 (MR := n) (sc_139T n) (by omega) hI b1 b2 b3 hQ
theorem sc_139 {a1 : Int} {a2 : Int} {a3 : Int} {Q : lf_Z → Prop} {s : lf_Z} (hI : iv_A s.1 s.2.2) (ba1 : 0 ≤ a1 ∧ a1 ≤ 6) (ba2 : 0 ≤ a2 ∧ a2 ≤ 63) (ba3 : 0 ≤ a3 ∧ a3 ≤ 999) (hQ : ∀  (s' : lf_Z), iv_A s'.1 s'.2.2 → lf_fq [74, 76, 77] 1000000 true s.1 s.2.2 s'.1 s'.2.2 → Q  s') : fc_139 a1 a2 a3 Q s := (sc_139T 200) (by omega) hI ba1 ba2 ba3 hQ
-- fm_137 Errands.sendAll 74 i i
theorem sm_137_p79 {X30 : Int → lf_Z → Prop} {Q : Int → lf_Z → Prop} {x1 : Int} {x2 : Int} {x3 : Int} {s : lf_Z} (hQ : ∀ (r : Int) (s' : lf_Z), iv_A s'.1 s'.2.2 → lf_fq [74, 75, 76, 77] 1000000 true s.1 s.2.2 s'.1 s'.2.2 → ((-2147483648) ≤ r ∧ r ≤ 2147483647) → Q r s') {M30 : Nat} (hX30 : ∀ (x3 : Int) (s' : lf_Z), iv_A s'.1 s'.2.2 → lf_fq [74, 75, 76, 77] 1000000 true s.1 s.2.2 s'.1 s'.2.2 → 0 ≤ x3 ∧ x3 ≤ 12 → (12 - x3).toNat < M30 → X30 x3 s') (hM30 : (12 - x3).toNat ≤ M30) (hI : iv_A s.1 s.2.2) (bx1 : 0 ≤ x1 ∧ x1 ≤ 63) (bx2 : 1 ≤ x2 ∧ x2 ≤ 4095) (bx3 : 0 ≤ x3 ∧ x3 ≤ 11) : fm_137_p79 X30 Q x1 x2 x3 s := by
  unfold fm_137_p79
  exact hX30 (x3 + 1) s hI (lf_fq_rf) (show (0 : Int) ≤ x3 + 1 ∧ x3 + 1 ≤ (12 : Int) from by omega) (show (12 - (x3 + 1)).toNat < M30 from by omega)
theorem sm_137_p30 {X30 : Int → lf_Z → Prop} {Q : Int → lf_Z → Prop} {x1 : Int} {x2 : Int} {x3 : Int} {s : lf_Z} (hQ : ∀ (r : Int) (s' : lf_Z), iv_A s'.1 s'.2.2 → lf_fq [74, 75, 76, 77] 1000000 true s.1 s.2.2 s'.1 s'.2.2 → ((-2147483648) ≤ r ∧ r ≤ 2147483647) → Q r s') {M30 : Nat} (hX30 : ∀ (x3 : Int) (s' : lf_Z), iv_A s'.1 s'.2.2 → lf_fq [74, 75, 76, 77] 1000000 true s.1 s.2.2 s'.1 s'.2.2 → 0 ≤ x3 ∧ x3 ≤ 12 → (12 - x3).toNat < M30 → X30 x3 s') (hM30 : (12 - x3).toNat ≤ M30) (hI : iv_A s.1 s.2.2) (bx1 : 0 ≤ x1 ∧ x1 ≤ 63) (bx2 : 1 ≤ x2 ∧ x2 ≤ 4095) (bx3 : 0 ≤ x3 ∧ x3 ≤ 12) : fm_137_p30 Q x1 x2 X30 x3 s := by
  unfold fm_137_p30
  have b8 : 0 ≤ s.1 1 0 ∧ s.1 1 0 ≤ 12 := iv_r1_0 hI
  refine ⟨(show lf_R x3 from lf_Rof (by omega)), ?_⟩
  refine ⟨(show lf_R (s.1 1 0) from lf_Rof (by omega)), ?_⟩
  refine ⟨fun c9 => ?_, fun c9 => ?_⟩
  · skip
    replace c9 : s.1 1 0 ≤ x3 := c9
    refine sc_139 hI (show (0 : Int) ≤ 0 ∧ 0 ≤ (6 : Int) from by omega) (show (0 : Int) ≤ x1 ∧ x1 ≤ (63 : Int) from by omega) (show (0 : Int) ≤ 0 ∧ 0 ≤ (999 : Int) from by omega) (fun s30 hI11 fr10 => ?_)
    have fr13 : lf_fq [74, 75, 76, 77] 1000000 true s.1 s.2.2 s30.1 s30.2.2 := lf_fq_tr (lf_fq_rf) (lf_fq_wk fr10 rfl (by decide) (by decide))
    have b14 : (-2147483648) ≤ s30.1 74 6 ∧ s30.1 74 6 ≤ 2147483647 := iv_full hI11
    exact hQ (s30.1 74 6) s30 hI11 fr13 (show (-2147483648 : Int) ≤ s30.1 74 6 ∧ s30.1 74 6 ≤ (2147483647 : Int) from by omega)
  · skip
    replace c9 : ¬ (s.1 1 0 ≤ x3) := c9
    have b15 : 0 ≤ lf_shr x2 x3 ∧ lf_shr x2 x3 ≤ 4095 := lf_shrP (by omega) (by omega)
    have b16 : 0 ≤ lf_and (lf_shr x2 x3) 1 ∧ lf_and (lf_shr x2 x3) 1 ≤ 1 := lf_andB (by omega) (by omega)
    refine ⟨fun c17 => ?_, fun c17 => ?_⟩
    · skip
      replace c17 : lf_and (lf_shr x2 x3) 1 ≠ 1 := c17
      exact sm_137_p79 hQ hX30 (show (12 - x3).toNat ≤ M30 from by omega) hI (show (0 : Int) ≤ x1 ∧ x1 ≤ (63 : Int) from by omega) (show (1 : Int) ≤ x2 ∧ x2 ≤ (4095 : Int) from by omega) (show (0 : Int) ≤ x3 ∧ x3 ≤ (11 : Int) from by omega)
    · skip
      replace c17 : ¬ (lf_and (lf_shr x2 x3) 1 ≠ 1) := c17
      have b18 : 0 ≤ s.1 74 5 ∧ s.1 74 5 ≤ 6 := iv_r74_5 hI
      refine ⟨(show lf_R (s.1 74 5) from lf_Rof (by omega)), ?_⟩
      refine ⟨fun c19 => ?_, fun c19 => ?_⟩
      · skip
        replace c19 : 6 ≤ s.1 74 5 := c19
        exact sm_137_p79 hQ hX30 (show (12 - x3).toNat ≤ M30 from by omega) hI (show (0 : Int) ≤ x1 ∧ x1 ≤ (63 : Int) from by omega) (show (1 : Int) ≤ x2 ∧ x2 ≤ (4095 : Int) from by omega) (show (0 : Int) ≤ x3 ∧ x3 ≤ (11 : Int) from by omega)
      · skip
        replace c19 : ¬ (6 ≤ s.1 74 5) := c19
        refine ⟨(show (0 : Int) ≤ s.1 74 5 ∧ s.1 74 5 < (6 : Int) from by omega), ?_⟩
        have hI20 : iv_A (lf_up s.1 75 (s.1 74 5) x3) s.2.2 := iv_w75 hI (by omega)
        have fr21 : lf_fq [74, 75, 76, 77] 1000000 true s.1 s.2.2 (lf_up s.1 75 (s.1 74 5) x3) s.2.2 := lf_fq_up (lf_fq_rf) rfl (fun h => absurd h (by decide))
        have hI22 : iv_A (lf_up (lf_up s.1 75 (s.1 74 5) x3) 74 5 ((s.1 74 5) + 1)) s.2.2 := iv_w74_5 hI20 (by omega)
        have fr23 : lf_fq [74, 75, 76, 77] 1000000 true s.1 s.2.2 (lf_up (lf_up s.1 75 (s.1 74 5) x3) 74 5 ((s.1 74 5) + 1)) s.2.2 := lf_fq_up fr21 rfl (fun h => absurd h (by decide))
        exact sm_137_p79 (fun r9 t9 i9 f9 => hQ r9 t9 i9 (lf_fq_tr fr23 f9)) (fun p0 t9 i9 f9 => hX30 p0 t9 i9 (lf_fq_tr fr23 f9)) (show (12 - x3).toNat ≤ M30 from by omega) hI22 (show (0 : Int) ≤ x1 ∧ x1 ≤ (63 : Int) from by omega) (show (1 : Int) ≤ x2 ∧ x2 ≤ (4095 : Int) from by omega) (show (0 : Int) ≤ x3 ∧ x3 ≤ (11 : Int) from by omega)
theorem sm_137_p30L {Q : Int → lf_Z → Prop} {x1 : Int} {x2 : Int} {x3 : Int} {s : lf_Z} (hQ : ∀ (r : Int) (s' : lf_Z), iv_A s'.1 s'.2.2 → lf_fq [74, 75, 76, 77] 1000000 true s.1 s.2.2 s'.1 s'.2.2 → ((-2147483648) ≤ r ∧ r ≤ 2147483647) → Q r s') (hI : iv_A s.1 s.2.2) (bx1 : 0 ≤ x1 ∧ x1 ≤ 63) (bx2 : 1 ≤ x2 ∧ x2 ≤ 4095) (bx3 : 0 ≤ x3 ∧ x3 ≤ 12) : fm_137_p30L Q x1 x2 x3 s := by
  intro X30 hX
  have key : ∀ (m9 : Nat) (x3 : Int) (s' : lf_Z), iv_A s'.1 s'.2.2 → lf_fq [74, 75, 76, 77] 1000000 true s.1 s.2.2 s'.1 s'.2.2 → 0 ≤ x3 ∧ x3 ≤ 12 → (12 - x3).toNat < m9 → X30 x3 s' := by
    intro m9
    induction m9 with
    | zero => intro x3 s' _ _ bx3 h9; exact absurd h9 (Nat.not_lt_zero _)
    | succ m9 ih => intro x3 s' i7 f7 bx3 h9; exact hX _ _ (sm_137_p30 (fun r9 t9 i9 f9 => hQ r9 t9 i9 (lf_fq_tr f7 f9))   (fun x3' t8 i8 f8 bx3' h8 => ih x3' t8 i8 (lf_fq_tr f7 f8) bx3' (by omega)) (Nat.le_refl _)  i7  bx1 bx2 bx3  )
  exact key _ _ s hI lf_fq_rf bx3 (Nat.lt_succ_self _)
theorem sm_137 {a1 : Int} {a2 : Int} {Q : Int → lf_Z → Prop} {s : lf_Z} (hI : iv_A s.1 s.2.2) (ba1 : 0 ≤ a1 ∧ a1 ≤ 63) (ba2 : 1 ≤ a2 ∧ a2 ≤ 4095) (hQ : ∀ (r : Int) (s' : lf_Z), iv_A s'.1 s'.2.2 → lf_fq [74, 75, 76, 77] 1000000 true s.1 s.2.2 s'.1 s'.2.2 → ((-2147483648) ≤ r ∧ r ≤ 2147483647) → Q r s') : fm_137 a1 a2 Q s := by
  unfold fm_137
  have hI1 : iv_A (lf_up s.1 74 6 (-1)) s.2.2 := iv_w74_6 hI (by omega)
  have fr2 : lf_fq [74, 75, 76, 77] 1000000 true s.1 s.2.2 (lf_up s.1 74 6 (-1)) s.2.2 := lf_fq_up (lf_fq_rf) rfl (fun h => absurd h (by decide))
  have hI3 : iv_A (lf_up (lf_up s.1 74 6 (-1)) 74 5 0) s.2.2 := iv_w74_5 hI1 (by omega)
  have fr4 : lf_fq [74, 75, 76, 77] 1000000 true s.1 s.2.2 (lf_up (lf_up s.1 74 6 (-1)) 74 5 0) s.2.2 := lf_fq_up fr2 rfl (fun h => absurd h (by decide))
  refine sm_138 hI3 (show (0 : Int) ≤ a2 ∧ a2 ≤ (4095 : Int) from by omega) (fun r22 q5 => ?_)
  refine sm_138 hI3 (show (0 : Int) ≤ a1 ∧ a1 ≤ (4095 : Int) from by omega) (fun r24 q6 => ?_)
  refine ⟨(show lf_R r24 from lf_Rof (by omega)), ?_⟩
  refine ⟨(show lf_R r22 from lf_Rof (by omega)), ?_⟩
  refine ⟨(show lf_R (min 6 r24) from lf_Rof (by omega)), ?_⟩
  refine ⟨fun c7 => ?_, fun c7 => ?_⟩
  · skip
    replace c7 : r22 ≤ min 6 r24 := c7
    exact sm_137_p30L (fun r9 t9 i9 f9 => hQ r9 t9 i9 (lf_fq_tr fr4 f9)) hI3 (show (0 : Int) ≤ a1 ∧ a1 ≤ (63 : Int) from by omega) (show (1 : Int) ≤ a2 ∧ a2 ≤ (4095 : Int) from by omega) (show (0 : Int) ≤ 0 ∧ 0 ≤ (12 : Int) from by omega)
  · skip
    replace c7 : ¬ (r22 ≤ min 6 r24) := c7
    exact hQ (-1) (lf_up (lf_up s.1 74 6 (-1)) 74 5 0, s.2.1, s.2.2) hI3 fr4 (show (-2147483648 : Int) ≤ (-1) ∧ (-1) ≤ (2147483647 : Int) from by omega)
-- fm_141 Errands.whoGoesTo 74 i
theorem sm_141_p2 {X2 : Int → lf_Z → Prop} {Q : Int → lf_Z → Prop} {x1 : Int} {x2 : Int} {s : lf_Z} (hQ : ∀ (r : Int), ((-1) ≤ r ∧ r ≤ 5) → Q r s) {M2 : Nat} (hX2 : ∀ (x2 : Int), 0 ≤ x2 ∧ x2 ≤ 6 → (6 - x2).toNat < M2 → X2 x2 s) (hM2 : (6 - x2).toNat ≤ M2) (hI : iv_A s.1 s.2.2) (bx1 : 0 ≤ x1 ∧ x1 ≤ 11) (bx2 : 0 ≤ x2 ∧ x2 ≤ 6) : fm_141_p2 Q x1 X2 x2 s := by
  unfold fm_141_p2
  have b1 : 0 ≤ s.1 74 5 ∧ s.1 74 5 ≤ 6 := iv_r74_5 hI
  refine ⟨(show lf_R x2 from lf_Rof (by omega)), ?_⟩
  refine ⟨(show lf_R (s.1 74 5) from lf_Rof (by omega)), ?_⟩
  refine ⟨fun c2 => ?_, fun c2 => ?_⟩
  · skip
    replace c2 : s.1 74 5 ≤ x2 := c2
    exact hQ (-1) (show (-1 : Int) ≤ (-1) ∧ (-1) ≤ (5 : Int) from by omega)
  · skip
    replace c2 : ¬ (s.1 74 5 ≤ x2) := c2
    have b3 : (-2147483648) ≤ s.1 74 6 ∧ s.1 74 6 ≤ 2147483647 := iv_full hI
    refine ⟨(show lf_R (s.1 74 6) from lf_Rof (by omega)), ?_⟩
    refine ⟨fun c4 => ?_, fun c4 => ?_⟩
    · skip
      replace c4 : s.1 74 6 = (-1) := c4
      exact hQ (-1) (show (-1 : Int) ≤ (-1) ∧ (-1) ≤ (5 : Int) from by omega)
    · skip
      replace c4 : ¬ (s.1 74 6 = (-1)) := c4
      refine ⟨(show (0 : Int) ≤ x2 ∧ x2 < (6 : Int) from by omega), ?_⟩
      have b5 : (-2147483648) ≤ s.1 75 x2 ∧ s.1 75 x2 ≤ 2147483647 := iv_full hI
      refine ⟨(show lf_R (s.1 75 x2) from lf_Rof (by omega)), ?_⟩
      refine ⟨(show lf_R x1 from lf_Rof (by omega)), ?_⟩
      refine ⟨fun c6 => ?_, fun c6 => ?_⟩
      · skip
        replace c6 : s.1 75 x2 ≠ x1 := c6
        exact hX2 (x2 + 1) (show (0 : Int) ≤ x2 + 1 ∧ x2 + 1 ≤ (6 : Int) from by omega) (show (6 - (x2 + 1)).toNat < M2 from by omega)
      · skip
        replace c6 : ¬ (s.1 75 x2 ≠ x1) := c6
        have b7 : 0 ≤ s.1 77 x2 ∧ s.1 77 x2 ≤ 5 := iv_r77 hI _
        exact hQ (s.1 77 x2) (show (-1 : Int) ≤ s.1 77 x2 ∧ s.1 77 x2 ≤ (5 : Int) from by omega)
theorem sm_141_p2L {Q : Int → lf_Z → Prop} {x1 : Int} {x2 : Int} {s : lf_Z} (hQ : ∀ (r : Int), ((-1) ≤ r ∧ r ≤ 5) → Q r s) (hI : iv_A s.1 s.2.2) (bx1 : 0 ≤ x1 ∧ x1 ≤ 11) (bx2 : 0 ≤ x2 ∧ x2 ≤ 6) : fm_141_p2L Q x1 x2 s := by
  intro X2 hX
  have key : ∀ (m9 : Nat) (x2 : Int), 0 ≤ x2 ∧ x2 ≤ 6 → (6 - x2).toNat < m9 → X2 x2 s := by
    intro m9
    induction m9 with
    | zero => intro x2 bx2 h9; exact absurd h9 (Nat.not_lt_zero _)
    | succ m9 ih => intro x2 bx2 h9; exact hX _ _ (sm_141_p2 hQ   (fun x2' bx2' h8 => ih x2' bx2' (by omega)) (Nat.le_refl _)  hI  bx1 bx2  )
  exact key _ _ bx2   (Nat.lt_succ_self _)
theorem sm_141 {a1 : Int} {Q : Int → lf_Z → Prop} {s : lf_Z} (hI : iv_A s.1 s.2.2) (ba1 : 0 ≤ a1 ∧ a1 ≤ 11) (hQ : ∀ (r : Int), ((-1) ≤ r ∧ r ≤ 5) → Q r s) : fm_141 a1 Q s := by
  unfold fm_141
  exact sm_141_p2L hQ hI (show (0 : Int) ≤ a1 ∧ a1 ≤ (11 : Int) from by omega) (show (0 : Int) ≤ 0 ∧ 0 ≤ (6 : Int) from by omega)
-- fm_136 ElevenBullocks.whom 0 i i i
theorem sm_136_p66 {Q : Int → lf_Z → Prop} {x1 : Int} {x2 : Int} {x3 : Int} {s : lf_Z} (hQ : ∀ (r : Int) (s' : lf_Z), iv_A s'.1 s'.2.2 → lf_fq [74, 75, 76, 77] 1000000 true s.1 s.2.2 s'.1 s'.2.2 → ((-2147483648) ≤ r ∧ r ≤ 2147483647) → Q r s') (hI : iv_A s.1 s.2.2) (bx1 : 0 ≤ x1 ∧ x1 ≤ 63) (bx2 : 1 ≤ x2 ∧ x2 ≤ 4095) (bx3 : (-1) ≤ x3 ∧ x3 ≤ 11) : fm_136_p66 Q x1 x2 x3 s := by
  unfold fm_136_p66
  refine sm_137 hI (show (0 : Int) ≤ x1 ∧ x1 ≤ (63 : Int) from by omega) (show (1 : Int) ≤ x2 ∧ x2 ≤ (4095 : Int) from by omega) (fun r27 s26 hI11 fr10 q12 => ?_)
  have fr13 : lf_fq [74, 75, 76, 77] 1000000 true s.1 s.2.2 s26.1 s26.2.2 := lf_fq_tr (lf_fq_rf) (lf_fq_wk fr10 rfl (by decide) (by decide))
  refine ⟨(show lf_R x3 from lf_Rof (by omega)), ?_⟩
  refine ⟨fun c14 => ?_, fun c14 => ?_⟩
  · skip
    replace c14 : x3 ≠ (-1) := c14
    refine sm_141 hI11 (show (0 : Int) ≤ x3 ∧ x3 ≤ (11 : Int) from by omega) (fun r30 q15 => ?_)
    exact hQ r30 s26 hI11 fr13 (show (-2147483648 : Int) ≤ r30 ∧ r30 ≤ (2147483647 : Int) from by omega)
  · skip
    replace c14 : ¬ (x3 ≠ (-1)) := c14
    exact hQ r27 s26 hI11 fr13 (show (-2147483648 : Int) ≤ r27 ∧ r27 ≤ (2147483647 : Int) from by omega)
theorem sm_136 {a1 : Int} {a2 : Int} {a3 : Int} {Q : Int → lf_Z → Prop} {s : lf_Z} (hI : iv_A s.1 s.2.2) (ba1 : (-2147483648) ≤ a1 ∧ a1 ≤ 2147483647) (ba2 : (-2147483648) ≤ a2 ∧ a2 ≤ 2147483647) (ba3 : (-2147483648) ≤ a3 ∧ a3 ≤ 2147483647) (hQ : ∀ (r : Int) (s' : lf_Z), iv_A s'.1 s'.2.2 → lf_fq [74, 75, 76, 77] 1000000 true s.1 s.2.2 s'.1 s'.2.2 → ((-2147483648) ≤ r ∧ r ≤ 2147483647) → Q r s') : fm_136 a1 a2 a3 Q s := by
  unfold fm_136
  have b1 : 0 ≤ s.1 1 2 ∧ s.1 1 2 ≤ 6 := iv_r1_2 hI
  have b2 : 1 ≤ lf_shl 1 (s.1 1 2) ∧ lf_shl 1 (s.1 1 2) ≤ 64 := lf_shl1 (m := 6) (by omega) (by omega) (by decide)
  refine sm_15 hI (show (-2147483648 : Int) ≤ a1 ∧ a1 ≤ (2147483647 : Int) from by omega) (show (-1 : Int) ≤ 0 ∧ 0 ≤ (99 : Int) from by omega) (show (-2147483648 : Int) ≤ (lf_shl 1 (s.1 1 2)) - 1 ∧ (lf_shl 1 (s.1 1 2)) - 1 ≤ (2147483647 : Int) from by omega) (fun z22 q3 => ?_)
  refine ⟨fun c4 => ?_, fun c4 => ?_⟩
  · skip
    have dc4 := q3.2 c4
    exact hQ (-1) s hI (lf_fq_rf) (show (-2147483648 : Int) ≤ (-1) ∧ (-1) ≤ (2147483647 : Int) from by omega)
  · skip
    have dc4 := q3.1 c4
    have b5 : 0 ≤ s.1 1 0 ∧ s.1 1 0 ≤ 12 := iv_r1_0 hI
    have b6 : 1 ≤ lf_shl 1 (s.1 1 0) ∧ lf_shl 1 (s.1 1 0) ≤ 4096 := lf_shl1 (m := 12) (by omega) (by omega) (by decide)
    refine sm_15 hI (show (-2147483648 : Int) ≤ a2 ∧ a2 ≤ (2147483647 : Int) from by omega) (show (-1 : Int) ≤ 1 ∧ 1 ≤ (99 : Int) from by omega) (show (-2147483648 : Int) ≤ (lf_shl 1 (s.1 1 0)) - 1 ∧ (lf_shl 1 (s.1 1 0)) - 1 ≤ (2147483647 : Int) from by omega) (fun z24 q7 => ?_)
    refine ⟨fun c8 => ?_, fun c8 => ?_⟩
    · skip
      have dc8 := q7.1 c8
      refine ⟨(show lf_R a3 from lf_Rof (by omega)), ?_⟩
      refine ⟨fun c9 => ?_, fun c9 => ?_⟩
      · skip
        replace c9 : a3 = (-1) := c9
        exact sm_136_p66 hQ hI (show (0 : Int) ≤ a1 ∧ a1 ≤ (63 : Int) from by omega) (show (1 : Int) ≤ a2 ∧ a2 ≤ (4095 : Int) from by omega) (show (-1 : Int) ≤ a3 ∧ a3 ≤ (11 : Int) from by omega)
      · skip
        replace c9 : ¬ (a3 = (-1)) := c9
        refine sm_18 hI (show (-2147483648 : Int) ≤ a3 ∧ a3 ≤ (2147483647 : Int) from by omega) (fun z32 q16 => ?_)
        refine ⟨fun c17 => ?_, fun c17 => ?_⟩
        · skip
          have dc17 := q16.2 c17
          exact hQ (-1) s hI (lf_fq_rf) (show (-2147483648 : Int) ≤ (-1) ∧ (-1) ≤ (2147483647 : Int) from by omega)
        · skip
          have dc17 := q16.1 c17
          have b18 : 0 ≤ lf_shr a2 a3 ∧ lf_shr a2 a3 ≤ 4095 := lf_shrP (by omega) (by omega)
          have b19 : 0 ≤ lf_and (lf_shr a2 a3) 1 ∧ lf_and (lf_shr a2 a3) 1 ≤ 1 := lf_andB (by omega) (by omega)
          refine ⟨fun c20 => ?_, fun c20 => ?_⟩
          · skip
            replace c20 : lf_and (lf_shr a2 a3) 1 ≠ 0 := c20
            exact sm_136_p66 hQ hI (show (0 : Int) ≤ a1 ∧ a1 ≤ (63 : Int) from by omega) (show (1 : Int) ≤ a2 ∧ a2 ≤ (4095 : Int) from by omega) (show (-1 : Int) ≤ a3 ∧ a3 ≤ (11 : Int) from by omega)
          · skip
            replace c20 : ¬ (lf_and (lf_shr a2 a3) 1 ≠ 0) := c20
            exact hQ (-1) s hI (lf_fq_rf) (show (-2147483648 : Int) ≤ (-1) ∧ (-1) ≤ (2147483647 : Int) from by omega)
    · skip
      have dc8 := q7.2 c8
      exact hQ (-1) s hI (lf_fq_rf) (show (-2147483648 : Int) ≤ (-1) ∧ (-1) ≤ (2147483647 : Int) from by omega)
-- fm_301 Model.layOut i 113
theorem sm_301_p28 {X4 : Int → Int → lf_Z → Prop} {Q : Int → lf_Z → Prop} {x0 : Int} {x2 : Int} {x3 : Int} {s : lf_Z} {s0 : lf_Z} (hQ : ∀ (r : Int) (s' : lf_Z), iv_A s'.1 s'.2.2 → lf_fq [113] 1000000 true s.1 s.2.2 s'.1 s'.2.2 → (r = lf_bt (x0) 12) → (lo_C (s'.1 113) (x0) (r) 12) → (0 ≤ r ∧ r ≤ 6) → Q r s') {M4 : Nat} (hX4 : ∀ (x2 : Int) (x3 : Int) (s' : lf_Z), iv_A s'.1 s'.2.2 → lf_fq [113] 1000000 true s.1 s.2.2 s'.1 s'.2.2 → 0 ≤ x2 ∧ x2 ≤ 6 → 0 ≤ x3 ∧ x3 ≤ 12 → (x2 = lf_bt (x0) (x3)) → (x2 ≤ x3) → (lo_C (s'.1 113) (x0) (x2) (x3)) → (12 - x3).toNat < M4 → X4 x2 x3 s') (hM4 : (12 - x3).toNat ≤ M4) (hI : iv_A s.1 s.2.2) (bx0 : 0 ≤ x0 ∧ x0 ≤ 63) (bx2 : 0 ≤ x2 ∧ x2 ≤ 6) (bx3 : 0 ≤ x3 ∧ x3 ≤ 11) (kv0 : x2 = lf_bt (x0) (x3 + 1)) (kv1 : x2 ≤ x3 + 1) (kv2 : lo_C (s.1 113) (x0) (x2) (x3 + 1)) : fm_301_p28 X4 Q x0 x2 x3 s := by
  unfold fm_301_p28
  have b14 : lf_bt (x0) 0 = 0 := rfl
  have b15 : lo_C ((s.1 113)) (x0) (x2) ((x3 + 1)) := by first | with_reducible assumption | exact (fun q a b => by omega)
  exact hX4 (x2) (x3 + 1) s hI (lf_fq_rf) (show (0 : Int) ≤ x2 ∧ x2 ≤ (6 : Int) from by omega) (show (0 : Int) ≤ x3 + 1 ∧ x3 + 1 ≤ (12 : Int) from by omega) (show x2 = lf_bt (x0) ((x3 + 1)) from by omega) (show x2 ≤ (x3 + 1) from by omega) (show lo_C ((s.1 113)) (x0) (x2) ((x3 + 1)) from by first | with_reducible assumption | assumption) (show (12 - (x3 + 1)).toNat < M4 from by omega)
theorem sm_301_p4 {X4 : Int → Int → lf_Z → Prop} {Q : Int → lf_Z → Prop} {x0 : Int} {x2 : Int} {x3 : Int} {s : lf_Z} {s0 : lf_Z} (hQ : ∀ (r : Int) (s' : lf_Z), iv_A s'.1 s'.2.2 → lf_fq [113] 1000000 true s.1 s.2.2 s'.1 s'.2.2 → (r = lf_bt (x0) 12) → (lo_C (s'.1 113) (x0) (r) 12) → (0 ≤ r ∧ r ≤ 6) → Q r s') {M4 : Nat} (hX4 : ∀ (x2 : Int) (x3 : Int) (s' : lf_Z), iv_A s'.1 s'.2.2 → lf_fq [113] 1000000 true s.1 s.2.2 s'.1 s'.2.2 → 0 ≤ x2 ∧ x2 ≤ 6 → 0 ≤ x3 ∧ x3 ≤ 12 → (x2 = lf_bt (x0) (x3)) → (x2 ≤ x3) → (lo_C (s'.1 113) (x0) (x2) (x3)) → (12 - x3).toNat < M4 → X4 x2 x3 s') (hM4 : (12 - x3).toNat ≤ M4) (hI : iv_A s.1 s.2.2) (bx0 : 0 ≤ x0 ∧ x0 ≤ 63) (bx2 : 0 ≤ x2 ∧ x2 ≤ 6) (bx3 : 0 ≤ x3 ∧ x3 ≤ 12) (kv0 : x2 = lf_bt (x0) (x3)) (kv1 : x2 ≤ x3) (kv2 : lo_C (s.1 113) (x0) (x2) (x3)) : fm_301_p4 Q x0 X4 x2 x3 s := by
  unfold fm_301_p4
  refine ⟨(show lf_R x3 from lf_Rof (by omega)), ?_⟩
  refine ⟨fun c3 => ?_, fun c3 => ?_⟩
  · skip
    replace c3 : 12 ≤ x3 := c3
    have b4 : lf_bt (x0) (x3) = lf_bt (x0) 12 := congrArg (lf_bt x0) (by omega)
    have b5 : lo_C ((s.1 113)) (x0) (x2) 12 := lo_CK kv2 (by omega)
    exact hQ x2 s hI (lf_fq_rf) (show x2 = lf_bt (x0) 12 from by omega) (show lo_C ((s.1 113)) (x0) (x2) 12 from by first | with_reducible assumption | assumption) (show (0 : Int) ≤ x2 ∧ x2 ≤ (6 : Int) from by omega)
  · skip
    replace c3 : ¬ (12 ≤ x3) := c3
    have b6 : lf_bt (x0) (x3 + 1) = lf_bt (x0) (x3) + lf_and (lf_shr (x0) (x3)) 1 := lf_btS (by omega)
    have b7 : 0 ≤ lf_and (lf_shr (x0) (x3)) 1 ∧ lf_and (lf_shr (x0) (x3)) 1 ≤ 1 := lf_and01
    refine sm_210 hI (show (-2147483648 : Int) ≤ x0 ∧ x0 ≤ (2147483647 : Int) from by omega) (show (-1 : Int) ≤ x3 ∧ x3 ≤ (15 : Int) from by omega) (fun z23 q8 => ?_)
    refine ⟨fun c9 => ?_, fun c9 => ?_⟩
    · skip
      have dc9 := q8.1 c9
      have b10 : 64 ≤ x0 ∨ x0 < 0 ∨ x3 < 0 ∨ 31 < x3 ∨ x3 < 6 := lf_hasB (by omega)
      refine ⟨(show (0 : Int) ≤ x2 ∧ x2 < (6 : Int) from by omega), ?_⟩
      have hI11 : iv_A (lf_up s.1 113 x2 x3) s.2.2 := iv_w113 hI (by omega)
      have fr12 : lf_fq [113] 1000000 true s.1 s.2.2 (lf_up s.1 113 x2 x3) s.2.2 := lf_fq_up (lf_fq_rf) rfl (fun h => absurd h (by decide))
      have b13 : lo_C (((lf_up s.1 113 x2 x3) 113)) (x0) ((x2 + 1)) (x3 + 1) := by first | exact lo_C1 kv2 (by omega) lf_up_s (fun j hj => lf_up_i hj) | exact lo_C0 kv2 (by omega)
      exact sm_301_p28 (s0 := s0) (fun r9 t9 i9 f9 => hQ r9 t9 i9 (lf_fq_tr fr12 f9)) (fun p0 p1 t9 i9 f9 => hX4 p0 p1 t9 i9 (lf_fq_tr fr12 f9)) (show (12 - x3).toNat ≤ M4 from by omega) hI11 (show (0 : Int) ≤ x0 ∧ x0 ≤ (63 : Int) from by omega) (show (0 : Int) ≤ x2 + 1 ∧ x2 + 1 ≤ (6 : Int) from by omega) (show (0 : Int) ≤ x3 ∧ x3 ≤ (11 : Int) from by omega) (show (x2 + 1) = lf_bt (x0) (x3 + 1) from by omega) (show (x2 + 1) ≤ x3 + 1 from by omega) (show lo_C (((lf_up s.1 113 x2 x3) 113)) (x0) ((x2 + 1)) (x3 + 1) from by first | with_reducible assumption | assumption)
    · skip
      have dc9 := q8.2 c9
      have b16 : lo_C ((s.1 113)) (x0) (x2) (x3 + 1) := by first | exact lo_C1 kv2 (by omega) lf_up_s (fun j hj => lf_up_i hj) | exact lo_C0 kv2 (by omega)
      exact sm_301_p28 (s0 := s0) hQ hX4 (show (12 - x3).toNat ≤ M4 from by omega) hI (show (0 : Int) ≤ x0 ∧ x0 ≤ (63 : Int) from by omega) (show (0 : Int) ≤ x2 ∧ x2 ≤ (6 : Int) from by omega) (show (0 : Int) ≤ x3 ∧ x3 ≤ (11 : Int) from by omega) (show x2 = lf_bt (x0) (x3 + 1) from by omega) (show x2 ≤ x3 + 1 from by omega) (show lo_C ((s.1 113)) (x0) (x2) (x3 + 1) from by first | with_reducible assumption | assumption)
theorem sm_301_p4L {Q : Int → lf_Z → Prop} {x0 : Int} {x2 : Int} {x3 : Int} {s : lf_Z} {s0 : lf_Z} (hQ : ∀ (r : Int) (s' : lf_Z), iv_A s'.1 s'.2.2 → lf_fq [113] 1000000 true s.1 s.2.2 s'.1 s'.2.2 → (r = lf_bt (x0) 12) → (lo_C (s'.1 113) (x0) (r) 12) → (0 ≤ r ∧ r ≤ 6) → Q r s') (hI : iv_A s.1 s.2.2) (bx0 : 0 ≤ x0 ∧ x0 ≤ 63) (bx2 : 0 ≤ x2 ∧ x2 ≤ 6) (bx3 : 0 ≤ x3 ∧ x3 ≤ 12) (kv0 : x2 = lf_bt (x0) (x3)) (kv1 : x2 ≤ x3) (kv2 : lo_C (s.1 113) (x0) (x2) (x3)) : fm_301_p4L Q x0 x2 x3 s := by
  intro X4 hX
  have key : ∀ (m9 : Nat) (x2 : Int) (x3 : Int) (s' : lf_Z), iv_A s'.1 s'.2.2 → lf_fq [113] 1000000 true s.1 s.2.2 s'.1 s'.2.2 → 0 ≤ x2 ∧ x2 ≤ 6 → 0 ≤ x3 ∧ x3 ≤ 12 → (x2 = lf_bt (x0) (x3)) → (x2 ≤ x3) → (lo_C (s'.1 113) (x0) (x2) (x3)) → (12 - x3).toNat < m9 → X4 x2 x3 s' := by
    intro m9
    induction m9 with
    | zero => intro x2 x3 s' _ _ bx2 bx3 kv0 kv1 kv2 h9; exact absurd h9 (Nat.not_lt_zero _)
    | succ m9 ih => intro x2 x3 s' i7 f7 bx2 bx3 kv0 kv1 kv2 h9; exact hX _ _ _ (sm_301_p4 (s0 := s0) (fun r9 t9 i9 f9 => hQ r9 t9 i9 (lf_fq_tr f7 f9))   (fun x2' x3' t8 i8 f8 bx2' bx3' kv0' kv1' kv2' h8 => ih x2' x3' t8 i8 (lf_fq_tr f7 f8) bx2' bx3' kv0' kv1' kv2' (by omega)) (Nat.le_refl _)  i7  bx0 bx2 bx3  kv0 kv1 kv2)
  exact key _ _ _ s hI lf_fq_rf bx2 bx3 kv0 kv1 kv2 (Nat.lt_succ_self _)
theorem sm_301 {a0 : Int} {Q : Int → lf_Z → Prop} {s : lf_Z} (hI : iv_A s.1 s.2.2) (ba0 : 0 ≤ a0 ∧ a0 ≤ 63) (hQ : ∀ (r : Int) (s' : lf_Z), iv_A s'.1 s'.2.2 → lf_fq [113] 1000000 true s.1 s.2.2 s'.1 s'.2.2 → (r = lf_bt (a0) 12) → (lo_C (s'.1 113) (a0) (r) 12) → (0 ≤ r ∧ r ≤ 6) → Q r s') : fm_301 a0 Q s := by
  unfold fm_301
  have b1 : lf_bt (a0) 0 = 0 := rfl
  have b2 : lo_C ((s.1 113)) (a0) (0) (0) := by first | with_reducible assumption | exact (fun q a b => by omega)
  exact sm_301_p4L (s0 := s) hQ hI (show (0 : Int) ≤ a0 ∧ a0 ≤ (63 : Int) from by omega) (show (0 : Int) ≤ 0 ∧ 0 ≤ (6 : Int) from by omega) (show (0 : Int) ≤ 0 ∧ 0 ≤ (12 : Int) from by omega) (show 0 = lf_bt (a0) (0) from by omega) (show 0 ≤ 0 from by omega) (show lo_C ((s.1 113)) (a0) (0) (0) from by first | with_reducible assumption | assumption)
-- fm_301b Model.layOut i 114
theorem sm_301b_p28 {X4 : Int → Int → lf_Z → Prop} {Q : Int → lf_Z → Prop} {x0 : Int} {x2 : Int} {x3 : Int} {s : lf_Z} {s0 : lf_Z} (hQ : ∀ (r : Int) (s' : lf_Z), iv_A s'.1 s'.2.2 → lf_fq [114] 1000000 true s.1 s.2.2 s'.1 s'.2.2 → (r = lf_bt (x0) 12) → (lo_C (s'.1 114) (x0) (r) 12) → (0 ≤ r ∧ r ≤ 12) → Q r s') {M4 : Nat} (hX4 : ∀ (x2 : Int) (x3 : Int) (s' : lf_Z), iv_A s'.1 s'.2.2 → lf_fq [114] 1000000 true s.1 s.2.2 s'.1 s'.2.2 → 0 ≤ x2 ∧ x2 ≤ 12 → 0 ≤ x3 ∧ x3 ≤ 12 → (x2 = lf_bt (x0) (x3)) → (x2 ≤ x3) → (lo_C (s'.1 114) (x0) (x2) (x3)) → (12 - x3).toNat < M4 → X4 x2 x3 s') (hM4 : (12 - x3).toNat ≤ M4) (hI : iv_A s.1 s.2.2) (bx0 : 0 ≤ x0 ∧ x0 ≤ 4095) (bx2 : 0 ≤ x2 ∧ x2 ≤ 12) (bx3 : 0 ≤ x3 ∧ x3 ≤ 11) (kv0 : x2 = lf_bt (x0) (x3 + 1)) (kv1 : x2 ≤ x3 + 1) (kv2 : lo_C (s.1 114) (x0) (x2) (x3 + 1)) : fm_301b_p28 X4 Q x0 x2 x3 s := by
  unfold fm_301b_p28
  have b14 : lf_bt (x0) 0 = 0 := rfl
  have b15 : lo_C ((s.1 114)) (x0) (x2) ((x3 + 1)) := by first | with_reducible assumption | exact (fun q a b => by omega)
  exact hX4 (x2) (x3 + 1) s hI (lf_fq_rf) (show (0 : Int) ≤ x2 ∧ x2 ≤ (12 : Int) from by omega) (show (0 : Int) ≤ x3 + 1 ∧ x3 + 1 ≤ (12 : Int) from by omega) (show x2 = lf_bt (x0) ((x3 + 1)) from by omega) (show x2 ≤ (x3 + 1) from by omega) (show lo_C ((s.1 114)) (x0) (x2) ((x3 + 1)) from by first | with_reducible assumption | assumption) (show (12 - (x3 + 1)).toNat < M4 from by omega)
theorem sm_301b_p4 {X4 : Int → Int → lf_Z → Prop} {Q : Int → lf_Z → Prop} {x0 : Int} {x2 : Int} {x3 : Int} {s : lf_Z} {s0 : lf_Z} (hQ : ∀ (r : Int) (s' : lf_Z), iv_A s'.1 s'.2.2 → lf_fq [114] 1000000 true s.1 s.2.2 s'.1 s'.2.2 → (r = lf_bt (x0) 12) → (lo_C (s'.1 114) (x0) (r) 12) → (0 ≤ r ∧ r ≤ 12) → Q r s') {M4 : Nat} (hX4 : ∀ (x2 : Int) (x3 : Int) (s' : lf_Z), iv_A s'.1 s'.2.2 → lf_fq [114] 1000000 true s.1 s.2.2 s'.1 s'.2.2 → 0 ≤ x2 ∧ x2 ≤ 12 → 0 ≤ x3 ∧ x3 ≤ 12 → (x2 = lf_bt (x0) (x3)) → (x2 ≤ x3) → (lo_C (s'.1 114) (x0) (x2) (x3)) → (12 - x3).toNat < M4 → X4 x2 x3 s') (hM4 : (12 - x3).toNat ≤ M4) (hI : iv_A s.1 s.2.2) (bx0 : 0 ≤ x0 ∧ x0 ≤ 4095) (bx2 : 0 ≤ x2 ∧ x2 ≤ 12) (bx3 : 0 ≤ x3 ∧ x3 ≤ 12) (kv0 : x2 = lf_bt (x0) (x3)) (kv1 : x2 ≤ x3) (kv2 : lo_C (s.1 114) (x0) (x2) (x3)) : fm_301b_p4 Q x0 X4 x2 x3 s := by
  unfold fm_301b_p4
  refine ⟨(show lf_R x3 from lf_Rof (by omega)), ?_⟩
  refine ⟨fun c3 => ?_, fun c3 => ?_⟩
  · skip
    replace c3 : 12 ≤ x3 := c3
    have b4 : lf_bt (x0) (x3) = lf_bt (x0) 12 := congrArg (lf_bt x0) (by omega)
    have b5 : lo_C ((s.1 114)) (x0) (x2) 12 := lo_CK kv2 (by omega)
    exact hQ x2 s hI (lf_fq_rf) (show x2 = lf_bt (x0) 12 from by omega) (show lo_C ((s.1 114)) (x0) (x2) 12 from by first | with_reducible assumption | assumption) (show (0 : Int) ≤ x2 ∧ x2 ≤ (12 : Int) from by omega)
  · skip
    replace c3 : ¬ (12 ≤ x3) := c3
    have b6 : lf_bt (x0) (x3 + 1) = lf_bt (x0) (x3) + lf_and (lf_shr (x0) (x3)) 1 := lf_btS (by omega)
    have b7 : 0 ≤ lf_and (lf_shr (x0) (x3)) 1 ∧ lf_and (lf_shr (x0) (x3)) 1 ≤ 1 := lf_and01
    refine sm_210 hI (show (-2147483648 : Int) ≤ x0 ∧ x0 ≤ (2147483647 : Int) from by omega) (show (-1 : Int) ≤ x3 ∧ x3 ≤ (15 : Int) from by omega) (fun z23 q8 => ?_)
    refine ⟨fun c9 => ?_, fun c9 => ?_⟩
    · skip
      have dc9 := q8.1 c9
      have b10 : 64 ≤ x0 ∨ x0 < 0 ∨ x3 < 0 ∨ 31 < x3 ∨ x3 < 6 := lf_hasB (by omega)
      refine ⟨(show (0 : Int) ≤ x2 ∧ x2 < (12 : Int) from by omega), ?_⟩
      have hI11 : iv_A (lf_up s.1 114 x2 x3) s.2.2 := iv_w114 hI (by omega)
      have fr12 : lf_fq [114] 1000000 true s.1 s.2.2 (lf_up s.1 114 x2 x3) s.2.2 := lf_fq_up (lf_fq_rf) rfl (fun h => absurd h (by decide))
      have b13 : lo_C (((lf_up s.1 114 x2 x3) 114)) (x0) ((x2 + 1)) (x3 + 1) := by first | exact lo_C1 kv2 (by omega) lf_up_s (fun j hj => lf_up_i hj) | exact lo_C0 kv2 (by omega)
      exact sm_301b_p28 (s0 := s0) (fun r9 t9 i9 f9 => hQ r9 t9 i9 (lf_fq_tr fr12 f9)) (fun p0 p1 t9 i9 f9 => hX4 p0 p1 t9 i9 (lf_fq_tr fr12 f9)) (show (12 - x3).toNat ≤ M4 from by omega) hI11 (show (0 : Int) ≤ x0 ∧ x0 ≤ (4095 : Int) from by omega) (show (0 : Int) ≤ x2 + 1 ∧ x2 + 1 ≤ (12 : Int) from by omega) (show (0 : Int) ≤ x3 ∧ x3 ≤ (11 : Int) from by omega) (show (x2 + 1) = lf_bt (x0) (x3 + 1) from by omega) (show (x2 + 1) ≤ x3 + 1 from by omega) (show lo_C (((lf_up s.1 114 x2 x3) 114)) (x0) ((x2 + 1)) (x3 + 1) from by first | with_reducible assumption | assumption)
    · skip
      have dc9 := q8.2 c9
      have b16 : lo_C ((s.1 114)) (x0) (x2) (x3 + 1) := by first | exact lo_C1 kv2 (by omega) lf_up_s (fun j hj => lf_up_i hj) | exact lo_C0 kv2 (by omega)
      exact sm_301b_p28 (s0 := s0) hQ hX4 (show (12 - x3).toNat ≤ M4 from by omega) hI (show (0 : Int) ≤ x0 ∧ x0 ≤ (4095 : Int) from by omega) (show (0 : Int) ≤ x2 ∧ x2 ≤ (12 : Int) from by omega) (show (0 : Int) ≤ x3 ∧ x3 ≤ (11 : Int) from by omega) (show x2 = lf_bt (x0) (x3 + 1) from by omega) (show x2 ≤ x3 + 1 from by omega) (show lo_C ((s.1 114)) (x0) (x2) (x3 + 1) from by first | with_reducible assumption | assumption)
theorem sm_301b_p4L {Q : Int → lf_Z → Prop} {x0 : Int} {x2 : Int} {x3 : Int} {s : lf_Z} {s0 : lf_Z} (hQ : ∀ (r : Int) (s' : lf_Z), iv_A s'.1 s'.2.2 → lf_fq [114] 1000000 true s.1 s.2.2 s'.1 s'.2.2 → (r = lf_bt (x0) 12) → (lo_C (s'.1 114) (x0) (r) 12) → (0 ≤ r ∧ r ≤ 12) → Q r s') (hI : iv_A s.1 s.2.2) (bx0 : 0 ≤ x0 ∧ x0 ≤ 4095) (bx2 : 0 ≤ x2 ∧ x2 ≤ 12) (bx3 : 0 ≤ x3 ∧ x3 ≤ 12) (kv0 : x2 = lf_bt (x0) (x3)) (kv1 : x2 ≤ x3) (kv2 : lo_C (s.1 114) (x0) (x2) (x3)) : fm_301b_p4L Q x0 x2 x3 s := by
  intro X4 hX
  have key : ∀ (m9 : Nat) (x2 : Int) (x3 : Int) (s' : lf_Z), iv_A s'.1 s'.2.2 → lf_fq [114] 1000000 true s.1 s.2.2 s'.1 s'.2.2 → 0 ≤ x2 ∧ x2 ≤ 12 → 0 ≤ x3 ∧ x3 ≤ 12 → (x2 = lf_bt (x0) (x3)) → (x2 ≤ x3) → (lo_C (s'.1 114) (x0) (x2) (x3)) → (12 - x3).toNat < m9 → X4 x2 x3 s' := by
    intro m9
    induction m9 with
    | zero => intro x2 x3 s' _ _ bx2 bx3 kv0 kv1 kv2 h9; exact absurd h9 (Nat.not_lt_zero _)
    | succ m9 ih => intro x2 x3 s' i7 f7 bx2 bx3 kv0 kv1 kv2 h9; exact hX _ _ _ (sm_301b_p4 (s0 := s0) (fun r9 t9 i9 f9 => hQ r9 t9 i9 (lf_fq_tr f7 f9))   (fun x2' x3' t8 i8 f8 bx2' bx3' kv0' kv1' kv2' h8 => ih x2' x3' t8 i8 (lf_fq_tr f7 f8) bx2' bx3' kv0' kv1' kv2' (by omega)) (Nat.le_refl _)  i7  bx0 bx2 bx3  kv0 kv1 kv2)
  exact key _ _ _ s hI lf_fq_rf bx2 bx3 kv0 kv1 kv2 (Nat.lt_succ_self _)
theorem sm_301b {a0 : Int} {Q : Int → lf_Z → Prop} {s : lf_Z} (hI : iv_A s.1 s.2.2) (ba0 : 0 ≤ a0 ∧ a0 ≤ 4095) (hQ : ∀ (r : Int) (s' : lf_Z), iv_A s'.1 s'.2.2 → lf_fq [114] 1000000 true s.1 s.2.2 s'.1 s'.2.2 → (r = lf_bt (a0) 12) → (lo_C (s'.1 114) (a0) (r) 12) → (0 ≤ r ∧ r ≤ 12) → Q r s') : fm_301b a0 Q s := by
  unfold fm_301b
  have b1 : lf_bt (a0) 0 = 0 := rfl
  have b2 : lo_C ((s.1 114)) (a0) (0) (0) := by first | with_reducible assumption | exact (fun q a b => by omega)
  exact sm_301b_p4L (s0 := s) hQ hI (show (0 : Int) ≤ a0 ∧ a0 ≤ (4095 : Int) from by omega) (show (0 : Int) ≤ 0 ∧ 0 ≤ (12 : Int) from by omega) (show (0 : Int) ≤ 0 ∧ 0 ≤ (12 : Int) from by omega) (show 0 = lf_bt (a0) (0) from by omega) (show 0 ≤ 0 from by omega) (show lo_C ((s.1 114)) (a0) (0) (0) from by first | with_reducible assumption | assumption)
-- fm_303 Model.areUnlike 95 i
theorem sm_303_p4 {X4 : Int → Int → lf_Z → Prop} {Q : Bool → lf_Z → Prop} {x1 : Int} {x2 : Int} {x3 : Int} {s : lf_Z} {s0 : lf_Z} (hQ : ∀ (z : Bool), (z = false → ¬ od_D (s.1 116) (x1)) → Q z s) {M4 : Nat} (hX4 : ∀ (x2 : Int) (x3 : Int), (-2147483648) ≤ x2 ∧ x2 ≤ 2147483647 → 0 ≤ x3 ∧ x3 ≤ 6 → (od_D (s.1 116) (x1) → x2 = au_t (x3)) → (6 - x3).toNat < M4 → X4 x2 x3 s) (hM4 : (6 - x3).toNat ≤ M4) (hI : iv_A s.1 s.2.2) (bx1 : 0 ≤ x1 ∧ x1 ≤ 6) (bx2 : (-2147483648) ≤ x2 ∧ x2 ≤ 2147483647) (bx3 : 0 ≤ x3 ∧ x3 ≤ 6) (kv0 : od_D (s.1 116) (x1) → x2 = au_t (x3)) : fm_303_p4 Q x1 X4 x2 x3 s := by
  unfold fm_303_p4
  refine ⟨(show lf_R x3 from lf_Rof (by omega)), ?_⟩
  refine ⟨(show lf_R x1 from lf_Rof (by omega)), ?_⟩
  refine ⟨fun c2 => ?_, fun c2 => ?_⟩
  · skip
    replace c2 : x1 ≤ x3 := c2
    exact hQ true (show true = false → ¬ od_D ((s.1 116)) (x1) from fun h => by cases h)
  · skip
    replace c2 : ¬ (x1 ≤ x3) := c2
    refine ⟨(show (0 : Int) ≤ x3 ∧ x3 < (6 : Int) from by omega), ?_⟩
    have b3 : 0 ≤ s.1 116 x3 ∧ s.1 116 x3 ≤ 5 := iv_r116 hI _
    refine sm_210 hI (show (-2147483648 : Int) ≤ x2 ∧ x2 ≤ (2147483647 : Int) from by omega) (show (-1 : Int) ≤ s.1 116 x3 ∧ s.1 116 x3 ≤ (15 : Int) from by omega) (fun z25 q4 => ?_)
    refine ⟨fun c5 => ?_, fun c5 => ?_⟩
    · skip
      have dc5 := q4.2 c5
      have b6 : 1 ≤ lf_shl 1 (s.1 116 x3) ∧ lf_shl 1 (s.1 116 x3) ≤ 32 := lf_shl1 (m := 5) (by omega) (by omega) (by decide)
      have b7 : (-2147483648) ≤ lf_or x2 (lf_shl 1 (s.1 116 x3)) ∧ lf_or x2 (lf_shl 1 (s.1 116 x3)) ≤ 2147483647 := lf_orB
      have b8 : od_D ((s.1 116)) (x1) → (lf_or x2 (lf_shl 1 (s.1 116 x3))) = au_t ((x3 + 1)) := by first | exact (fun hD => au_s hD (kv0 hD) (by omega)) | exact (fun _ => rfl)
      exact hX4 (lf_or x2 (lf_shl 1 (s.1 116 x3))) (x3 + 1) (show (-2147483648 : Int) ≤ lf_or x2 (lf_shl 1 (s.1 116 x3)) ∧ lf_or x2 (lf_shl 1 (s.1 116 x3)) ≤ (2147483647 : Int) from by omega) (show (0 : Int) ≤ x3 + 1 ∧ x3 + 1 ≤ (6 : Int) from by omega) (show od_D ((s.1 116)) (x1) → (lf_or x2 (lf_shl 1 (s.1 116 x3))) = au_t ((x3 + 1)) from by first | with_reducible assumption | assumption) (show (6 - (x3 + 1)).toNat < M4 from by omega)
    · skip
      have dc5 := q4.1 c5
      have b9 : ¬ od_D ((s.1 116)) (x1) := fun hD => au_no hD (kv0 hD) (by omega) (by omega)
      exact hQ false (show false = false → ¬ od_D ((s.1 116)) (x1) from fun _ => by first | with_reducible assumption | assumption)
theorem sm_303_p4L {Q : Bool → lf_Z → Prop} {x1 : Int} {x2 : Int} {x3 : Int} {s : lf_Z} {s0 : lf_Z} (hQ : ∀ (z : Bool), (z = false → ¬ od_D (s.1 116) (x1)) → Q z s) (hI : iv_A s.1 s.2.2) (bx1 : 0 ≤ x1 ∧ x1 ≤ 6) (bx2 : (-2147483648) ≤ x2 ∧ x2 ≤ 2147483647) (bx3 : 0 ≤ x3 ∧ x3 ≤ 6) (kv0 : od_D (s.1 116) (x1) → x2 = au_t (x3)) : fm_303_p4L Q x1 x2 x3 s := by
  intro X4 hX
  have key : ∀ (m9 : Nat) (x2 : Int) (x3 : Int), (-2147483648) ≤ x2 ∧ x2 ≤ 2147483647 → 0 ≤ x3 ∧ x3 ≤ 6 → (od_D (s.1 116) (x1) → x2 = au_t (x3)) → (6 - x3).toNat < m9 → X4 x2 x3 s := by
    intro m9
    induction m9 with
    | zero => intro x2 x3 bx2 bx3 kv0 h9; exact absurd h9 (Nat.not_lt_zero _)
    | succ m9 ih => intro x2 x3 bx2 bx3 kv0 h9; exact hX _ _ _ (sm_303_p4 (s0 := s0) hQ   (fun x2' x3' bx2' bx3' kv0' h8 => ih x2' x3' bx2' bx3' kv0' (by omega)) (Nat.le_refl _)  hI  bx1 bx2 bx3  kv0)
  exact key _ _ _ bx2 bx3  kv0 (Nat.lt_succ_self _)
theorem sm_303 {a1 : Int} {Q : Bool → lf_Z → Prop} {s : lf_Z} (hI : iv_A s.1 s.2.2) (ba1 : 0 ≤ a1 ∧ a1 ≤ 6) (hQ : ∀ (z : Bool), (z = false → ¬ od_D (s.1 116) (a1)) → Q z s) : fm_303 a1 Q s := by
  unfold fm_303
  have b1 : od_D ((s.1 116)) (a1) → 0 = au_t (0) := by first | exact (fun hD => au_s hD (kv0 hD) (by omega)) | exact (fun _ => rfl)
  exact sm_303_p4L (s0 := s) hQ hI (show (0 : Int) ≤ a1 ∧ a1 ≤ (6 : Int) from by omega) (show (-2147483648 : Int) ≤ 0 ∧ 0 ≤ (2147483647 : Int) from by omega) (show (0 : Int) ≤ 0 ∧ 0 ≤ (6 : Int) from by omega) (show od_D ((s.1 116)) (a1) → 0 = au_t (0) from by first | with_reducible assumption | assumption)
-- fm_304 Model.nextRow 95 i i
theorem sm_304_p33 {Q : Bool → lf_Z → Prop} {x3 : Int} {s : lf_Z} {s0 : lf_Z} {g1 : Int} {g2 : Int} (hQ : ∀ (z : Bool) (s' : lf_Z), iv_A s'.1 s'.2.2 → lf_fq [116] 1000000 true s.1 s.2.2 s'.1 s'.2.2 → (z = true → od (s'.1 116) (g2) (g1) = od (s0.1 116) (g2) (g1) + 1) → (od_B (s'.1 116) (g1) (g2)) → (z = false → ∀ j : Int, 0 ≤ j → j < g1 → s0.1 116 j = g2 - 1) → Q z s') (hI : iv_A s.1 s.2.2) (bx3 : (-1) ≤ x3 ∧ x3 ≤ 5) (kv0 : od_I (s0.1 116) (s.1 116) (g2) (g1) (x3)) (kv1 : od_B (s.1 116) (g1) (g2)) (kv2 : od_A (s0.1 116) (s.1 116) (g1) (g2) (x3)) (kv3 : (x3 < 0 ∨ s.1 116 x3 ≠ g2 - 1) ∧ x3 < g1 ∧ 1 ≤ g2 ∧ g2 ≤ 6) : fm_304_p33 Q x3 s := by
  unfold fm_304_p33
  refine ⟨(show lf_R x3 from lf_Rof (by omega)), ?_⟩
  refine ⟨fun c6 => ?_, fun c6 => ?_⟩
  · skip
    replace c6 : 0 ≤ x3 := c6
    have b7 : 0 ≤ (s.1 116 x3) ∧ (s.1 116 x3) < g2 := kv1 _ (by omega) (by omega)
    refine ⟨(show (0 : Int) ≤ x3 ∧ x3 < (6 : Int) from by omega), ?_⟩
    have b8 : 0 ≤ s.1 116 x3 ∧ s.1 116 x3 ≤ 5 := iv_r116 hI _
    have hI9 : iv_A (lf_up s.1 116 x3 ((s.1 116 x3) + 1)) s.2.2 := iv_w116 hI (by omega)
    have fr10 : lf_fq [116] 1000000 true s.1 s.2.2 (lf_up s.1 116 x3 ((s.1 116 x3) + 1)) s.2.2 := lf_fq_up (lf_fq_rf) rfl (fun h => absurd h (by decide))
    have b11 : od (((lf_up s.1 116 x3 ((s.1 116 x3) + 1)) 116)) (g2) (g1) = od (s0.1 116) (g2) (g1) + 1 := kv0 (by omega) _ lf_up_s (fun j hj => lf_up_i hj)
    have b12 : od_B (((lf_up s.1 116 x3 ((s.1 116 x3) + 1)) 116)) (g1) (g2) := by first | exact kv1 | exact od_Bu kv1 (by omega) lf_up_s (fun j hj => lf_up_i hj)
    exact hQ true (lf_up s.1 116 x3 ((s.1 116 x3) + 1), s.2.1, s.2.2) hI9 fr10 (show true = true → od (((lf_up s.1 116 x3 ((s.1 116 x3) + 1)) 116)) (g2) (g1) = od (s0.1 116) (g2) (g1) + 1 from fun _ => by omega) (show od_B (((lf_up s.1 116 x3 ((s.1 116 x3) + 1)) 116)) (g1) (g2) from by first | with_reducible assumption | assumption) (show true = false → ∀ j : Int, 0 ≤ j → j < g1 → s0.1 116 j = g2 - 1 from fun h => by cases h)
  · skip
    replace c6 : ¬ (0 ≤ x3) := c6
    have b13 : ∀ j : Int, 0 ≤ j → j < g1 → s0.1 116 j = g2 - 1 := fun j a b => kv2.1 j (by omega) b
    have b14 : od_B ((s.1 116)) (g1) (g2) := by first | exact kv1 | exact od_Bu kv1 (by omega) lf_up_s (fun j hj => lf_up_i hj)
    exact hQ false s hI (lf_fq_rf) (show false = true → od ((s.1 116)) (g2) (g1) = od (s0.1 116) (g2) (g1) + 1 from fun h => by cases h) (show od_B ((s.1 116)) (g1) (g2) from by first | with_reducible assumption | assumption) (show false = false → ∀ j : Int, 0 ≤ j → j < g1 → s0.1 116 j = g2 - 1 from fun _ => by first | with_reducible assumption | assumption)
theorem sm_304_p4 {X4 : Int → lf_Z → Prop} {Q : Bool → lf_Z → Prop} {x2 : Int} {x3 : Int} {s : lf_Z} {s0 : lf_Z} {g1 : Int} {g2 : Int} (hQ : ∀ (z : Bool) (s' : lf_Z), iv_A s'.1 s'.2.2 → lf_fq [116] 1000000 true s.1 s.2.2 s'.1 s'.2.2 → (z = true → od (s'.1 116) (g2) (g1) = od (s0.1 116) (g2) (g1) + 1) → (od_B (s'.1 116) (g1) (g2)) → (z = false → ∀ j : Int, 0 ≤ j → j < g1 → s0.1 116 j = g2 - 1) → Q z s') {M4 : Nat} (hX4 : ∀ (x3 : Int) (s' : lf_Z), iv_A s'.1 s'.2.2 → lf_fq [116] 1000000 true s.1 s.2.2 s'.1 s'.2.2 → (-1) ≤ x3 ∧ x3 ≤ 5 → (od_I (s0.1 116) (s'.1 116) (g2) (g1) (x3)) → (od_B (s'.1 116) (g1) (g2)) → (od_A (s0.1 116) (s'.1 116) (g1) (g2) (x3)) → (x2 = g2 ∧ x3 < g1 ∧ 1 ≤ g2 ∧ g2 ≤ 6) → (x3 - (-1)).toNat < M4 → X4 x3 s') (hM4 : (x3 - (-1)).toNat ≤ M4) (hI : iv_A s.1 s.2.2) (bx2 : 0 ≤ x2 ∧ x2 ≤ 6) (bx3 : (-1) ≤ x3 ∧ x3 ≤ 5) (kv0 : od_I (s0.1 116) (s.1 116) (g2) (g1) (x3)) (kv1 : od_B (s.1 116) (g1) (g2)) (kv2 : od_A (s0.1 116) (s.1 116) (g1) (g2) (x3)) (kv3 : x2 = g2 ∧ x3 < g1 ∧ 1 ≤ g2 ∧ g2 ≤ 6) : fm_304_p4 Q x2 X4 x3 s := by
  unfold fm_304_p4
  refine ⟨(show lf_R x3 from lf_Rof (by omega)), ?_⟩
  refine ⟨fun c4 => ?_, fun c4 => ?_⟩
  · skip
    replace c4 : x3 < 0 := c4
    have b5 : 0 ≤ s.1 116 x3 ∧ s.1 116 x3 ≤ 5 := iv_r116 hI _
    exact sm_304_p33 (s0 := s0) (g1 := g1) (g2 := g2) hQ hI (show (-1 : Int) ≤ x3 ∧ x3 ≤ (5 : Int) from by omega) (show od_I (s0.1 116) ((s.1 116)) (g2) (g1) (x3) from by first | with_reducible assumption | assumption) (show od_B ((s.1 116)) (g1) (g2) from by first | with_reducible assumption | assumption) (show od_A (s0.1 116) ((s.1 116)) (g1) (g2) (x3) from by first | with_reducible assumption | assumption) (show (x3 < 0 ∨ (s.1 116 x3) ≠ g2 - 1) ∧ x3 < g1 ∧ 1 ≤ g2 ∧ g2 ≤ 6 from by omega)
  · skip
    replace c4 : ¬ (x3 < 0) := c4
    refine ⟨(show (0 : Int) ≤ x3 ∧ x3 < (6 : Int) from by omega), ?_⟩
    have b15 : 0 ≤ s.1 116 x3 ∧ s.1 116 x3 ≤ 5 := iv_r116 hI _
    refine ⟨(show lf_R (s.1 116 x3) from lf_Rof (by omega)), ?_⟩
    refine ⟨(show lf_R (x2 - 1) from lf_Rof (by omega)), ?_⟩
    refine ⟨fun c16 => ?_, fun c16 => ?_⟩
    · skip
      replace c16 : s.1 116 x3 ≠ x2 - 1 := c16
      exact sm_304_p33 (s0 := s0) (g1 := g1) (g2 := g2) hQ hI (show (-1 : Int) ≤ x3 ∧ x3 ≤ (5 : Int) from by omega) (show od_I (s0.1 116) ((s.1 116)) (g2) (g1) (x3) from by first | with_reducible assumption | assumption) (show od_B ((s.1 116)) (g1) (g2) from by first | with_reducible assumption | assumption) (show od_A (s0.1 116) ((s.1 116)) (g1) (g2) (x3) from by first | with_reducible assumption | assumption) (show (x3 < 0 ∨ (s.1 116 x3) ≠ g2 - 1) ∧ x3 < g1 ∧ 1 ≤ g2 ∧ g2 ≤ 6 from by omega)
    · skip
      replace c16 : ¬ (s.1 116 x3 ≠ x2 - 1) := c16
      have hI17 : iv_A (lf_up s.1 116 x3 0) s.2.2 := iv_w116 hI (by omega)
      have fr18 : lf_fq [116] 1000000 true s.1 s.2.2 (lf_up s.1 116 x3 0) s.2.2 := lf_fq_up (lf_fq_rf) rfl (fun h => absurd h (by decide))
      have b19 : od_I (s0.1 116) (((lf_up s.1 116 x3 0) 116)) (g2) (g1) ((x3 + (-1))) := by first | exact od_I0 | exact od_Is kv0 (by omega) (by omega) lf_up_s (fun j hj => lf_up_i hj)
      have b20 : od_B (((lf_up s.1 116 x3 0) 116)) (g1) (g2) := by first | with_reducible assumption | exact od_Bu kv1 (by omega) lf_up_s (fun j hj => lf_up_i hj)
      have b21 : od_A (s0.1 116) (((lf_up s.1 116 x3 0) 116)) (g1) (g2) ((x3 + (-1))) := by first | exact od_A0 | exact od_As kv2 (by omega) (fun j hj => lf_up_i hj)
      exact hX4 (x3 + (-1)) (lf_up s.1 116 x3 0, s.2.1, s.2.2) hI17 fr18 (show (-1 : Int) ≤ x3 + (-1) ∧ x3 + (-1) ≤ (5 : Int) from by omega) (show od_I (s0.1 116) (((lf_up s.1 116 x3 0) 116)) (g2) (g1) ((x3 + (-1))) from by first | with_reducible assumption | assumption) (show od_B (((lf_up s.1 116 x3 0) 116)) (g1) (g2) from by first | with_reducible assumption | assumption) (show od_A (s0.1 116) (((lf_up s.1 116 x3 0) 116)) (g1) (g2) ((x3 + (-1))) from by first | with_reducible assumption | assumption) (show x2 = g2 ∧ (x3 + (-1)) < g1 ∧ 1 ≤ g2 ∧ g2 ≤ 6 from by omega) (show ((x3 + (-1)) - (-1)).toNat < M4 from by omega)
theorem sm_304_p4L {Q : Bool → lf_Z → Prop} {x2 : Int} {x3 : Int} {s : lf_Z} {s0 : lf_Z} {g1 : Int} {g2 : Int} (hQ : ∀ (z : Bool) (s' : lf_Z), iv_A s'.1 s'.2.2 → lf_fq [116] 1000000 true s.1 s.2.2 s'.1 s'.2.2 → (z = true → od (s'.1 116) (g2) (g1) = od (s0.1 116) (g2) (g1) + 1) → (od_B (s'.1 116) (g1) (g2)) → (z = false → ∀ j : Int, 0 ≤ j → j < g1 → s0.1 116 j = g2 - 1) → Q z s') (hI : iv_A s.1 s.2.2) (bx2 : 0 ≤ x2 ∧ x2 ≤ 6) (bx3 : (-1) ≤ x3 ∧ x3 ≤ 5) (kv0 : od_I (s0.1 116) (s.1 116) (g2) (g1) (x3)) (kv1 : od_B (s.1 116) (g1) (g2)) (kv2 : od_A (s0.1 116) (s.1 116) (g1) (g2) (x3)) (kv3 : x2 = g2 ∧ x3 < g1 ∧ 1 ≤ g2 ∧ g2 ≤ 6) : fm_304_p4L Q x2 x3 s := by
  intro X4 hX
  have key : ∀ (m9 : Nat) (x3 : Int) (s' : lf_Z), iv_A s'.1 s'.2.2 → lf_fq [116] 1000000 true s.1 s.2.2 s'.1 s'.2.2 → (-1) ≤ x3 ∧ x3 ≤ 5 → (od_I (s0.1 116) (s'.1 116) (g2) (g1) (x3)) → (od_B (s'.1 116) (g1) (g2)) → (od_A (s0.1 116) (s'.1 116) (g1) (g2) (x3)) → (x2 = g2 ∧ x3 < g1 ∧ 1 ≤ g2 ∧ g2 ≤ 6) → (x3 - (-1)).toNat < m9 → X4 x3 s' := by
    intro m9
    induction m9 with
    | zero => intro x3 s' _ _ bx3 kv0 kv1 kv2 kv3 h9; exact absurd h9 (Nat.not_lt_zero _)
    | succ m9 ih => intro x3 s' i7 f7 bx3 kv0 kv1 kv2 kv3 h9; exact hX _ _ (sm_304_p4 (s0 := s0) (g1 := g1) (g2 := g2) (fun r9 t9 i9 f9 => hQ r9 t9 i9 (lf_fq_tr f7 f9))   (fun x3' t8 i8 f8 bx3' kv0' kv1' kv2' kv3' h8 => ih x3' t8 i8 (lf_fq_tr f7 f8) bx3' kv0' kv1' kv2' kv3' (by omega)) (Nat.le_refl _)  i7  bx2 bx3  kv0 kv1 kv2 kv3)
  exact key _ _ s hI lf_fq_rf bx3 kv0 kv1 kv2 kv3 (Nat.lt_succ_self _)
theorem sm_304 {a1 : Int} {a2 : Int} {Q : Bool → lf_Z → Prop} {s : lf_Z} (hI : iv_A s.1 s.2.2) (ba1 : 0 ≤ a1 ∧ a1 ≤ 6) (ba2 : 0 ≤ a2 ∧ a2 ≤ 6) (kp0 : od_B (s.1 116) (a1) (a2)) (kp1 : 1 ≤ a2 ∧ a2 ≤ 6 ∧ 0 ≤ a1 ∧ a1 ≤ 6) (hQ : ∀ (z : Bool) (s' : lf_Z), iv_A s'.1 s'.2.2 → lf_fq [116] 1000000 true s.1 s.2.2 s'.1 s'.2.2 → (z = true → od (s'.1 116) (a2) (a1) = od (s.1 116) (a2) (a1) + 1) → (od_B (s'.1 116) (a1) (a2)) → (z = false → ∀ j : Int, 0 ≤ j → j < a1 → s.1 116 j = a2 - 1) → Q z s') : fm_304 a1 a2 Q s := by
  unfold fm_304
  have b1 : od_I (s.1 116) ((s.1 116)) (a2) (a1) ((a1 - 1)) := by first | exact od_I0 | exact od_Is kv0 (by omega) (by omega) lf_up_s (fun j hj => lf_up_i hj)
  have b2 : od_B ((s.1 116)) (a1) (a2) := by first | with_reducible assumption | exact od_Bu kv1 (by omega) lf_up_s (fun j hj => lf_up_i hj)
  have b3 : od_A (s.1 116) ((s.1 116)) (a1) (a2) ((a1 - 1)) := by first | exact od_A0 | exact od_As kv2 (by omega) (fun j hj => lf_up_i hj)
  exact sm_304_p4L (s0 := s) (g1 := a1) (g2 := a2) hQ hI (show (0 : Int) ≤ a2 ∧ a2 ≤ (6 : Int) from by omega) (show (-1 : Int) ≤ a1 - 1 ∧ a1 - 1 ≤ (5 : Int) from by omega) (show od_I (s.1 116) ((s.1 116)) (a2) (a1) ((a1 - 1)) from by first | with_reducible assumption | assumption) (show od_B ((s.1 116)) (a1) (a2) from by first | with_reducible assumption | assumption) (show od_A (s.1 116) ((s.1 116)) (a1) (a2) ((a1 - 1)) from by first | with_reducible assumption | assumption) (show a2 = a2 ∧ (a1 - 1) < a1 ∧ 1 ≤ a2 ∧ a2 ≤ 6 from by omega)
-- fm_302 Model.bestSending 95 i i
theorem sm_302_p162 {X30 : Int → Int → lf_Z → Prop} {Q : Int → lf_Z → Prop} {x1 : Int} {x2 : Int} {y0 : Int} {s : lf_Z} (hQ : ∀ (r : Int) (s' : lf_Z), iv_A s'.1 s'.2.2 → lf_fq [116, 117] 1000000 true s.1 s.2.2 s'.1 s'.2.2 → (0 ≤ r ∧ r ≤ 1000) → Q r s') {M30 : Nat} (hX30 : ∀ (x3 : Int) (x4 : Int) (s' : lf_Z), iv_A s'.1 s'.2.2 → lf_fq [116, 117] 1000000 true s.1 s.2.2 s'.1 s'.2.2 → 0 ≤ x3 ∧ x3 ≤ 1000 → 0 ≤ x4 ∧ x4 ≤ 1 → (od_B (s'.1 116) (x1) (x2)) → (x1 ≤ 6 ∧ 1 ≤ x2 ∧ x2 ≤ 6) → (od_m (x4) (46657 - od (s'.1 116) (x2) (x1))).toNat < M30 → X30 x3 x4 s') (hM30 : (46657 - od (s.1 116) (x2) (x1)).toNat ≤ M30) (hI : iv_A s.1 s.2.2) (bx1 : 0 ≤ x1 ∧ x1 ≤ 6) (bx2 : 0 ≤ x2 ∧ x2 ≤ 6) (by0 : 0 ≤ y0 ∧ y0 ≤ 1000) (kv0 : od_B (s.1 116) (x1) (x2)) (kv1 : x1 ≤ 6 ∧ 1 ≤ x2 ∧ x2 ≤ 6) : fm_302_p162 X30 Q x1 x2 y0 s := by
  unfold fm_302_p162
  have b12 : 0 ≤ od ((s.1 116)) (x2) (x1) ∧ od ((s.1 116)) (x2) (x1) ≤ 46655 := od_le kv0 (by omega) (by omega)
  refine sm_304 hI (show (0 : Int) ≤ x1 ∧ x1 ≤ (6 : Int) from by omega) (show (0 : Int) ≤ x2 ∧ x2 ≤ (6 : Int) from by omega) (show od_B ((s.1 116)) (x1) (x2) from by first | with_reducible assumption | assumption) (show 1 ≤ x2 ∧ x2 ≤ 6 ∧ 0 ≤ x1 ∧ x1 ≤ 6 from by omega) (fun z33 s32 hI14 fr13 ps16 ps17 ps18 => ?_)
  replace ps16 : z33 = true → od (s32.1 116) (x2) (x1) = od ((s.1 116)) (x2) (x1) + 1 := ps16
  replace ps17 : od_B (s32.1 116) (x1) (x2) := ps17
  replace ps18 : z33 = false → ∀ j : Int, 0 ≤ j → j < x1 → (s.1 116) j = x2 - 1 := ps18
  have fr19 : lf_fq [116, 117] 1000000 true s.1 s.2.2 s32.1 s32.2.2 := lf_fq_tr (lf_fq_rf) (lf_fq_wk fr13 rfl (by decide) (by decide))
  have b20 : (lf_b z33) = 0 ∨ od ((s32.1 116)) (x2) (x1) = od (s.1 116) (x2) (x1) + 1 := lf_bz ps16
  have b21 : ((lf_b z33) = 0 ∧ od_m (lf_b z33) (46657 - od ((s32.1 116)) (x2) (x1)) = 0) ∨ ((lf_b z33) ≠ 0 ∧ od_m (lf_b z33) (46657 - od ((s32.1 116)) (x2) (x1)) = 46657 - od ((s32.1 116)) (x2) (x1)) := od_mE _ _
  have b22 : 0 ≤ od ((s32.1 116)) (x2) (x1) ∧ od ((s32.1 116)) (x2) (x1) ≤ 46655 := od_le ps17 (by omega) (by omega)
  have b23 : od_B ((s32.1 116)) (x1) (x2) := by first | with_reducible assumption | exact od_Bz kv0 (by omega) (by omega)
  have zzz33 : 0 ≤ lf_b z33 ∧ lf_b z33 ≤ 1 := lf_b01
  exact hX30 (y0) (lf_b z33) s32 hI14 fr19 (show (0 : Int) ≤ y0 ∧ y0 ≤ (1000 : Int) from by omega) (show (0 : Int) ≤ lf_b z33 ∧ lf_b z33 ≤ (1 : Int) from by omega) (show od_B ((s32.1 116)) (x1) (x2) from by first | with_reducible assumption | assumption) (show x1 ≤ 6 ∧ 1 ≤ x2 ∧ x2 ≤ 6 from by omega) (show (od_m ((lf_b z33)) (46657 - od ((s32.1 116)) (x2) (x1))).toNat < M30 from by omega)
theorem sm_302_p150 {X30 : Int → Int → lf_Z → Prop} {Q : Int → lf_Z → Prop} {x1 : Int} {x2 : Int} {x3 : Int} {x5 : Int} {s : lf_Z} (hQ : ∀ (r : Int) (s' : lf_Z), iv_A s'.1 s'.2.2 → lf_fq [116, 117] 1000000 true s.1 s.2.2 s'.1 s'.2.2 → (0 ≤ r ∧ r ≤ 1000) → Q r s') {M30 : Nat} (hX30 : ∀ (x3 : Int) (x4 : Int) (s' : lf_Z), iv_A s'.1 s'.2.2 → lf_fq [116, 117] 1000000 true s.1 s.2.2 s'.1 s'.2.2 → 0 ≤ x3 ∧ x3 ≤ 1000 → 0 ≤ x4 ∧ x4 ≤ 1 → (od_B (s'.1 116) (x1) (x2)) → (x1 ≤ 6 ∧ 1 ≤ x2 ∧ x2 ≤ 6) → (od_m (x4) (46657 - od (s'.1 116) (x2) (x1))).toNat < M30 → X30 x3 x4 s') (hM30 : (46657 - od (s.1 116) (x2) (x1)).toNat ≤ M30) (hI : iv_A s.1 s.2.2) (bx1 : 0 ≤ x1 ∧ x1 ≤ 6) (bx2 : 0 ≤ x2 ∧ x2 ≤ 6) (bx3 : 0 ≤ x3 ∧ x3 ≤ 1000) (bx5 : 0 ≤ x5 ∧ x5 ≤ 1000) (kv0 : od_B (s.1 116) (x1) (x2)) (kv1 : x1 ≤ 6 ∧ 1 ≤ x2 ∧ x2 ≤ 6) : fm_302_p150 X30 Q x1 x2 x3 x5 s := by
  unfold fm_302_p150
  refine ⟨(show lf_R x5 from lf_Rof (by omega)), ?_⟩
  refine ⟨(show lf_R x3 from lf_Rof (by omega)), ?_⟩
  refine ⟨fun c11 => ?_, fun c11 => ?_⟩
  · skip
    replace c11 : x3 ≤ x5 := c11
    exact sm_302_p162 hQ hX30 (show (46657 - od ((s.1 116)) (x2) (x1)).toNat ≤ M30 from by omega) hI (show (0 : Int) ≤ x1 ∧ x1 ≤ (6 : Int) from by omega) (show (0 : Int) ≤ x2 ∧ x2 ≤ (6 : Int) from by omega) (show (0 : Int) ≤ x3 ∧ x3 ≤ (1000 : Int) from by omega) (show od_B ((s.1 116)) (x1) (x2) from by first | with_reducible assumption | assumption) (show x1 ≤ 6 ∧ 1 ≤ x2 ∧ x2 ≤ 6 from by omega)
  · skip
    replace c11 : ¬ (x3 ≤ x5) := c11
    exact sm_302_p162 hQ hX30 (show (46657 - od ((s.1 116)) (x2) (x1)).toNat ≤ M30 from by omega) hI (show (0 : Int) ≤ x1 ∧ x1 ≤ (6 : Int) from by omega) (show (0 : Int) ≤ x2 ∧ x2 ≤ (6 : Int) from by omega) (show (0 : Int) ≤ x5 ∧ x5 ≤ (1000 : Int) from by omega) (show od_B ((s.1 116)) (x1) (x2) from by first | with_reducible assumption | assumption) (show x1 ≤ 6 ∧ 1 ≤ x2 ∧ x2 ≤ 6 from by omega)
theorem sm_302_p118 {X30 : Int → Int → lf_Z → Prop} {X118 : Int → lf_Z → Prop} {Q : Int → lf_Z → Prop} {x1 : Int} {x2 : Int} {x3 : Int} {x5 : Int} {x6 : Int} {s : lf_Z} (hQ : ∀ (r : Int) (s' : lf_Z), iv_A s'.1 s'.2.2 → lf_fq [116, 117] 1000000 true s.1 s.2.2 s'.1 s'.2.2 → (0 ≤ r ∧ r ≤ 1000) → Q r s') {M30 : Nat} (hX30 : ∀ (x3 : Int) (x4 : Int) (s' : lf_Z), iv_A s'.1 s'.2.2 → lf_fq [116, 117] 1000000 true s.1 s.2.2 s'.1 s'.2.2 → 0 ≤ x3 ∧ x3 ≤ 1000 → 0 ≤ x4 ∧ x4 ≤ 1 → (od_B (s'.1 116) (x1) (x2)) → (x1 ≤ 6 ∧ 1 ≤ x2 ∧ x2 ≤ 6) → (od_m (x4) (46657 - od (s'.1 116) (x2) (x1))).toNat < M30 → X30 x3 x4 s') (hM30 : (46657 - od (s.1 116) (x2) (x1)).toNat ≤ M30) {M118 : Nat} (hX118 : ∀ (x6 : Int) (s' : lf_Z), iv_A s'.1 s'.2.2 → lf_fq [116, 117] 1000000 true s.1 s.2.2 s'.1 s'.2.2 → 0 ≤ x6 ∧ x6 ≤ 6 → (od_B (s'.1 116) (x1) (x2)) → (x1 ≤ 6 ∧ 1 ≤ x2 ∧ x2 ≤ 6) → ((46657 - od (s'.1 116) (x2) (x1)).toNat ≤ M30) → (6 - x6).toNat < M118 → X118 x6 s') (hM118 : (6 - x6).toNat ≤ M118) (hI : iv_A s.1 s.2.2) (bx1 : 0 ≤ x1 ∧ x1 ≤ 6) (bx2 : 0 ≤ x2 ∧ x2 ≤ 6) (bx3 : 0 ≤ x3 ∧ x3 ≤ 1000) (bx5 : 0 ≤ x5 ∧ x5 ≤ 1000) (bx6 : 0 ≤ x6 ∧ x6 ≤ 6) (kv0 : od_B (s.1 116) (x1) (x2)) (kv1 : x1 ≤ 6 ∧ 1 ≤ x2 ∧ x2 ≤ 6) (kv2 : (46657 - od (s.1 116) (x2) (x1)).toNat ≤ M30) : fm_302_p118 X30 Q x1 x2 x3 x5 X118 x6 s := by
  unfold fm_302_p118
  refine ⟨(show lf_R x6 from lf_Rof (by omega)), ?_⟩
  refine ⟨(show lf_R x1 from lf_Rof (by omega)), ?_⟩
  refine ⟨fun c10 => ?_, fun c10 => ?_⟩
  · skip
    replace c10 : x1 ≤ x6 := c10
    exact sm_302_p150 hQ hX30 (show (46657 - od ((s.1 116)) (x2) (x1)).toNat ≤ M30 from by omega) hI (show (0 : Int) ≤ x1 ∧ x1 ≤ (6 : Int) from by omega) (show (0 : Int) ≤ x2 ∧ x2 ≤ (6 : Int) from by omega) (show (0 : Int) ≤ x3 ∧ x3 ≤ (1000 : Int) from by omega) (show (0 : Int) ≤ x5 ∧ x5 ≤ (1000 : Int) from by omega) (show od_B ((s.1 116)) (x1) (x2) from by first | with_reducible assumption | assumption) (show x1 ≤ 6 ∧ 1 ≤ x2 ∧ x2 ≤ 6 from by omega)
  · skip
    replace c10 : ¬ (x1 ≤ x6) := c10
    refine ⟨(show lf_R x5 from lf_Rof (by omega)), ?_⟩
    refine ⟨(show lf_R x3 from lf_Rof (by omega)), ?_⟩
    refine ⟨fun c24 => ?_, fun c24 => ?_⟩
    · skip
      replace c24 : x3 ≤ x5 := c24
      exact sm_302_p150 hQ hX30 (show (46657 - od ((s.1 116)) (x2) (x1)).toNat ≤ M30 from by omega) hI (show (0 : Int) ≤ x1 ∧ x1 ≤ (6 : Int) from by omega) (show (0 : Int) ≤ x2 ∧ x2 ≤ (6 : Int) from by omega) (show (0 : Int) ≤ x3 ∧ x3 ≤ (1000 : Int) from by omega) (show (0 : Int) ≤ x5 ∧ x5 ≤ (1000 : Int) from by omega) (show od_B ((s.1 116)) (x1) (x2) from by first | with_reducible assumption | assumption) (show x1 ≤ 6 ∧ 1 ≤ x2 ∧ x2 ≤ 6 from by omega)
    · skip
      replace c24 : ¬ (x3 ≤ x5) := c24
      refine ⟨(show (0 : Int) ≤ x6 ∧ x6 < (6 : Int) from by omega), ?_⟩
      have b25 : 0 ≤ s.1 116 x6 ∧ s.1 116 x6 ≤ 5 := iv_r116 hI _
      have hI26 : iv_A (lf_up s.1 117 x6 (s.1 116 x6)) s.2.2 := iv_w117 hI (by omega)
      have fr27 : lf_fq [116, 117] 1000000 true s.1 s.2.2 (lf_up s.1 117 x6 (s.1 116 x6)) s.2.2 := lf_fq_up (lf_fq_rf) rfl (fun h => absurd h (by decide))
      exact hX118 (x6 + 1) (lf_up s.1 117 x6 (s.1 116 x6), s.2.1, s.2.2) hI26 fr27 (show (0 : Int) ≤ x6 + 1 ∧ x6 + 1 ≤ (6 : Int) from by omega) (show od_B ((s.1 116)) (x1) (x2) from by first | with_reducible assumption | assumption) (show x1 ≤ 6 ∧ 1 ≤ x2 ∧ x2 ≤ 6 from by omega) (show (46657 - od ((s.1 116)) (x2) (x1)).toNat ≤ M30 from by omega) (show (6 - (x6 + 1)).toNat < M118 from by omega)
theorem sm_302_p118L {X30 : Int → Int → lf_Z → Prop} {Q : Int → lf_Z → Prop} {x1 : Int} {x2 : Int} {x3 : Int} {x5 : Int} {x6 : Int} {s : lf_Z} (hQ : ∀ (r : Int) (s' : lf_Z), iv_A s'.1 s'.2.2 → lf_fq [116, 117] 1000000 true s.1 s.2.2 s'.1 s'.2.2 → (0 ≤ r ∧ r ≤ 1000) → Q r s') {M30 : Nat} (hX30 : ∀ (x3 : Int) (x4 : Int) (s' : lf_Z), iv_A s'.1 s'.2.2 → lf_fq [116, 117] 1000000 true s.1 s.2.2 s'.1 s'.2.2 → 0 ≤ x3 ∧ x3 ≤ 1000 → 0 ≤ x4 ∧ x4 ≤ 1 → (od_B (s'.1 116) (x1) (x2)) → (x1 ≤ 6 ∧ 1 ≤ x2 ∧ x2 ≤ 6) → (od_m (x4) (46657 - od (s'.1 116) (x2) (x1))).toNat < M30 → X30 x3 x4 s') (hM30 : (46657 - od (s.1 116) (x2) (x1)).toNat ≤ M30) (hI : iv_A s.1 s.2.2) (bx1 : 0 ≤ x1 ∧ x1 ≤ 6) (bx2 : 0 ≤ x2 ∧ x2 ≤ 6) (bx3 : 0 ≤ x3 ∧ x3 ≤ 1000) (bx5 : 0 ≤ x5 ∧ x5 ≤ 1000) (bx6 : 0 ≤ x6 ∧ x6 ≤ 6) (kv0 : od_B (s.1 116) (x1) (x2)) (kv1 : x1 ≤ 6 ∧ 1 ≤ x2 ∧ x2 ≤ 6) (kv2 : (46657 - od (s.1 116) (x2) (x1)).toNat ≤ M30) : fm_302_p118L X30 Q x1 x2 x3 x5 x6 s := by
  intro X118 hX
  have key : ∀ (m9 : Nat) (x6 : Int) (s' : lf_Z), iv_A s'.1 s'.2.2 → lf_fq [116, 117] 1000000 true s.1 s.2.2 s'.1 s'.2.2 → 0 ≤ x6 ∧ x6 ≤ 6 → (od_B (s'.1 116) (x1) (x2)) → (x1 ≤ 6 ∧ 1 ≤ x2 ∧ x2 ≤ 6) → ((46657 - od (s'.1 116) (x2) (x1)).toNat ≤ M30) → (6 - x6).toNat < m9 → X118 x6 s' := by
    intro m9
    induction m9 with
    | zero => intro x6 s' _ _ bx6 kv0 kv1 kv2 h9; exact absurd h9 (Nat.not_lt_zero _)
    | succ m9 ih => intro x6 s' i7 f7 bx6 kv0 kv1 kv2 h9; exact hX _ _ (sm_302_p118 (fun r9 t9 i9 f9 => hQ r9 t9 i9 (lf_fq_tr f7 f9))  (fun p0 p1 t9 i9 f9 => hX30 p0 p1 t9 i9 (lf_fq_tr f7 f9)) kv2 (fun x6' t8 i8 f8 bx6' kv0' kv1' kv2' h8 => ih x6' t8 i8 (lf_fq_tr f7 f8) bx6' kv0' kv1' kv2' (by omega)) (Nat.le_refl _)  i7  bx1 bx2 bx3 bx5 bx6  kv0 kv1 kv2)
  exact key _ _ s hI lf_fq_rf bx6 kv0 kv1 kv2 (Nat.lt_succ_self _)
theorem sm_302_p107 {X30 : Int → Int → lf_Z → Prop} {X55 : Int → Int → lf_Z → Prop} {Q : Int → lf_Z → Prop} {x1 : Int} {x2 : Int} {x3 : Int} {x6 : Int} {y0 : Int} {s : lf_Z} (hQ : ∀ (r : Int) (s' : lf_Z), iv_A s'.1 s'.2.2 → lf_fq [116, 117] 1000000 true s.1 s.2.2 s'.1 s'.2.2 → (0 ≤ r ∧ r ≤ 1000) → Q r s') {M30 : Nat} (hX30 : ∀ (x3 : Int) (x4 : Int) (s' : lf_Z), iv_A s'.1 s'.2.2 → lf_fq [116, 117] 1000000 true s.1 s.2.2 s'.1 s'.2.2 → 0 ≤ x3 ∧ x3 ≤ 1000 → 0 ≤ x4 ∧ x4 ≤ 1 → (od_B (s'.1 116) (x1) (x2)) → (x1 ≤ 6 ∧ 1 ≤ x2 ∧ x2 ≤ 6) → (od_m (x4) (46657 - od (s'.1 116) (x2) (x1))).toNat < M30 → X30 x3 x4 s') (hM30 : (46657 - od (s.1 116) (x2) (x1)).toNat ≤ M30) {M55 : Nat} (hX55 : ∀ (x5 : Int) (x6 : Int) (s' : lf_Z), iv_A s'.1 s'.2.2 → lf_fq [116, 117] 1000000 true s.1 s.2.2 s'.1 s'.2.2 → 0 ≤ x5 ∧ x5 ≤ 1000 → 0 ≤ x6 ∧ x6 ≤ 6 → (od_B (s'.1 116) (x1) (x2)) → (x1 ≤ 6 ∧ 1 ≤ x2 ∧ x2 ≤ 6) → ((46657 - od (s'.1 116) (x2) (x1)).toNat ≤ M30) → (6 - x6).toNat < M55 → X55 x5 x6 s') (hM55 : (6 - x6).toNat ≤ M55) (hI : iv_A s.1 s.2.2) (bx1 : 1 ≤ x1 ∧ x1 ≤ 6) (bx2 : 0 ≤ x2 ∧ x2 ≤ 6) (bx3 : 0 ≤ x3 ∧ x3 ≤ 1000) (bx6 : 0 ≤ x6 ∧ x6 ≤ 5) (by0 : 0 ≤ y0 ∧ y0 ≤ 1000) (kv0 : od_B (s.1 116) (x1) (x2)) (kv1 : x1 ≤ 6 ∧ 1 ≤ x2 ∧ x2 ≤ 6) : fm_302_p107 X30 X55 Q x1 x2 x3 x6 y0 s := by
  unfold fm_302_p107
  exact hX55 (y0) (x6 + 1) s hI (lf_fq_rf) (show (0 : Int) ≤ y0 ∧ y0 ≤ (1000 : Int) from by omega) (show (0 : Int) ≤ x6 + 1 ∧ x6 + 1 ≤ (6 : Int) from by omega) (show od_B ((s.1 116)) (x1) (x2) from by first | with_reducible assumption | assumption) (show x1 ≤ 6 ∧ 1 ≤ x2 ∧ x2 ≤ 6 from by omega) (show (46657 - od ((s.1 116)) (x2) (x1)).toNat ≤ M30 from by omega) (show (6 - (x6 + 1)).toNat < M55 from by omega)
theorem sm_302_p55 {X30 : Int → Int → lf_Z → Prop} {X55 : Int → Int → lf_Z → Prop} {Q : Int → lf_Z → Prop} {x1 : Int} {x2 : Int} {x3 : Int} {x5 : Int} {x6 : Int} {s : lf_Z} (hQ : ∀ (r : Int) (s' : lf_Z), iv_A s'.1 s'.2.2 → lf_fq [116, 117] 1000000 true s.1 s.2.2 s'.1 s'.2.2 → (0 ≤ r ∧ r ≤ 1000) → Q r s') {M30 : Nat} (hX30 : ∀ (x3 : Int) (x4 : Int) (s' : lf_Z), iv_A s'.1 s'.2.2 → lf_fq [116, 117] 1000000 true s.1 s.2.2 s'.1 s'.2.2 → 0 ≤ x3 ∧ x3 ≤ 1000 → 0 ≤ x4 ∧ x4 ≤ 1 → (od_B (s'.1 116) (x1) (x2)) → (x1 ≤ 6 ∧ 1 ≤ x2 ∧ x2 ≤ 6) → (od_m (x4) (46657 - od (s'.1 116) (x2) (x1))).toNat < M30 → X30 x3 x4 s') (hM30 : (46657 - od (s.1 116) (x2) (x1)).toNat ≤ M30) {M55 : Nat} (hX55 : ∀ (x5 : Int) (x6 : Int) (s' : lf_Z), iv_A s'.1 s'.2.2 → lf_fq [116, 117] 1000000 true s.1 s.2.2 s'.1 s'.2.2 → 0 ≤ x5 ∧ x5 ≤ 1000 → 0 ≤ x6 ∧ x6 ≤ 6 → (od_B (s'.1 116) (x1) (x2)) → (x1 ≤ 6 ∧ 1 ≤ x2 ∧ x2 ≤ 6) → ((46657 - od (s'.1 116) (x2) (x1)).toNat ≤ M30) → (6 - x6).toNat < M55 → X55 x5 x6 s') (hM55 : (6 - x6).toNat ≤ M55) (hI : iv_A s.1 s.2.2) (bx1 : 0 ≤ x1 ∧ x1 ≤ 6) (bx2 : 0 ≤ x2 ∧ x2 ≤ 6) (bx3 : 0 ≤ x3 ∧ x3 ≤ 1000) (bx5 : 0 ≤ x5 ∧ x5 ≤ 1000) (bx6 : 0 ≤ x6 ∧ x6 ≤ 6) (kv0 : od_B (s.1 116) (x1) (x2)) (kv1 : x1 ≤ 6 ∧ 1 ≤ x2 ∧ x2 ≤ 6) (kv2 : (46657 - od (s.1 116) (x2) (x1)).toNat ≤ M30) : fm_302_p55 X30 Q x1 x2 x3 X55 x5 x6 s := by
  unfold fm_302_p55
  refine ⟨(show lf_R x6 from lf_Rof (by omega)), ?_⟩
  refine ⟨(show lf_R x1 from lf_Rof (by omega)), ?_⟩
  refine ⟨fun c9 => ?_, fun c9 => ?_⟩
  · skip
    replace c9 : x1 ≤ x6 := c9
    exact sm_302_p118L hQ hX30 (show (46657 - od ((s.1 116)) (x2) (x1)).toNat ≤ M30 from by omega) hI (show (0 : Int) ≤ x1 ∧ x1 ≤ (6 : Int) from by omega) (show (0 : Int) ≤ x2 ∧ x2 ≤ (6 : Int) from by omega) (show (0 : Int) ≤ x3 ∧ x3 ≤ (1000 : Int) from by omega) (show (0 : Int) ≤ x5 ∧ x5 ≤ (1000 : Int) from by omega) (show (0 : Int) ≤ 0 ∧ 0 ≤ (6 : Int) from by omega) (show od_B ((s.1 116)) (x1) (x2) from by first | with_reducible assumption | assumption) (show x1 ≤ 6 ∧ 1 ≤ x2 ∧ x2 ≤ 6 from by omega) (show (46657 - od ((s.1 116)) (x2) (x1)).toNat ≤ M30 from by omega)
  · skip
    replace c9 : ¬ (x1 ≤ x6) := c9
    refine ⟨(show (0 : Int) ≤ x6 ∧ x6 < (6 : Int) from by omega), ?_⟩
    have b28 : 0 ≤ s.1 116 x6 ∧ s.1 116 x6 ≤ 5 := iv_r116 hI _
    refine ⟨(show (0 : Int) ≤ (12 * (s.1 116 x6)) + x6 ∧ (12 * (s.1 116 x6)) + x6 < (72 : Int) from by omega), ?_⟩
    have b29 : 0 ≤ s.1 115 ((12 * (s.1 116 x6)) + x6) ∧ s.1 115 ((12 * (s.1 116 x6)) + x6) ≤ 1000 := iv_r115 hI _
    refine ⟨(show lf_R (s.1 115 ((12 * (s.1 116 x6)) + x6)) from lf_Rof (by omega)), ?_⟩
    refine ⟨(show lf_R x5 from lf_Rof (by omega)), ?_⟩
    refine ⟨fun c30 => ?_, fun c30 => ?_⟩
    · skip
      replace c30 : s.1 115 ((12 * (s.1 116 x6)) + x6) ≤ x5 := c30
      exact sm_302_p107 hQ hX30 (show (46657 - od ((s.1 116)) (x2) (x1)).toNat ≤ M30 from by omega) hX55 (show (6 - x6).toNat ≤ M55 from by omega) hI (show (1 : Int) ≤ x1 ∧ x1 ≤ (6 : Int) from by omega) (show (0 : Int) ≤ x2 ∧ x2 ≤ (6 : Int) from by omega) (show (0 : Int) ≤ x3 ∧ x3 ≤ (1000 : Int) from by omega) (show (0 : Int) ≤ x6 ∧ x6 ≤ (5 : Int) from by omega) (show (0 : Int) ≤ x5 ∧ x5 ≤ (1000 : Int) from by omega) (show od_B ((s.1 116)) (x1) (x2) from by first | with_reducible assumption | assumption) (show x1 ≤ 6 ∧ 1 ≤ x2 ∧ x2 ≤ 6 from by omega)
    · skip
      replace c30 : ¬ (s.1 115 ((12 * (s.1 116 x6)) + x6) ≤ x5) := c30
      exact sm_302_p107 hQ hX30 (show (46657 - od ((s.1 116)) (x2) (x1)).toNat ≤ M30 from by omega) hX55 (show (6 - x6).toNat ≤ M55 from by omega) hI (show (1 : Int) ≤ x1 ∧ x1 ≤ (6 : Int) from by omega) (show (0 : Int) ≤ x2 ∧ x2 ≤ (6 : Int) from by omega) (show (0 : Int) ≤ x3 ∧ x3 ≤ (1000 : Int) from by omega) (show (0 : Int) ≤ x6 ∧ x6 ≤ (5 : Int) from by omega) (show (0 : Int) ≤ s.1 115 ((12 * (s.1 116 x6)) + x6) ∧ s.1 115 ((12 * (s.1 116 x6)) + x6) ≤ (1000 : Int) from by omega) (show od_B ((s.1 116)) (x1) (x2) from by first | with_reducible assumption | assumption) (show x1 ≤ 6 ∧ 1 ≤ x2 ∧ x2 ≤ 6 from by omega)
theorem sm_302_p55L {X30 : Int → Int → lf_Z → Prop} {Q : Int → lf_Z → Prop} {x1 : Int} {x2 : Int} {x3 : Int} {x5 : Int} {x6 : Int} {s : lf_Z} (hQ : ∀ (r : Int) (s' : lf_Z), iv_A s'.1 s'.2.2 → lf_fq [116, 117] 1000000 true s.1 s.2.2 s'.1 s'.2.2 → (0 ≤ r ∧ r ≤ 1000) → Q r s') {M30 : Nat} (hX30 : ∀ (x3 : Int) (x4 : Int) (s' : lf_Z), iv_A s'.1 s'.2.2 → lf_fq [116, 117] 1000000 true s.1 s.2.2 s'.1 s'.2.2 → 0 ≤ x3 ∧ x3 ≤ 1000 → 0 ≤ x4 ∧ x4 ≤ 1 → (od_B (s'.1 116) (x1) (x2)) → (x1 ≤ 6 ∧ 1 ≤ x2 ∧ x2 ≤ 6) → (od_m (x4) (46657 - od (s'.1 116) (x2) (x1))).toNat < M30 → X30 x3 x4 s') (hM30 : (46657 - od (s.1 116) (x2) (x1)).toNat ≤ M30) (hI : iv_A s.1 s.2.2) (bx1 : 0 ≤ x1 ∧ x1 ≤ 6) (bx2 : 0 ≤ x2 ∧ x2 ≤ 6) (bx3 : 0 ≤ x3 ∧ x3 ≤ 1000) (bx5 : 0 ≤ x5 ∧ x5 ≤ 1000) (bx6 : 0 ≤ x6 ∧ x6 ≤ 6) (kv0 : od_B (s.1 116) (x1) (x2)) (kv1 : x1 ≤ 6 ∧ 1 ≤ x2 ∧ x2 ≤ 6) (kv2 : (46657 - od (s.1 116) (x2) (x1)).toNat ≤ M30) : fm_302_p55L X30 Q x1 x2 x3 x5 x6 s := by
  intro X55 hX
  have key : ∀ (m9 : Nat) (x5 : Int) (x6 : Int) (s' : lf_Z), iv_A s'.1 s'.2.2 → lf_fq [116, 117] 1000000 true s.1 s.2.2 s'.1 s'.2.2 → 0 ≤ x5 ∧ x5 ≤ 1000 → 0 ≤ x6 ∧ x6 ≤ 6 → (od_B (s'.1 116) (x1) (x2)) → (x1 ≤ 6 ∧ 1 ≤ x2 ∧ x2 ≤ 6) → ((46657 - od (s'.1 116) (x2) (x1)).toNat ≤ M30) → (6 - x6).toNat < m9 → X55 x5 x6 s' := by
    intro m9
    induction m9 with
    | zero => intro x5 x6 s' _ _ bx5 bx6 kv0 kv1 kv2 h9; exact absurd h9 (Nat.not_lt_zero _)
    | succ m9 ih => intro x5 x6 s' i7 f7 bx5 bx6 kv0 kv1 kv2 h9; exact hX _ _ _ (sm_302_p55 (fun r9 t9 i9 f9 => hQ r9 t9 i9 (lf_fq_tr f7 f9))  (fun p0 p1 t9 i9 f9 => hX30 p0 p1 t9 i9 (lf_fq_tr f7 f9)) kv2 (fun x5' x6' t8 i8 f8 bx5' bx6' kv0' kv1' kv2' h8 => ih x5' x6' t8 i8 (lf_fq_tr f7 f8) bx5' bx6' kv0' kv1' kv2' (by omega)) (Nat.le_refl _)  i7  bx1 bx2 bx3 bx5 bx6  kv0 kv1 kv2)
  exact key _ _ _ s hI lf_fq_rf bx5 bx6 kv0 kv1 kv2 (Nat.lt_succ_self _)
theorem sm_302_p50 {X30 : Int → Int → lf_Z → Prop} {Q : Int → lf_Z → Prop} {x1 : Int} {x2 : Int} {x3 : Int} {y0 : Int} {s : lf_Z} (hQ : ∀ (r : Int) (s' : lf_Z), iv_A s'.1 s'.2.2 → lf_fq [116, 117] 1000000 true s.1 s.2.2 s'.1 s'.2.2 → (0 ≤ r ∧ r ≤ 1000) → Q r s') {M30 : Nat} (hX30 : ∀ (x3 : Int) (x4 : Int) (s' : lf_Z), iv_A s'.1 s'.2.2 → lf_fq [116, 117] 1000000 true s.1 s.2.2 s'.1 s'.2.2 → 0 ≤ x3 ∧ x3 ≤ 1000 → 0 ≤ x4 ∧ x4 ≤ 1 → (od_B (s'.1 116) (x1) (x2)) → (x1 ≤ 6 ∧ 1 ≤ x2 ∧ x2 ≤ 6) → (od_m (x4) (46657 - od (s'.1 116) (x2) (x1))).toNat < M30 → X30 x3 x4 s') (hM30 : (46657 - od (s.1 116) (x2) (x1)).toNat ≤ M30) (hI : iv_A s.1 s.2.2) (bx1 : 0 ≤ x1 ∧ x1 ≤ 6) (bx2 : 0 ≤ x2 ∧ x2 ≤ 6) (bx3 : 0 ≤ x3 ∧ x3 ≤ 1000) (by0 : 0 ≤ y0 ∧ y0 ≤ 1000) (kv0 : od_B (s.1 116) (x1) (x2)) (kv1 : x1 ≤ 6 ∧ 1 ≤ x2 ∧ x2 ≤ 6) : fm_302_p50 X30 Q x1 x2 x3 y0 s := by
  unfold fm_302_p50
  exact sm_302_p55L hQ hX30 (show (46657 - od ((s.1 116)) (x2) (x1)).toNat ≤ M30 from by omega) hI (show (0 : Int) ≤ x1 ∧ x1 ≤ (6 : Int) from by omega) (show (0 : Int) ≤ x2 ∧ x2 ≤ (6 : Int) from by omega) (show (0 : Int) ≤ x3 ∧ x3 ≤ (1000 : Int) from by omega) (show (0 : Int) ≤ y0 ∧ y0 ≤ (1000 : Int) from by omega) (show (0 : Int) ≤ 0 ∧ 0 ≤ (6 : Int) from by omega) (show od_B ((s.1 116)) (x1) (x2) from by first | with_reducible assumption | assumption) (show x1 ≤ 6 ∧ 1 ≤ x2 ∧ x2 ≤ 6 from by omega) (show (46657 - od ((s.1 116)) (x2) (x1)).toNat ≤ M30 from by omega)
theorem sm_302_p30 {X30 : Int → Int → lf_Z → Prop} {Q : Int → lf_Z → Prop} {x1 : Int} {x2 : Int} {x3 : Int} {x4 : Int} {s : lf_Z} (hQ : ∀ (r : Int) (s' : lf_Z), iv_A s'.1 s'.2.2 → lf_fq [116, 117] 1000000 true s.1 s.2.2 s'.1 s'.2.2 → (0 ≤ r ∧ r ≤ 1000) → Q r s') {M30 : Nat} (hX30 : ∀ (x3 : Int) (x4 : Int) (s' : lf_Z), iv_A s'.1 s'.2.2 → lf_fq [116, 117] 1000000 true s.1 s.2.2 s'.1 s'.2.2 → 0 ≤ x3 ∧ x3 ≤ 1000 → 0 ≤ x4 ∧ x4 ≤ 1 → (od_B (s'.1 116) (x1) (x2)) → (x1 ≤ 6 ∧ 1 ≤ x2 ∧ x2 ≤ 6) → (od_m (x4) (46657 - od (s'.1 116) (x2) (x1))).toNat < M30 → X30 x3 x4 s') (hM30 : (od_m (x4) (46657 - od (s.1 116) (x2) (x1))).toNat ≤ M30) (hI : iv_A s.1 s.2.2) (bx1 : 0 ≤ x1 ∧ x1 ≤ 6) (bx2 : 0 ≤ x2 ∧ x2 ≤ 6) (bx3 : 0 ≤ x3 ∧ x3 ≤ 1000) (bx4 : 0 ≤ x4 ∧ x4 ≤ 1) (kv0 : od_B (s.1 116) (x1) (x2)) (kv1 : x1 ≤ 6 ∧ 1 ≤ x2 ∧ x2 ≤ 6) : fm_302_p30 Q x1 x2 X30 x3 x4 s := by
  unfold fm_302_p30
  have b4 : (x4 = 0 ∧ od_m (x4) (46657 - od ((s.1 116)) (x2) (x1)) = 0) ∨ (x4 ≠ 0 ∧ od_m (x4) (46657 - od ((s.1 116)) (x2) (x1)) = 46657 - od ((s.1 116)) (x2) (x1)) := od_mE _ _
  refine ⟨(show lf_R x4 from lf_Rof (by omega)), ?_⟩
  refine ⟨fun c5 => ?_, fun c5 => ?_⟩
  · skip
    replace c5 : x4 = 0 := c5
    exact hQ x3 s hI (lf_fq_rf) (show (0 : Int) ≤ x3 ∧ x3 ≤ (1000 : Int) from by omega)
  · skip
    replace c5 : ¬ (x4 = 0) := c5
    refine sm_303 hI (show (0 : Int) ≤ x1 ∧ x1 ≤ (6 : Int) from by omega) (fun z25 ps7 => ?_)
    replace ps7 : z25 = false → ¬ od_D ((s.1 116)) (x1) := ps7
    refine ⟨fun c8 => ?_, fun c8 => ?_⟩
    · skip
      have dps7 := ps7 c8
      exact sm_302_p50 hQ hX30 (show (46657 - od ((s.1 116)) (x2) (x1)).toNat ≤ M30 from by omega) hI (show (0 : Int) ≤ x1 ∧ x1 ≤ (6 : Int) from by omega) (show (0 : Int) ≤ x2 ∧ x2 ≤ (6 : Int) from by omega) (show (0 : Int) ≤ x3 ∧ x3 ≤ (1000 : Int) from by omega) (show (0 : Int) ≤ 1000 ∧ 1000 ≤ (1000 : Int) from by omega) (show od_B ((s.1 116)) (x1) (x2) from by first | with_reducible assumption | assumption) (show x1 ≤ 6 ∧ 1 ≤ x2 ∧ x2 ≤ 6 from by omega)
    · skip
      exact sm_302_p50 hQ hX30 (show (46657 - od ((s.1 116)) (x2) (x1)).toNat ≤ M30 from by omega) hI (show (0 : Int) ≤ x1 ∧ x1 ≤ (6 : Int) from by omega) (show (0 : Int) ≤ x2 ∧ x2 ≤ (6 : Int) from by omega) (show (0 : Int) ≤ x3 ∧ x3 ≤ (1000 : Int) from by omega) (show (0 : Int) ≤ 0 ∧ 0 ≤ (1000 : Int) from by omega) (show od_B ((s.1 116)) (x1) (x2) from by first | with_reducible assumption | assumption) (show x1 ≤ 6 ∧ 1 ≤ x2 ∧ x2 ≤ 6 from by omega)
theorem sm_302_p30L {Q : Int → lf_Z → Prop} {x1 : Int} {x2 : Int} {x3 : Int} {x4 : Int} {s : lf_Z} (hQ : ∀ (r : Int) (s' : lf_Z), iv_A s'.1 s'.2.2 → lf_fq [116, 117] 1000000 true s.1 s.2.2 s'.1 s'.2.2 → (0 ≤ r ∧ r ≤ 1000) → Q r s') (hI : iv_A s.1 s.2.2) (bx1 : 0 ≤ x1 ∧ x1 ≤ 6) (bx2 : 0 ≤ x2 ∧ x2 ≤ 6) (bx3 : 0 ≤ x3 ∧ x3 ≤ 1000) (bx4 : 0 ≤ x4 ∧ x4 ≤ 1) (kv0 : od_B (s.1 116) (x1) (x2)) (kv1 : x1 ≤ 6 ∧ 1 ≤ x2 ∧ x2 ≤ 6) : fm_302_p30L Q x1 x2 x3 x4 s := by
  intro X30 hX
  have key : ∀ (m9 : Nat) (x3 : Int) (x4 : Int) (s' : lf_Z), iv_A s'.1 s'.2.2 → lf_fq [116, 117] 1000000 true s.1 s.2.2 s'.1 s'.2.2 → 0 ≤ x3 ∧ x3 ≤ 1000 → 0 ≤ x4 ∧ x4 ≤ 1 → (od_B (s'.1 116) (x1) (x2)) → (x1 ≤ 6 ∧ 1 ≤ x2 ∧ x2 ≤ 6) → (od_m (x4) (46657 - od (s'.1 116) (x2) (x1))).toNat < m9 → X30 x3 x4 s' := by
    intro m9
    induction m9 with
    | zero => intro x3 x4 s' _ _ bx3 bx4 kv0 kv1 h9; exact absurd h9 (Nat.not_lt_zero _)
    | succ m9 ih => intro x3 x4 s' i7 f7 bx3 bx4 kv0 kv1 h9; exact hX _ _ _ (sm_302_p30 (fun r9 t9 i9 f9 => hQ r9 t9 i9 (lf_fq_tr f7 f9))   (fun x3' x4' t8 i8 f8 bx3' bx4' kv0' kv1' h8 => ih x3' x4' t8 i8 (lf_fq_tr f7 f8) bx3' bx4' kv0' kv1' (by omega)) (Nat.le_refl _)  i7  bx1 bx2 bx3 bx4  kv0 kv1)
  exact key _ _ _ s hI lf_fq_rf bx3 bx4 kv0 kv1 (Nat.lt_succ_self _)
theorem sm_302_p7 {X7 : Int → lf_Z → Prop} {Q : Int → lf_Z → Prop} {x1 : Int} {x2 : Int} {x3 : Int} {x4 : Int} {s : lf_Z} (hQ : ∀ (r : Int) (s' : lf_Z), iv_A s'.1 s'.2.2 → lf_fq [116, 117] 1000000 true s.1 s.2.2 s'.1 s'.2.2 → (0 ≤ r ∧ r ≤ 1000) → Q r s') {M7 : Nat} (hX7 : ∀ (x4 : Int) (s' : lf_Z), iv_A s'.1 s'.2.2 → lf_fq [116, 117] 1000000 true s.1 s.2.2 s'.1 s'.2.2 → 0 ≤ x4 ∧ x4 ≤ 6 → (lf_zr (s'.1 116) (x4)) → (x1 ≤ 6 ∧ 1 ≤ x2 ∧ x2 ≤ 6) → (6 - x4).toNat < M7 → X7 x4 s') (hM7 : (6 - x4).toNat ≤ M7) (hI : iv_A s.1 s.2.2) (bx1 : 0 ≤ x1 ∧ x1 ≤ 12) (bx2 : 0 ≤ x2 ∧ x2 ≤ 6) (bx3 : 1000 ≤ x3 ∧ x3 ≤ 1000) (bx4 : 0 ≤ x4 ∧ x4 ≤ 6) (kv0 : lf_zr (s.1 116) (x4)) (kv1 : x1 ≤ 6 ∧ 1 ≤ x2 ∧ x2 ≤ 6) : fm_302_p7 Q x1 x2 x3 X7 x4 s := by
  unfold fm_302_p7
  refine ⟨(show lf_R x4 from lf_Rof (by omega)), ?_⟩
  refine ⟨(show lf_R x1 from lf_Rof (by omega)), ?_⟩
  refine ⟨fun c2 => ?_, fun c2 => ?_⟩
  · skip
    replace c2 : x1 ≤ x4 := c2
    have b3 : od_B ((s.1 116)) (x1) (x2) := by first | with_reducible assumption | exact od_Bz kv0 (by omega) (by omega)
    exact sm_302_p30L hQ hI (show (0 : Int) ≤ x1 ∧ x1 ≤ (6 : Int) from by omega) (show (0 : Int) ≤ x2 ∧ x2 ≤ (6 : Int) from by omega) (show (0 : Int) ≤ x3 ∧ x3 ≤ (1000 : Int) from by omega) (show (0 : Int) ≤ 1 ∧ 1 ≤ (1 : Int) from by omega) (show od_B ((s.1 116)) (x1) (x2) from by first | with_reducible assumption | assumption) (show x1 ≤ 6 ∧ 1 ≤ x2 ∧ x2 ≤ 6 from by omega)
  · skip
    replace c2 : ¬ (x1 ≤ x4) := c2
    refine ⟨(show (0 : Int) ≤ x4 ∧ x4 < (6 : Int) from by omega), ?_⟩
    have hI31 : iv_A (lf_up s.1 116 x4 0) s.2.2 := iv_w116 hI (by omega)
    have fr32 : lf_fq [116, 117] 1000000 true s.1 s.2.2 (lf_up s.1 116 x4 0) s.2.2 := lf_fq_up (lf_fq_rf) rfl (fun h => absurd h (by decide))
    have b33 : lf_zr (((lf_up s.1 116 x4 0) 116)) ((x4 + 1)) := by first | exact lf_zrS kv0 lf_up_s (fun j hj => lf_up_i hj) | exact (fun j a b => by omega)
    exact hX7 (x4 + 1) (lf_up s.1 116 x4 0, s.2.1, s.2.2) hI31 fr32 (show (0 : Int) ≤ x4 + 1 ∧ x4 + 1 ≤ (6 : Int) from by omega) (show lf_zr (((lf_up s.1 116 x4 0) 116)) ((x4 + 1)) from by first | with_reducible assumption | assumption) (show x1 ≤ 6 ∧ 1 ≤ x2 ∧ x2 ≤ 6 from by omega) (show (6 - (x4 + 1)).toNat < M7 from by omega)
theorem sm_302_p7L {Q : Int → lf_Z → Prop} {x1 : Int} {x2 : Int} {x3 : Int} {x4 : Int} {s : lf_Z} (hQ : ∀ (r : Int) (s' : lf_Z), iv_A s'.1 s'.2.2 → lf_fq [116, 117] 1000000 true s.1 s.2.2 s'.1 s'.2.2 → (0 ≤ r ∧ r ≤ 1000) → Q r s') (hI : iv_A s.1 s.2.2) (bx1 : 0 ≤ x1 ∧ x1 ≤ 12) (bx2 : 0 ≤ x2 ∧ x2 ≤ 6) (bx3 : 1000 ≤ x3 ∧ x3 ≤ 1000) (bx4 : 0 ≤ x4 ∧ x4 ≤ 6) (kv0 : lf_zr (s.1 116) (x4)) (kv1 : x1 ≤ 6 ∧ 1 ≤ x2 ∧ x2 ≤ 6) : fm_302_p7L Q x1 x2 x3 x4 s := by
  intro X7 hX
  have key : ∀ (m9 : Nat) (x4 : Int) (s' : lf_Z), iv_A s'.1 s'.2.2 → lf_fq [116, 117] 1000000 true s.1 s.2.2 s'.1 s'.2.2 → 0 ≤ x4 ∧ x4 ≤ 6 → (lf_zr (s'.1 116) (x4)) → (x1 ≤ 6 ∧ 1 ≤ x2 ∧ x2 ≤ 6) → (6 - x4).toNat < m9 → X7 x4 s' := by
    intro m9
    induction m9 with
    | zero => intro x4 s' _ _ bx4 kv0 kv1 h9; exact absurd h9 (Nat.not_lt_zero _)
    | succ m9 ih => intro x4 s' i7 f7 bx4 kv0 kv1 h9; exact hX _ _ (sm_302_p7 (fun r9 t9 i9 f9 => hQ r9 t9 i9 (lf_fq_tr f7 f9))   (fun x4' t8 i8 f8 bx4' kv0' kv1' h8 => ih x4' t8 i8 (lf_fq_tr f7 f8) bx4' kv0' kv1' (by omega)) (Nat.le_refl _)  i7  bx1 bx2 bx3 bx4  kv0 kv1)
  exact key _ _ s hI lf_fq_rf bx4 kv0 kv1 (Nat.lt_succ_self _)
theorem sm_302 {a1 : Int} {a2 : Int} {Q : Int → lf_Z → Prop} {s : lf_Z} (hI : iv_A s.1 s.2.2) (ba1 : 0 ≤ a1 ∧ a1 ≤ 12) (ba2 : 0 ≤ a2 ∧ a2 ≤ 6) (kp0 : a1 ≤ 6) (kp1 : 1 ≤ a2 ∧ a2 ≤ 6) (hQ : ∀ (r : Int) (s' : lf_Z), iv_A s'.1 s'.2.2 → lf_fq [116, 117] 1000000 true s.1 s.2.2 s'.1 s'.2.2 → (0 ≤ r ∧ r ≤ 1000) → Q r s') : fm_302 a1 a2 Q s := by
  unfold fm_302
  have b1 : lf_zr ((s.1 116)) (0) := by first | exact lf_zrS kv0 lf_up_s (fun j hj => lf_up_i hj) | exact (fun j a b => by omega)
  exact sm_302_p7L hQ hI (show (0 : Int) ≤ a1 ∧ a1 ≤ (12 : Int) from by omega) (show (0 : Int) ≤ a2 ∧ a2 ≤ (6 : Int) from by omega) (show (1000 : Int) ≤ 1000 ∧ 1000 ≤ (1000 : Int) from by omega) (show (0 : Int) ≤ 0 ∧ 0 ≤ (6 : Int) from by omega) (show lf_zr ((s.1 116)) (0) from by first | with_reducible assumption | assumption) (show a1 ≤ 6 ∧ 1 ≤ a2 ∧ a2 ≤ 6 from by omega)
