-- cl_156 cluster
theorem sc_156T : ∀ n : Nat, (∀ {a1 a2 a3 a4 a5 : Int} {Q : lf_Z → Prop} {s : lf_Z}, (7 - a1).toNat < n → iv_A s.1 s.2.2 → 0 ≤ a1 ∧ a1 ≤ 6 → (-2147483648) ≤ a2 ∧ a2 ≤ 2147483647 → (-2147483648) ≤ a3 ∧ a3 ≤ 2147483647 → (-2147483648) ≤ a4 ∧ a4 ≤ 2147483647 → (-2147483648) ≤ a5 ∧ a5 ≤ 2147483647 → (∀  (s' : lf_Z), iv_A s'.1 s'.2.2 → lf_fq [74, 76, 77] 1000000 true s.1 s.2.2 s'.1 s'.2.2 → Q  s') → (fc_156T n) a1 a2 a3 a4 a5 Q s)
  | 0 => by intros; omega
  | n + 1 => fun hm hI b1 b2 b3 b4 b5 hQ => sm_156 (MR := n) (sc_156T n) (by omega) hI b1 b2 b3 b4 b5 hQ
theorem sc_156 {a1 : Int} {a2 : Int} {a3 : Int} {a4 : Int} {a5 : Int} {Q : lf_Z → Prop} {s : lf_Z} (hI : iv_A s.1 s.2.2) (ba1 : 0 ≤ a1 ∧ a1 ≤ 6) (ba2 : (-2147483648) ≤ a2 ∧ a2 ≤ 2147483647) (ba3 : (-2147483648) ≤ a3 ∧ a3 ≤ 2147483647) (ba4 : (-2147483648) ≤ a4 ∧ a4 ≤ 2147483647) (ba5 : (-2147483648) ≤ a5 ∧ a5 ≤ 2147483647) (hQ : ∀  (s' : lf_Z), iv_A s'.1 s'.2.2 → lf_fq [74, 76, 77] 1000000 true s.1 s.2.2 s'.1 s'.2.2 → Q  s') : fc_156 a1 a2 a3 a4 a5 Q s := (sc_156T 200) (by omega) hI ba1 ba2 ba3 ba4 ba5 hQ
-- fm_155 Errands.goAfterAll 74 i
theorem sm_155_p51 {X19 : Int → Int → lf_Z → Prop} {Q : Int → lf_Z → Prop} {x1 : Int} {x2 : Int} {x3 : Int} {s : lf_Z} (hQ : ∀ (r : Int) (s' : lf_Z), iv_A s'.1 s'.2.2 → lf_fq [74, 76, 77] 1000000 true s.1 s.2.2 s'.1 s'.2.2 → ((-2147483648) ≤ r ∧ r ≤ 2147483647) → Q r s') {M19 : Nat} (hX19 : ∀ (x2 : Int) (x3 : Int) (s' : lf_Z), iv_A s'.1 s'.2.2 → lf_fq [74, 76, 77] 1000000 true s.1 s.2.2 s'.1 s'.2.2 → (-2147483648) ≤ x2 ∧ x2 ≤ 2147483647 → 0 ≤ x3 ∧ x3 ≤ 4 → (s'.1 74 5 ≤ x3) → (4 - x3).toNat < M19 → X19 x2 x3 s') (hM19 : (4 - x3).toNat ≤ M19) (hI : iv_A s.1 s.2.2) (bx1 : 0 ≤ x1 ∧ x1 ≤ 5) (bx2 : (-2147483648) ≤ x2 ∧ x2 ≤ 2147483647) (bx3 : 0 ≤ x3 ∧ x3 ≤ 3) (kv0 : s.1 74 5 ≤ x3 + 1) : fm_155_p51 X19 Q x1 x2 x3 s := by
  unfold fm_155_p51
  have b21 : 0 ≤ s.1 74 5 ∧ s.1 74 5 ≤ 6 := iv_r74_5 hI
  exact hX19 (x2) (x3 + 1) s hI (lf_fq_rf) (show (-2147483648 : Int) ≤ x2 ∧ x2 ≤ (2147483647 : Int) from by omega) (show (0 : Int) ≤ x3 + 1 ∧ x3 + 1 ≤ (4 : Int) from by omega) (show (s.1 74 5) ≤ (x3 + 1) from by omega) (show (4 - (x3 + 1)).toNat < M19 from by omega)
theorem sm_155_p19 {X19 : Int → Int → lf_Z → Prop} {Q : Int → lf_Z → Prop} {x1 : Int} {x2 : Int} {x3 : Int} {s : lf_Z} (hQ : ∀ (r : Int) (s' : lf_Z), iv_A s'.1 s'.2.2 → lf_fq [74, 76, 77] 1000000 true s.1 s.2.2 s'.1 s'.2.2 → ((-2147483648) ≤ r ∧ r ≤ 2147483647) → Q r s') {M19 : Nat} (hX19 : ∀ (x2 : Int) (x3 : Int) (s' : lf_Z), iv_A s'.1 s'.2.2 → lf_fq [74, 76, 77] 1000000 true s.1 s.2.2 s'.1 s'.2.2 → (-2147483648) ≤ x2 ∧ x2 ≤ 2147483647 → 0 ≤ x3 ∧ x3 ≤ 4 → (s'.1 74 5 ≤ x3) → (4 - x3).toNat < M19 → X19 x2 x3 s') (hM19 : (4 - x3).toNat ≤ M19) (hI : iv_A s.1 s.2.2) (bx1 : 0 ≤ x1 ∧ x1 ≤ 5) (bx2 : (-2147483648) ≤ x2 ∧ x2 ≤ 2147483647) (bx3 : 0 ≤ x3 ∧ x3 ≤ 4) (kv0 : s.1 74 5 ≤ x3) : fm_155_p19 Q x1 X19 x2 x3 s := by
  unfold fm_155_p19
  refine ⟨(show lf_R x3 from lf_Rof (by omega)), ?_⟩
  refine ⟨fun c7 => ?_, fun c7 => ?_⟩
  · skip
    replace c7 : 4 ≤ x3 := c7
    have b8 : 0 ≤ s.1 74 5 ∧ s.1 74 5 ≤ 6 := iv_r74_5 hI
    refine ⟨(show lf_R (s.1 74 5) from lf_Rof (by omega)), ?_⟩
    refine ⟨fun c9 => ?_, fun c9 => ?_⟩
    · skip
      replace c9 : s.1 74 5 ≤ 0 := c9
      have b10 : (-2147483648) ≤ s.1 74 6 ∧ s.1 74 6 ≤ 2147483647 := iv_full hI
      exact hQ (s.1 74 6) s hI (lf_fq_rf) (show (-2147483648 : Int) ≤ s.1 74 6 ∧ s.1 74 6 ≤ (2147483647 : Int) from by omega)
    · skip
      replace c9 : ¬ (s.1 74 5 ≤ 0) := c9
      refine ⟨(show (0 : Int) ≤ x1 ∧ x1 < (6 : Int) from by omega), ?_⟩
      have b11 : (-2147483648) ≤ s.1 19 x1 ∧ s.1 19 x1 ≤ 2147483647 := iv_full hI
      refine sc_156 hI (show (0 : Int) ≤ 0 ∧ 0 ≤ (6 : Int) from by omega) (show (-2147483648 : Int) ≤ x2 ∧ x2 ≤ (2147483647 : Int) from by omega) (show (-2147483648 : Int) ≤ s.1 19 x1 ∧ s.1 19 x1 ≤ (2147483647 : Int) from by omega) (show (-2147483648 : Int) ≤ 0 ∧ 0 ≤ (2147483647 : Int) from by omega) (show (-2147483648 : Int) ≤ 0 ∧ 0 ≤ (2147483647 : Int) from by omega) (fun s24 hI13 fr12 => ?_)
      have fr15 : lf_fq [74, 76, 77] 1000000 true s.1 s.2.2 s24.1 s24.2.2 := lf_fq_tr (lf_fq_rf) (lf_fq_wk fr12 rfl (by decide) (by decide))
      have b16 : (-2147483648) ≤ s24.1 74 6 ∧ s24.1 74 6 ≤ 2147483647 := iv_full hI13
      exact hQ (s24.1 74 6) s24 hI13 fr15 (show (-2147483648 : Int) ≤ s24.1 74 6 ∧ s24.1 74 6 ≤ (2147483647 : Int) from by omega)
  · skip
    replace c7 : ¬ (4 ≤ x3) := c7
    refine sm_80 hI (show (-2147483648 : Int) ≤ x3 ∧ x3 ≤ (2147483647 : Int) from by omega) (fun z26 q17 => ?_)
    have b18 : (-2147483648) ≤ s.1 16 x3 ∧ s.1 16 x3 ≤ 2147483647 := iv_full hI
    refine ⟨fun c19 => ?_, fun c19 => ?_⟩
    · skip
      have dc19 := q17.2 c19
      have b20 : 0 ≤ s.1 74 5 ∧ s.1 74 5 ≤ 6 := iv_r74_5 hI
      exact sm_155_p51 hQ hX19 (show (4 - x3).toNat ≤ M19 from by omega) hI (show (0 : Int) ≤ x1 ∧ x1 ≤ (5 : Int) from by omega) (show (-2147483648 : Int) ≤ x2 ∧ x2 ≤ (2147483647 : Int) from by omega) (show (0 : Int) ≤ x3 ∧ x3 ≤ (3 : Int) from by omega) (show (s.1 74 5) ≤ x3 + 1 from by omega)
    · skip
      have dc19 := q17.1 c19
      have b22 : 1 ≤ lf_shl 1 x3 ∧ lf_shl 1 x3 ≤ 8 := lf_shl1 (m := 3) (by omega) (by omega) (by decide)
      have b23 : (-2147483648) ≤ lf_or x2 (lf_shl 1 x3) ∧ lf_or x2 (lf_shl 1 x3) ≤ 2147483647 := lf_orB
      have b24 : 0 ≤ s.1 74 5 ∧ s.1 74 5 ≤ 6 := iv_r74_5 hI
      have hI25 : iv_A (lf_up s.1 74 5 ((s.1 74 5) + 1)) s.2.2 := iv_w74_5 hI (by omega)
      have fr26 : lf_fq [74, 76, 77] 1000000 true s.1 s.2.2 (lf_up s.1 74 5 ((s.1 74 5) + 1)) s.2.2 := lf_fq_up (lf_fq_rf) rfl (fun h => absurd h (by decide))
      exact sm_155_p51 (fun r9 t9 i9 f9 => hQ r9 t9 i9 (lf_fq_tr fr26 f9)) (fun p0 p1 t9 i9 f9 => hX19 p0 p1 t9 i9 (lf_fq_tr fr26 f9)) (show (4 - x3).toNat ≤ M19 from by omega) hI25 (show (0 : Int) ≤ x1 ∧ x1 ≤ (5 : Int) from by omega) (show (-2147483648 : Int) ≤ lf_or x2 (lf_shl 1 x3) ∧ lf_or x2 (lf_shl 1 x3) ≤ (2147483647 : Int) from by omega) (show (0 : Int) ≤ x3 ∧ x3 ≤ (3 : Int) from by omega) (show ((s.1 74 5) + 1) ≤ x3 + 1 from by omega)
theorem sm_155_p19L {Q : Int → lf_Z → Prop} {x1 : Int} {x2 : Int} {x3 : Int} {s : lf_Z} (hQ : ∀ (r : Int) (s' : lf_Z), iv_A s'.1 s'.2.2 → lf_fq [74, 76, 77] 1000000 true s.1 s.2.2 s'.1 s'.2.2 → ((-2147483648) ≤ r ∧ r ≤ 2147483647) → Q r s') (hI : iv_A s.1 s.2.2) (bx1 : 0 ≤ x1 ∧ x1 ≤ 5) (bx2 : (-2147483648) ≤ x2 ∧ x2 ≤ 2147483647) (bx3 : 0 ≤ x3 ∧ x3 ≤ 4) (kv0 : s.1 74 5 ≤ x3) : fm_155_p19L Q x1 x2 x3 s := by
  intro X19 hX
  have key : ∀ (m9 : Nat) (x2 : Int) (x3 : Int) (s' : lf_Z), iv_A s'.1 s'.2.2 → lf_fq [74, 76, 77] 1000000 true s.1 s.2.2 s'.1 s'.2.2 → (-2147483648) ≤ x2 ∧ x2 ≤ 2147483647 → 0 ≤ x3 ∧ x3 ≤ 4 → (s'.1 74 5 ≤ x3) → (4 - x3).toNat < m9 → X19 x2 x3 s' := by
    intro m9
    induction m9 with
    | zero => intro x2 x3 s' _ _ bx2 bx3 kv0 h9; exact absurd h9 (Nat.not_lt_zero _)
    | succ m9 ih => intro x2 x3 s' i7 f7 bx2 bx3 kv0 h9; exact hX _ _ _ (sm_155_p19 (fun r9 t9 i9 f9 => hQ r9 t9 i9 (lf_fq_tr f7 f9))   (fun x2' x3' t8 i8 f8 bx2' bx3' kv0' h8 => ih x2' x3' t8 i8 (lf_fq_tr f7 f8) bx2' bx3' kv0' (by omega)) (Nat.le_refl _)  i7  bx1 bx2 bx3  kv0)
  exact key _ _ _ s hI lf_fq_rf bx2 bx3 kv0 (Nat.lt_succ_self _)
theorem sm_155 {a1 : Int} {Q : Int → lf_Z → Prop} {s : lf_Z} (hI : iv_A s.1 s.2.2) (ba1 : 0 ≤ a1 ∧ a1 ≤ 5) (hQ : ∀ (r : Int) (s' : lf_Z), iv_A s'.1 s'.2.2 → lf_fq [74, 76, 77] 1000000 true s.1 s.2.2 s'.1 s'.2.2 → ((-2147483648) ≤ r ∧ r ≤ 2147483647) → Q r s') : fm_155 a1 Q s := by
  unfold fm_155
  have hI1 : iv_A (lf_up s.1 74 6 (-1)) s.2.2 := iv_w74_6 hI (by omega)
  have fr2 : lf_fq [74, 76, 77] 1000000 true s.1 s.2.2 (lf_up s.1 74 6 (-1)) s.2.2 := lf_fq_up (lf_fq_rf) rfl (fun h => absurd h (by decide))
  have hI3 : iv_A (lf_up (lf_up s.1 74 6 (-1)) 74 5 0) s.2.2 := iv_w74_5 hI1 (by omega)
  have fr4 : lf_fq [74, 76, 77] 1000000 true s.1 s.2.2 (lf_up (lf_up s.1 74 6 (-1)) 74 5 0) s.2.2 := lf_fq_up fr2 rfl (fun h => absurd h (by decide))
  have hI5 : iv_A (lf_up (lf_up (lf_up s.1 74 6 (-1)) 74 5 0) 74 7 a1) s.2.2 := iv_w74_7 hI3 (by omega)
  have fr6 : lf_fq [74, 76, 77] 1000000 true s.1 s.2.2 (lf_up (lf_up (lf_up s.1 74 6 (-1)) 74 5 0) 74 7 a1) s.2.2 := lf_fq_up fr4 rfl (fun h => absurd h (by decide))
  exact sm_155_p19L (fun r9 t9 i9 f9 => hQ r9 t9 i9 (lf_fq_tr fr6 f9)) hI5 (show (0 : Int) ≤ a1 ∧ a1 ≤ (5 : Int) from by omega) (show (-2147483648 : Int) ≤ 0 ∧ 0 ≤ (2147483647 : Int) from by omega) (show (0 : Int) ≤ 0 ∧ 0 ≤ (4 : Int) from by omega) (show 0 ≤ 0 from by omega)
-- fm_157 Errands.bunchAt 74 i
theorem sm_157 {a1 : Int} {Q : Int → lf_Z → Prop} {s : lf_Z} (hI : iv_A s.1 s.2.2) (ba1 : 0 ≤ a1 ∧ a1 ≤ 2147483647) (hQ : ∀ (r : Int), ((-1) ≤ r ∧ r ≤ 5) → Q r s) : fm_157 a1 Q s := by
  unfold fm_157
  have b1 : (-2147483648) ≤ s.1 74 6 ∧ s.1 74 6 ≤ 2147483647 := iv_full hI
  refine ⟨(show lf_R (s.1 74 6) from lf_Rof (by omega)), ?_⟩
  refine ⟨fun c2 => ?_, fun c2 => ?_⟩
  · skip
    replace c2 : s.1 74 6 = (-1) := c2
    exact hQ (-1) (show (-1 : Int) ≤ (-1) ∧ (-1) ≤ (5 : Int) from by omega)
  · skip
    replace c2 : ¬ (s.1 74 6 = (-1)) := c2
    have b3 : 0 ≤ s.1 74 5 ∧ s.1 74 5 ≤ 6 := iv_r74_5 hI
    refine sm_15 hI (show (-2147483648 : Int) ≤ a1 ∧ a1 ≤ (2147483647 : Int) from by omega) (show (-1 : Int) ≤ 0 ∧ 0 ≤ (99 : Int) from by omega) (show (-2147483648 : Int) ≤ (s.1 74 5) - 1 ∧ (s.1 74 5) - 1 ≤ (2147483647 : Int) from by omega) (fun z23 q4 => ?_)
    refine ⟨fun c5 => ?_, fun c5 => ?_⟩
    · skip
      have dc5 := q4.2 c5
      exact hQ (-1) (show (-1 : Int) ≤ (-1) ∧ (-1) ≤ (5 : Int) from by omega)
    · skip
      have dc5 := q4.1 c5
      refine ⟨(show (0 : Int) ≤ a1 ∧ a1 < (6 : Int) from by omega), ?_⟩
      have b6 : 0 ≤ s.1 77 a1 ∧ s.1 77 a1 ≤ 5 := iv_r77 hI _
      exact hQ (s.1 77 a1) (show (-1 : Int) ≤ s.1 77 a1 ∧ s.1 77 a1 ≤ (5 : Int) from by omega)
-- fm_154 ElevenBullocks.after 0 i i
theorem sm_154 {a1 : Int} {a2 : Int} {Q : Int → lf_Z → Prop} {s : lf_Z} (hI : iv_A s.1 s.2.2) (ba1 : (-2147483648) ≤ a1 ∧ a1 ≤ 2147483647) (ba2 : (-2147483648) ≤ a2 ∧ a2 ≤ 2147483647) (hQ : ∀ (r : Int) (s' : lf_Z), iv_A s'.1 s'.2.2 → lf_fq [74, 76, 77] 1000000 true s.1 s.2.2 s'.1 s'.2.2 → ((-2147483648) ≤ r ∧ r ≤ 2147483647) → Q r s') : fm_154 a1 a2 Q s := by
  unfold fm_154
  refine sm_99 hI (show (-2147483648 : Int) ≤ a1 ∧ a1 ≤ (2147483647 : Int) from by omega) (fun z22 q1 => ?_)
  have b2 : 0 ≤ s.1 1 2 ∧ s.1 1 2 ≤ 6 := iv_r1_2 hI
  refine ⟨fun c3 => ?_, fun c3 => ?_⟩
  · skip
    have dc3 := q1.2 c3
    exact hQ (-1) s hI (lf_fq_rf) (show (-2147483648 : Int) ≤ (-1) ∧ (-1) ≤ (2147483647 : Int) from by omega)
  · skip
    have dc3 := q1.1 c3
    refine ⟨(show lf_R a2 from lf_Rof (by omega)), ?_⟩
    refine ⟨fun c4 => ?_, fun c4 => ?_⟩
    · skip
      replace c4 : (-1) ≤ a2 := c4
      refine sm_155 hI (show (0 : Int) ≤ a1 ∧ a1 ≤ (5 : Int) from by omega) (fun r25 s24 hI6 fr5 q7 => ?_)
      have fr8 : lf_fq [74, 76, 77] 1000000 true s.1 s.2.2 s24.1 s24.2.2 := lf_fq_tr (lf_fq_rf) (lf_fq_wk fr5 rfl (by decide) (by decide))
      refine ⟨fun c9 => ?_, fun c9 => ?_⟩
      · skip
        replace c9 : a2 ≠ (-1) := c9
        refine sm_157 hI6 (show (0 : Int) ≤ a2 ∧ a2 ≤ (2147483647 : Int) from by omega) (fun r27 q10 => ?_)
        exact hQ r27 s24 hI6 fr8 (show (-2147483648 : Int) ≤ r27 ∧ r27 ≤ (2147483647 : Int) from by omega)
      · skip
        replace c9 : ¬ (a2 ≠ (-1)) := c9
        exact hQ r25 s24 hI6 fr8 (show (-2147483648 : Int) ≤ r25 ∧ r25 ≤ (2147483647 : Int) from by omega)
    · skip
      replace c4 : ¬ ((-1) ≤ a2) := c4
      exact hQ (-1) s hI (lf_fq_rf) (show (-2147483648 : Int) ≤ (-1) ∧ (-1) ≤ (2147483647 : Int) from by omega)
-- fm_312 Model.layBunches 95 i
theorem sm_312_p61 {X38 : Int → lf_Z → Prop} {X61 : Int → lf_Z → Prop} {Q : Int → lf_Z → Prop} {x1 : Int} {x2 : Int} {x3 : Int} {x4 : Int} {s : lf_Z} (hQ : ∀ (r : Int) (s' : lf_Z), iv_A s'.1 s'.2.2 → lf_fq [108, 118, 119] 1000000 true s.1 s.2.2 s'.1 s'.2.2 → (0 ≤ r ∧ r ≤ 4) → Q r s') {M38 : Nat} (hX38 : ∀ (x3 : Int) (s' : lf_Z), iv_A s'.1 s'.2.2 → lf_fq [108, 118, 119] 1000000 true s.1 s.2.2 s'.1 s'.2.2 → 0 ≤ x3 ∧ x3 ≤ 4 → (4 - x3).toNat < M38 → X38 x3 s') (hM38 : (4 - x3).toNat ≤ M38) {M61 : Nat} (hX61 : ∀ (x4 : Int) (s' : lf_Z), iv_A s'.1 s'.2.2 → lf_fq [108, 118, 119] 1000000 true s.1 s.2.2 s'.1 s'.2.2 → 0 ≤ x4 ∧ x4 ≤ 4 → (4 - x4).toNat < M61 → X61 x4 s') (hM61 : (4 - x4).toNat ≤ M61) (hI : iv_A s.1 s.2.2) (bx1 : 0 ≤ x1 ∧ x1 ≤ 5) (bx2 : 1 ≤ x2 ∧ x2 ≤ 4) (bx3 : 0 ≤ x3 ∧ x3 ≤ 3) (bx4 : 0 ≤ x4 ∧ x4 ≤ 4) : fm_312_p61 X38 Q x1 x2 x3 X61 x4 s := by
  unfold fm_312_p61
  refine ⟨(show lf_R x4 from lf_Rof (by omega)), ?_⟩
  refine ⟨(show lf_R x2 from lf_Rof (by omega)), ?_⟩
  refine ⟨fun c10 => ?_, fun c10 => ?_⟩
  · skip
    replace c10 : x2 ≤ x4 := c10
    refine sm_239 hI (show (0 : Int) ≤ x1 ∧ x1 ≤ (5 : Int) from by omega) (fun r31 q11 => ?_)
    obtain ⟨q11, q11x⟩ := q11
    replace q11x : r31 = s.1 96 (126 + 6 * x1 + 3) := q11x
    refine sm_299 hI (show (0 : Int) ≤ x1 ∧ x1 ≤ (5 : Int) from by omega) (show (0 : Int) ≤ r31 ∧ r31 ≤ (11 : Int) from by omega) (fun r33 q12 => ?_)
    refine ⟨(show (0 : Int) ≤ 16 + x3 ∧ 16 + x3 < (20 : Int) from by omega), ?_⟩
    have hI13 : iv_A (lf_up s.1 119 (16 + x3) r33) s.2.2 := iv_w119 hI (by omega)
    have fr14 : lf_fq [108, 118, 119] 1000000 true s.1 s.2.2 (lf_up s.1 119 (16 + x3) r33) s.2.2 := lf_fq_up (lf_fq_rf) rfl (fun h => absurd h (by decide))
    exact hX38 (x3 + 1) (lf_up s.1 119 (16 + x3) r33, s.2.1, s.2.2) hI13 fr14 (show (0 : Int) ≤ x3 + 1 ∧ x3 + 1 ≤ (4 : Int) from by omega) (show (4 - (x3 + 1)).toNat < M38 from by omega)
  · skip
    replace c10 : ¬ (x2 ≤ x4) := c10
    refine ⟨(show (0 : Int) ≤ x4 ∧ x4 < (4 : Int) from by omega), ?_⟩
    have b15 : 0 ≤ s.1 118 x4 ∧ s.1 118 x4 ≤ 3 := iv_r118 hI _
    refine sm_255 hI (show (0 : Int) ≤ s.1 118 x4 ∧ s.1 118 x4 ≤ (3 : Int) from by omega) (fun r37 q16 => ?_)
    refine sm_299 hI (show (0 : Int) ≤ x1 ∧ x1 ≤ (5 : Int) from by omega) (show (0 : Int) ≤ r37 ∧ r37 ≤ (11 : Int) from by omega) (fun r39 q17 => ?_)
    refine ⟨(show (0 : Int) ≤ (4 * x4) + x3 ∧ (4 * x4) + x3 < (20 : Int) from by omega), ?_⟩
    have hI18 : iv_A (lf_up s.1 119 ((4 * x4) + x3) r39) s.2.2 := iv_w119 hI (by omega)
    have fr19 : lf_fq [108, 118, 119] 1000000 true s.1 s.2.2 (lf_up s.1 119 ((4 * x4) + x3) r39) s.2.2 := lf_fq_up (lf_fq_rf) rfl (fun h => absurd h (by decide))
    exact hX61 (x4 + 1) (lf_up s.1 119 ((4 * x4) + x3) r39, s.2.1, s.2.2) hI18 fr19 (show (0 : Int) ≤ x4 + 1 ∧ x4 + 1 ≤ (4 : Int) from by omega) (show (4 - (x4 + 1)).toNat < M61 from by omega)
theorem sm_312_p61L {X38 : Int → lf_Z → Prop} {Q : Int → lf_Z → Prop} {x1 : Int} {x2 : Int} {x3 : Int} {x4 : Int} {s : lf_Z} (hQ : ∀ (r : Int) (s' : lf_Z), iv_A s'.1 s'.2.2 → lf_fq [108, 118, 119] 1000000 true s.1 s.2.2 s'.1 s'.2.2 → (0 ≤ r ∧ r ≤ 4) → Q r s') {M38 : Nat} (hX38 : ∀ (x3 : Int) (s' : lf_Z), iv_A s'.1 s'.2.2 → lf_fq [108, 118, 119] 1000000 true s.1 s.2.2 s'.1 s'.2.2 → 0 ≤ x3 ∧ x3 ≤ 4 → (4 - x3).toNat < M38 → X38 x3 s') (hM38 : (4 - x3).toNat ≤ M38) (hI : iv_A s.1 s.2.2) (bx1 : 0 ≤ x1 ∧ x1 ≤ 5) (bx2 : 1 ≤ x2 ∧ x2 ≤ 4) (bx3 : 0 ≤ x3 ∧ x3 ≤ 3) (bx4 : 0 ≤ x4 ∧ x4 ≤ 4) : fm_312_p61L X38 Q x1 x2 x3 x4 s := by
  intro X61 hX
  have key : ∀ (m9 : Nat) (x4 : Int) (s' : lf_Z), iv_A s'.1 s'.2.2 → lf_fq [108, 118, 119] 1000000 true s.1 s.2.2 s'.1 s'.2.2 → 0 ≤ x4 ∧ x4 ≤ 4 → (4 - x4).toNat < m9 → X61 x4 s' := by
    intro m9
    induction m9 with
    | zero => intro x4 s' _ _ bx4 h9; exact absurd h9 (Nat.not_lt_zero _)
    | succ m9 ih => intro x4 s' i7 f7 bx4 h9; exact hX _ _ (sm_312_p61 (fun r9 t9 i9 f9 => hQ r9 t9 i9 (lf_fq_tr f7 f9))  (fun p0 t9 i9 f9 => hX38 p0 t9 i9 (lf_fq_tr f7 f9)) hM38 (fun x4' t8 i8 f8 bx4' h8 => ih x4' t8 i8 (lf_fq_tr f7 f8) bx4' (by omega)) (Nat.le_refl _)  i7  bx1 bx2 bx3 bx4  )
  exact key _ _ s hI lf_fq_rf bx4 (Nat.lt_succ_self _)
theorem sm_312_p38 {X38 : Int → lf_Z → Prop} {Q : Int → lf_Z → Prop} {x1 : Int} {x2 : Int} {x3 : Int} {s : lf_Z} (hQ : ∀ (r : Int) (s' : lf_Z), iv_A s'.1 s'.2.2 → lf_fq [108, 118, 119] 1000000 true s.1 s.2.2 s'.1 s'.2.2 → (0 ≤ r ∧ r ≤ 4) → Q r s') {M38 : Nat} (hX38 : ∀ (x3 : Int) (s' : lf_Z), iv_A s'.1 s'.2.2 → lf_fq [108, 118, 119] 1000000 true s.1 s.2.2 s'.1 s'.2.2 → 0 ≤ x3 ∧ x3 ≤ 4 → (4 - x3).toNat < M38 → X38 x3 s') (hM38 : (4 - x3).toNat ≤ M38) (hI : iv_A s.1 s.2.2) (bx1 : 0 ≤ x1 ∧ x1 ≤ 5) (bx2 : 0 ≤ x2 ∧ x2 ≤ 4) (bx3 : 0 ≤ x3 ∧ x3 ≤ 4) : fm_312_p38 Q x1 x2 X38 x3 s := by
  unfold fm_312_p38
  refine ⟨(show lf_R x3 from lf_Rof (by omega)), ?_⟩
  refine ⟨(show lf_R x2 from lf_Rof (by omega)), ?_⟩
  refine ⟨fun c2 => ?_, fun c2 => ?_⟩
  · skip
    replace c2 : x2 ≤ x3 := c2
    exact hQ x2 s hI (lf_fq_rf) (show (0 : Int) ≤ x2 ∧ x2 ≤ (4 : Int) from by omega)
  · skip
    replace c2 : ¬ (x2 ≤ x3) := c2
    refine ⟨(show (0 : Int) ≤ x3 ∧ x3 < (4 : Int) from by omega), ?_⟩
    have b3 : 0 ≤ s.1 118 x3 ∧ s.1 118 x3 ≤ 3 := iv_r118 hI _
    refine sm_255 hI (show (0 : Int) ≤ s.1 118 x3 ∧ s.1 118 x3 ≤ (3 : Int) from by omega) (fun r26 q4 => ?_)
    refine sm_261 hI (show (-1 : Int) ≤ r26 ∧ r26 ≤ (11 : Int) from by omega) (show (0 : Int) ≤ 1 ∧ 1 ≤ (1 : Int) from by omega) (fun s27 hI6 fr5 ps8 => ?_)
    replace ps8 : (1 : Int) = 1 → bf_G (s27.1 96) (s27.1 108) (r26) := ps8
    have fr9 : lf_fq [108, 118, 119] 1000000 true s.1 s.2.2 s27.1 s27.2.2 := lf_fq_tr (lf_fq_rf) (lf_fq_wk fr5 rfl (by decide) (by decide))
    exact sm_312_p61L (fun r9 t9 i9 f9 => hQ r9 t9 i9 (lf_fq_tr fr9 f9)) (fun p0 t9 i9 f9 => hX38 p0 t9 i9 (lf_fq_tr fr9 f9)) (show (4 - x3).toNat ≤ M38 from by omega) hI6 (show (0 : Int) ≤ x1 ∧ x1 ≤ (5 : Int) from by omega) (show (1 : Int) ≤ x2 ∧ x2 ≤ (4 : Int) from by omega) (show (0 : Int) ≤ x3 ∧ x3 ≤ (3 : Int) from by omega) (show (0 : Int) ≤ 0 ∧ 0 ≤ (4 : Int) from by omega)
theorem sm_312_p38L {Q : Int → lf_Z → Prop} {x1 : Int} {x2 : Int} {x3 : Int} {s : lf_Z} (hQ : ∀ (r : Int) (s' : lf_Z), iv_A s'.1 s'.2.2 → lf_fq [108, 118, 119] 1000000 true s.1 s.2.2 s'.1 s'.2.2 → (0 ≤ r ∧ r ≤ 4) → Q r s') (hI : iv_A s.1 s.2.2) (bx1 : 0 ≤ x1 ∧ x1 ≤ 5) (bx2 : 0 ≤ x2 ∧ x2 ≤ 4) (bx3 : 0 ≤ x3 ∧ x3 ≤ 4) : fm_312_p38L Q x1 x2 x3 s := by
  intro X38 hX
  have key : ∀ (m9 : Nat) (x3 : Int) (s' : lf_Z), iv_A s'.1 s'.2.2 → lf_fq [108, 118, 119] 1000000 true s.1 s.2.2 s'.1 s'.2.2 → 0 ≤ x3 ∧ x3 ≤ 4 → (4 - x3).toNat < m9 → X38 x3 s' := by
    intro m9
    induction m9 with
    | zero => intro x3 s' _ _ bx3 h9; exact absurd h9 (Nat.not_lt_zero _)
    | succ m9 ih => intro x3 s' i7 f7 bx3 h9; exact hX _ _ (sm_312_p38 (fun r9 t9 i9 f9 => hQ r9 t9 i9 (lf_fq_tr f7 f9))   (fun x3' t8 i8 f8 bx3' h8 => ih x3' t8 i8 (lf_fq_tr f7 f8) bx3' (by omega)) (Nat.le_refl _)  i7  bx1 bx2 bx3  )
  exact key _ _ s hI lf_fq_rf bx3 (Nat.lt_succ_self _)
theorem sm_312_p30 {X4 : Int → Int → lf_Z → Prop} {Q : Int → lf_Z → Prop} {x1 : Int} {x2 : Int} {x3 : Int} {s : lf_Z} (hQ : ∀ (r : Int) (s' : lf_Z), iv_A s'.1 s'.2.2 → lf_fq [108, 118, 119] 1000000 true s.1 s.2.2 s'.1 s'.2.2 → (0 ≤ r ∧ r ≤ 4) → Q r s') {M4 : Nat} (hX4 : ∀ (x2 : Int) (x3 : Int) (s' : lf_Z), iv_A s'.1 s'.2.2 → lf_fq [108, 118, 119] 1000000 true s.1 s.2.2 s'.1 s'.2.2 → 0 ≤ x2 ∧ x2 ≤ 4 → 0 ≤ x3 ∧ x3 ≤ 4 → (x2 ≤ x3) → (4 - x3).toNat < M4 → X4 x2 x3 s') (hM4 : (4 - x3).toNat ≤ M4) (hI : iv_A s.1 s.2.2) (bx1 : 0 ≤ x1 ∧ x1 ≤ 5) (bx2 : 0 ≤ x2 ∧ x2 ≤ 4) (bx3 : 0 ≤ x3 ∧ x3 ≤ 3) (kv0 : x2 ≤ x3 + 1) : fm_312_p30 X4 Q x1 x2 x3 s := by
  unfold fm_312_p30
  exact hX4 (x2) (x3 + 1) s hI (lf_fq_rf) (show (0 : Int) ≤ x2 ∧ x2 ≤ (4 : Int) from by omega) (show (0 : Int) ≤ x3 + 1 ∧ x3 + 1 ≤ (4 : Int) from by omega) (show x2 ≤ (x3 + 1) from by omega) (show (4 - (x3 + 1)).toNat < M4 from by omega)
theorem sm_312_p4 {X4 : Int → Int → lf_Z → Prop} {Q : Int → lf_Z → Prop} {x1 : Int} {x2 : Int} {x3 : Int} {s : lf_Z} (hQ : ∀ (r : Int) (s' : lf_Z), iv_A s'.1 s'.2.2 → lf_fq [108, 118, 119] 1000000 true s.1 s.2.2 s'.1 s'.2.2 → (0 ≤ r ∧ r ≤ 4) → Q r s') {M4 : Nat} (hX4 : ∀ (x2 : Int) (x3 : Int) (s' : lf_Z), iv_A s'.1 s'.2.2 → lf_fq [108, 118, 119] 1000000 true s.1 s.2.2 s'.1 s'.2.2 → 0 ≤ x2 ∧ x2 ≤ 4 → 0 ≤ x3 ∧ x3 ≤ 4 → (x2 ≤ x3) → (4 - x3).toNat < M4 → X4 x2 x3 s') (hM4 : (4 - x3).toNat ≤ M4) (hI : iv_A s.1 s.2.2) (bx1 : 0 ≤ x1 ∧ x1 ≤ 5) (bx2 : 0 ≤ x2 ∧ x2 ≤ 4) (bx3 : 0 ≤ x3 ∧ x3 ≤ 4) (kv0 : x2 ≤ x3) : fm_312_p4 Q x1 X4 x2 x3 s := by
  unfold fm_312_p4
  refine ⟨(show lf_R x3 from lf_Rof (by omega)), ?_⟩
  refine ⟨fun c1 => ?_, fun c1 => ?_⟩
  · skip
    replace c1 : 4 ≤ x3 := c1
    exact sm_312_p38L hQ hI (show (0 : Int) ≤ x1 ∧ x1 ≤ (5 : Int) from by omega) (show (0 : Int) ≤ x2 ∧ x2 ≤ (4 : Int) from by omega) (show (0 : Int) ≤ 0 ∧ 0 ≤ (4 : Int) from by omega)
  · skip
    replace c1 : ¬ (4 ≤ x3) := c1
    refine sm_242 hI (show (0 : Int) ≤ x3 ∧ x3 ≤ (3 : Int) from by omega) (fun r42 q20 => ?_)
    obtain ⟨q20, q20x⟩ := q20
    replace q20x : r42 = s.1 96 (114 + 3 * x3) := q20x
    refine ⟨(show lf_R r42 from lf_Rof (by omega)), ?_⟩
    refine ⟨fun c21 => ?_, fun c21 => ?_⟩
    · skip
      replace c21 : r42 ≠ 0 := c21
      refine ⟨(show (0 : Int) ≤ x2 ∧ x2 < (4 : Int) from by omega), ?_⟩
      have hI22 : iv_A (lf_up s.1 118 x2 x3) s.2.2 := iv_w118 hI (by omega)
      have fr23 : lf_fq [108, 118, 119] 1000000 true s.1 s.2.2 (lf_up s.1 118 x2 x3) s.2.2 := lf_fq_up (lf_fq_rf) rfl (fun h => absurd h (by decide))
      exact sm_312_p30 (fun r9 t9 i9 f9 => hQ r9 t9 i9 (lf_fq_tr fr23 f9)) (fun p0 p1 t9 i9 f9 => hX4 p0 p1 t9 i9 (lf_fq_tr fr23 f9)) (show (4 - x3).toNat ≤ M4 from by omega) hI22 (show (0 : Int) ≤ x1 ∧ x1 ≤ (5 : Int) from by omega) (show (0 : Int) ≤ x2 + 1 ∧ x2 + 1 ≤ (4 : Int) from by omega) (show (0 : Int) ≤ x3 ∧ x3 ≤ (3 : Int) from by omega) (show (x2 + 1) ≤ x3 + 1 from by omega)
    · skip
      replace c21 : ¬ (r42 ≠ 0) := c21
      exact sm_312_p30 hQ hX4 (show (4 - x3).toNat ≤ M4 from by omega) hI (show (0 : Int) ≤ x1 ∧ x1 ≤ (5 : Int) from by omega) (show (0 : Int) ≤ x2 ∧ x2 ≤ (4 : Int) from by omega) (show (0 : Int) ≤ x3 ∧ x3 ≤ (3 : Int) from by omega) (show x2 ≤ x3 + 1 from by omega)
theorem sm_312_p4L {Q : Int → lf_Z → Prop} {x1 : Int} {x2 : Int} {x3 : Int} {s : lf_Z} (hQ : ∀ (r : Int) (s' : lf_Z), iv_A s'.1 s'.2.2 → lf_fq [108, 118, 119] 1000000 true s.1 s.2.2 s'.1 s'.2.2 → (0 ≤ r ∧ r ≤ 4) → Q r s') (hI : iv_A s.1 s.2.2) (bx1 : 0 ≤ x1 ∧ x1 ≤ 5) (bx2 : 0 ≤ x2 ∧ x2 ≤ 4) (bx3 : 0 ≤ x3 ∧ x3 ≤ 4) (kv0 : x2 ≤ x3) : fm_312_p4L Q x1 x2 x3 s := by
  intro X4 hX
  have key : ∀ (m9 : Nat) (x2 : Int) (x3 : Int) (s' : lf_Z), iv_A s'.1 s'.2.2 → lf_fq [108, 118, 119] 1000000 true s.1 s.2.2 s'.1 s'.2.2 → 0 ≤ x2 ∧ x2 ≤ 4 → 0 ≤ x3 ∧ x3 ≤ 4 → (x2 ≤ x3) → (4 - x3).toNat < m9 → X4 x2 x3 s' := by
    intro m9
    induction m9 with
    | zero => intro x2 x3 s' _ _ bx2 bx3 kv0 h9; exact absurd h9 (Nat.not_lt_zero _)
    | succ m9 ih => intro x2 x3 s' i7 f7 bx2 bx3 kv0 h9; exact hX _ _ _ (sm_312_p4 (fun r9 t9 i9 f9 => hQ r9 t9 i9 (lf_fq_tr f7 f9))   (fun x2' x3' t8 i8 f8 bx2' bx3' kv0' h8 => ih x2' x3' t8 i8 (lf_fq_tr f7 f8) bx2' bx3' kv0' (by omega)) (Nat.le_refl _)  i7  bx1 bx2 bx3  kv0)
  exact key _ _ _ s hI lf_fq_rf bx2 bx3 kv0 (Nat.lt_succ_self _)
theorem sm_312 {a1 : Int} {Q : Int → lf_Z → Prop} {s : lf_Z} (hI : iv_A s.1 s.2.2) (ba1 : 0 ≤ a1 ∧ a1 ≤ 5) (hQ : ∀ (r : Int) (s' : lf_Z), iv_A s'.1 s'.2.2 → lf_fq [108, 118, 119] 1000000 true s.1 s.2.2 s'.1 s'.2.2 → (0 ≤ r ∧ r ≤ 4) → Q r s') : fm_312 a1 Q s := by
  unfold fm_312
  exact sm_312_p4L hQ hI (show (0 : Int) ≤ a1 ∧ a1 ≤ (5 : Int) from by omega) (show (0 : Int) ≤ 0 ∧ 0 ≤ (4 : Int) from by omega) (show (0 : Int) ≤ 0 ∧ 0 ≤ (4 : Int) from by omega) (show 0 ≤ 0 from by omega)
-- fm_313 Model.harmBy 95 i
theorem sm_313_p10 {X10 : Int → Int → Int → Int → lf_Z → Prop} {Q : Int → lf_Z → Prop} {x1 : Int} {x2 : Int} {x3 : Int} {x4 : Int} {x5 : Int} {s : lf_Z} (hQ : ∀ (r : Int), (0 ≤ r ∧ r ≤ 38016000) → Q r s) {M10 : Nat} (hX10 : ∀ (x2 : Int) (x3 : Int) (x4 : Int) (x5 : Int), 0 ≤ x2 ∧ x2 ≤ 38016000 → 0 ≤ x3 ∧ x3 ≤ 4000 → 0 ≤ x4 ∧ x4 ≤ 4 → 0 ≤ x5 ∧ x5 ≤ 4 → (od_B (s.1 116) (x1) 4) → (0 ≤ x2 ∧ x2 ≤ 9504000 * x5 ∧ 0 ≤ x3 ∧ x3 ≤ 1000 * x5) → (4 - x5).toNat < M10 → X10 x2 x3 x4 x5 s) (hM10 : (4 - x5).toNat ≤ M10) (hI : iv_A s.1 s.2.2) (bx1 : 0 ≤ x1 ∧ x1 ≤ 4) (bx2 : 0 ≤ x2 ∧ x2 ≤ 38016000) (bx3 : 0 ≤ x3 ∧ x3 ≤ 4000) (bx4 : 0 ≤ x4 ∧ x4 ≤ 4) (bx5 : 0 ≤ x5 ∧ x5 ≤ 4) (kv0 : od_B (s.1 116) (x1) 4) (kv1 : 0 ≤ x2 ∧ x2 ≤ 9504000 * x5 ∧ 0 ≤ x3 ∧ x3 ≤ 1000 * x5) : fm_313_p10 Q x1 X10 x2 x3 x4 x5 s := by
  unfold fm_313_p10
  refine ⟨(show lf_R x5 from lf_Rof (by omega)), ?_⟩
  refine ⟨(show lf_R x1 from lf_Rof (by omega)), ?_⟩
  refine ⟨fun c1 => ?_, fun c1 => ?_⟩
  · skip
    replace c1 : x1 ≤ x5 := c1
    exact hQ x2 (show (0 : Int) ≤ x2 ∧ x2 ≤ (38016000 : Int) from by omega)
  · skip
    replace c1 : ¬ (x1 ≤ x5) := c1
    have b2 : 0 ≤ (s.1 116 x5) ∧ (s.1 116 x5) < 4 := kv0 _ (by omega) (by omega)
    refine ⟨(show (0 : Int) ≤ x5 ∧ x5 < (6 : Int) from by omega), ?_⟩
    have b3 : 0 ≤ s.1 116 x5 ∧ s.1 116 x5 ≤ 5 := iv_r116 hI _
    refine ⟨(show (0 : Int) ≤ s.1 116 x5 ∧ s.1 116 x5 < (4 : Int) from by omega), ?_⟩
    have b4 : 0 ≤ s.1 118 (s.1 116 x5) ∧ s.1 118 (s.1 116 x5) ≤ 3 := iv_r118 hI _
    refine ⟨(show (0 : Int) ≤ (4 * x4) + (s.1 116 x5) ∧ (4 * x4) + (s.1 116 x5) < (20 : Int) from by omega), ?_⟩
    have b5 : 0 ≤ s.1 119 ((4 * x4) + (s.1 116 x5)) ∧ s.1 119 ((4 * x4) + (s.1 116 x5)) ≤ 1000 := iv_r119 hI _
    refine sm_242 hI (show (0 : Int) ≤ s.1 118 (s.1 116 x5) ∧ s.1 118 (s.1 116 x5) ≤ (3 : Int) from by omega) (fun r27 q6 => ?_)
    obtain ⟨q6, q6x⟩ := q6
    replace q6x : r27 = s.1 96 (114 + 3 * (s.1 118 (s.1 116 x5))) := q6x
    refine sm_255 hI (show (0 : Int) ≤ s.1 118 (s.1 116 x5) ∧ s.1 118 (s.1 116 x5) ≤ (3 : Int) from by omega) (fun r29 q7 => ?_)
    refine sm_277 hI (show (0 : Int) ≤ r29 ∧ r29 ≤ (11 : Int) from by omega) (fun r31 q8 => ?_)
    have b9 : 0 ≤ r27 * r31 ∧ r27 * r31 ≤ 2376 := lf_mulB (a := r27) (b := r31) (p := 0) (q := 24) (r := 0) (u := 99) (by omega) (by omega) (by decide) (by decide) (by decide) (by decide) (by decide) (by decide) (by decide) (by decide)
    have b10 : 0 ≤ (r27 * r31) * (x3 + (s.1 119 ((4 * x4) + (s.1 116 x5)))) ∧ (r27 * r31) * (x3 + (s.1 119 ((4 * x4) + (s.1 116 x5)))) ≤ 11880000 := lf_mulB (a := (r27 * r31)) (b := (x3 + (s.1 119 ((4 * x4) + (s.1 116 x5))))) (p := 0) (q := 2376) (r := 0) (u := 5000) (by omega) (by omega) (by decide) (by decide) (by decide) (by decide) (by decide) (by decide) (by decide) (by decide)
    have b11 : ((r27 * r31) * (x3 + (s.1 119 ((4 * x4) + (s.1 116 x5))))) ≤ 9504000 := lf_m9 (by omega) (by omega)
    exact hX10 (x2 + ((r27 * r31) * (x3 + (s.1 119 ((4 * x4) + (s.1 116 x5)))))) (x3 + (s.1 119 ((4 * x4) + (s.1 116 x5)))) (s.1 116 x5) (x5 + 1) (show (0 : Int) ≤ x2 + ((r27 * r31) * (x3 + (s.1 119 ((4 * x4) + (s.1 116 x5))))) ∧ x2 + ((r27 * r31) * (x3 + (s.1 119 ((4 * x4) + (s.1 116 x5))))) ≤ (38016000 : Int) from by omega) (show (0 : Int) ≤ x3 + (s.1 119 ((4 * x4) + (s.1 116 x5))) ∧ x3 + (s.1 119 ((4 * x4) + (s.1 116 x5))) ≤ (4000 : Int) from by omega) (show (0 : Int) ≤ s.1 116 x5 ∧ s.1 116 x5 ≤ (4 : Int) from by omega) (show (0 : Int) ≤ x5 + 1 ∧ x5 + 1 ≤ (4 : Int) from by omega) (show od_B ((s.1 116)) (x1) 4 from by first | with_reducible assumption | assumption) (show 0 ≤ (x2 + ((r27 * r31) * (x3 + (s.1 119 ((4 * x4) + (s.1 116 x5)))))) ∧ (x2 + ((r27 * r31) * (x3 + (s.1 119 ((4 * x4) + (s.1 116 x5)))))) ≤ 9504000 * (x5 + 1) ∧ 0 ≤ (x3 + (s.1 119 ((4 * x4) + (s.1 116 x5)))) ∧ (x3 + (s.1 119 ((4 * x4) + (s.1 116 x5)))) ≤ 1000 * (x5 + 1) from by omega) (show (4 - (x5 + 1)).toNat < M10 from by omega)
theorem sm_313_p10L {Q : Int → lf_Z → Prop} {x1 : Int} {x2 : Int} {x3 : Int} {x4 : Int} {x5 : Int} {s : lf_Z} (hQ : ∀ (r : Int), (0 ≤ r ∧ r ≤ 38016000) → Q r s) (hI : iv_A s.1 s.2.2) (bx1 : 0 ≤ x1 ∧ x1 ≤ 4) (bx2 : 0 ≤ x2 ∧ x2 ≤ 38016000) (bx3 : 0 ≤ x3 ∧ x3 ≤ 4000) (bx4 : 0 ≤ x4 ∧ x4 ≤ 4) (bx5 : 0 ≤ x5 ∧ x5 ≤ 4) (kv0 : od_B (s.1 116) (x1) 4) (kv1 : 0 ≤ x2 ∧ x2 ≤ 9504000 * x5 ∧ 0 ≤ x3 ∧ x3 ≤ 1000 * x5) : fm_313_p10L Q x1 x2 x3 x4 x5 s := by
  intro X10 hX
  have key : ∀ (m9 : Nat) (x2 : Int) (x3 : Int) (x4 : Int) (x5 : Int), 0 ≤ x2 ∧ x2 ≤ 38016000 → 0 ≤ x3 ∧ x3 ≤ 4000 → 0 ≤ x4 ∧ x4 ≤ 4 → 0 ≤ x5 ∧ x5 ≤ 4 → (od_B (s.1 116) (x1) 4) → (0 ≤ x2 ∧ x2 ≤ 9504000 * x5 ∧ 0 ≤ x3 ∧ x3 ≤ 1000 * x5) → (4 - x5).toNat < m9 → X10 x2 x3 x4 x5 s := by
    intro m9
    induction m9 with
    | zero => intro x2 x3 x4 x5 bx2 bx3 bx4 bx5 kv0 kv1 h9; exact absurd h9 (Nat.not_lt_zero _)
    | succ m9 ih => intro x2 x3 x4 x5 bx2 bx3 bx4 bx5 kv0 kv1 h9; exact hX _ _ _ _ _ (sm_313_p10 hQ   (fun x2' x3' x4' x5' bx2' bx3' bx4' bx5' kv0' kv1' h8 => ih x2' x3' x4' x5' bx2' bx3' bx4' bx5' kv0' kv1' (by omega)) (Nat.le_refl _)  hI  bx1 bx2 bx3 bx4 bx5  kv0 kv1)
  exact key _ _ _ _ _ bx2 bx3 bx4 bx5  kv0 kv1 (Nat.lt_succ_self _)
theorem sm_313 {a1 : Int} {Q : Int → lf_Z → Prop} {s : lf_Z} (hI : iv_A s.1 s.2.2) (ba1 : 0 ≤ a1 ∧ a1 ≤ 4) (kp0 : od_B (s.1 116) (a1) 4) (hQ : ∀ (r : Int), (0 ≤ r ∧ r ≤ 38016000) → Q r s) : fm_313 a1 Q s := by
  unfold fm_313
  exact sm_313_p10L hQ hI (show (0 : Int) ≤ a1 ∧ a1 ≤ (4 : Int) from by omega) (show (0 : Int) ≤ 0 ∧ 0 ≤ (38016000 : Int) from by omega) (show (0 : Int) ≤ 0 ∧ 0 ≤ (4000 : Int) from by omega) (show (0 : Int) ≤ 4 ∧ 4 ≤ (4 : Int) from by omega) (show (0 : Int) ≤ 0 ∧ 0 ≤ (4 : Int) from by omega) (show od_B ((s.1 116)) (a1) 4 from by first | with_reducible assumption | assumption) (show 0 ≤ 0 ∧ 0 ≤ 9504000 * 0 ∧ 0 ≤ 0 ∧ 0 ≤ 1000 * 0 from by omega)
-- fm_311 Model.after 95 i i
theorem sm_311_p168 {X94 : Int → Int → lf_Z → Prop} {Q : Int → lf_Z → Prop} {x2 : Int} {x3 : Int} {x4 : Int} {s : lf_Z} (hQ : ∀ (r : Int) (s' : lf_Z), iv_A s'.1 s'.2.2 → lf_fq [108, 116, 117, 118, 119] 1000000 true s.1 s.2.2 s'.1 s'.2.2 → ((-1) ≤ r ∧ r ≤ 38016000) → Q r s') {M94 : Nat} (hX94 : ∀ (x4 : Int) (x5 : Int) (s' : lf_Z), iv_A s'.1 s'.2.2 → lf_fq [108, 116, 117, 118, 119] 1000000 true s.1 s.2.2 s'.1 s'.2.2 → (-1) ≤ x4 ∧ x4 ≤ 38016000 → 0 ≤ x5 ∧ x5 ≤ 1 → (x2 < x3 ∧ -1 ≤ x2) → (od_B (s'.1 116) (x3) (x3)) → (af_F (s'.1 116) (s'.1 117) (x3) (x4) (x5)) → (od_m (x5) (46657 - od (s'.1 116) (x3) (x3))).toNat < M94 → X94 x4 x5 s') (hM94 : (46657 - od (s.1 116) (x3) (x3)).toNat ≤ M94) (hI : iv_A s.1 s.2.2) (bx2 : (-1) ≤ x2 ∧ x2 ≤ 3) (bx3 : 1 ≤ x3 ∧ x3 ≤ 4) (bx4 : (-1) ≤ x4 ∧ x4 ≤ 38016000) (kv0 : x2 < x3 ∧ -1 ≤ x2) (kv1 : od_B (s.1 116) (x3) (x3)) (kv2 : af_K (s.1 116) (s.1 117) (x3) (x4)) : fm_311_p168 X94 Q x2 x3 x4 s := by
  unfold fm_311_p168
  have b30 : 0 ≤ od ((s.1 116)) (x3) (x3) ∧ od ((s.1 116)) (x3) (x3) ≤ 46655 := od_le kv1 (by omega) (by omega)
  refine sm_304 hI (show (0 : Int) ≤ x3 ∧ x3 ≤ (6 : Int) from by omega) (show (0 : Int) ≤ x3 ∧ x3 ≤ (6 : Int) from by omega) (show od_B ((s.1 116)) (x3) (x3) from by first | with_reducible assumption | assumption) (show 1 ≤ x3 ∧ x3 ≤ 6 ∧ 0 ≤ x3 ∧ x3 ≤ 6 from by omega) (fun z39 s38 hI32 fr31 ps34 ps35 ps36 => ?_)
  replace ps34 : z39 = true → od (s38.1 116) (x3) (x3) = od ((s.1 116)) (x3) (x3) + 1 := ps34
  replace ps35 : od_B (s38.1 116) (x3) (x3) := ps35
  replace ps36 : z39 = false → ∀ j : Int, 0 ≤ j → j < x3 → (s.1 116) j = x3 - 1 := ps36
  have fr37 : lf_fq [108, 116, 117, 118, 119] 1000000 true s.1 s.2.2 s38.1 s38.2.2 := lf_fq_tr (lf_fq_rf) (lf_fq_wk fr31 rfl (by decide) (by decide))
  have b38 : (lf_b z39) = 0 ∨ od ((s38.1 116)) (x3) (x3) = od (s.1 116) (x3) (x3) + 1 := lf_bz ps34
  have b39 : ((lf_b z39) = 0 ∧ od_m (lf_b z39) (46657 - od ((s38.1 116)) (x3) (x3)) = 0) ∨ ((lf_b z39) ≠ 0 ∧ od_m (lf_b z39) (46657 - od ((s38.1 116)) (x3) (x3)) = 46657 - od ((s38.1 116)) (x3) (x3)) := od_mE _ _
  have b40 : 0 ≤ od ((s38.1 116)) (x3) (x3) ∧ od ((s38.1 116)) (x3) (x3) ≤ 46655 := od_le ps35 (by omega) (by omega)
  have b41 : af_F ((s38.1 116)) ((s38.1 117)) (x3) (x4) (lf_b z39) := af_n kv2 (fr31.1 117 rfl) (lf_bz ps34) (lf_bf ps36) (by omega)
  have b42 : od_B ((s38.1 116)) (x3) (x3) := by first | with_reducible assumption | exact od_Bz kv1 (by omega) (by omega)
  have b43 : af_F ((s38.1 116)) ((s38.1 117)) (x3) (x4) ((lf_b z39)) := by first | with_reducible assumption | exact af_0 kv1 (by omega) (by omega)
  have zzz39 : 0 ≤ lf_b z39 ∧ lf_b z39 ≤ 1 := lf_b01
  exact hX94 (x4) (lf_b z39) s38 hI32 fr37 (show (-1 : Int) ≤ x4 ∧ x4 ≤ (38016000 : Int) from by omega) (show (0 : Int) ≤ lf_b z39 ∧ lf_b z39 ≤ (1 : Int) from by omega) (show x2 < x3 ∧ -1 ≤ x2 from by omega) (show od_B ((s38.1 116)) (x3) (x3) from by first | with_reducible assumption | assumption) (show af_F ((s38.1 116)) ((s38.1 117)) (x3) (x4) ((lf_b z39)) from by first | with_reducible assumption | assumption) (show (od_m ((lf_b z39)) (46657 - od ((s38.1 116)) (x3) (x3))).toNat < M94 from by omega)
theorem sm_311_p142 {X94 : Int → Int → lf_Z → Prop} {X142 : Int → lf_Z → Prop} {Q : Int → lf_Z → Prop} {x2 : Int} {x3 : Int} {x4 : Int} {x7 : Int} {s : lf_Z} (hQ : ∀ (r : Int) (s' : lf_Z), iv_A s'.1 s'.2.2 → lf_fq [108, 116, 117, 118, 119] 1000000 true s.1 s.2.2 s'.1 s'.2.2 → ((-1) ≤ r ∧ r ≤ 38016000) → Q r s') {M94 : Nat} (hX94 : ∀ (x4 : Int) (x5 : Int) (s' : lf_Z), iv_A s'.1 s'.2.2 → lf_fq [108, 116, 117, 118, 119] 1000000 true s.1 s.2.2 s'.1 s'.2.2 → (-1) ≤ x4 ∧ x4 ≤ 38016000 → 0 ≤ x5 ∧ x5 ≤ 1 → (x2 < x3 ∧ -1 ≤ x2) → (od_B (s'.1 116) (x3) (x3)) → (af_F (s'.1 116) (s'.1 117) (x3) (x4) (x5)) → (od_m (x5) (46657 - od (s'.1 116) (x3) (x3))).toNat < M94 → X94 x4 x5 s') (hM94 : (46657 - od (s.1 116) (x3) (x3)).toNat ≤ M94) {M142 : Nat} (hX142 : ∀ (x7 : Int) (s' : lf_Z), iv_A s'.1 s'.2.2 → lf_fq [108, 116, 117, 118, 119] 1000000 true s.1 s.2.2 s'.1 s'.2.2 → 0 ≤ x7 ∧ x7 ≤ 4 → (x2 < x3 ∧ -1 ≤ x2) → (od_B (s'.1 116) (x3) (x3)) → (od_B (s'.1 117) (x7) 4) → (0 ≤ x4) → ((46657 - od (s'.1 116) (x3) (x3)).toNat ≤ M94) → (4 - x7).toNat < M142 → X142 x7 s') (hM142 : (4 - x7).toNat ≤ M142) (hI : iv_A s.1 s.2.2) (bx2 : (-1) ≤ x2 ∧ x2 ≤ 3) (bx3 : 1 ≤ x3 ∧ x3 ≤ 4) (bx4 : 0 ≤ x4 ∧ x4 ≤ 38016000) (bx7 : 0 ≤ x7 ∧ x7 ≤ 4) (kv0 : x2 < x3 ∧ -1 ≤ x2) (kv1 : od_B (s.1 116) (x3) (x3)) (kv2 : od_B (s.1 117) (x7) 4) (kv3 : 0 ≤ x4) (kv4 : (46657 - od (s.1 116) (x3) (x3)).toNat ≤ M94) : fm_311_p142 X94 Q x2 x3 x4 X142 x7 s := by
  unfold fm_311_p142
  refine ⟨(show lf_R x7 from lf_Rof (by omega)), ?_⟩
  refine ⟨(show lf_R x3 from lf_Rof (by omega)), ?_⟩
  refine ⟨fun c46 => ?_, fun c46 => ?_⟩
  · skip
    replace c46 : x3 ≤ x7 := c46
    have b47 : af_K ((s.1 116)) ((s.1 117)) (x3) (x4) := by first | exact Or.inl ⟨by omega, od_Bl kv2 (by omega)⟩ | exact af_k kv1 kv2 kv3 (by omega) (by omega) | exact af_l kv2 (by omega)
    exact sm_311_p168 hQ hX94 (show (46657 - od ((s.1 116)) (x3) (x3)).toNat ≤ M94 from by omega) hI (show (-1 : Int) ≤ x2 ∧ x2 ≤ (3 : Int) from by omega) (show (1 : Int) ≤ x3 ∧ x3 ≤ (4 : Int) from by omega) (show (-1 : Int) ≤ x4 ∧ x4 ≤ (38016000 : Int) from by omega) (show x2 < x3 ∧ -1 ≤ x2 from by omega) (show od_B ((s.1 116)) (x3) (x3) from by first | with_reducible assumption | assumption) (show af_K ((s.1 116)) ((s.1 117)) (x3) (x4) from by first | with_reducible assumption | assumption)
  · skip
    replace c46 : ¬ (x3 ≤ x7) := c46
    have b48 : 0 ≤ (s.1 116 x7) ∧ (s.1 116 x7) < x3 := kv1 _ (by omega) (by omega)
    refine ⟨(show (0 : Int) ≤ x7 ∧ x7 < (6 : Int) from by omega), ?_⟩
    have b49 : 0 ≤ s.1 116 x7 ∧ s.1 116 x7 ≤ 5 := iv_r116 hI _
    have hI50 : iv_A (lf_up s.1 117 x7 (s.1 116 x7)) s.2.2 := iv_w117 hI (by omega)
    have fr51 : lf_fq [108, 116, 117, 118, 119] 1000000 true s.1 s.2.2 (lf_up s.1 117 x7 (s.1 116 x7)) s.2.2 := lf_fq_up (lf_fq_rf) rfl (fun h => absurd h (by decide))
    have b52 : od_B (((lf_up s.1 117 x7 (s.1 116 x7)) 117)) ((x7 + 1)) 4 := by first | exact od_Bk kv2 (by omega) lf_up_s (fun j hj => lf_up_i hj) | exact (fun j a b => by omega)
    exact hX142 (x7 + 1) (lf_up s.1 117 x7 (s.1 116 x7), s.2.1, s.2.2) hI50 fr51 (show (0 : Int) ≤ x7 + 1 ∧ x7 + 1 ≤ (4 : Int) from by omega) (show x2 < x3 ∧ -1 ≤ x2 from by omega) (show od_B ((s.1 116)) (x3) (x3) from by first | with_reducible assumption | assumption) (show od_B (((lf_up s.1 117 x7 (s.1 116 x7)) 117)) ((x7 + 1)) 4 from by first | with_reducible assumption | assumption) (show 0 ≤ x4 from by omega) (show (46657 - od ((s.1 116)) (x3) (x3)).toNat ≤ M94 from by omega) (show (4 - (x7 + 1)).toNat < M142 from by omega)
theorem sm_311_p142L {X94 : Int → Int → lf_Z → Prop} {Q : Int → lf_Z → Prop} {x2 : Int} {x3 : Int} {x4 : Int} {x7 : Int} {s : lf_Z} (hQ : ∀ (r : Int) (s' : lf_Z), iv_A s'.1 s'.2.2 → lf_fq [108, 116, 117, 118, 119] 1000000 true s.1 s.2.2 s'.1 s'.2.2 → ((-1) ≤ r ∧ r ≤ 38016000) → Q r s') {M94 : Nat} (hX94 : ∀ (x4 : Int) (x5 : Int) (s' : lf_Z), iv_A s'.1 s'.2.2 → lf_fq [108, 116, 117, 118, 119] 1000000 true s.1 s.2.2 s'.1 s'.2.2 → (-1) ≤ x4 ∧ x4 ≤ 38016000 → 0 ≤ x5 ∧ x5 ≤ 1 → (x2 < x3 ∧ -1 ≤ x2) → (od_B (s'.1 116) (x3) (x3)) → (af_F (s'.1 116) (s'.1 117) (x3) (x4) (x5)) → (od_m (x5) (46657 - od (s'.1 116) (x3) (x3))).toNat < M94 → X94 x4 x5 s') (hM94 : (46657 - od (s.1 116) (x3) (x3)).toNat ≤ M94) (hI : iv_A s.1 s.2.2) (bx2 : (-1) ≤ x2 ∧ x2 ≤ 3) (bx3 : 1 ≤ x3 ∧ x3 ≤ 4) (bx4 : 0 ≤ x4 ∧ x4 ≤ 38016000) (bx7 : 0 ≤ x7 ∧ x7 ≤ 4) (kv0 : x2 < x3 ∧ -1 ≤ x2) (kv1 : od_B (s.1 116) (x3) (x3)) (kv2 : od_B (s.1 117) (x7) 4) (kv3 : 0 ≤ x4) (kv4 : (46657 - od (s.1 116) (x3) (x3)).toNat ≤ M94) : fm_311_p142L X94 Q x2 x3 x4 x7 s := by
  intro X142 hX
  have key : ∀ (m9 : Nat) (x7 : Int) (s' : lf_Z), iv_A s'.1 s'.2.2 → lf_fq [108, 116, 117, 118, 119] 1000000 true s.1 s.2.2 s'.1 s'.2.2 → 0 ≤ x7 ∧ x7 ≤ 4 → (x2 < x3 ∧ -1 ≤ x2) → (od_B (s'.1 116) (x3) (x3)) → (od_B (s'.1 117) (x7) 4) → (0 ≤ x4) → ((46657 - od (s'.1 116) (x3) (x3)).toNat ≤ M94) → (4 - x7).toNat < m9 → X142 x7 s' := by
    intro m9
    induction m9 with
    | zero => intro x7 s' _ _ bx7 kv0 kv1 kv2 kv3 kv4 h9; exact absurd h9 (Nat.not_lt_zero _)
    | succ m9 ih => intro x7 s' i7 f7 bx7 kv0 kv1 kv2 kv3 kv4 h9; exact hX _ _ (sm_311_p142 (fun r9 t9 i9 f9 => hQ r9 t9 i9 (lf_fq_tr f7 f9))  (fun p0 p1 t9 i9 f9 => hX94 p0 p1 t9 i9 (lf_fq_tr f7 f9)) kv4 (fun x7' t8 i8 f8 bx7' kv0' kv1' kv2' kv3' kv4' h8 => ih x7' t8 i8 (lf_fq_tr f7 f8) bx7' kv0' kv1' kv2' kv3' kv4' (by omega)) (Nat.le_refl _)  i7  bx2 bx3 bx4 bx7  kv0 kv1 kv2 kv3 kv4)
  exact key _ _ s hI lf_fq_rf bx7 kv0 kv1 kv2 kv3 kv4 (Nat.lt_succ_self _)
theorem sm_311_p135 {X94 : Int → Int → lf_Z → Prop} {Q : Int → lf_Z → Prop} {x2 : Int} {x3 : Int} {x6 : Int} {s : lf_Z} (hQ : ∀ (r : Int) (s' : lf_Z), iv_A s'.1 s'.2.2 → lf_fq [108, 116, 117, 118, 119] 1000000 true s.1 s.2.2 s'.1 s'.2.2 → ((-1) ≤ r ∧ r ≤ 38016000) → Q r s') {M94 : Nat} (hX94 : ∀ (x4 : Int) (x5 : Int) (s' : lf_Z), iv_A s'.1 s'.2.2 → lf_fq [108, 116, 117, 118, 119] 1000000 true s.1 s.2.2 s'.1 s'.2.2 → (-1) ≤ x4 ∧ x4 ≤ 38016000 → 0 ≤ x5 ∧ x5 ≤ 1 → (x2 < x3 ∧ -1 ≤ x2) → (od_B (s'.1 116) (x3) (x3)) → (af_F (s'.1 116) (s'.1 117) (x3) (x4) (x5)) → (od_m (x5) (46657 - od (s'.1 116) (x3) (x3))).toNat < M94 → X94 x4 x5 s') (hM94 : (46657 - od (s.1 116) (x3) (x3)).toNat ≤ M94) (hI : iv_A s.1 s.2.2) (bx2 : (-1) ≤ x2 ∧ x2 ≤ 3) (bx3 : 1 ≤ x3 ∧ x3 ≤ 4) (bx6 : 0 ≤ x6 ∧ x6 ≤ 38016000) (kv0 : x2 < x3 ∧ -1 ≤ x2) (kv1 : od_B (s.1 116) (x3) (x3)) : fm_311_p135 X94 Q x2 x3 x6 s := by
  unfold fm_311_p135
  have b45 : od_B ((s.1 117)) (0) 4 := by first | exact od_Bk kv2 (by omega) lf_up_s (fun j hj => lf_up_i hj) | exact (fun j a b => by omega)
  exact sm_311_p142L hQ hX94 (show (46657 - od ((s.1 116)) (x3) (x3)).toNat ≤ M94 from by omega) hI (show (-1 : Int) ≤ x2 ∧ x2 ≤ (3 : Int) from by omega) (show (1 : Int) ≤ x3 ∧ x3 ≤ (4 : Int) from by omega) (show (0 : Int) ≤ x6 ∧ x6 ≤ (38016000 : Int) from by omega) (show (0 : Int) ≤ 0 ∧ 0 ≤ (4 : Int) from by omega) (show x2 < x3 ∧ -1 ≤ x2 from by omega) (show od_B ((s.1 116)) (x3) (x3) from by first | with_reducible assumption | assumption) (show od_B ((s.1 117)) (0) 4 from by first | with_reducible assumption | assumption) (show 0 ≤ x6 from by omega) (show (46657 - od ((s.1 116)) (x3) (x3)).toNat ≤ M94 from by omega)
theorem sm_311_p116 {X94 : Int → Int → lf_Z → Prop} {Q : Int → lf_Z → Prop} {x2 : Int} {x3 : Int} {x4 : Int} {y0 : Int} {s : lf_Z} (hQ : ∀ (r : Int) (s' : lf_Z), iv_A s'.1 s'.2.2 → lf_fq [108, 116, 117, 118, 119] 1000000 true s.1 s.2.2 s'.1 s'.2.2 → ((-1) ≤ r ∧ r ≤ 38016000) → Q r s') {M94 : Nat} (hX94 : ∀ (x4 : Int) (x5 : Int) (s' : lf_Z), iv_A s'.1 s'.2.2 → lf_fq [108, 116, 117, 118, 119] 1000000 true s.1 s.2.2 s'.1 s'.2.2 → (-1) ≤ x4 ∧ x4 ≤ 38016000 → 0 ≤ x5 ∧ x5 ≤ 1 → (x2 < x3 ∧ -1 ≤ x2) → (od_B (s'.1 116) (x3) (x3)) → (af_F (s'.1 116) (s'.1 117) (x3) (x4) (x5)) → (od_m (x5) (46657 - od (s'.1 116) (x3) (x3))).toNat < M94 → X94 x4 x5 s') (hM94 : (46657 - od (s.1 116) (x3) (x3)).toNat ≤ M94) (hI : iv_A s.1 s.2.2) (bx2 : (-1) ≤ x2 ∧ x2 ≤ 3) (bx3 : 1 ≤ x3 ∧ x3 ≤ 4) (bx4 : (-1) ≤ x4 ∧ x4 ≤ 38016000) (by0 : (-1) ≤ y0 ∧ y0 ≤ 38016000) (kv0 : x2 < x3 ∧ -1 ≤ x2) (kv1 : od_B (s.1 116) (x3) (x3)) (kv2 : af_F (s.1 116) (s.1 117) (x3) (x4) 1) (kv3 : 0 ≤ y0 ∨ ¬ od_D (s.1 116) (x3)) : fm_311_p116 X94 Q x2 x3 x4 y0 s := by
  unfold fm_311_p116
  refine ⟨(show lf_R y0 from lf_Rof (by omega)), ?_⟩
  refine ⟨fun c28 => ?_, fun c28 => ?_⟩
  · skip
    replace c28 : y0 < 0 := c28
    have b29 : af_K ((s.1 116)) ((s.1 117)) (x3) (x4) := by first | exact Or.inl ⟨by omega, od_Bl kv2 (by omega)⟩ | exact af_k kv1 kv2 kv3 (by omega) (by omega) | exact af_l kv2 (by omega)
    exact sm_311_p168 hQ hX94 (show (46657 - od ((s.1 116)) (x3) (x3)).toNat ≤ M94 from by omega) hI (show (-1 : Int) ≤ x2 ∧ x2 ≤ (3 : Int) from by omega) (show (1 : Int) ≤ x3 ∧ x3 ≤ (4 : Int) from by omega) (show (-1 : Int) ≤ x4 ∧ x4 ≤ (38016000 : Int) from by omega) (show x2 < x3 ∧ -1 ≤ x2 from by omega) (show od_B ((s.1 116)) (x3) (x3) from by first | with_reducible assumption | assumption) (show af_K ((s.1 116)) ((s.1 117)) (x3) (x4) from by first | with_reducible assumption | assumption)
  · skip
    replace c28 : ¬ (y0 < 0) := c28
    refine ⟨(show lf_R x4 from lf_Rof (by omega)), ?_⟩
    refine ⟨fun c44 => ?_, fun c44 => ?_⟩
    · skip
      replace c44 : x4 < 0 := c44
      exact sm_311_p135 hQ hX94 (show (46657 - od ((s.1 116)) (x3) (x3)).toNat ≤ M94 from by omega) hI (show (-1 : Int) ≤ x2 ∧ x2 ≤ (3 : Int) from by omega) (show (1 : Int) ≤ x3 ∧ x3 ≤ (4 : Int) from by omega) (show (0 : Int) ≤ y0 ∧ y0 ≤ (38016000 : Int) from by omega) (show x2 < x3 ∧ -1 ≤ x2 from by omega) (show od_B ((s.1 116)) (x3) (x3) from by first | with_reducible assumption | assumption)
    · skip
      replace c44 : ¬ (x4 < 0) := c44
      refine ⟨fun c53 => ?_, fun c53 => ?_⟩
      · skip
        replace c53 : x4 ≤ y0 := c53
        have b54 : af_K ((s.1 116)) ((s.1 117)) (x3) (x4) := by first | exact Or.inl ⟨by omega, od_Bl kv2 (by omega)⟩ | exact af_k kv1 kv2 kv3 (by omega) (by omega) | exact af_l kv2 (by omega)
        exact sm_311_p168 hQ hX94 (show (46657 - od ((s.1 116)) (x3) (x3)).toNat ≤ M94 from by omega) hI (show (-1 : Int) ≤ x2 ∧ x2 ≤ (3 : Int) from by omega) (show (1 : Int) ≤ x3 ∧ x3 ≤ (4 : Int) from by omega) (show (-1 : Int) ≤ x4 ∧ x4 ≤ (38016000 : Int) from by omega) (show x2 < x3 ∧ -1 ≤ x2 from by omega) (show od_B ((s.1 116)) (x3) (x3) from by first | with_reducible assumption | assumption) (show af_K ((s.1 116)) ((s.1 117)) (x3) (x4) from by first | with_reducible assumption | assumption)
      · skip
        replace c53 : ¬ (x4 ≤ y0) := c53
        exact sm_311_p135 hQ hX94 (show (46657 - od ((s.1 116)) (x3) (x3)).toNat ≤ M94 from by omega) hI (show (-1 : Int) ≤ x2 ∧ x2 ≤ (3 : Int) from by omega) (show (1 : Int) ≤ x3 ∧ x3 ≤ (4 : Int) from by omega) (show (0 : Int) ≤ y0 ∧ y0 ≤ (38016000 : Int) from by omega) (show x2 < x3 ∧ -1 ≤ x2 from by omega) (show od_B ((s.1 116)) (x3) (x3) from by first | with_reducible assumption | assumption)
theorem sm_311_p94 {X94 : Int → Int → lf_Z → Prop} {Q : Int → lf_Z → Prop} {x2 : Int} {x3 : Int} {x4 : Int} {x5 : Int} {s : lf_Z} (hQ : ∀ (r : Int) (s' : lf_Z), iv_A s'.1 s'.2.2 → lf_fq [108, 116, 117, 118, 119] 1000000 true s.1 s.2.2 s'.1 s'.2.2 → ((-1) ≤ r ∧ r ≤ 38016000) → Q r s') {M94 : Nat} (hX94 : ∀ (x4 : Int) (x5 : Int) (s' : lf_Z), iv_A s'.1 s'.2.2 → lf_fq [108, 116, 117, 118, 119] 1000000 true s.1 s.2.2 s'.1 s'.2.2 → (-1) ≤ x4 ∧ x4 ≤ 38016000 → 0 ≤ x5 ∧ x5 ≤ 1 → (x2 < x3 ∧ -1 ≤ x2) → (od_B (s'.1 116) (x3) (x3)) → (af_F (s'.1 116) (s'.1 117) (x3) (x4) (x5)) → (od_m (x5) (46657 - od (s'.1 116) (x3) (x3))).toNat < M94 → X94 x4 x5 s') (hM94 : (od_m (x5) (46657 - od (s.1 116) (x3) (x3))).toNat ≤ M94) (hI : iv_A s.1 s.2.2) (bx2 : (-1) ≤ x2 ∧ x2 ≤ 3) (bx3 : 1 ≤ x3 ∧ x3 ≤ 4) (bx4 : (-1) ≤ x4 ∧ x4 ≤ 38016000) (bx5 : 0 ≤ x5 ∧ x5 ≤ 1) (kv0 : x2 < x3 ∧ -1 ≤ x2) (kv1 : od_B (s.1 116) (x3) (x3)) (kv2 : af_F (s.1 116) (s.1 117) (x3) (x4) (x5)) : fm_311_p94 Q x2 x3 X94 x4 x5 s := by
  unfold fm_311_p94
  have b17 : (x5 = 0 ∧ od_m (x5) (46657 - od ((s.1 116)) (x3) (x3)) = 0) ∨ (x5 ≠ 0 ∧ od_m (x5) (46657 - od ((s.1 116)) (x3) (x3)) = 46657 - od ((s.1 116)) (x3) (x3)) := od_mE _ _
  refine ⟨(show lf_R x5 from lf_Rof (by omega)), ?_⟩
  refine ⟨fun c18 => ?_, fun c18 => ?_⟩
  · skip
    replace c18 : x5 = 0 := c18
    refine ⟨(show lf_R x2 from lf_Rof (by omega)), ?_⟩
    refine ⟨fun c19 => ?_, fun c19 => ?_⟩
    · skip
      replace c19 : x2 ≠ (-1) := c19
      have b20 : 0 ≤ (s.1 117 x2) ∧ (s.1 117 x2) < 4 := af_x kv2 (by omega) (by omega) (by omega)
      refine ⟨(show (0 : Int) ≤ x2 ∧ x2 < (6 : Int) from by omega), ?_⟩
      have b21 : 0 ≤ s.1 117 x2 ∧ s.1 117 x2 ≤ 5 := iv_r117 hI _
      refine ⟨(show (0 : Int) ≤ s.1 117 x2 ∧ s.1 117 x2 < (4 : Int) from by omega), ?_⟩
      have b22 : 0 ≤ s.1 118 (s.1 117 x2) ∧ s.1 118 (s.1 117 x2) ≤ 3 := iv_r118 hI _
      exact hQ (s.1 118 (s.1 117 x2)) s hI (lf_fq_rf) (show (-1 : Int) ≤ s.1 118 (s.1 117 x2) ∧ s.1 118 (s.1 117 x2) ≤ (38016000 : Int) from by omega)
    · skip
      replace c19 : ¬ (x2 ≠ (-1)) := c19
      exact hQ x4 s hI (lf_fq_rf) (show (-1 : Int) ≤ x4 ∧ x4 ≤ (38016000 : Int) from by omega)
  · skip
    replace c18 : ¬ (x5 = 0) := c18
    have b23 : af_F ((s.1 116)) ((s.1 117)) (x3) (x4) 1 := af_1 kv2
    refine sm_303 hI (show (0 : Int) ≤ x3 ∧ x3 ≤ (6 : Int) from by omega) (fun z36 ps25 => ?_)
    replace ps25 : z36 = false → ¬ od_D ((s.1 116)) (x3) := ps25
    refine ⟨fun c26 => ?_, fun c26 => ?_⟩
    · skip
      have dps25 := ps25 c26
      have b27 : 0 ≤ (-1) ∨ ¬ od_D ((s.1 116)) (x3) := by first | exact Or.inl (by omega) | exact Or.inr (by first | with_reducible assumption | assumption)
      exact sm_311_p116 hQ hX94 (show (46657 - od ((s.1 116)) (x3) (x3)).toNat ≤ M94 from by omega) hI (show (-1 : Int) ≤ x2 ∧ x2 ≤ (3 : Int) from by omega) (show (1 : Int) ≤ x3 ∧ x3 ≤ (4 : Int) from by omega) (show (-1 : Int) ≤ x4 ∧ x4 ≤ (38016000 : Int) from by omega) (show (-1 : Int) ≤ (-1) ∧ (-1) ≤ (38016000 : Int) from by omega) (show x2 < x3 ∧ -1 ≤ x2 from by omega) (show od_B ((s.1 116)) (x3) (x3) from by first | with_reducible assumption | assumption) (show af_F ((s.1 116)) ((s.1 117)) (x3) (x4) 1 from by first | with_reducible assumption | assumption) (show 0 ≤ (-1) ∨ ¬ od_D ((s.1 116)) (x3) from by first | with_reducible assumption | assumption)
    · skip
      have b55 : od_B ((s.1 116)) (x3) 4 := od_Bm kv1 (by omega)
      refine sm_313 hI (show (0 : Int) ≤ x3 ∧ x3 ≤ (4 : Int) from by omega) (show od_B ((s.1 116)) (x3) 4 from by first | with_reducible assumption | assumption) (fun r45 q56 => ?_)
      have b57 : 0 ≤ r45 ∨ ¬ od_D ((s.1 116)) (x3) := by first | exact Or.inl (by omega) | exact Or.inr (by first | with_reducible assumption | assumption)
      exact sm_311_p116 hQ hX94 (show (46657 - od ((s.1 116)) (x3) (x3)).toNat ≤ M94 from by omega) hI (show (-1 : Int) ≤ x2 ∧ x2 ≤ (3 : Int) from by omega) (show (1 : Int) ≤ x3 ∧ x3 ≤ (4 : Int) from by omega) (show (-1 : Int) ≤ x4 ∧ x4 ≤ (38016000 : Int) from by omega) (show (-1 : Int) ≤ r45 ∧ r45 ≤ (38016000 : Int) from by omega) (show x2 < x3 ∧ -1 ≤ x2 from by omega) (show od_B ((s.1 116)) (x3) (x3) from by first | with_reducible assumption | assumption) (show af_F ((s.1 116)) ((s.1 117)) (x3) (x4) 1 from by first | with_reducible assumption | assumption) (show 0 ≤ r45 ∨ ¬ od_D ((s.1 116)) (x3) from by first | with_reducible assumption | assumption)
theorem sm_311_p94L {Q : Int → lf_Z → Prop} {x2 : Int} {x3 : Int} {x4 : Int} {x5 : Int} {s : lf_Z} (hQ : ∀ (r : Int) (s' : lf_Z), iv_A s'.1 s'.2.2 → lf_fq [108, 116, 117, 118, 119] 1000000 true s.1 s.2.2 s'.1 s'.2.2 → ((-1) ≤ r ∧ r ≤ 38016000) → Q r s') (hI : iv_A s.1 s.2.2) (bx2 : (-1) ≤ x2 ∧ x2 ≤ 3) (bx3 : 1 ≤ x3 ∧ x3 ≤ 4) (bx4 : (-1) ≤ x4 ∧ x4 ≤ 38016000) (bx5 : 0 ≤ x5 ∧ x5 ≤ 1) (kv0 : x2 < x3 ∧ -1 ≤ x2) (kv1 : od_B (s.1 116) (x3) (x3)) (kv2 : af_F (s.1 116) (s.1 117) (x3) (x4) (x5)) : fm_311_p94L Q x2 x3 x4 x5 s := by
  intro X94 hX
  have key : ∀ (m9 : Nat) (x4 : Int) (x5 : Int) (s' : lf_Z), iv_A s'.1 s'.2.2 → lf_fq [108, 116, 117, 118, 119] 1000000 true s.1 s.2.2 s'.1 s'.2.2 → (-1) ≤ x4 ∧ x4 ≤ 38016000 → 0 ≤ x5 ∧ x5 ≤ 1 → (x2 < x3 ∧ -1 ≤ x2) → (od_B (s'.1 116) (x3) (x3)) → (af_F (s'.1 116) (s'.1 117) (x3) (x4) (x5)) → (od_m (x5) (46657 - od (s'.1 116) (x3) (x3))).toNat < m9 → X94 x4 x5 s' := by
    intro m9
    induction m9 with
    | zero => intro x4 x5 s' _ _ bx4 bx5 kv0 kv1 kv2 h9; exact absurd h9 (Nat.not_lt_zero _)
    | succ m9 ih => intro x4 x5 s' i7 f7 bx4 bx5 kv0 kv1 kv2 h9; exact hX _ _ _ (sm_311_p94 (fun r9 t9 i9 f9 => hQ r9 t9 i9 (lf_fq_tr f7 f9))   (fun x4' x5' t8 i8 f8 bx4' bx5' kv0' kv1' kv2' h8 => ih x4' x5' t8 i8 (lf_fq_tr f7 f8) bx4' bx5' kv0' kv1' kv2' (by omega)) (Nat.le_refl _)  i7  bx2 bx3 bx4 bx5  kv0 kv1 kv2)
  exact key _ _ _ s hI lf_fq_rf bx4 bx5 kv0 kv1 kv2 (Nat.lt_succ_self _)
theorem sm_311_p71 {X71 : Int → lf_Z → Prop} {Q : Int → lf_Z → Prop} {x2 : Int} {x3 : Int} {x4 : Int} {x5 : Int} {s : lf_Z} (hQ : ∀ (r : Int) (s' : lf_Z), iv_A s'.1 s'.2.2 → lf_fq [108, 116, 117, 118, 119] 1000000 true s.1 s.2.2 s'.1 s'.2.2 → ((-1) ≤ r ∧ r ≤ 38016000) → Q r s') {M71 : Nat} (hX71 : ∀ (x5 : Int) (s' : lf_Z), iv_A s'.1 s'.2.2 → lf_fq [108, 116, 117, 118, 119] 1000000 true s.1 s.2.2 s'.1 s'.2.2 → 0 ≤ x5 ∧ x5 ≤ 4 → (x2 < x3 ∧ -1 ≤ x2) → (lf_zr (s'.1 116) (x5)) → (4 - x5).toNat < M71 → X71 x5 s') (hM71 : (4 - x5).toNat ≤ M71) (hI : iv_A s.1 s.2.2) (bx2 : (-1) ≤ x2 ∧ x2 ≤ 3) (bx3 : 1 ≤ x3 ∧ x3 ≤ 4) (bx4 : (-1) ≤ x4 ∧ x4 ≤ (-1)) (bx5 : 0 ≤ x5 ∧ x5 ≤ 4) (kv0 : x2 < x3 ∧ -1 ≤ x2) (kv1 : lf_zr (s.1 116) (x5)) : fm_311_p71 Q x2 x3 x4 X71 x5 s := by
  unfold fm_311_p71
  refine ⟨(show lf_R x5 from lf_Rof (by omega)), ?_⟩
  refine ⟨(show lf_R x3 from lf_Rof (by omega)), ?_⟩
  refine ⟨fun c14 => ?_, fun c14 => ?_⟩
  · skip
    replace c14 : x3 ≤ x5 := c14
    have b15 : od_B ((s.1 116)) (x3) (x3) := by first | with_reducible assumption | exact od_Bz kv1 (by omega) (by omega)
    have b16 : af_F ((s.1 116)) ((s.1 117)) (x3) (x4) (1) := by first | with_reducible assumption | exact af_0 kv1 (by omega) (by omega)
    exact sm_311_p94L hQ hI (show (-1 : Int) ≤ x2 ∧ x2 ≤ (3 : Int) from by omega) (show (1 : Int) ≤ x3 ∧ x3 ≤ (4 : Int) from by omega) (show (-1 : Int) ≤ x4 ∧ x4 ≤ (38016000 : Int) from by omega) (show (0 : Int) ≤ 1 ∧ 1 ≤ (1 : Int) from by omega) (show x2 < x3 ∧ -1 ≤ x2 from by omega) (show od_B ((s.1 116)) (x3) (x3) from by first | with_reducible assumption | assumption) (show af_F ((s.1 116)) ((s.1 117)) (x3) (x4) (1) from by first | with_reducible assumption | assumption)
  · skip
    replace c14 : ¬ (x3 ≤ x5) := c14
    refine ⟨(show (0 : Int) ≤ x5 ∧ x5 < (6 : Int) from by omega), ?_⟩
    have hI58 : iv_A (lf_up s.1 116 x5 0) s.2.2 := iv_w116 hI (by omega)
    have fr59 : lf_fq [108, 116, 117, 118, 119] 1000000 true s.1 s.2.2 (lf_up s.1 116 x5 0) s.2.2 := lf_fq_up (lf_fq_rf) rfl (fun h => absurd h (by decide))
    have b60 : lf_zr (((lf_up s.1 116 x5 0) 116)) ((x5 + 1)) := by first | exact lf_zrS kv1 lf_up_s (fun j hj => lf_up_i hj) | exact (fun j a b => by omega)
    exact hX71 (x5 + 1) (lf_up s.1 116 x5 0, s.2.1, s.2.2) hI58 fr59 (show (0 : Int) ≤ x5 + 1 ∧ x5 + 1 ≤ (4 : Int) from by omega) (show x2 < x3 ∧ -1 ≤ x2 from by omega) (show lf_zr (((lf_up s.1 116 x5 0) 116)) ((x5 + 1)) from by first | with_reducible assumption | assumption) (show (4 - (x5 + 1)).toNat < M71 from by omega)
theorem sm_311_p71L {Q : Int → lf_Z → Prop} {x2 : Int} {x3 : Int} {x4 : Int} {x5 : Int} {s : lf_Z} (hQ : ∀ (r : Int) (s' : lf_Z), iv_A s'.1 s'.2.2 → lf_fq [108, 116, 117, 118, 119] 1000000 true s.1 s.2.2 s'.1 s'.2.2 → ((-1) ≤ r ∧ r ≤ 38016000) → Q r s') (hI : iv_A s.1 s.2.2) (bx2 : (-1) ≤ x2 ∧ x2 ≤ 3) (bx3 : 1 ≤ x3 ∧ x3 ≤ 4) (bx4 : (-1) ≤ x4 ∧ x4 ≤ (-1)) (bx5 : 0 ≤ x5 ∧ x5 ≤ 4) (kv0 : x2 < x3 ∧ -1 ≤ x2) (kv1 : lf_zr (s.1 116) (x5)) : fm_311_p71L Q x2 x3 x4 x5 s := by
  intro X71 hX
  have key : ∀ (m9 : Nat) (x5 : Int) (s' : lf_Z), iv_A s'.1 s'.2.2 → lf_fq [108, 116, 117, 118, 119] 1000000 true s.1 s.2.2 s'.1 s'.2.2 → 0 ≤ x5 ∧ x5 ≤ 4 → (x2 < x3 ∧ -1 ≤ x2) → (lf_zr (s'.1 116) (x5)) → (4 - x5).toNat < m9 → X71 x5 s' := by
    intro m9
    induction m9 with
    | zero => intro x5 s' _ _ bx5 kv0 kv1 h9; exact absurd h9 (Nat.not_lt_zero _)
    | succ m9 ih => intro x5 s' i7 f7 bx5 kv0 kv1 h9; exact hX _ _ (sm_311_p71 (fun r9 t9 i9 f9 => hQ r9 t9 i9 (lf_fq_tr f7 f9))   (fun x5' t8 i8 f8 bx5' kv0' kv1' h8 => ih x5' t8 i8 (lf_fq_tr f7 f8) bx5' kv0' kv1' (by omega)) (Nat.le_refl _)  i7  bx2 bx3 bx4 bx5  kv0 kv1)
  exact key _ _ s hI lf_fq_rf bx5 kv0 kv1 (Nat.lt_succ_self _)
theorem sm_311_p35 {X35 : Int → lf_Z → Prop} {Q : Int → lf_Z → Prop} {x2 : Int} {x3 : Int} {x4 : Int} {s : lf_Z} (hQ : ∀ (r : Int) (s' : lf_Z), iv_A s'.1 s'.2.2 → lf_fq [108, 116, 117, 118, 119] 1000000 true s.1 s.2.2 s'.1 s'.2.2 → ((-1) ≤ r ∧ r ≤ 38016000) → Q r s') {M35 : Nat} (hX35 : ∀ (x4 : Int) (s' : lf_Z), iv_A s'.1 s'.2.2 → lf_fq [108, 116, 117, 118, 119] 1000000 true s.1 s.2.2 s'.1 s'.2.2 → 0 ≤ x4 ∧ x4 ≤ 4 → (x2 < x3 ∧ -1 ≤ x2) → (4 - x4).toNat < M35 → X35 x4 s') (hM35 : (4 - x4).toNat ≤ M35) (hI : iv_A s.1 s.2.2) (bx2 : (-1) ≤ x2 ∧ x2 ≤ 3) (bx3 : 1 ≤ x3 ∧ x3 ≤ 4) (bx4 : 0 ≤ x4 ∧ x4 ≤ 4) (kv0 : x2 < x3 ∧ -1 ≤ x2) : fm_311_p35 Q x2 x3 X35 x4 s := by
  unfold fm_311_p35
  refine ⟨(show lf_R x4 from lf_Rof (by omega)), ?_⟩
  refine ⟨(show lf_R x3 from lf_Rof (by omega)), ?_⟩
  refine ⟨fun c12 => ?_, fun c12 => ?_⟩
  · skip
    replace c12 : x3 ≤ x4 := c12
    have b13 : lf_zr ((s.1 116)) (0) := by first | exact lf_zrS kv1 lf_up_s (fun j hj => lf_up_i hj) | exact (fun j a b => by omega)
    exact sm_311_p71L hQ hI (show (-1 : Int) ≤ x2 ∧ x2 ≤ (3 : Int) from by omega) (show (1 : Int) ≤ x3 ∧ x3 ≤ (4 : Int) from by omega) (show (-1 : Int) ≤ (-1) ∧ (-1) ≤ (-1 : Int) from by omega) (show (0 : Int) ≤ 0 ∧ 0 ≤ (4 : Int) from by omega) (show x2 < x3 ∧ -1 ≤ x2 from by omega) (show lf_zr ((s.1 116)) (0) from by first | with_reducible assumption | assumption)
  · skip
    replace c12 : ¬ (x3 ≤ x4) := c12
    refine ⟨(show (0 : Int) ≤ 16 + x4 ∧ 16 + x4 < (20 : Int) from by omega), ?_⟩
    have b61 : 0 ≤ s.1 119 (16 + x4) ∧ s.1 119 (16 + x4) ≤ 1000 := iv_r119 hI _
    refine ⟨(show lf_R (s.1 119 (16 + x4)) from lf_Rof (by omega)), ?_⟩
    refine ⟨fun c62 => ?_, fun c62 => ?_⟩
    · skip
      replace c62 : s.1 119 (16 + x4) < 1000 := c62
      exact hX35 (x4 + 1) s hI (lf_fq_rf) (show (0 : Int) ≤ x4 + 1 ∧ x4 + 1 ≤ (4 : Int) from by omega) (show x2 < x3 ∧ -1 ≤ x2 from by omega) (show (4 - (x4 + 1)).toNat < M35 from by omega)
    · skip
      replace c62 : ¬ (s.1 119 (16 + x4) < 1000) := c62
      exact hQ (-1) s hI (lf_fq_rf) (show (-1 : Int) ≤ (-1) ∧ (-1) ≤ (38016000 : Int) from by omega)
theorem sm_311_p35L {Q : Int → lf_Z → Prop} {x2 : Int} {x3 : Int} {x4 : Int} {s : lf_Z} (hQ : ∀ (r : Int) (s' : lf_Z), iv_A s'.1 s'.2.2 → lf_fq [108, 116, 117, 118, 119] 1000000 true s.1 s.2.2 s'.1 s'.2.2 → ((-1) ≤ r ∧ r ≤ 38016000) → Q r s') (hI : iv_A s.1 s.2.2) (bx2 : (-1) ≤ x2 ∧ x2 ≤ 3) (bx3 : 1 ≤ x3 ∧ x3 ≤ 4) (bx4 : 0 ≤ x4 ∧ x4 ≤ 4) (kv0 : x2 < x3 ∧ -1 ≤ x2) : fm_311_p35L Q x2 x3 x4 s := by
  intro X35 hX
  have key : ∀ (m9 : Nat) (x4 : Int) (s' : lf_Z), iv_A s'.1 s'.2.2 → lf_fq [108, 116, 117, 118, 119] 1000000 true s.1 s.2.2 s'.1 s'.2.2 → 0 ≤ x4 ∧ x4 ≤ 4 → (x2 < x3 ∧ -1 ≤ x2) → (4 - x4).toNat < m9 → X35 x4 s' := by
    intro m9
    induction m9 with
    | zero => intro x4 s' _ _ bx4 kv0 h9; exact absurd h9 (Nat.not_lt_zero _)
    | succ m9 ih => intro x4 s' i7 f7 bx4 kv0 h9; exact hX _ _ (sm_311_p35 (fun r9 t9 i9 f9 => hQ r9 t9 i9 (lf_fq_tr f7 f9))   (fun x4' t8 i8 f8 bx4' kv0' h8 => ih x4' t8 i8 (lf_fq_tr f7 f8) bx4' kv0' (by omega)) (Nat.le_refl _)  i7  bx2 bx3 bx4  kv0)
  exact key _ _ s hI lf_fq_rf bx4 kv0 (Nat.lt_succ_self _)
theorem sm_311 {a1 : Int} {a2 : Int} {Q : Int → lf_Z → Prop} {s : lf_Z} (hI : iv_A s.1 s.2.2) (ba1 : (-2147483648) ≤ a1 ∧ a1 ≤ 2147483647) (ba2 : (-2147483648) ≤ a2 ∧ a2 ≤ 2147483647) (hQ : ∀ (r : Int) (s' : lf_Z), iv_A s'.1 s'.2.2 → lf_fq [108, 116, 117, 118, 119] 1000000 true s.1 s.2.2 s'.1 s'.2.2 → ((-1) ≤ r ∧ r ≤ 38016000) → Q r s') : fm_311 a1 a2 Q s := by
  unfold fm_311
  refine sm_249 hI (show (-2147483648 : Int) ≤ a1 ∧ a1 ≤ (2147483647 : Int) from by omega) (fun z22 q1 => ?_)
  have b2 : 0 ≤ s.1 96 2 ∧ s.1 96 2 ≤ 6 := iv_rd96 hI (iv_f2103129b (by omega))
  have b3 : s.1 96 2 ≤ 0 ∨ 0 < s.1 96 0 := (show s.1 96 2 ≤ 0 ∨ 0 < s.1 96 0 from iv_l96_2 hI)
  refine ⟨fun c4 => ?_, fun c4 => ?_⟩
  · skip
    have dc4 := q1.2 c4
    exact hQ (-1) s hI (lf_fq_rf) (show (-1 : Int) ≤ (-1) ∧ (-1) ≤ (38016000 : Int) from by omega)
  · skip
    have dc4 := q1.1 c4
    refine ⟨(show lf_R a2 from lf_Rof (by omega)), ?_⟩
    refine ⟨fun c5 => ?_, fun c5 => ?_⟩
    · skip
      replace c5 : (-1) ≤ a2 := c5
      refine sm_312 hI (show (0 : Int) ≤ a1 ∧ a1 ≤ (5 : Int) from by omega) (fun r25 s24 hI7 fr6 q8 => ?_)
      have fr9 : lf_fq [108, 116, 117, 118, 119] 1000000 true s.1 s.2.2 s24.1 s24.2.2 := lf_fq_tr (lf_fq_rf) (lf_fq_wk fr6 rfl (by decide) (by decide))
      refine ⟨(show lf_R r25 from lf_Rof (by omega)), ?_⟩
      refine ⟨fun c10 => ?_, fun c10 => ?_⟩
      · skip
        replace c10 : r25 = 0 := c10
        exact hQ (-1) s24 hI7 fr9 (show (-1 : Int) ≤ (-1) ∧ (-1) ≤ (38016000 : Int) from by omega)
      · skip
        replace c10 : ¬ (r25 = 0) := c10
        refine ⟨fun c11 => ?_, fun c11 => ?_⟩
        · skip
          replace c11 : a2 < r25 := c11
          exact sm_311_p35L (fun r9 t9 i9 f9 => hQ r9 t9 i9 (lf_fq_tr fr9 f9)) hI7 (show (-1 : Int) ≤ a2 ∧ a2 ≤ (3 : Int) from by omega) (show (1 : Int) ≤ r25 ∧ r25 ≤ (4 : Int) from by omega) (show (0 : Int) ≤ 0 ∧ 0 ≤ (4 : Int) from by omega) (show a2 < r25 ∧ -1 ≤ a2 from by omega)
        · skip
          replace c11 : ¬ (a2 < r25) := c11
          exact hQ (-1) s24 hI7 fr9 (show (-1 : Int) ≤ (-1) ∧ (-1) ≤ (38016000 : Int) from by omega)
    · skip
      replace c5 : ¬ ((-1) ≤ a2) := c5
      exact hQ (-1) s hI (lf_fq_rf) (show (-1 : Int) ≤ (-1) ∧ (-1) ≤ (38016000 : Int) from by omega)
-- fm_160 Laws.shareOf 63 n i
theorem sm_160 {a2 : Int} {Q : Int → lf_Z → Prop} {s : lf_Z} (hI : iv_A s.1 s.2.2) (ba2 : 0 ≤ a2 ∧ a2 ≤ 11) (hQ : ∀ (r : Int), (100 ≤ r ∧ r ≤ 100) → Q r s) : fm_160 a2 Q s := by
  unfold fm_160
  exact hQ 100 (show (100 : Int) ≤ 100 ∧ 100 ≤ (100 : Int) from by omega)
-- fm_159 ElevenBullocks.costAt 0 i n
theorem sm_159 {a1 : Int} {Q : Int → lf_Z → Prop} {s : lf_Z} (hI : iv_A s.1 s.2.2) (ba1 : 0 ≤ a1 ∧ a1 ≤ 11) (hQ : ∀ (r : Int), ((-21474836) ≤ r ∧ r ≤ 21474836) → Q r s) : fm_159 a1 Q s := by
  unfold fm_159
  refine ⟨(show (0 : Int) ≤ a1 ∧ a1 < (12 : Int) from by omega), ?_⟩
  have b1 : (-2147483648) ≤ s.1 21 a1 ∧ s.1 21 a1 ≤ 2147483647 := iv_full hI
  refine sm_160 hI (show (0 : Int) ≤ a1 ∧ a1 ≤ (11 : Int) from by omega) (fun r23 q2 => ?_)
  have b3 : (-2147483648) ≤ lf_w ((s.1 21 a1) * r23) ∧ lf_w ((s.1 21 a1) * r23) ≤ 2147483647 := lf_wB
  have b4 : (-21474836) ≤ (lf_w ((s.1 21 a1) * r23)).tdiv 100 ∧ (lf_w ((s.1 21 a1) * r23)).tdiv 100 ≤ 21474836 := lf_tdivB (p := -2147483648) (q := 2147483647) (by omega) (by omega) (by decide) (by decide) (by decide)
  exact hQ ((lf_w ((s.1 21 a1) * r23)).tdiv 100) (show (-21474836 : Int) ≤ (lf_w ((s.1 21 a1) * r23)).tdiv 100 ∧ (lf_w ((s.1 21 a1) * r23)).tdiv 100 ≤ (21474836 : Int) from by omega)
-- fm_160b Laws.shareOf 63 t i
theorem sm_160b {t1 : Nat} {a2 : Int} {Q : Int → lf_Z → Prop} {s : lf_Z} (htt1 : t1 < 4) (hI : iv_A s.1 s.2.2) (ba2 : 0 ≤ a2 ∧ a2 ≤ 11) (hQ : ∀ (r : Int) (s' : lf_Z), iv_A s'.1 s'.2.2 → lf_fq [63, 64, 65, 66] 1000000 true s.1 s.2.2 s'.1 s'.2.2 → (0 ≤ r ∧ r ≤ 1000000) → Q r s') : fm_160b t1 a2 Q s := by
  unfold fm_160b
  refine sm_40 htt1 hI (show (0 : Int) ≤ 2 ∧ 2 ≤ (12 : Int) from by omega) (fun z22 => ?_)
  refine ⟨fun c2 => ?_, fun c2 => ?_⟩
  · skip
    exact hQ 100 s hI (lf_fq_rf) (show (0 : Int) ≤ 100 ∧ 100 ≤ (1000000 : Int) from by omega)
  · skip
    refine sm_18 hI (show (-2147483648 : Int) ≤ a2 ∧ a2 ≤ (2147483647 : Int) from by omega) (fun z24 q3 => ?_)
    have b4 : 0 ≤ s.1 1 0 ∧ s.1 1 0 ≤ 12 := iv_r1_0 hI
    refine ⟨fun c5 => ?_, fun c5 => ?_⟩
    · skip
      have dc5 := q3.1 c5
      refine sm_82 hI (show (-2147483648 : Int) ≤ 0 ∧ 0 ≤ (2147483647 : Int) from by omega) (show (-1 : Int) ≤ a2 ∧ a2 ≤ (11 : Int) from by omega) (show (0 : Int) ≤ 0 ∧ 0 ≤ (1 : Int) from by omega) (fun s25 hI7 fr6 => ?_)
      have fr9 : lf_fq [63, 64, 65, 66] 1000000 true s.1 s.2.2 s25.1 s25.2.2 := lf_fq_tr (lf_fq_rf) (lf_fq_wk fr6 rfl (by decide) (by decide))
      refine ⟨(show (0 : Int) ≤ a2 ∧ a2 < (12 : Int) from by omega), ?_⟩
      have b10 : (-2147483648) ≤ s25.1 21 a2 ∧ s25.1 21 a2 ≤ 2147483647 := iv_full hI7
      have b11 : s25.1 21 a2 = s.1 21 a2 := congrFun (fr6.1 21 rfl) _
      refine sm_55 hI7 (show (-2147483648 : Int) ≤ s25.1 21 a2 ∧ s25.1 21 a2 ≤ (2147483647 : Int) from by omega) (show (0 : Int) ≤ 0 ∧ 0 ≤ (0 : Int) from by omega) (show (2 : Int) ≤ 1000000 ∧ 1000000 ≤ (1000000 : Int) from by omega) (fun r28 q12 => ?_)
      obtain ⟨q12, q12x⟩ := q12
      replace q12x : 0 ≤ r28 ∧ (r28 ≤ 1000000 ∨ r28 ≤ 0) := q12x
      have hI13 : iv_A (lf_up s25.1 64 9 r28) s25.2.2 := iv_w64 hI7 (by omega)
      have fr14 : lf_fq [63, 64, 65, 66] 1000000 true s.1 s.2.2 (lf_up s25.1 64 9 r28) s25.2.2 := lf_fq_up fr9 rfl (fun h => absurd h (by decide))
      refine sm_84b htt1 hI13 (show (0 : Int) ≤ 2 ∧ 2 ≤ (2 : Int) from by omega) (fun r30 s29 hI16 fr15 q17 => ?_)
      have fr18 : lf_fq [63, 64, 65, 66] 1000000 true s.1 s.2.2 s29.1 s29.2.2 := lf_fq_tr fr14 (lf_fq_wk fr15 rfl (by decide) (by decide))
      refine sm_55 hI16 (show (-2147483648 : Int) ≤ r30 ∧ r30 ≤ (2147483647 : Int) from by omega) (show (0 : Int) ≤ 0 ∧ 0 ≤ (0 : Int) from by omega) (show (2 : Int) ≤ 100 ∧ 100 ≤ (1000000 : Int) from by omega) (fun r32 q19 => ?_)
      obtain ⟨q19, q19x⟩ := q19
      replace q19x : 0 ≤ r32 ∧ (r32 ≤ 100 ∨ r32 ≤ 0) := q19x
      exact hQ r32 s29 hI16 fr18 (show (0 : Int) ≤ r32 ∧ r32 ≤ (1000000 : Int) from by omega)
    · skip
      have dc5 := q3.2 c5
      exact hQ 100 s hI (lf_fq_rf) (show (0 : Int) ≤ 100 ∧ 100 ≤ (1000000 : Int) from by omega)
-- fm_159b ElevenBullocks.costAt 0 i t
theorem sm_159b {a1 : Int} {t2 : Nat} {Q : Int → lf_Z → Prop} {s : lf_Z} (htt2 : t2 < 4) (hI : iv_A s.1 s.2.2) (ba1 : 0 ≤ a1 ∧ a1 ≤ 11) (hQ : ∀ (r : Int) (s' : lf_Z), iv_A s'.1 s'.2.2 → lf_fq [63, 64, 65, 66] 1000000 true s.1 s.2.2 s'.1 s'.2.2 → ((-21474836) ≤ r ∧ r ≤ 21474836) → Q r s') : fm_159b a1 t2 Q s := by
  unfold fm_159b
  refine ⟨(show (0 : Int) ≤ a1 ∧ a1 < (12 : Int) from by omega), ?_⟩
  have b1 : (-2147483648) ≤ s.1 21 a1 ∧ s.1 21 a1 ≤ 2147483647 := iv_full hI
  refine sm_160b htt2 hI (show (0 : Int) ≤ a1 ∧ a1 ≤ (11 : Int) from by omega) (fun r23 s22 hI3 fr2 q4 => ?_)
  have fr5 : lf_fq [63, 64, 65, 66] 1000000 true s.1 s.2.2 s22.1 s22.2.2 := lf_fq_tr (lf_fq_rf) (lf_fq_wk fr2 rfl (by decide) (by decide))
  have b6 : (-2147483648) ≤ lf_w ((s.1 21 a1) * r23) ∧ lf_w ((s.1 21 a1) * r23) ≤ 2147483647 := lf_wB
  have b7 : (-21474836) ≤ (lf_w ((s.1 21 a1) * r23)).tdiv 100 ∧ (lf_w ((s.1 21 a1) * r23)).tdiv 100 ≤ 21474836 := lf_tdivB (p := -2147483648) (q := 2147483647) (by omega) (by omega) (by decide) (by decide) (by decide)
  exact hQ ((lf_w ((s.1 21 a1) * r23)).tdiv 100) s22 hI3 fr5 (show (-21474836 : Int) ≤ (lf_w ((s.1 21 a1) * r23)).tdiv 100 ∧ (lf_w ((s.1 21 a1) * r23)).tdiv 100 ≤ (21474836 : Int) from by omega)
-- fm_158 ElevenBullocks.pays 0 i i
theorem sm_158 {a1 : Int} {a2 : Int} {Q : Int → lf_Z → Prop} {s : lf_Z} (hI : iv_A s.1 s.2.2) (ba1 : (-2147483648) ≤ a1 ∧ a1 ≤ 2147483647) (ba2 : (-2147483648) ≤ a2 ∧ a2 ≤ 2147483647) (hQ : ∀ (r : Int) (s' : lf_Z), iv_A s'.1 s'.2.2 → lf_fq [63, 64, 65, 66] 1000000 true s.1 s.2.2 s'.1 s'.2.2 → ((-21474836) ≤ r ∧ r ≤ 21474836) → Q r s') : fm_158 a1 a2 Q s := by
  unfold fm_158
  refine sm_18 hI (show (-2147483648 : Int) ≤ a1 ∧ a1 ≤ (2147483647 : Int) from by omega) (fun z22 q1 => ?_)
  have b2 : 0 ≤ s.1 1 0 ∧ s.1 1 0 ≤ 12 := iv_r1_0 hI
  refine ⟨fun c3 => ?_, fun c3 => ?_⟩
  · skip
    have dc3 := q1.2 c3
    exact hQ (-1) s hI (lf_fq_rf) (show (-21474836 : Int) ≤ (-1) ∧ (-1) ≤ (21474836 : Int) from by omega)
  · skip
    have dc3 := q1.1 c3
    have b4 : 0 ≤ s.1 0 11 ∧ s.1 0 11 ≤ 4 := iv_r0_11 hI
    refine sm_15 hI (show (-2147483648 : Int) ≤ a2 ∧ a2 ≤ (2147483647 : Int) from by omega) (show (-1 : Int) ≤ (-1) ∧ (-1) ≤ (99 : Int) from by omega) (show (-2147483648 : Int) ≤ (s.1 0 11) - 1 ∧ (s.1 0 11) - 1 ≤ (2147483647 : Int) from by omega) (fun z24 q5 => ?_)
    refine ⟨fun c6 => ?_, fun c6 => ?_⟩
    · skip
      have dc6 := q5.1 c6
      refine sm_62 hI (show (-2147483648 : Int) ≤ a2 ∧ a2 ≤ (2147483647 : Int) from by omega) (fun r27 q7 => ?_)
      refine ⟨fun et26 => ?_, fun t26 et26 => ?_⟩
      · skip
        refine sm_159 hI (show (0 : Int) ≤ a1 ∧ a1 ≤ (11 : Int) from by omega) (fun r29 q8 => ?_)
        exact hQ r29 s hI (lf_fq_rf) (show (-21474836 : Int) ≤ r29 ∧ r29 ≤ (21474836 : Int) from by omega)
      · have htt26 : t26 < 4 := q7 t26 et26
        refine ⟨htt26, ?_⟩
        refine sm_159b htt26 hI (show (0 : Int) ≤ a1 ∧ a1 ≤ (11 : Int) from by omega) (fun r31 s30 hI10 fr9 q11 => ?_)
        have fr12 : lf_fq [63, 64, 65, 66] 1000000 true s.1 s.2.2 s30.1 s30.2.2 := lf_fq_tr (lf_fq_rf) (lf_fq_wk fr9 rfl (by decide) (by decide))
        exact hQ r31 s30 hI10 fr12 (show (-21474836 : Int) ≤ r31 ∧ r31 ≤ (21474836 : Int) from by omega)
    · skip
      have dc6 := q5.2 c6
      exact hQ (-1) s hI (lf_fq_rf) (show (-21474836 : Int) ≤ (-1) ∧ (-1) ≤ (21474836 : Int) from by omega)
-- fm_315 Model.paysBy 95 i i
theorem sm_315 {a1 : Int} {a2 : Int} {Q : Int → lf_Z → Prop} {s : lf_Z} (hI : iv_A s.1 s.2.2) (ba1 : 0 ≤ a1 ∧ a1 ≤ 11) (ba2 : (-1) ≤ a2 ∧ a2 ≤ 3) (hQ : ∀ (r : Int) (s' : lf_Z), iv_A s'.1 s'.2.2 → lf_fq [104, 107] 1000000 true s.1 s.2.2 s'.1 s'.2.2 → ((-2147483648) ≤ r ∧ r ≤ 2147483647) → Q r s') : fm_315 a1 a2 Q s := by
  unfold fm_315
  refine sm_264 hI (show (0 : Int) ≤ 0 ∧ 0 ≤ (24 : Int) from by omega) (show (0 : Int) ≤ a1 ∧ a1 ≤ (11 : Int) from by omega) (fun s21 hI2 fr1 => ?_)
  have fr4 : lf_fq [104, 107] 1000000 true s.1 s.2.2 s21.1 s21.2.2 := lf_fq_tr (lf_fq_rf) (lf_fq_wk fr1 rfl (by decide) (by decide))
  refine sm_246 hI2 (show (0 : Int) ≤ a1 ∧ a1 ≤ (11 : Int) from by omega) (fun r23 q5 => ?_)
  have hI6 : iv_A (lf_up s21.1 104 10 r23) s21.2.2 := iv_w104 hI2 (by omega)
  have fr7 : lf_fq [104, 107] 1000000 true s.1 s.2.2 (lf_up s21.1 104 10 r23) s21.2.2 := lf_fq_up fr4 rfl (fun h => absurd h (by decide))
  refine sm_246 hI6 (show (0 : Int) ≤ a1 ∧ a1 ≤ (11 : Int) from by omega) (fun r25 q8 => ?_)
  refine ⟨(show lf_R r25 from lf_Rof (by omega)), ?_⟩
  refine sm_267 hI6 (show (-1 : Int) ≤ a2 ∧ a2 ≤ (3 : Int) from by omega) (show (0 : Int) ≤ 2 ∧ 2 ≤ (2 : Int) from by omega) (show (0 : Int) ≤ 100 ∧ 100 ≤ (100 : Int) from by omega) (show (2 : Int) ≤ 100 ∧ 100 ≤ (100 : Int) from by omega) (fun r28 s27 hI10 fr9 q11 => ?_)
  have fr12 : lf_fq [104, 107] 1000000 true s.1 s.2.2 s27.1 s27.2.2 := lf_fq_tr fr7 (lf_fq_wk fr9 rfl (by decide) (by decide))
  refine ⟨(show lf_R r28 from lf_Rof (by omega)), ?_⟩
  have b13 : (-2147483648) ≤ lf_w (lf_wl ((lf_wl (r25 * r28)).tdiv 100)) ∧ lf_w (lf_wl ((lf_wl (r25 * r28)).tdiv 100)) ≤ 2147483647 := lf_wB
  exact hQ (lf_w (lf_wl ((lf_wl (r25 * r28)).tdiv 100))) s27 hI10 fr12 (show (-2147483648 : Int) ≤ lf_w (lf_wl ((lf_wl (r25 * r28)).tdiv 100)) ∧ lf_w (lf_wl ((lf_wl (r25 * r28)).tdiv 100)) ≤ (2147483647 : Int) from by omega)
-- fm_314 Model.pays 95 i i
theorem sm_314 {a1 : Int} {a2 : Int} {Q : Int → lf_Z → Prop} {s : lf_Z} (hI : iv_A s.1 s.2.2) (ba1 : (-2147483648) ≤ a1 ∧ a1 ≤ 2147483647) (ba2 : (-2147483648) ≤ a2 ∧ a2 ≤ 2147483647) (hQ : ∀ (r : Int) (s' : lf_Z), iv_A s'.1 s'.2.2 → lf_fq [104, 107] 1000000 true s.1 s.2.2 s'.1 s'.2.2 → ((-2147483648) ≤ r ∧ r ≤ 2147483647) → Q r s') : fm_314 a1 a2 Q s := by
  unfold fm_314
  refine sm_185 hI (show (-2147483648 : Int) ≤ a1 ∧ a1 ≤ (2147483647 : Int) from by omega) (fun z22 q1 => ?_)
  have b2 : 0 ≤ s.1 96 0 ∧ s.1 96 0 ≤ 12 := iv_rd96 hI (iv_f3e1fa21c (by omega))
  refine ⟨fun c3 => ?_, fun c3 => ?_⟩
  · skip
    have dc3 := q1.2 c3
    exact hQ (-1) s hI (lf_fq_rf) (show (-2147483648 : Int) ≤ (-1) ∧ (-1) ≤ (2147483647 : Int) from by omega)
  · skip
    have dc3 := q1.1 c3
    have b4 : 0 ≤ s.1 96 7 ∧ s.1 96 7 ≤ 4 := iv_rd96 hI (iv_ffb272d5f (by omega))
    refine sm_183 hI (show (-2147483648 : Int) ≤ a2 ∧ a2 ≤ (2147483647 : Int) from by omega) (show (-1 : Int) ≤ (-1) ∧ (-1) ≤ (97 : Int) from by omega) (show (-1 : Int) ≤ (s.1 96 7) - 1 ∧ (s.1 96 7) - 1 ≤ (9999 : Int) from by omega) (fun z24 q5 => ?_)
    refine ⟨fun c6 => ?_, fun c6 => ?_⟩
    · skip
      have dc6 := q5.2 c6
      exact hQ (-1) s hI (lf_fq_rf) (show (-2147483648 : Int) ≤ (-1) ∧ (-1) ≤ (2147483647 : Int) from by omega)
    · skip
      have dc6 := q5.1 c6
      refine sm_315 hI (show (0 : Int) ≤ a1 ∧ a1 ≤ (11 : Int) from by omega) (show (-1 : Int) ≤ a2 ∧ a2 ≤ (3 : Int) from by omega) (fun r26 s25 hI8 fr7 q9 => ?_)
      have fr10 : lf_fq [104, 107] 1000000 true s.1 s.2.2 s25.1 s25.2.2 := lf_fq_tr (lf_fq_rf) (lf_fq_wk fr7 rfl (by decide) (by decide))
      exact hQ r26 s25 hI8 fr10 (show (-2147483648 : Int) ≤ r26 ∧ r26 ≤ (2147483647 : Int) from by omega)
-- fm_162 ElevenBullocks.costOfGardens 0 i
theorem sm_162_p41 {X4 : Int → Int → lf_Z → Prop} {Q : Int → lf_Z → Prop} {x1 : Int} {x2 : Int} {x3 : Int} {s : lf_Z} (hQ : ∀ (r : Int) (s' : lf_Z), iv_A s'.1 s'.2.2 → lf_fq [63, 64, 65, 66] 1000000 true s.1 s.2.2 s'.1 s'.2.2 → ((-2147483648) ≤ r ∧ r ≤ 2147483647) → Q r s') {M4 : Nat} (hX4 : ∀ (x2 : Int) (x3 : Int) (s' : lf_Z), iv_A s'.1 s'.2.2 → lf_fq [63, 64, 65, 66] 1000000 true s.1 s.2.2 s'.1 s'.2.2 → (-2147483648) ≤ x2 ∧ x2 ≤ 2147483647 → 0 ≤ x3 ∧ x3 ≤ 12 → (12 - x3).toNat < M4 → X4 x2 x3 s') (hM4 : (12 - x3).toNat ≤ M4) (hI : iv_A s.1 s.2.2) (bx1 : (-1) ≤ x1 ∧ x1 ≤ 3) (bx2 : (-2147483648) ≤ x2 ∧ x2 ≤ 2147483647) (bx3 : 0 ≤ x3 ∧ x3 ≤ 11) : fm_162_p41 X4 Q x1 x2 x3 s := by
  unfold fm_162_p41
  exact hX4 (x2) (x3 + 1) s hI (lf_fq_rf) (show (-2147483648 : Int) ≤ x2 ∧ x2 ≤ (2147483647 : Int) from by omega) (show (0 : Int) ≤ x3 + 1 ∧ x3 + 1 ≤ (12 : Int) from by omega) (show (12 - (x3 + 1)).toNat < M4 from by omega)
theorem sm_162_p4 {X4 : Int → Int → lf_Z → Prop} {Q : Int → lf_Z → Prop} {x1 : Int} {x2 : Int} {x3 : Int} {s : lf_Z} (hQ : ∀ (r : Int) (s' : lf_Z), iv_A s'.1 s'.2.2 → lf_fq [63, 64, 65, 66] 1000000 true s.1 s.2.2 s'.1 s'.2.2 → ((-2147483648) ≤ r ∧ r ≤ 2147483647) → Q r s') {M4 : Nat} (hX4 : ∀ (x2 : Int) (x3 : Int) (s' : lf_Z), iv_A s'.1 s'.2.2 → lf_fq [63, 64, 65, 66] 1000000 true s.1 s.2.2 s'.1 s'.2.2 → (-2147483648) ≤ x2 ∧ x2 ≤ 2147483647 → 0 ≤ x3 ∧ x3 ≤ 12 → (12 - x3).toNat < M4 → X4 x2 x3 s') (hM4 : (12 - x3).toNat ≤ M4) (hI : iv_A s.1 s.2.2) (bx1 : (-1) ≤ x1 ∧ x1 ≤ 3) (bx2 : (-2147483648) ≤ x2 ∧ x2 ≤ 2147483647) (bx3 : 0 ≤ x3 ∧ x3 ≤ 12) : fm_162_p4 Q x1 X4 x2 x3 s := by
  unfold fm_162_p4
  have b1 : 0 ≤ s.1 1 0 ∧ s.1 1 0 ≤ 12 := iv_r1_0 hI
  refine ⟨(show lf_R x3 from lf_Rof (by omega)), ?_⟩
  refine ⟨(show lf_R (s.1 1 0) from lf_Rof (by omega)), ?_⟩
  refine ⟨fun c2 => ?_, fun c2 => ?_⟩
  · skip
    replace c2 : s.1 1 0 ≤ x3 := c2
    exact hQ x2 s hI (lf_fq_rf) (show (-2147483648 : Int) ≤ x2 ∧ x2 ≤ (2147483647 : Int) from by omega)
  · skip
    replace c2 : ¬ (s.1 1 0 ≤ x3) := c2
    refine ⟨(show (0 : Int) ≤ x3 ∧ x3 < (12 : Int) from by omega), ?_⟩
    have b3 : 0 ≤ s.1 2 x3 ∧ s.1 2 x3 ≤ 3 := iv_r2 hI _
    refine ⟨(show lf_R (s.1 2 x3) from lf_Rof (by omega)), ?_⟩
    refine ⟨fun c4 => ?_, fun c4 => ?_⟩
    · skip
      replace c4 : s.1 2 x3 ≠ 1 := c4
      exact sm_162_p41 hQ hX4 (show (12 - x3).toNat ≤ M4 from by omega) hI (show (-1 : Int) ≤ x1 ∧ x1 ≤ (3 : Int) from by omega) (show (-2147483648 : Int) ≤ x2 ∧ x2 ≤ (2147483647 : Int) from by omega) (show (0 : Int) ≤ x3 ∧ x3 ≤ (11 : Int) from by omega)
    · skip
      replace c4 : ¬ (s.1 2 x3 ≠ 1) := c4
      refine sm_62 hI (show (-2147483648 : Int) ≤ x1 ∧ x1 ≤ (2147483647 : Int) from by omega) (fun r27 q5 => ?_)
      refine ⟨fun et26 => ?_, fun t26 et26 => ?_⟩
      · skip
        refine sm_159 hI (show (0 : Int) ≤ x3 ∧ x3 ≤ (11 : Int) from by omega) (fun r29 q6 => ?_)
        have b7 : (-2147483648) ≤ lf_w (x2 + r29) ∧ lf_w (x2 + r29) ≤ 2147483647 := lf_wB
        exact sm_162_p41 hQ hX4 (show (12 - x3).toNat ≤ M4 from by omega) hI (show (-1 : Int) ≤ x1 ∧ x1 ≤ (3 : Int) from by omega) (show (-2147483648 : Int) ≤ lf_w (x2 + r29) ∧ lf_w (x2 + r29) ≤ (2147483647 : Int) from by omega) (show (0 : Int) ≤ x3 ∧ x3 ≤ (11 : Int) from by omega)
      · have htt26 : t26 < 4 := q5 t26 et26
        refine ⟨htt26, ?_⟩
        refine sm_159b htt26 hI (show (0 : Int) ≤ x3 ∧ x3 ≤ (11 : Int) from by omega) (fun r31 s30 hI9 fr8 q10 => ?_)
        have fr11 : lf_fq [63, 64, 65, 66] 1000000 true s.1 s.2.2 s30.1 s30.2.2 := lf_fq_tr (lf_fq_rf) (lf_fq_wk fr8 rfl (by decide) (by decide))
        have b12 : (-2147483648) ≤ lf_w (x2 + r31) ∧ lf_w (x2 + r31) ≤ 2147483647 := lf_wB
        exact sm_162_p41 (fun r9 t9 i9 f9 => hQ r9 t9 i9 (lf_fq_tr fr11 f9)) (fun p0 p1 t9 i9 f9 => hX4 p0 p1 t9 i9 (lf_fq_tr fr11 f9)) (show (12 - x3).toNat ≤ M4 from by omega) hI9 (show (-1 : Int) ≤ x1 ∧ x1 ≤ (3 : Int) from by omega) (show (-2147483648 : Int) ≤ lf_w (x2 + r31) ∧ lf_w (x2 + r31) ≤ (2147483647 : Int) from by omega) (show (0 : Int) ≤ x3 ∧ x3 ≤ (11 : Int) from by omega)
theorem sm_162_p4L {Q : Int → lf_Z → Prop} {x1 : Int} {x2 : Int} {x3 : Int} {s : lf_Z} (hQ : ∀ (r : Int) (s' : lf_Z), iv_A s'.1 s'.2.2 → lf_fq [63, 64, 65, 66] 1000000 true s.1 s.2.2 s'.1 s'.2.2 → ((-2147483648) ≤ r ∧ r ≤ 2147483647) → Q r s') (hI : iv_A s.1 s.2.2) (bx1 : (-1) ≤ x1 ∧ x1 ≤ 3) (bx2 : (-2147483648) ≤ x2 ∧ x2 ≤ 2147483647) (bx3 : 0 ≤ x3 ∧ x3 ≤ 12) : fm_162_p4L Q x1 x2 x3 s := by
  intro X4 hX
  have key : ∀ (m9 : Nat) (x2 : Int) (x3 : Int) (s' : lf_Z), iv_A s'.1 s'.2.2 → lf_fq [63, 64, 65, 66] 1000000 true s.1 s.2.2 s'.1 s'.2.2 → (-2147483648) ≤ x2 ∧ x2 ≤ 2147483647 → 0 ≤ x3 ∧ x3 ≤ 12 → (12 - x3).toNat < m9 → X4 x2 x3 s' := by
    intro m9
    induction m9 with
    | zero => intro x2 x3 s' _ _ bx2 bx3 h9; exact absurd h9 (Nat.not_lt_zero _)
    | succ m9 ih => intro x2 x3 s' i7 f7 bx2 bx3 h9; exact hX _ _ _ (sm_162_p4 (fun r9 t9 i9 f9 => hQ r9 t9 i9 (lf_fq_tr f7 f9))   (fun x2' x3' t8 i8 f8 bx2' bx3' h8 => ih x2' x3' t8 i8 (lf_fq_tr f7 f8) bx2' bx3' (by omega)) (Nat.le_refl _)  i7  bx1 bx2 bx3  )
  exact key _ _ _ s hI lf_fq_rf bx2 bx3 (Nat.lt_succ_self _)
theorem sm_162 {a1 : Int} {Q : Int → lf_Z → Prop} {s : lf_Z} (hI : iv_A s.1 s.2.2) (ba1 : (-1) ≤ a1 ∧ a1 ≤ 3) (hQ : ∀ (r : Int) (s' : lf_Z), iv_A s'.1 s'.2.2 → lf_fq [63, 64, 65, 66] 1000000 true s.1 s.2.2 s'.1 s'.2.2 → ((-2147483648) ≤ r ∧ r ≤ 2147483647) → Q r s') : fm_162 a1 Q s := by
  unfold fm_162
  exact sm_162_p4L hQ hI (show (-1 : Int) ≤ a1 ∧ a1 ≤ (3 : Int) from by omega) (show (-2147483648 : Int) ≤ 0 ∧ 0 ≤ (2147483647 : Int) from by omega) (show (0 : Int) ≤ 0 ∧ 0 ≤ (12 : Int) from by omega)
