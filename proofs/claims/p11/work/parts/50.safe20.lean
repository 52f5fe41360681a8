-- fm_145 ElevenBullocks.seen 0 i i
theorem sm_145 {a1 : Int} {a2 : Int} {Q : Int → lf_Z → Prop} {s : lf_Z} (hI : iv_A s.1 s.2.2) (ba1 : (-2147483648) ≤ a1 ∧ a1 ≤ 2147483647) (ba2 : (-2147483648) ≤ a2 ∧ a2 ≤ 2147483647) (hQ : ∀ (r : Int) (s' : lf_Z), iv_A s'.1 s'.2.2 → lf_fq [25, 26, 27] 1000000 true s.1 s.2.2 s'.1 s'.2.2 → ((-2) ≤ r ∧ r ≤ 6) → Q r s') : fm_145 a1 a2 Q s := by
  unfold fm_145
  refine ⟨(show lf_R a1 from lf_Rof (by omega)), ?_⟩
  refine ⟨fun c1 => ?_, fun c1 => ?_⟩
  · skip
    replace c1 : a1 ≠ (-1) := c1
    refine sm_18 hI (show (-2147483648 : Int) ≤ a1 ∧ a1 ≤ (2147483647 : Int) from by omega) (fun z23 q2 => ?_)
    have b3 : 0 ≤ s.1 1 0 ∧ s.1 1 0 ≤ 12 := iv_r1_0 hI
    refine ⟨fun c4 => ?_, fun c4 => ?_⟩
    · skip
      have dc4 := q2.2 c4
      exact hQ (-2) s hI (lf_fq_rf) (show (-2 : Int) ≤ (-2) ∧ (-2) ≤ (6 : Int) from by omega)
    · skip
      have dc4 := q2.1 c4
      refine sm_15 hI (show (-2147483648 : Int) ≤ a2 ∧ a2 ≤ (2147483647 : Int) from by omega) (show (-1 : Int) ≤ 0 ∧ 0 ≤ (99 : Int) from by omega) (show (-2147483648 : Int) ≤ 60 ∧ 60 ≤ (2147483647 : Int) from by omega) (fun z25 q5 => ?_)
      refine ⟨fun c6 => ?_, fun c6 => ?_⟩
      · skip
        have dc6 := q5.1 c6
        refine sm_146 hI (show (0 : Int) ≤ a1 ∧ a1 ≤ (11 : Int) from by omega) (show (0 : Int) ≤ a2 ∧ a2 ≤ (60 : Int) from by omega) (fun r27 s26 hI8 fr7 q9 => ?_)
        have fr10 : lf_fq [25, 26, 27] 1000000 true s.1 s.2.2 s26.1 s26.2.2 := lf_fq_tr (lf_fq_rf) (lf_fq_wk fr7 rfl (by decide) (by decide))
        exact hQ r27 s26 hI8 fr10 (show (-2 : Int) ≤ r27 ∧ r27 ≤ (6 : Int) from by omega)
      · skip
        have dc6 := q5.2 c6
        exact hQ (-2) s hI (lf_fq_rf) (show (-2 : Int) ≤ (-2) ∧ (-2) ≤ (6 : Int) from by omega)
  · skip
    replace c1 : ¬ (a1 ≠ (-1)) := c1
    have hI11 : iv_A (lf_up s.1 25 2 0) s.2.2 := iv_w25_2 hI (by omega)
    have fr12 : lf_fq [25, 26, 27] 1000000 true s.1 s.2.2 (lf_up s.1 25 2 0) s.2.2 := lf_fq_up (lf_fq_rf) rfl (fun h => absurd h (by decide))
    exact hQ 0 (lf_up s.1 25 2 0, s.2.1, s.2.2) hI11 fr12 (show (-2 : Int) ≤ 0 ∧ 0 ≤ (6 : Int) from by omega)
-- fm_305 Model.seen 95 i i
theorem sm_305 {a1 : Int} {a2 : Int} {Q : Int → lf_Z → Prop} {s : lf_Z} (hI : iv_A s.1 s.2.2) (ba1 : (-2147483648) ≤ a1 ∧ a1 ≤ 2147483647) (ba2 : (-2147483648) ≤ a2 ∧ a2 ≤ 2147483647) (hQ : ∀ (r : Int) (s' : lf_Z), iv_A s'.1 s'.2.2 → lf_fq [96, 1001] 10 true s.1 s.2.2 s'.1 s'.2.2 → ((-2) ≤ r ∧ r ≤ 6) → Q r s') : fm_305 a1 a2 Q s := by
  unfold fm_305
  refine ⟨(show lf_R a1 from lf_Rof (by omega)), ?_⟩
  refine ⟨fun c1 => ?_, fun c1 => ?_⟩
  · skip
    replace c1 : a1 ≠ (-1) := c1
    refine sm_185 hI (show (-2147483648 : Int) ≤ a1 ∧ a1 ≤ (2147483647 : Int) from by omega) (fun z23 q2 => ?_)
    have b3 : 0 ≤ s.1 96 0 ∧ s.1 96 0 ≤ 12 := iv_rd96 hI (iv_f3e1fa21c (by omega))
    refine ⟨fun c4 => ?_, fun c4 => ?_⟩
    · skip
      have dc4 := q2.2 c4
      exact hQ (-2) s hI (lf_fq_rf) (show (-2 : Int) ≤ (-2) ∧ (-2) ≤ (6 : Int) from by omega)
    · skip
      have dc4 := q2.1 c4
      refine sm_183 hI (show (-2147483648 : Int) ≤ a2 ∧ a2 ≤ (2147483647 : Int) from by omega) (show (-1 : Int) ≤ 0 ∧ 0 ≤ (97 : Int) from by omega) (show (-1 : Int) ≤ 60 ∧ 60 ≤ (9999 : Int) from by omega) (fun z25 q5 => ?_)
      refine ⟨fun c6 => ?_, fun c6 => ?_⟩
      · skip
        have dc6 := q5.2 c6
        exact hQ (-2) s hI (lf_fq_rf) (show (-2 : Int) ≤ (-2) ∧ (-2) ≤ (6 : Int) from by omega)
      · skip
        have dc6 := q5.1 c6
        have b7 : 0 ≤ s.1 96 10 ∧ s.1 96 10 ≤ 6 := iv_rd96 hI (iv_f2f8ad25f (by omega))
        refine ⟨(show lf_R (s.1 96 10) from lf_Rof (by omega)), ?_⟩
        refine ⟨fun c8 => ?_, fun c8 => ?_⟩
        · skip
          replace c8 : s.1 96 10 ≠ 6 := c8
          refine ⟨(show (0 : Int) ≤ 162 + (2 * (s.1 96 10)) ∧ 162 + (2 * (s.1 96 10)) < (1538 : Int) from by omega), ?_⟩
          have hI9 : iv_A (lf_up s.1 96 (162 + (2 * (s.1 96 10))) a1) s.2.2 := iv_wd96 hI (lf_le2 (iv_fe7a41342 (s.1 96 10) (by omega) (by omega)) (by omega)) (fun h => absurd h (by omega))
          have fr10 : lf_fq [96, 1001] 10 true s.1 s.2.2 (lf_up s.1 96 (162 + (2 * (s.1 96 10))) a1) s.2.2 := lf_fq_up (lf_fq_rf) rfl (fun _ => ⟨by omega, fr_o (Or.inr (fr_n0 (by omega))) (Or.inl rfl) (Or.inr (fr_n2 (by omega))) (Or.inr (fr_n3 (by omega))) (Or.inr (fr_n4 (by omega))) (Or.inr (fr_n5 (by omega))) (Or.inr (fr_n6 (by omega)))⟩)
          have b11 : 0 ≤ (lf_up s.1 96 (162 + (2 * (s.1 96 10))) a1) 96 10 ∧ (lf_up s.1 96 (162 + (2 * (s.1 96 10))) a1) 96 10 ≤ 6 := iv_rd96 hI9 (iv_f2f8ad25f (by omega))
          have b12 : (lf_up s.1 96 (162 + (2 * (s.1 96 10))) a1) 96 10 = s.1 96 10 := lf_up_i (by omega)
          refine ⟨(show (0 : Int) ≤ (162 + (2 * ((lf_up s.1 96 (162 + (2 * (s.1 96 10))) a1) 96 10))) + 1 ∧ (162 + (2 * ((lf_up s.1 96 (162 + (2 * (s.1 96 10))) a1) 96 10))) + 1 < (1538 : Int) from by omega), ?_⟩
          have hI13 : iv_A (lf_up (lf_up s.1 96 (162 + (2 * (s.1 96 10))) a1) 96 ((162 + (2 * ((lf_up s.1 96 (162 + (2 * (s.1 96 10))) a1) 96 10))) + 1) a2) s.2.2 := iv_wd96 hI9 (lf_le2 (iv_fcdead904 ((lf_up s.1 96 (162 + (2 * (s.1 96 10))) a1) 96 10) (by omega) (by omega)) (by omega)) (fun h => absurd h (by omega))
          have fr14 : lf_fq [96, 1001] 10 true s.1 s.2.2 (lf_up (lf_up s.1 96 (162 + (2 * (s.1 96 10))) a1) 96 ((162 + (2 * ((lf_up s.1 96 (162 + (2 * (s.1 96 10))) a1) 96 10))) + 1) a2) s.2.2 := lf_fq_up fr10 rfl (fun _ => ⟨by omega, fr_o (Or.inr (fr_n0 (by omega))) (Or.inl rfl) (Or.inr (fr_n2 (by omega))) (Or.inr (fr_n3 (by omega))) (Or.inr (fr_n4 (by omega))) (Or.inr (fr_n5 (by omega))) (Or.inr (fr_n6 (by omega)))⟩)
          have b15 : 0 ≤ (lf_up (lf_up s.1 96 (162 + (2 * (s.1 96 10))) a1) 96 ((162 + (2 * ((lf_up s.1 96 (162 + (2 * (s.1 96 10))) a1) 96 10))) + 1) a2) 96 10 ∧ (lf_up (lf_up s.1 96 (162 + (2 * (s.1 96 10))) a1) 96 ((162 + (2 * ((lf_up s.1 96 (162 + (2 * (s.1 96 10))) a1) 96 10))) + 1) a2) 96 10 ≤ 6 := iv_rd96 hI13 (iv_f2f8ad25f (by omega))
          have b16 : (lf_up (lf_up s.1 96 (162 + (2 * (s.1 96 10))) a1) 96 ((162 + (2 * ((lf_up s.1 96 (162 + (2 * (s.1 96 10))) a1) 96 10))) + 1) a2) 96 10 = (lf_up s.1 96 (162 + (2 * (s.1 96 10))) a1) 96 10 := lf_up_i (by omega)
          have hI17 : iv_A (lf_up (lf_up (lf_up s.1 96 (162 + (2 * (s.1 96 10))) a1) 96 ((162 + (2 * ((lf_up s.1 96 (162 + (2 * (s.1 96 10))) a1) 96 10))) + 1) a2) 96 10 (((lf_up (lf_up s.1 96 (162 + (2 * (s.1 96 10))) a1) 96 ((162 + (2 * ((lf_up s.1 96 (162 + (2 * (s.1 96 10))) a1) 96 10))) + 1) a2) 96 10) + 1)) s.2.2 := iv_wd96 hI13 (lf_le2 (iv_f38c39aa3 (by omega)) (by omega)) (fun h => absurd h (by omega))
          have fr18 : lf_fq [96, 1001] 10 true s.1 s.2.2 (lf_up (lf_up (lf_up s.1 96 (162 + (2 * (s.1 96 10))) a1) 96 ((162 + (2 * ((lf_up s.1 96 (162 + (2 * (s.1 96 10))) a1) 96 10))) + 1) a2) 96 10 (((lf_up (lf_up s.1 96 (162 + (2 * (s.1 96 10))) a1) 96 ((162 + (2 * ((lf_up s.1 96 (162 + (2 * (s.1 96 10))) a1) 96 10))) + 1) a2) 96 10) + 1)) s.2.2 := lf_fq_up fr14 rfl (fun _ => ⟨by omega, fr_o (Or.inr (fr_n0 (by omega))) (Or.inl rfl) (Or.inr (fr_n2 (by omega))) (Or.inr (fr_n3 (by omega))) (Or.inr (fr_n4 (by omega))) (Or.inr (fr_n5 (by omega))) (Or.inr (fr_n6 (by omega)))⟩)
          exact hQ (((lf_up (lf_up s.1 96 (162 + (2 * (s.1 96 10))) a1) 96 ((162 + (2 * ((lf_up s.1 96 (162 + (2 * (s.1 96 10))) a1) 96 10))) + 1) a2) 96 10) + 1) (lf_up (lf_up (lf_up s.1 96 (162 + (2 * (s.1 96 10))) a1) 96 ((162 + (2 * ((lf_up s.1 96 (162 + (2 * (s.1 96 10))) a1) 96 10))) + 1) a2) 96 10 (((lf_up (lf_up s.1 96 (162 + (2 * (s.1 96 10))) a1) 96 ((162 + (2 * ((lf_up s.1 96 (162 + (2 * (s.1 96 10))) a1) 96 10))) + 1) a2) 96 10) + 1), s.2.1, s.2.2) hI17 fr18 (show (-2 : Int) ≤ ((lf_up (lf_up s.1 96 (162 + (2 * (s.1 96 10))) a1) 96 ((162 + (2 * ((lf_up s.1 96 (162 + (2 * (s.1 96 10))) a1) 96 10))) + 1) a2) 96 10) + 1 ∧ ((lf_up (lf_up s.1 96 (162 + (2 * (s.1 96 10))) a1) 96 ((162 + (2 * ((lf_up s.1 96 (162 + (2 * (s.1 96 10))) a1) 96 10))) + 1) a2) 96 10) + 1 ≤ (6 : Int) from by omega)
        · skip
          replace c8 : ¬ (s.1 96 10 ≠ 6) := c8
          exact hQ (-2) s hI (lf_fq_rf) (show (-2 : Int) ≤ (-2) ∧ (-2) ≤ (6 : Int) from by omega)
  · skip
    replace c1 : ¬ (a1 ≠ (-1)) := c1
    have hI19 : iv_A (lf_up s.1 96 10 0) s.2.2 := iv_wd96 hI (lf_le2 (iv_f38c39aa3 (by omega)) (by omega)) (fun h => absurd h (by omega))
    have fr20 : lf_fq [96, 1001] 10 true s.1 s.2.2 (lf_up s.1 96 10 0) s.2.2 := lf_fq_up (lf_fq_rf) rfl (fun _ => ⟨by omega, fr_o (Or.inr (fr_n0 (by omega))) (Or.inl rfl) (Or.inr (fr_n2 (by omega))) (Or.inr (fr_n3 (by omega))) (Or.inr (fr_n4 (by omega))) (Or.inr (fr_n5 (by omega))) (Or.inr (fr_n6 (by omega)))⟩)
    exact hQ 0 (lf_up s.1 96 10 0, s.2.1, s.2.2) hI19 fr20 (show (-2 : Int) ≤ 0 ∧ 0 ≤ (6 : Int) from by omega)
-- fm_2 Land.setApart 14
theorem sm_2_p9 {X9 : Int → lf_Z → Prop} {Q : lf_Z → Prop} {x1 : Int} {s : lf_Z} (hQ : ∀  (s' : lf_Z), iv_A s'.1 s'.2.2 → lf_fq [14] 1000000 true s.1 s.2.2 s'.1 s'.2.2 → Q  s') {M9 : Nat} (hX9 : ∀ (x1 : Int) (s' : lf_Z), iv_A s'.1 s'.2.2 → lf_fq [14] 1000000 true s.1 s.2.2 s'.1 s'.2.2 → 0 ≤ x1 ∧ x1 ≤ 12 → (12 - x1).toNat < M9 → X9 x1 s') (hM9 : (12 - x1).toNat ≤ M9) (hI : iv_A s.1 s.2.2) (bx1 : 0 ≤ x1 ∧ x1 ≤ 12) : fm_2_p9 Q X9 x1 s := by
  unfold fm_2_p9
  refine ⟨(show lf_R x1 from lf_Rof (by omega)), ?_⟩
  refine ⟨fun c3 => ?_, fun c3 => ?_⟩
  · skip
    replace c3 : 12 ≤ x1 := c3
    exact hQ s hI (lf_fq_rf)
  · skip
    replace c3 : ¬ (12 ≤ x1) := c3
    refine ⟨(show (0 : Int) ≤ (x1 * 12) + x1 ∧ (x1 * 12) + x1 < (144 : Int) from by omega), ?_⟩
    have hI4 : iv_A (lf_up s.1 14 ((x1 * 12) + x1) 0) s.2.2 := iv_w14 hI (by omega)
    have fr5 : lf_fq [14] 1000000 true s.1 s.2.2 (lf_up s.1 14 ((x1 * 12) + x1) 0) s.2.2 := lf_fq_up (lf_fq_rf) rfl (fun h => absurd h (by decide))
    exact hX9 (x1 + 1) (lf_up s.1 14 ((x1 * 12) + x1) 0, s.2.1, s.2.2) hI4 fr5 (show (0 : Int) ≤ x1 + 1 ∧ x1 + 1 ≤ (12 : Int) from by omega) (show (12 - (x1 + 1)).toNat < M9 from by omega)
theorem sm_2_p9L {Q : lf_Z → Prop} {x1 : Int} {s : lf_Z} (hQ : ∀  (s' : lf_Z), iv_A s'.1 s'.2.2 → lf_fq [14] 1000000 true s.1 s.2.2 s'.1 s'.2.2 → Q  s') (hI : iv_A s.1 s.2.2) (bx1 : 0 ≤ x1 ∧ x1 ≤ 12) : fm_2_p9L Q x1 s := by
  intro X9 hX
  have key : ∀ (m9 : Nat) (x1 : Int) (s' : lf_Z), iv_A s'.1 s'.2.2 → lf_fq [14] 1000000 true s.1 s.2.2 s'.1 s'.2.2 → 0 ≤ x1 ∧ x1 ≤ 12 → (12 - x1).toNat < m9 → X9 x1 s' := by
    intro m9
    induction m9 with
    | zero => intro x1 s' _ _ bx1 h9; exact absurd h9 (Nat.not_lt_zero _)
    | succ m9 ih => intro x1 s' i7 f7 bx1 h9; exact hX _ _ (sm_2_p9 (fun t9 i9 f9 => hQ t9 i9 (lf_fq_tr f7 f9))   (fun x1' t8 i8 f8 bx1' h8 => ih x1' t8 i8 (lf_fq_tr f7 f8) bx1' (by omega)) (Nat.le_refl _)  i7  bx1  )
  exact key _ _ s hI lf_fq_rf bx1 (Nat.lt_succ_self _)
theorem sm_2 {Q : lf_Z → Prop} {s : lf_Z} (hI : iv_A s.1 s.2.2) (hQ : ∀  (s' : lf_Z), iv_A s'.1 s'.2.2 → lf_fq [14] 1000000 true s.1 s.2.2 s'.1 s'.2.2 → Q  s') : fm_2 Q s := by
  unfold fm_2
  have hI1 : iv_A (lf_fl s.1 14 144 1000) s.2.2 := iv_fl14 hI (by omega)
  have fr2 : lf_fq [14] 1000000 true s.1 s.2.2 (lf_fl s.1 14 144 1000) s.2.2 := lf_fq_fl (lf_fq_rf) rfl (by decide)
  exact sm_2_p9L (fun t9 i9 f9 => hQ t9 i9 (lf_fq_tr fr2 f9)) hI1 (show (0 : Int) ≤ 0 ∧ 0 ≤ (12 : Int) from by omega)
-- fm_22b Land.bringNear 1 14 i i
theorem sm_22b_p22 {X3 : Int → lf_Z → Prop} {X22 : Int → lf_Z → Prop} {Q : lf_Z → Prop} {x2 : Int} {x3 : Int} {x4 : Int} {x5 : Int} {x6 : Int} {s : lf_Z} (hQ : ∀  (s' : lf_Z), iv_A s'.1 s'.2.2 → lf_fq [14] 1000000 true s.1 s.2.2 s'.1 s'.2.2 → Q  s') {M3 : Nat} (hX3 : ∀ (x4 : Int) (s' : lf_Z), iv_A s'.1 s'.2.2 → lf_fq [14] 1000000 true s.1 s.2.2 s'.1 s'.2.2 → 0 ≤ x4 ∧ x4 ≤ 12 → (12 - x4).toNat < M3 → X3 x4 s') (hM3 : (12 - x4).toNat ≤ M3) {M22 : Nat} (hX22 : ∀ (x6 : Int) (s' : lf_Z), iv_A s'.1 s'.2.2 → lf_fq [14] 1000000 true s.1 s.2.2 s'.1 s'.2.2 → 0 ≤ x6 ∧ x6 ≤ 12 → (12 - x6).toNat < M22 → X22 x6 s') (hM22 : (12 - x6).toNat ≤ M22) (hI : iv_A s.1 s.2.2) (bx2 : 0 ≤ x2 ∧ x2 ≤ 11) (bx3 : 0 ≤ x3 ∧ x3 ≤ 11) (bx4 : 0 ≤ x4 ∧ x4 ≤ 11) (bx5 : 0 ≤ x5 ∧ x5 ≤ 132) (bx6 : 0 ≤ x6 ∧ x6 ≤ 12) : fm_22b_p22 X3 Q x2 x3 x4 x5 X22 x6 s := by
  unfold fm_22b_p22
  have b3 : 0 ≤ s.1 1 0 ∧ s.1 1 0 ≤ 12 := iv_r1_0 hI
  refine ⟨(show lf_R x6 from lf_Rof (by omega)), ?_⟩
  refine ⟨(show lf_R (s.1 1 0) from lf_Rof (by omega)), ?_⟩
  refine ⟨fun c4 => ?_, fun c4 => ?_⟩
  · skip
    replace c4 : s.1 1 0 ≤ x6 := c4
    exact hX3 (x4 + 1) s hI (lf_fq_rf) (show (0 : Int) ≤ x4 + 1 ∧ x4 + 1 ≤ (12 : Int) from by omega) (show (12 - (x4 + 1)).toNat < M3 from by omega)
  · skip
    replace c4 : ¬ (s.1 1 0 ≤ x6) := c4
    refine ⟨(show (0 : Int) ≤ x5 + x2 ∧ x5 + x2 < (144 : Int) from by omega), ?_⟩
    have b5 : 0 ≤ s.1 14 (x5 + x2) ∧ s.1 14 (x5 + x2) ≤ 1000 := iv_r14 hI _
    refine ⟨(show (0 : Int) ≤ (x3 * 12) + x6 ∧ (x3 * 12) + x6 < (144 : Int) from by omega), ?_⟩
    have b6 : 0 ≤ s.1 14 ((x3 * 12) + x6) ∧ s.1 14 ((x3 * 12) + x6) ≤ 1000 := iv_r14 hI _
    refine ⟨(show (0 : Int) ≤ x5 + x3 ∧ x5 + x3 < (144 : Int) from by omega), ?_⟩
    have b7 : 0 ≤ s.1 14 (x5 + x3) ∧ s.1 14 (x5 + x3) ≤ 1000 := iv_r14 hI _
    refine ⟨(show (0 : Int) ≤ (x2 * 12) + x6 ∧ (x2 * 12) + x6 < (144 : Int) from by omega), ?_⟩
    have b8 : 0 ≤ s.1 14 ((x2 * 12) + x6) ∧ s.1 14 ((x2 * 12) + x6) ≤ 1000 := iv_r14 hI _
    refine ⟨(show (0 : Int) ≤ x5 + x6 ∧ x5 + x6 < (144 : Int) from by omega), ?_⟩
    have b9 : 0 ≤ s.1 14 (x5 + x6) ∧ s.1 14 (x5 + x6) ≤ 1000 := iv_r14 hI _
    refine ⟨(show lf_R (((s.1 14 (x5 + x2)) + 1) + (s.1 14 ((x3 * 12) + x6))) from lf_Rof (by omega)), ?_⟩
    refine ⟨(show lf_R (((s.1 14 (x5 + x3)) + 1) + (s.1 14 ((x2 * 12) + x6))) from lf_Rof (by omega)), ?_⟩
    refine ⟨(show lf_R (s.1 14 (x5 + x6)) from lf_Rof (by omega)), ?_⟩
    refine ⟨(show lf_R (min (((s.1 14 (x5 + x2)) + 1) + (s.1 14 ((x3 * 12) + x6))) (((s.1 14 (x5 + x3)) + 1) + (s.1 14 ((x2 * 12) + x6)))) from lf_Rof (by omega)), ?_⟩
    have hI10 : iv_A (lf_up s.1 14 (x5 + x6) (min (s.1 14 (x5 + x6)) (min (((s.1 14 (x5 + x2)) + 1) + (s.1 14 ((x3 * 12) + x6))) (((s.1 14 (x5 + x3)) + 1) + (s.1 14 ((x2 * 12) + x6)))))) s.2.2 := iv_w14 hI (by omega)
    have fr11 : lf_fq [14] 1000000 true s.1 s.2.2 (lf_up s.1 14 (x5 + x6) (min (s.1 14 (x5 + x6)) (min (((s.1 14 (x5 + x2)) + 1) + (s.1 14 ((x3 * 12) + x6))) (((s.1 14 (x5 + x3)) + 1) + (s.1 14 ((x2 * 12) + x6)))))) s.2.2 := lf_fq_up (lf_fq_rf) rfl (fun h => absurd h (by decide))
    exact hX22 (x6 + 1) (lf_up s.1 14 (x5 + x6) (min (s.1 14 (x5 + x6)) (min (((s.1 14 (x5 + x2)) + 1) + (s.1 14 ((x3 * 12) + x6))) (((s.1 14 (x5 + x3)) + 1) + (s.1 14 ((x2 * 12) + x6))))), s.2.1, s.2.2) hI10 fr11 (show (0 : Int) ≤ x6 + 1 ∧ x6 + 1 ≤ (12 : Int) from by omega) (show (12 - (x6 + 1)).toNat < M22 from by omega)
theorem sm_22b_p22L {X3 : Int → lf_Z → Prop} {Q : lf_Z → Prop} {x2 : Int} {x3 : Int} {x4 : Int} {x5 : Int} {x6 : Int} {s : lf_Z} (hQ : ∀  (s' : lf_Z), iv_A s'.1 s'.2.2 → lf_fq [14] 1000000 true s.1 s.2.2 s'.1 s'.2.2 → Q  s') {M3 : Nat} (hX3 : ∀ (x4 : Int) (s' : lf_Z), iv_A s'.1 s'.2.2 → lf_fq [14] 1000000 true s.1 s.2.2 s'.1 s'.2.2 → 0 ≤ x4 ∧ x4 ≤ 12 → (12 - x4).toNat < M3 → X3 x4 s') (hM3 : (12 - x4).toNat ≤ M3) (hI : iv_A s.1 s.2.2) (bx2 : 0 ≤ x2 ∧ x2 ≤ 11) (bx3 : 0 ≤ x3 ∧ x3 ≤ 11) (bx4 : 0 ≤ x4 ∧ x4 ≤ 11) (bx5 : 0 ≤ x5 ∧ x5 ≤ 132) (bx6 : 0 ≤ x6 ∧ x6 ≤ 12) : fm_22b_p22L X3 Q x2 x3 x4 x5 x6 s := by
  intro X22 hX
  have key : ∀ (m9 : Nat) (x6 : Int) (s' : lf_Z), iv_A s'.1 s'.2.2 → lf_fq [14] 1000000 true s.1 s.2.2 s'.1 s'.2.2 → 0 ≤ x6 ∧ x6 ≤ 12 → (12 - x6).toNat < m9 → X22 x6 s' := by
    intro m9
    induction m9 with
    | zero => intro x6 s' _ _ bx6 h9; exact absurd h9 (Nat.not_lt_zero _)
    | succ m9 ih => intro x6 s' i7 f7 bx6 h9; exact hX _ _ (sm_22b_p22 (fun t9 i9 f9 => hQ t9 i9 (lf_fq_tr f7 f9))  (fun p0 t9 i9 f9 => hX3 p0 t9 i9 (lf_fq_tr f7 f9)) hM3 (fun x6' t8 i8 f8 bx6' h8 => ih x6' t8 i8 (lf_fq_tr f7 f8) bx6' (by omega)) (Nat.le_refl _)  i7  bx2 bx3 bx4 bx5 bx6  )
  exact key _ _ s hI lf_fq_rf bx6 (Nat.lt_succ_self _)
theorem sm_22b_p3 {X3 : Int → lf_Z → Prop} {Q : lf_Z → Prop} {x2 : Int} {x3 : Int} {x4 : Int} {s : lf_Z} (hQ : ∀  (s' : lf_Z), iv_A s'.1 s'.2.2 → lf_fq [14] 1000000 true s.1 s.2.2 s'.1 s'.2.2 → Q  s') {M3 : Nat} (hX3 : ∀ (x4 : Int) (s' : lf_Z), iv_A s'.1 s'.2.2 → lf_fq [14] 1000000 true s.1 s.2.2 s'.1 s'.2.2 → 0 ≤ x4 ∧ x4 ≤ 12 → (12 - x4).toNat < M3 → X3 x4 s') (hM3 : (12 - x4).toNat ≤ M3) (hI : iv_A s.1 s.2.2) (bx2 : 0 ≤ x2 ∧ x2 ≤ 11) (bx3 : 0 ≤ x3 ∧ x3 ≤ 11) (bx4 : 0 ≤ x4 ∧ x4 ≤ 12) : fm_22b_p3 Q x2 x3 X3 x4 s := by
  unfold fm_22b_p3
  have b1 : 0 ≤ s.1 1 0 ∧ s.1 1 0 ≤ 12 := iv_r1_0 hI
  refine ⟨(show lf_R x4 from lf_Rof (by omega)), ?_⟩
  refine ⟨(show lf_R (s.1 1 0) from lf_Rof (by omega)), ?_⟩
  refine ⟨fun c2 => ?_, fun c2 => ?_⟩
  · skip
    replace c2 : s.1 1 0 ≤ x4 := c2
    exact hQ s hI (lf_fq_rf)
  · skip
    replace c2 : ¬ (s.1 1 0 ≤ x4) := c2
    exact sm_22b_p22L hQ hX3 (show (12 - x4).toNat ≤ M3 from by omega) hI (show (0 : Int) ≤ x2 ∧ x2 ≤ (11 : Int) from by omega) (show (0 : Int) ≤ x3 ∧ x3 ≤ (11 : Int) from by omega) (show (0 : Int) ≤ x4 ∧ x4 ≤ (11 : Int) from by omega) (show (0 : Int) ≤ x4 * 12 ∧ x4 * 12 ≤ (132 : Int) from by omega) (show (0 : Int) ≤ 0 ∧ 0 ≤ (12 : Int) from by omega)
theorem sm_22b_p3L {Q : lf_Z → Prop} {x2 : Int} {x3 : Int} {x4 : Int} {s : lf_Z} (hQ : ∀  (s' : lf_Z), iv_A s'.1 s'.2.2 → lf_fq [14] 1000000 true s.1 s.2.2 s'.1 s'.2.2 → Q  s') (hI : iv_A s.1 s.2.2) (bx2 : 0 ≤ x2 ∧ x2 ≤ 11) (bx3 : 0 ≤ x3 ∧ x3 ≤ 11) (bx4 : 0 ≤ x4 ∧ x4 ≤ 12) : fm_22b_p3L Q x2 x3 x4 s := by
  intro X3 hX
  have key : ∀ (m9 : Nat) (x4 : Int) (s' : lf_Z), iv_A s'.1 s'.2.2 → lf_fq [14] 1000000 true s.1 s.2.2 s'.1 s'.2.2 → 0 ≤ x4 ∧ x4 ≤ 12 → (12 - x4).toNat < m9 → X3 x4 s' := by
    intro m9
    induction m9 with
    | zero => intro x4 s' _ _ bx4 h9; exact absurd h9 (Nat.not_lt_zero _)
    | succ m9 ih => intro x4 s' i7 f7 bx4 h9; exact hX _ _ (sm_22b_p3 (fun t9 i9 f9 => hQ t9 i9 (lf_fq_tr f7 f9))   (fun x4' t8 i8 f8 bx4' h8 => ih x4' t8 i8 (lf_fq_tr f7 f8) bx4' (by omega)) (Nat.le_refl _)  i7  bx2 bx3 bx4  )
  exact key _ _ s hI lf_fq_rf bx4 (Nat.lt_succ_self _)
theorem sm_22b {a2 : Int} {a3 : Int} {Q : lf_Z → Prop} {s : lf_Z} (hI : iv_A s.1 s.2.2) (ba2 : 0 ≤ a2 ∧ a2 ≤ 11) (ba3 : 0 ≤ a3 ∧ a3 ≤ 11) (hQ : ∀  (s' : lf_Z), iv_A s'.1 s'.2.2 → lf_fq [14] 1000000 true s.1 s.2.2 s'.1 s'.2.2 → Q  s') : fm_22b a2 a3 Q s := by
  unfold fm_22b
  exact sm_22b_p3L hQ hI (show (0 : Int) ≤ a2 ∧ a2 ≤ (11 : Int) from by omega) (show (0 : Int) ≤ a3 ∧ a3 ≤ (11 : Int) from by omega) (show (0 : Int) ≤ 0 ∧ 0 ≤ (12 : Int) from by omega)
-- fm_148 Land.measureGates 1
theorem sm_148_p46 {X9 : Int → lf_Z → Prop} {Q : lf_Z → Prop} {x1 : Int} {s : lf_Z} (hQ : ∀  (s' : lf_Z), iv_A s'.1 s'.2.2 → lf_fq [14] 1000000 true s.1 s.2.2 s'.1 s'.2.2 → Q  s') {M9 : Nat} (hX9 : ∀ (x1 : Int) (s' : lf_Z), iv_A s'.1 s'.2.2 → lf_fq [14] 1000000 true s.1 s.2.2 s'.1 s'.2.2 → 0 ≤ x1 ∧ x1 ≤ 16 → (16 - x1).toNat < M9 → X9 x1 s') (hM9 : (16 - x1).toNat ≤ M9) (hI : iv_A s.1 s.2.2) (bx1 : 0 ≤ x1 ∧ x1 ≤ 15) : fm_148_p46 X9 Q x1 s := by
  unfold fm_148_p46
  exact hX9 (x1 + 1) s hI (lf_fq_rf) (show (0 : Int) ≤ x1 + 1 ∧ x1 + 1 ≤ (16 : Int) from by omega) (show (16 - (x1 + 1)).toNat < M9 from by omega)
theorem sm_148_p9 {X9 : Int → lf_Z → Prop} {Q : lf_Z → Prop} {x1 : Int} {s : lf_Z} (hQ : ∀  (s' : lf_Z), iv_A s'.1 s'.2.2 → lf_fq [14] 1000000 true s.1 s.2.2 s'.1 s'.2.2 → Q  s') {M9 : Nat} (hX9 : ∀ (x1 : Int) (s' : lf_Z), iv_A s'.1 s'.2.2 → lf_fq [14] 1000000 true s.1 s.2.2 s'.1 s'.2.2 → 0 ≤ x1 ∧ x1 ≤ 16 → (16 - x1).toNat < M9 → X9 x1 s') (hM9 : (16 - x1).toNat ≤ M9) (hI : iv_A s.1 s.2.2) (bx1 : 0 ≤ x1 ∧ x1 ≤ 16) : fm_148_p9 Q X9 x1 s := by
  unfold fm_148_p9
  have b5 : 0 ≤ s.1 1 1 ∧ s.1 1 1 ≤ 16 := iv_r1_1 hI
  refine ⟨(show lf_R x1 from lf_Rof (by omega)), ?_⟩
  refine ⟨(show lf_R (s.1 1 1) from lf_Rof (by omega)), ?_⟩
  refine ⟨fun c6 => ?_, fun c6 => ?_⟩
  · skip
    replace c6 : s.1 1 1 ≤ x1 := c6
    exact hQ s hI (lf_fq_rf)
  · skip
    replace c6 : ¬ (s.1 1 1 ≤ x1) := c6
    refine ⟨(show (0 : Int) ≤ x1 ∧ x1 < (16 : Int) from by omega), ?_⟩
    have b7 : 0 ≤ s.1 6 x1 ∧ s.1 6 x1 ≤ 1 := iv_r6 hI _
    refine ⟨(show lf_R (s.1 6 x1) from lf_Rof (by omega)), ?_⟩
    refine ⟨fun c8 => ?_, fun c8 => ?_⟩
    · skip
      replace c8 : s.1 6 x1 ≠ 0 := c8
      exact sm_148_p46 hQ hX9 (show (16 - x1).toNat ≤ M9 from by omega) hI (show (0 : Int) ≤ x1 ∧ x1 ≤ (15 : Int) from by omega)
    · skip
      replace c8 : ¬ (s.1 6 x1 ≠ 0) := c8
      have b9 : 0 ≤ s.1 4 x1 ∧ s.1 4 x1 ≤ 11 := iv_r4 hI _
      have b10 : 0 ≤ s.1 5 x1 ∧ s.1 5 x1 ≤ 11 := iv_r5 hI _
      refine sm_22b hI (show (0 : Int) ≤ s.1 4 x1 ∧ s.1 4 x1 ≤ (11 : Int) from by omega) (show (0 : Int) ≤ s.1 5 x1 ∧ s.1 5 x1 ≤ (11 : Int) from by omega) (fun s26 hI12 fr11 => ?_)
      have fr14 : lf_fq [14] 1000000 true s.1 s.2.2 s26.1 s26.2.2 := lf_fq_tr (lf_fq_rf) (lf_fq_wk fr11 rfl (by decide) (by decide))
      exact sm_148_p46 (fun t9 i9 f9 => hQ t9 i9 (lf_fq_tr fr14 f9)) (fun p0 t9 i9 f9 => hX9 p0 t9 i9 (lf_fq_tr fr14 f9)) (show (16 - x1).toNat ≤ M9 from by omega) hI12 (show (0 : Int) ≤ x1 ∧ x1 ≤ (15 : Int) from by omega)
theorem sm_148_p9L {Q : lf_Z → Prop} {x1 : Int} {s : lf_Z} (hQ : ∀  (s' : lf_Z), iv_A s'.1 s'.2.2 → lf_fq [14] 1000000 true s.1 s.2.2 s'.1 s'.2.2 → Q  s') (hI : iv_A s.1 s.2.2) (bx1 : 0 ≤ x1 ∧ x1 ≤ 16) : fm_148_p9L Q x1 s := by
  intro X9 hX
  have key : ∀ (m9 : Nat) (x1 : Int) (s' : lf_Z), iv_A s'.1 s'.2.2 → lf_fq [14] 1000000 true s.1 s.2.2 s'.1 s'.2.2 → 0 ≤ x1 ∧ x1 ≤ 16 → (16 - x1).toNat < m9 → X9 x1 s' := by
    intro m9
    induction m9 with
    | zero => intro x1 s' _ _ bx1 h9; exact absurd h9 (Nat.not_lt_zero _)
    | succ m9 ih => intro x1 s' i7 f7 bx1 h9; exact hX _ _ (sm_148_p9 (fun t9 i9 f9 => hQ t9 i9 (lf_fq_tr f7 f9))   (fun x1' t8 i8 f8 bx1' h8 => ih x1' t8 i8 (lf_fq_tr f7 f8) bx1' (by omega)) (Nat.le_refl _)  i7  bx1  )
  exact key _ _ s hI lf_fq_rf bx1 (Nat.lt_succ_self _)
theorem sm_148 {Q : lf_Z → Prop} {s : lf_Z} (hI : iv_A s.1 s.2.2) (hQ : ∀  (s' : lf_Z), iv_A s'.1 s'.2.2 → lf_fq [14] 1000000 true s.1 s.2.2 s'.1 s'.2.2 → Q  s') : fm_148 Q s := by
  unfold fm_148
  refine sm_2 hI (fun s21 hI2 fr1 => ?_)
  have fr4 : lf_fq [14] 1000000 true s.1 s.2.2 s21.1 s21.2.2 := lf_fq_tr (lf_fq_rf) (lf_fq_wk fr1 rfl (by decide) (by decide))
  exact sm_148_p9L (fun t9 i9 f9 => hQ t9 i9 (lf_fq_tr fr4 f9)) hI2 (show (0 : Int) ≤ 0 ∧ 0 ≤ (16 : Int) from by omega)
-- fm_149 Land.outsideOf 1 i
theorem sm_149_p51 {Q : Int → lf_Z → Prop} {x1 : Int} {x2 : Int} {y0 : Int} {s : lf_Z} (hQ : ∀ (r : Int), ((-1) ≤ r ∧ r ≤ 11) → Q r s) (hI : iv_A s.1 s.2.2) (bx1 : 0 ≤ x1 ∧ x1 ≤ 15) (bx2 : 0 ≤ x2 ∧ x2 ≤ 1) (by0 : 0 ≤ y0 ∧ y0 ≤ 1) : fm_149_p51 Q x1 x2 y0 s := by
  unfold fm_149_p51
  refine ⟨(show lf_R x2 from lf_Rof (by omega)), ?_⟩
  refine ⟨(show lf_R y0 from lf_Rof (by omega)), ?_⟩
  refine ⟨fun c11 => ?_, fun c11 => ?_⟩
  · skip
    replace c11 : x2 ≠ y0 := c11
    refine ⟨fun c12 => ?_, fun c12 => ?_⟩
    · skip
      replace c12 : x2 = 0 := c12
      refine ⟨(show (0 : Int) ≤ x1 ∧ x1 < (16 : Int) from by omega), ?_⟩
      have b13 : 0 ≤ s.1 4 x1 ∧ s.1 4 x1 ≤ 11 := iv_r4 hI _
      exact hQ (s.1 4 x1) (show (-1 : Int) ≤ s.1 4 x1 ∧ s.1 4 x1 ≤ (11 : Int) from by omega)
    · skip
      replace c12 : ¬ (x2 = 0) := c12
      refine ⟨(show (0 : Int) ≤ x1 ∧ x1 < (16 : Int) from by omega), ?_⟩
      have b14 : 0 ≤ s.1 5 x1 ∧ s.1 5 x1 ≤ 11 := iv_r5 hI _
      exact hQ (s.1 5 x1) (show (-1 : Int) ≤ s.1 5 x1 ∧ s.1 5 x1 ≤ (11 : Int) from by omega)
  · skip
    replace c11 : ¬ (x2 ≠ y0) := c11
    exact hQ (-1) (show (-1 : Int) ≤ (-1) ∧ (-1) ≤ (11 : Int) from by omega)
theorem sm_149_p30 {Q : Int → lf_Z → Prop} {x1 : Int} {y0 : Int} {s : lf_Z} (hQ : ∀ (r : Int), ((-1) ≤ r ∧ r ≤ 11) → Q r s) (hI : iv_A s.1 s.2.2) (bx1 : 0 ≤ x1 ∧ x1 ≤ 15) (by0 : 0 ≤ y0 ∧ y0 ≤ 1) : fm_149_p30 Q x1 y0 s := by
  unfold fm_149_p30
  refine ⟨(show (0 : Int) ≤ x1 ∧ x1 < (16 : Int) from by omega), ?_⟩
  have b8 : 0 ≤ s.1 5 x1 ∧ s.1 5 x1 ≤ 11 := iv_r5 hI _
  refine ⟨(show (0 : Int) ≤ s.1 5 x1 ∧ s.1 5 x1 < (12 : Int) from by omega), ?_⟩
  have b9 : 0 ≤ s.1 2 (s.1 5 x1) ∧ s.1 2 (s.1 5 x1) ≤ 3 := iv_r2 hI _
  refine ⟨(show lf_R (s.1 2 (s.1 5 x1)) from lf_Rof (by omega)), ?_⟩
  refine ⟨fun c10 => ?_, fun c10 => ?_⟩
  · skip
    replace c10 : s.1 2 (s.1 5 x1) ≠ 3 := c10
    exact sm_149_p51 hQ hI (show (0 : Int) ≤ x1 ∧ x1 ≤ (15 : Int) from by omega) (show (0 : Int) ≤ y0 ∧ y0 ≤ (1 : Int) from by omega) (show (0 : Int) ≤ 0 ∧ 0 ≤ (1 : Int) from by omega)
  · skip
    replace c10 : ¬ (s.1 2 (s.1 5 x1) ≠ 3) := c10
    exact sm_149_p51 hQ hI (show (0 : Int) ≤ x1 ∧ x1 ≤ (15 : Int) from by omega) (show (0 : Int) ≤ y0 ∧ y0 ≤ (1 : Int) from by omega) (show (0 : Int) ≤ 1 ∧ 1 ≤ (1 : Int) from by omega)
theorem sm_149 {a1 : Int} {Q : Int → lf_Z → Prop} {s : lf_Z} (hI : iv_A s.1 s.2.2) (ba1 : 0 ≤ a1 ∧ a1 ≤ 15) (hQ : ∀ (r : Int), ((-1) ≤ r ∧ r ≤ 11) → Q r s) : fm_149 a1 Q s := by
  unfold fm_149
  refine sm_89 hI (show (-2147483648 : Int) ≤ a1 ∧ a1 ≤ (2147483647 : Int) from by omega) (fun z22 q1 => ?_)
  have b2 : 0 ≤ s.1 1 1 ∧ s.1 1 1 ≤ 16 := iv_r1_1 hI
  have b3 : 0 ≤ s.1 6 a1 ∧ s.1 6 a1 ≤ 1 := iv_r6 hI _
  refine ⟨fun c4 => ?_, fun c4 => ?_⟩
  · skip
    have dc4 := q1.1 c4
    refine ⟨(show (0 : Int) ≤ a1 ∧ a1 < (16 : Int) from by omega), ?_⟩
    have b5 : 0 ≤ s.1 4 a1 ∧ s.1 4 a1 ≤ 11 := iv_r4 hI _
    refine ⟨(show (0 : Int) ≤ s.1 4 a1 ∧ s.1 4 a1 < (12 : Int) from by omega), ?_⟩
    have b6 : 0 ≤ s.1 2 (s.1 4 a1) ∧ s.1 2 (s.1 4 a1) ≤ 3 := iv_r2 hI _
    refine ⟨(show lf_R (s.1 2 (s.1 4 a1)) from lf_Rof (by omega)), ?_⟩
    refine ⟨fun c7 => ?_, fun c7 => ?_⟩
    · skip
      replace c7 : s.1 2 (s.1 4 a1) ≠ 3 := c7
      exact sm_149_p30 hQ hI (show (0 : Int) ≤ a1 ∧ a1 ≤ (15 : Int) from by omega) (show (0 : Int) ≤ 0 ∧ 0 ≤ (1 : Int) from by omega)
    · skip
      replace c7 : ¬ (s.1 2 (s.1 4 a1) ≠ 3) := c7
      exact sm_149_p30 hQ hI (show (0 : Int) ≤ a1 ∧ a1 ≤ (15 : Int) from by omega) (show (0 : Int) ≤ 1 ∧ 1 ≤ (1 : Int) from by omega)
  · skip
    have dc4 := q1.2 c4
    exact hQ (-1) (show (-1 : Int) ≤ (-1) ∧ (-1) ≤ (11 : Int) from by omega)
-- fm_151 Land.distanceByGates 1 i i
theorem sm_151 {a1 : Int} {a2 : Int} {Q : Int → lf_Z → Prop} {s : lf_Z} (hI : iv_A s.1 s.2.2) (ba1 : 0 ≤ a1 ∧ a1 ≤ 11) (ba2 : (-2147483648) ≤ a2 ∧ a2 ≤ 2147483647) (hQ : ∀ (r : Int), ((0 ≤ r ∧ r ≤ 1000) ∧ (1000 ≤ r ∨ (0 ≤ a1 ∧ a1 < s.1 1 0 ∧ 0 ≤ a2 ∧ a2 < s.1 1 0))) → Q r s) : fm_151 a1 a2 Q s := by
  unfold fm_151
  refine sm_18 hI (show (-2147483648 : Int) ≤ a1 ∧ a1 ≤ (2147483647 : Int) from by omega) (fun z22 q1 => ?_)
  have b2 : 0 ≤ s.1 1 0 ∧ s.1 1 0 ≤ 12 := iv_r1_0 hI
  refine ⟨fun c3 => ?_, fun c3 => ?_⟩
  · skip
    have dc3 := q1.2 c3
    exact hQ 1000 ⟨(show (0 : Int) ≤ 1000 ∧ 1000 ≤ (1000 : Int) from by omega), (show 1000 ≤ 1000 ∨ (0 ≤ a1 ∧ a1 < s.1 1 0 ∧ 0 ≤ a2 ∧ a2 < s.1 1 0) from by omega)⟩
  · skip
    have dc3 := q1.1 c3
    refine sm_18 hI (show (-2147483648 : Int) ≤ a2 ∧ a2 ≤ (2147483647 : Int) from by omega) (fun z24 q4 => ?_)
    refine ⟨fun c5 => ?_, fun c5 => ?_⟩
    · skip
      have dc5 := q4.2 c5
      exact hQ 1000 ⟨(show (0 : Int) ≤ 1000 ∧ 1000 ≤ (1000 : Int) from by omega), (show 1000 ≤ 1000 ∨ (0 ≤ a1 ∧ a1 < s.1 1 0 ∧ 0 ≤ a2 ∧ a2 < s.1 1 0) from by omega)⟩
    · skip
      have dc5 := q4.1 c5
      refine ⟨(show (0 : Int) ≤ (a1 * 12) + a2 ∧ (a1 * 12) + a2 < (144 : Int) from by omega), ?_⟩
      have b6 : 0 ≤ s.1 14 ((a1 * 12) + a2) ∧ s.1 14 ((a1 * 12) + a2) ≤ 1000 := iv_r14 hI _
      exact hQ (s.1 14 ((a1 * 12) + a2)) ⟨(show (0 : Int) ≤ s.1 14 ((a1 * 12) + a2) ∧ s.1 14 ((a1 * 12) + a2) ≤ (1000 : Int) from by omega), (show 1000 ≤ s.1 14 ((a1 * 12) + a2) ∨ (0 ≤ a1 ∧ a1 < s.1 1 0 ∧ 0 ≤ a2 ∧ a2 < s.1 1 0) from by omega)⟩
-- fm_150 Notes.couldAllBeFrom 25 i 1
theorem sm_150_p2 {X2 : Int → lf_Z → Prop} {Q : Bool → lf_Z → Prop} {x1 : Int} {x3 : Int} {s : lf_Z} (hQ : ∀ (z : Bool), Q z s) {M2 : Nat} (hX2 : ∀ (x3 : Int), 0 ≤ x3 ∧ x3 ≤ 6 → (6 - x3).toNat < M2 → X2 x3 s) (hM2 : (6 - x3).toNat ≤ M2) (hI : iv_A s.1 s.2.2) (bx1 : 0 ≤ x1 ∧ x1 ≤ 11) (bx3 : 0 ≤ x3 ∧ x3 ≤ 6) : fm_150_p2 Q x1 X2 x3 s := by
  unfold fm_150_p2
  have b1 : 0 ≤ s.1 25 2 ∧ s.1 25 2 ≤ 6 := iv_r25_2 hI
  refine ⟨(show lf_R x3 from lf_Rof (by omega)), ?_⟩
  refine ⟨(show lf_R (s.1 25 2) from lf_Rof (by omega)), ?_⟩
  refine ⟨fun c2 => ?_, fun c2 => ?_⟩
  · skip
    replace c2 : s.1 25 2 ≤ x3 := c2
    exact hQ true
  · skip
    replace c2 : ¬ (s.1 25 2 ≤ x3) := c2
    refine ⟨(show (0 : Int) ≤ x3 ∧ x3 < (6 : Int) from by omega), ?_⟩
    have b3 : (-2147483648) ≤ s.1 26 x3 ∧ s.1 26 x3 ≤ 2147483647 := iv_full hI
    refine sm_151 hI (show (0 : Int) ≤ x1 ∧ x1 ≤ (11 : Int) from by omega) (show (-2147483648 : Int) ≤ s.1 26 x3 ∧ s.1 26 x3 ≤ (2147483647 : Int) from by omega) (fun r25 q4 => ?_)
    obtain ⟨q4, q4x⟩ := q4
    have b5 : 0 ≤ s.1 1 0 ∧ s.1 1 0 ≤ 12 := iv_r1_0 hI
    replace q4x : 1000 ≤ r25 ∨ (0 ≤ x1 ∧ x1 < s.1 1 0 ∧ 0 ≤ (s.1 26 x3) ∧ (s.1 26 x3) < s.1 1 0) := q4x
    have b6 : (-2147483648) ≤ s.1 27 x3 ∧ s.1 27 x3 ≤ 2147483647 := iv_full hI
    refine ⟨(show lf_R r25 from lf_Rof (by omega)), ?_⟩
    refine ⟨(show lf_R (s.1 27 x3) from lf_Rof (by omega)), ?_⟩
    refine ⟨fun c7 => ?_, fun c7 => ?_⟩
    · skip
      replace c7 : r25 ≤ s.1 27 x3 := c7
      exact hX2 (x3 + 1) (show (0 : Int) ≤ x3 + 1 ∧ x3 + 1 ≤ (6 : Int) from by omega) (show (6 - (x3 + 1)).toNat < M2 from by omega)
    · skip
      replace c7 : ¬ (r25 ≤ s.1 27 x3) := c7
      exact hQ false
theorem sm_150_p2L {Q : Bool → lf_Z → Prop} {x1 : Int} {x3 : Int} {s : lf_Z} (hQ : ∀ (z : Bool), Q z s) (hI : iv_A s.1 s.2.2) (bx1 : 0 ≤ x1 ∧ x1 ≤ 11) (bx3 : 0 ≤ x3 ∧ x3 ≤ 6) : fm_150_p2L Q x1 x3 s := by
  intro X2 hX
  have key : ∀ (m9 : Nat) (x3 : Int), 0 ≤ x3 ∧ x3 ≤ 6 → (6 - x3).toNat < m9 → X2 x3 s := by
    intro m9
    induction m9 with
    | zero => intro x3 bx3 h9; exact absurd h9 (Nat.not_lt_zero _)
    | succ m9 ih => intro x3 bx3 h9; exact hX _ _ (sm_150_p2 hQ   (fun x3' bx3' h8 => ih x3' bx3' (by omega)) (Nat.le_refl _)  hI  bx1 bx3  )
  exact key _ _ bx3   (Nat.lt_succ_self _)
theorem sm_150 {a1 : Int} {Q : Bool → lf_Z → Prop} {s : lf_Z} (hI : iv_A s.1 s.2.2) (ba1 : 0 ≤ a1 ∧ a1 ≤ 11) (hQ : ∀ (z : Bool), Q z s) : fm_150 a1 Q s := by
  unfold fm_150
  exact sm_150_p2L hQ hI (show (0 : Int) ≤ a1 ∧ a1 ≤ (11 : Int) from by omega) (show (0 : Int) ≤ 0 ∧ 0 ≤ (6 : Int) from by omega)
-- fm_147 ElevenBullocks.which 0
theorem sm_147_p57 {X11 : Int → Int → lf_Z → Prop} {Q : Int → lf_Z → Prop} {x1 : Int} {x2 : Int} {s : lf_Z} (hQ : ∀ (r : Int) (s' : lf_Z), iv_A s'.1 s'.2.2 → lf_fq [14] 1000000 true s.1 s.2.2 s'.1 s'.2.2 → ((-2147483648) ≤ r ∧ r ≤ 2147483647) → Q r s') {M11 : Nat} (hX11 : ∀ (x1 : Int) (x2 : Int) (s' : lf_Z), iv_A s'.1 s'.2.2 → lf_fq [14] 1000000 true s.1 s.2.2 s'.1 s'.2.2 → (-2147483648) ≤ x1 ∧ x1 ≤ 2147483647 → 0 ≤ x2 ∧ x2 ≤ 16 → (16 - x2).toNat < M11 → X11 x1 x2 s') (hM11 : (16 - x2).toNat ≤ M11) (hI : iv_A s.1 s.2.2) (bx1 : (-2147483648) ≤ x1 ∧ x1 ≤ 2147483647) (bx2 : 0 ≤ x2 ∧ x2 ≤ 15) : fm_147_p57 X11 Q x1 x2 s := by
  unfold fm_147_p57
  exact hX11 (x1) (x2 + 1) s hI (lf_fq_rf) (show (-2147483648 : Int) ≤ x1 ∧ x1 ≤ (2147483647 : Int) from by omega) (show (0 : Int) ≤ x2 + 1 ∧ x2 + 1 ≤ (16 : Int) from by omega) (show (16 - (x2 + 1)).toNat < M11 from by omega)
theorem sm_147_p11 {X11 : Int → Int → lf_Z → Prop} {Q : Int → lf_Z → Prop} {x1 : Int} {x2 : Int} {s : lf_Z} (hQ : ∀ (r : Int) (s' : lf_Z), iv_A s'.1 s'.2.2 → lf_fq [14] 1000000 true s.1 s.2.2 s'.1 s'.2.2 → ((-2147483648) ≤ r ∧ r ≤ 2147483647) → Q r s') {M11 : Nat} (hX11 : ∀ (x1 : Int) (x2 : Int) (s' : lf_Z), iv_A s'.1 s'.2.2 → lf_fq [14] 1000000 true s.1 s.2.2 s'.1 s'.2.2 → (-2147483648) ≤ x1 ∧ x1 ≤ 2147483647 → 0 ≤ x2 ∧ x2 ≤ 16 → (16 - x2).toNat < M11 → X11 x1 x2 s') (hM11 : (16 - x2).toNat ≤ M11) (hI : iv_A s.1 s.2.2) (bx1 : (-2147483648) ≤ x1 ∧ x1 ≤ 2147483647) (bx2 : 0 ≤ x2 ∧ x2 ≤ 16) : fm_147_p11 Q X11 x1 x2 s := by
  unfold fm_147_p11
  have b5 : 0 ≤ s.1 1 1 ∧ s.1 1 1 ≤ 16 := iv_r1_1 hI
  refine ⟨(show lf_R x2 from lf_Rof (by omega)), ?_⟩
  refine ⟨(show lf_R (s.1 1 1) from lf_Rof (by omega)), ?_⟩
  refine ⟨fun c6 => ?_, fun c6 => ?_⟩
  · skip
    replace c6 : s.1 1 1 ≤ x2 := c6
    exact hQ x1 s hI (lf_fq_rf) (show (-2147483648 : Int) ≤ x1 ∧ x1 ≤ (2147483647 : Int) from by omega)
  · skip
    replace c6 : ¬ (s.1 1 1 ≤ x2) := c6
    refine sm_149 hI (show (0 : Int) ≤ x2 ∧ x2 ≤ (15 : Int) from by omega) (fun r25 q7 => ?_)
    refine ⟨(show lf_R r25 from lf_Rof (by omega)), ?_⟩
    refine ⟨fun c8 => ?_, fun c8 => ?_⟩
    · skip
      replace c8 : r25 = (-1) := c8
      exact sm_147_p57 hQ hX11 (show (16 - x2).toNat ≤ M11 from by omega) hI (show (-2147483648 : Int) ≤ x1 ∧ x1 ≤ (2147483647 : Int) from by omega) (show (0 : Int) ≤ x2 ∧ x2 ≤ (15 : Int) from by omega)
    · skip
      replace c8 : ¬ (r25 = (-1)) := c8
      refine sm_150 hI (show (0 : Int) ≤ r25 ∧ r25 ≤ (11 : Int) from by omega) (fun z28 => ?_)
      refine ⟨fun c10 => ?_, fun c10 => ?_⟩
      · skip
        exact sm_147_p57 hQ hX11 (show (16 - x2).toNat ≤ M11 from by omega) hI (show (-2147483648 : Int) ≤ x1 ∧ x1 ≤ (2147483647 : Int) from by omega) (show (0 : Int) ≤ x2 ∧ x2 ≤ (15 : Int) from by omega)
      · skip
        have b11 : 1 ≤ lf_shl 1 x2 ∧ lf_shl 1 x2 ≤ 32768 := lf_shl1 (m := 15) (by omega) (by omega) (by decide)
        have b12 : (-2147483648) ≤ lf_or x1 (lf_shl 1 x2) ∧ lf_or x1 (lf_shl 1 x2) ≤ 2147483647 := lf_orB
        exact sm_147_p57 hQ hX11 (show (16 - x2).toNat ≤ M11 from by omega) hI (show (-2147483648 : Int) ≤ lf_or x1 (lf_shl 1 x2) ∧ lf_or x1 (lf_shl 1 x2) ≤ (2147483647 : Int) from by omega) (show (0 : Int) ≤ x2 ∧ x2 ≤ (15 : Int) from by omega)
theorem sm_147_p11L {Q : Int → lf_Z → Prop} {x1 : Int} {x2 : Int} {s : lf_Z} (hQ : ∀ (r : Int) (s' : lf_Z), iv_A s'.1 s'.2.2 → lf_fq [14] 1000000 true s.1 s.2.2 s'.1 s'.2.2 → ((-2147483648) ≤ r ∧ r ≤ 2147483647) → Q r s') (hI : iv_A s.1 s.2.2) (bx1 : (-2147483648) ≤ x1 ∧ x1 ≤ 2147483647) (bx2 : 0 ≤ x2 ∧ x2 ≤ 16) : fm_147_p11L Q x1 x2 s := by
  intro X11 hX
  have key : ∀ (m9 : Nat) (x1 : Int) (x2 : Int) (s' : lf_Z), iv_A s'.1 s'.2.2 → lf_fq [14] 1000000 true s.1 s.2.2 s'.1 s'.2.2 → (-2147483648) ≤ x1 ∧ x1 ≤ 2147483647 → 0 ≤ x2 ∧ x2 ≤ 16 → (16 - x2).toNat < m9 → X11 x1 x2 s' := by
    intro m9
    induction m9 with
    | zero => intro x1 x2 s' _ _ bx1 bx2 h9; exact absurd h9 (Nat.not_lt_zero _)
    | succ m9 ih => intro x1 x2 s' i7 f7 bx1 bx2 h9; exact hX _ _ _ (sm_147_p11 (fun r9 t9 i9 f9 => hQ r9 t9 i9 (lf_fq_tr f7 f9))   (fun x1' x2' t8 i8 f8 bx1' bx2' h8 => ih x1' x2' t8 i8 (lf_fq_tr f7 f8) bx1' bx2' (by omega)) (Nat.le_refl _)  i7  bx1 bx2  )
  exact key _ _ _ s hI lf_fq_rf bx1 bx2 (Nat.lt_succ_self _)
theorem sm_147 {Q : Int → lf_Z → Prop} {s : lf_Z} (hI : iv_A s.1 s.2.2) (hQ : ∀ (r : Int) (s' : lf_Z), iv_A s'.1 s'.2.2 → lf_fq [14] 1000000 true s.1 s.2.2 s'.1 s'.2.2 → ((-2147483648) ≤ r ∧ r ≤ 2147483647) → Q r s') : fm_147 Q s := by
  unfold fm_147
  refine sm_148 hI (fun s21 hI2 fr1 => ?_)
  have fr4 : lf_fq [14] 1000000 true s.1 s.2.2 s21.1 s21.2.2 := lf_fq_tr (lf_fq_rf) (lf_fq_wk fr1 rfl (by decide) (by decide))
  exact sm_147_p11L (fun r9 t9 i9 f9 => hQ r9 t9 i9 (lf_fq_tr fr4 f9)) hI2 (show (-2147483648 : Int) ≤ 0 ∧ 0 ≤ (2147483647 : Int) from by omega) (show (0 : Int) ≤ 0 ∧ 0 ≤ (16 : Int) from by omega)
-- fm_307 Model.isFrom 95 i
theorem sm_307_p8 {X8 : Int → lf_Z → Prop} {Q : Bool → lf_Z → Prop} {x2 : Int} {s : lf_Z} (hQ : ∀ (z : Bool) (s' : lf_Z), iv_A s'.1 s'.2.2 → lf_fq [108] 1000000 true s.1 s.2.2 s'.1 s'.2.2 → Q z s') {M8 : Nat} (hX8 : ∀ (x2 : Int) (s' : lf_Z), iv_A s'.1 s'.2.2 → lf_fq [108] 1000000 true s.1 s.2.2 s'.1 s'.2.2 → 0 ≤ x2 ∧ x2 ≤ 6 → (6 - x2).toNat < M8 → X8 x2 s') (hM8 : (6 - x2).toNat ≤ M8) (hI : iv_A s.1 s.2.2) (bx2 : 0 ≤ x2 ∧ x2 ≤ 6) : fm_307_p8 Q X8 x2 s := by
  unfold fm_307_p8
  have b6 : 0 ≤ s.1 96 10 ∧ s.1 96 10 ≤ 6 := iv_rd96 hI (iv_f2f8ad25f (by omega))
  refine ⟨(show lf_R x2 from lf_Rof (by omega)), ?_⟩
  refine ⟨(show lf_R (s.1 96 10) from lf_Rof (by omega)), ?_⟩
  refine ⟨fun c7 => ?_, fun c7 => ?_⟩
  · skip
    replace c7 : s.1 96 10 ≤ x2 := c7
    exact hQ true s hI (lf_fq_rf)
  · skip
    replace c7 : ¬ (s.1 96 10 ≤ x2) := c7
    refine ⟨(show (0 : Int) ≤ 162 + (2 * x2) ∧ 162 + (2 * x2) < (1538 : Int) from by omega), ?_⟩
    have b8 : 0 ≤ s.1 96 (162 + (2 * x2)) ∧ s.1 96 (162 + (2 * x2)) ≤ 11 := iv_rd96 hI (iv_f0460dfb4 (x2) (by omega) (by omega))
    refine ⟨(show (0 : Int) ≤ s.1 96 (162 + (2 * x2)) ∧ s.1 96 (162 + (2 * x2)) < (12 : Int) from by omega), ?_⟩
    have b9 : 0 ≤ s.1 108 (s.1 96 (162 + (2 * x2))) ∧ s.1 108 (s.1 96 (162 + (2 * x2))) ≤ 1000 := iv_r108 hI _
    refine ⟨(show (0 : Int) ≤ (162 + (2 * x2)) + 1 ∧ (162 + (2 * x2)) + 1 < (1538 : Int) from by omega), ?_⟩
    have b10 : (-2147483648) ≤ s.1 96 ((162 + (2 * x2)) + 1) ∧ s.1 96 ((162 + (2 * x2)) + 1) ≤ 2147483647 := iv_full hI
    refine ⟨(show lf_R (s.1 108 (s.1 96 (162 + (2 * x2)))) from lf_Rof (by omega)), ?_⟩
    refine ⟨(show lf_R (s.1 96 ((162 + (2 * x2)) + 1)) from lf_Rof (by omega)), ?_⟩
    refine ⟨fun c11 => ?_, fun c11 => ?_⟩
    · skip
      replace c11 : s.1 108 (s.1 96 (162 + (2 * x2))) ≤ s.1 96 ((162 + (2 * x2)) + 1) := c11
      exact hX8 (x2 + 1) s hI (lf_fq_rf) (show (0 : Int) ≤ x2 + 1 ∧ x2 + 1 ≤ (6 : Int) from by omega) (show (6 - (x2 + 1)).toNat < M8 from by omega)
    · skip
      replace c11 : ¬ (s.1 108 (s.1 96 (162 + (2 * x2))) ≤ s.1 96 ((162 + (2 * x2)) + 1)) := c11
      exact hQ false s hI (lf_fq_rf)
theorem sm_307_p8L {Q : Bool → lf_Z → Prop} {x2 : Int} {s : lf_Z} (hQ : ∀ (z : Bool) (s' : lf_Z), iv_A s'.1 s'.2.2 → lf_fq [108] 1000000 true s.1 s.2.2 s'.1 s'.2.2 → Q z s') (hI : iv_A s.1 s.2.2) (bx2 : 0 ≤ x2 ∧ x2 ≤ 6) : fm_307_p8L Q x2 s := by
  intro X8 hX
  have key : ∀ (m9 : Nat) (x2 : Int) (s' : lf_Z), iv_A s'.1 s'.2.2 → lf_fq [108] 1000000 true s.1 s.2.2 s'.1 s'.2.2 → 0 ≤ x2 ∧ x2 ≤ 6 → (6 - x2).toNat < m9 → X8 x2 s' := by
    intro m9
    induction m9 with
    | zero => intro x2 s' _ _ bx2 h9; exact absurd h9 (Nat.not_lt_zero _)
    | succ m9 ih => intro x2 s' i7 f7 bx2 h9; exact hX _ _ (sm_307_p8 (fun r9 t9 i9 f9 => hQ r9 t9 i9 (lf_fq_tr f7 f9))   (fun x2' t8 i8 f8 bx2' h8 => ih x2' t8 i8 (lf_fq_tr f7 f8) bx2' (by omega)) (Nat.le_refl _)  i7  bx2  )
  exact key _ _ s hI lf_fq_rf bx2 (Nat.lt_succ_self _)
theorem sm_307 {a1 : Int} {Q : Bool → lf_Z → Prop} {s : lf_Z} (hI : iv_A s.1 s.2.2) (ba1 : 0 ≤ a1 ∧ a1 ≤ 11) (hQ : ∀ (z : Bool) (s' : lf_Z), iv_A s'.1 s'.2.2 → lf_fq [108] 1000000 true s.1 s.2.2 s'.1 s'.2.2 → Q z s') : fm_307 a1 Q s := by
  unfold fm_307
  refine sm_261 hI (show (-1 : Int) ≤ a1 ∧ a1 ≤ (11 : Int) from by omega) (show (0 : Int) ≤ 0 ∧ 0 ≤ (1 : Int) from by omega) (fun s21 hI2 fr1 ps4 => ?_)
  replace ps4 : (0 : Int) = 1 → bf_G (s21.1 96) (s21.1 108) (a1) := ps4
  have fr5 : lf_fq [108] 1000000 true s.1 s.2.2 s21.1 s21.2.2 := lf_fq_tr (lf_fq_rf) (lf_fq_wk fr1 rfl (by decide) (by decide))
  exact sm_307_p8L (fun r9 t9 i9 f9 => hQ r9 t9 i9 (lf_fq_tr fr5 f9)) hI2 (show (0 : Int) ≤ 0 ∧ 0 ≤ (6 : Int) from by omega)
-- fm_306 Model.which 95
theorem sm_306_p116 {X4 : Int → Int → lf_Z → Prop} {Q : Int → lf_Z → Prop} {x1 : Int} {x2 : Int} {s : lf_Z} (hQ : ∀ (r : Int) (s' : lf_Z), iv_A s'.1 s'.2.2 → lf_fq [108] 1000000 true s.1 s.2.2 s'.1 s'.2.2 → ((-2147483648) ≤ r ∧ r ≤ 2147483647) → Q r s') {M4 : Nat} (hX4 : ∀ (x1 : Int) (x2 : Int) (s' : lf_Z), iv_A s'.1 s'.2.2 → lf_fq [108] 1000000 true s.1 s.2.2 s'.1 s'.2.2 → (-2147483648) ≤ x1 ∧ x1 ≤ 2147483647 → 0 ≤ x2 ∧ x2 ≤ 16 → (16 - x2).toNat < M4 → X4 x1 x2 s') (hM4 : (16 - x2).toNat ≤ M4) (hI : iv_A s.1 s.2.2) (bx1 : (-2147483648) ≤ x1 ∧ x1 ≤ 2147483647) (bx2 : 0 ≤ x2 ∧ x2 ≤ 15) : fm_306_p116 X4 Q x1 x2 s := by
  unfold fm_306_p116
  exact hX4 (x1) (x2 + 1) s hI (lf_fq_rf) (show (-2147483648 : Int) ≤ x1 ∧ x1 ≤ (2147483647 : Int) from by omega) (show (0 : Int) ≤ x2 + 1 ∧ x2 + 1 ≤ (16 : Int) from by omega) (show (16 - (x2 + 1)).toNat < M4 from by omega)
theorem sm_306_p114 {X4 : Int → Int → lf_Z → Prop} {Q : Int → lf_Z → Prop} {x2 : Int} {y0 : Int} {y1 : Int} {s : lf_Z} (hQ : ∀ (r : Int) (s' : lf_Z), iv_A s'.1 s'.2.2 → lf_fq [108] 1000000 true s.1 s.2.2 s'.1 s'.2.2 → ((-2147483648) ≤ r ∧ r ≤ 2147483647) → Q r s') {M4 : Nat} (hX4 : ∀ (x1 : Int) (x2 : Int) (s' : lf_Z), iv_A s'.1 s'.2.2 → lf_fq [108] 1000000 true s.1 s.2.2 s'.1 s'.2.2 → (-2147483648) ≤ x1 ∧ x1 ≤ 2147483647 → 0 ≤ x2 ∧ x2 ≤ 16 → (16 - x2).toNat < M4 → X4 x1 x2 s') (hM4 : (16 - x2).toNat ≤ M4) (hI : iv_A s.1 s.2.2) (bx2 : 0 ≤ x2 ∧ x2 ≤ 15) (by0 : (-2147483648) ≤ y0 ∧ y0 ≤ 2147483647) (by1 : 0 ≤ y1 ∧ y1 ≤ 32768) : fm_306_p114 X4 Q x2 y0 y1 s := by
  unfold fm_306_p114
  have b20 : (-2147483648) ≤ lf_or y0 y1 ∧ lf_or y0 y1 ≤ 2147483647 := lf_orB
  exact sm_306_p116 hQ hX4 (show (16 - x2).toNat ≤ M4 from by omega) hI (show (-2147483648 : Int) ≤ lf_or y0 y1 ∧ lf_or y0 y1 ≤ (2147483647 : Int) from by omega) (show (0 : Int) ≤ x2 ∧ x2 ≤ (15 : Int) from by omega)
theorem sm_306_p101 {X4 : Int → Int → lf_Z → Prop} {Q : Int → lf_Z → Prop} {x2 : Int} {y0 : Int} {y2 : Int} {s : lf_Z} (hQ : ∀ (r : Int) (s' : lf_Z), iv_A s'.1 s'.2.2 → lf_fq [108] 1000000 true s.1 s.2.2 s'.1 s'.2.2 → ((-2147483648) ≤ r ∧ r ≤ 2147483647) → Q r s') {M4 : Nat} (hX4 : ∀ (x1 : Int) (x2 : Int) (s' : lf_Z), iv_A s'.1 s'.2.2 → lf_fq [108] 1000000 true s.1 s.2.2 s'.1 s'.2.2 → (-2147483648) ≤ x1 ∧ x1 ≤ 2147483647 → 0 ≤ x2 ∧ x2 ≤ 16 → (16 - x2).toNat < M4 → X4 x1 x2 s') (hM4 : (16 - x2).toNat ≤ M4) (hI : iv_A s.1 s.2.2) (bx2 : 0 ≤ x2 ∧ x2 ≤ 15) (by0 : (-2147483648) ≤ y0 ∧ y0 ≤ 2147483647) (by2 : 0 ≤ y2 ∧ y2 ≤ 11) : fm_306_p101 X4 Q x2 y0 y2 s := by
  unfold fm_306_p101
  refine sm_307 hI (show (0 : Int) ≤ y2 ∧ y2 ≤ (11 : Int) from by omega) (fun z39 s38 hI16 fr15 => ?_)
  have fr18 : lf_fq [108] 1000000 true s.1 s.2.2 s38.1 s38.2.2 := lf_fq_tr (lf_fq_rf) (lf_fq_wk fr15 rfl (by decide) (by decide))
  refine ⟨fun c19 => ?_, fun c19 => ?_⟩
  · skip
    exact sm_306_p114 (fun r9 t9 i9 f9 => hQ r9 t9 i9 (lf_fq_tr fr18 f9)) (fun p0 p1 t9 i9 f9 => hX4 p0 p1 t9 i9 (lf_fq_tr fr18 f9)) (show (16 - x2).toNat ≤ M4 from by omega) hI16 (show (0 : Int) ≤ x2 ∧ x2 ≤ (15 : Int) from by omega) (show (-2147483648 : Int) ≤ y0 ∧ y0 ≤ (2147483647 : Int) from by omega) (show (0 : Int) ≤ 0 ∧ 0 ≤ (32768 : Int) from by omega)
  · skip
    have b21 : 1 ≤ lf_shl 1 x2 ∧ lf_shl 1 x2 ≤ 32768 := lf_shl1 (m := 15) (by omega) (by omega) (by decide)
    exact sm_306_p114 (fun r9 t9 i9 f9 => hQ r9 t9 i9 (lf_fq_tr fr18 f9)) (fun p0 p1 t9 i9 f9 => hX4 p0 p1 t9 i9 (lf_fq_tr fr18 f9)) (show (16 - x2).toNat ≤ M4 from by omega) hI16 (show (0 : Int) ≤ x2 ∧ x2 ≤ (15 : Int) from by omega) (show (-2147483648 : Int) ≤ y0 ∧ y0 ≤ (2147483647 : Int) from by omega) (show (0 : Int) ≤ lf_shl 1 x2 ∧ lf_shl 1 x2 ≤ (32768 : Int) from by omega)
theorem sm_306_p78 {X4 : Int → Int → lf_Z → Prop} {Q : Int → lf_Z → Prop} {x1 : Int} {x2 : Int} {x3 : Int} {x4 : Int} {y0 : Int} {y1 : Int} {s : lf_Z} (hQ : ∀ (r : Int) (s' : lf_Z), iv_A s'.1 s'.2.2 → lf_fq [108] 1000000 true s.1 s.2.2 s'.1 s'.2.2 → ((-2147483648) ≤ r ∧ r ≤ 2147483647) → Q r s') {M4 : Nat} (hX4 : ∀ (x1 : Int) (x2 : Int) (s' : lf_Z), iv_A s'.1 s'.2.2 → lf_fq [108] 1000000 true s.1 s.2.2 s'.1 s'.2.2 → (-2147483648) ≤ x1 ∧ x1 ≤ 2147483647 → 0 ≤ x2 ∧ x2 ≤ 16 → (16 - x2).toNat < M4 → X4 x1 x2 s') (hM4 : (16 - x2).toNat ≤ M4) (hI : iv_A s.1 s.2.2) (bx1 : (-2147483648) ≤ x1 ∧ x1 ≤ 2147483647) (bx2 : 0 ≤ x2 ∧ x2 ≤ 15) (bx3 : 0 ≤ x3 ∧ x3 ≤ 11) (bx4 : 0 ≤ x4 ∧ x4 ≤ 11) (by0 : 0 ≤ y0 ∧ y0 ≤ 1) (by1 : 0 ≤ y1 ∧ y1 ≤ 1) : fm_306_p78 X4 Q x1 x2 x3 x4 y0 y1 s := by
  unfold fm_306_p78
  refine ⟨(show lf_R y0 from lf_Rof (by omega)), ?_⟩
  refine ⟨(show lf_R y1 from lf_Rof (by omega)), ?_⟩
  refine ⟨fun c12 => ?_, fun c12 => ?_⟩
  · skip
    replace c12 : y0 ≠ y1 := c12
    refine sm_265 hI (show (0 : Int) ≤ x3 ∧ x3 ≤ (11 : Int) from by omega) (fun r36 q13 => ?_)
    refine ⟨(show lf_R r36 from lf_Rof (by omega)), ?_⟩
    refine ⟨fun c14 => ?_, fun c14 => ?_⟩
    · skip
      replace c14 : r36 ≠ 3 := c14
      exact sm_306_p101 hQ hX4 (show (16 - x2).toNat ≤ M4 from by omega) hI (show (0 : Int) ≤ x2 ∧ x2 ≤ (15 : Int) from by omega) (show (-2147483648 : Int) ≤ x1 ∧ x1 ≤ (2147483647 : Int) from by omega) (show (0 : Int) ≤ x3 ∧ x3 ≤ (11 : Int) from by omega)
    · skip
      replace c14 : ¬ (r36 ≠ 3) := c14
      exact sm_306_p101 hQ hX4 (show (16 - x2).toNat ≤ M4 from by omega) hI (show (0 : Int) ≤ x2 ∧ x2 ≤ (15 : Int) from by omega) (show (-2147483648 : Int) ≤ x1 ∧ x1 ≤ (2147483647 : Int) from by omega) (show (0 : Int) ≤ x4 ∧ x4 ≤ (11 : Int) from by omega)
  · skip
    replace c12 : ¬ (y0 ≠ y1) := c12
    exact sm_306_p116 hQ hX4 (show (16 - x2).toNat ≤ M4 from by omega) hI (show (-2147483648 : Int) ≤ x1 ∧ x1 ≤ (2147483647 : Int) from by omega) (show (0 : Int) ≤ x2 ∧ x2 ≤ (15 : Int) from by omega)
theorem sm_306_p63 {X4 : Int → Int → lf_Z → Prop} {Q : Int → lf_Z → Prop} {x1 : Int} {x2 : Int} {x3 : Int} {x4 : Int} {y0 : Int} {s : lf_Z} (hQ : ∀ (r : Int) (s' : lf_Z), iv_A s'.1 s'.2.2 → lf_fq [108] 1000000 true s.1 s.2.2 s'.1 s'.2.2 → ((-2147483648) ≤ r ∧ r ≤ 2147483647) → Q r s') {M4 : Nat} (hX4 : ∀ (x1 : Int) (x2 : Int) (s' : lf_Z), iv_A s'.1 s'.2.2 → lf_fq [108] 1000000 true s.1 s.2.2 s'.1 s'.2.2 → (-2147483648) ≤ x1 ∧ x1 ≤ 2147483647 → 0 ≤ x2 ∧ x2 ≤ 16 → (16 - x2).toNat < M4 → X4 x1 x2 s') (hM4 : (16 - x2).toNat ≤ M4) (hI : iv_A s.1 s.2.2) (bx1 : (-2147483648) ≤ x1 ∧ x1 ≤ 2147483647) (bx2 : 0 ≤ x2 ∧ x2 ≤ 15) (bx3 : 0 ≤ x3 ∧ x3 ≤ 11) (bx4 : 0 ≤ x4 ∧ x4 ≤ 11) (by0 : 0 ≤ y0 ∧ y0 ≤ 1) : fm_306_p63 X4 Q x1 x2 x3 x4 y0 s := by
  unfold fm_306_p63
  refine sm_265 hI (show (0 : Int) ≤ x4 ∧ x4 ≤ (11 : Int) from by omega) (fun r31 q10 => ?_)
  refine ⟨(show lf_R r31 from lf_Rof (by omega)), ?_⟩
  refine ⟨fun c11 => ?_, fun c11 => ?_⟩
  · skip
    replace c11 : r31 ≠ 3 := c11
    exact sm_306_p78 hQ hX4 (show (16 - x2).toNat ≤ M4 from by omega) hI (show (-2147483648 : Int) ≤ x1 ∧ x1 ≤ (2147483647 : Int) from by omega) (show (0 : Int) ≤ x2 ∧ x2 ≤ (15 : Int) from by omega) (show (0 : Int) ≤ x3 ∧ x3 ≤ (11 : Int) from by omega) (show (0 : Int) ≤ x4 ∧ x4 ≤ (11 : Int) from by omega) (show (0 : Int) ≤ y0 ∧ y0 ≤ (1 : Int) from by omega) (show (0 : Int) ≤ 0 ∧ 0 ≤ (1 : Int) from by omega)
  · skip
    replace c11 : ¬ (r31 ≠ 3) := c11
    exact sm_306_p78 hQ hX4 (show (16 - x2).toNat ≤ M4 from by omega) hI (show (-2147483648 : Int) ≤ x1 ∧ x1 ≤ (2147483647 : Int) from by omega) (show (0 : Int) ≤ x2 ∧ x2 ≤ (15 : Int) from by omega) (show (0 : Int) ≤ x3 ∧ x3 ≤ (11 : Int) from by omega) (show (0 : Int) ≤ x4 ∧ x4 ≤ (11 : Int) from by omega) (show (0 : Int) ≤ y0 ∧ y0 ≤ (1 : Int) from by omega) (show (0 : Int) ≤ 1 ∧ 1 ≤ (1 : Int) from by omega)
theorem sm_306_p4 {X4 : Int → Int → lf_Z → Prop} {Q : Int → lf_Z → Prop} {x1 : Int} {x2 : Int} {s : lf_Z} (hQ : ∀ (r : Int) (s' : lf_Z), iv_A s'.1 s'.2.2 → lf_fq [108] 1000000 true s.1 s.2.2 s'.1 s'.2.2 → ((-2147483648) ≤ r ∧ r ≤ 2147483647) → Q r s') {M4 : Nat} (hX4 : ∀ (x1 : Int) (x2 : Int) (s' : lf_Z), iv_A s'.1 s'.2.2 → lf_fq [108] 1000000 true s.1 s.2.2 s'.1 s'.2.2 → (-2147483648) ≤ x1 ∧ x1 ≤ 2147483647 → 0 ≤ x2 ∧ x2 ≤ 16 → (16 - x2).toNat < M4 → X4 x1 x2 s') (hM4 : (16 - x2).toNat ≤ M4) (hI : iv_A s.1 s.2.2) (bx1 : (-2147483648) ≤ x1 ∧ x1 ≤ 2147483647) (bx2 : 0 ≤ x2 ∧ x2 ≤ 16) : fm_306_p4 Q X4 x1 x2 s := by
  unfold fm_306_p4
  have b1 : 0 ≤ s.1 96 1 ∧ s.1 96 1 ≤ 16 := iv_rd96 hI (iv_fd6ad3e54 (by omega))
  have b2 : s.1 96 1 ≤ 0 ∨ 0 < s.1 96 0 := (show s.1 96 1 ≤ 0 ∨ 0 < s.1 96 0 from iv_l96_1 hI)
  refine ⟨(show lf_R x2 from lf_Rof (by omega)), ?_⟩
  refine ⟨(show lf_R (s.1 96 1) from lf_Rof (by omega)), ?_⟩
  refine ⟨fun c3 => ?_, fun c3 => ?_⟩
  · skip
    replace c3 : s.1 96 1 ≤ x2 := c3
    exact hQ x1 s hI (lf_fq_rf) (show (-2147483648 : Int) ≤ x1 ∧ x1 ≤ (2147483647 : Int) from by omega)
  · skip
    replace c3 : ¬ (s.1 96 1 ≤ x2) := c3
    refine ⟨(show (0 : Int) ≤ 50 + (4 * x2) ∧ 50 + (4 * x2) < (1538 : Int) from by omega), ?_⟩
    have b4 : 0 ≤ s.1 96 (50 + (4 * x2)) ∧ s.1 96 (50 + (4 * x2)) ≤ 11 := iv_rd96 hI (iv_f76190a29 (x2) (by omega) (by omega))
    refine ⟨(show (0 : Int) ≤ (50 + (4 * x2)) + 1 ∧ (50 + (4 * x2)) + 1 < (1538 : Int) from by omega), ?_⟩
    have b5 : 0 ≤ s.1 96 ((50 + (4 * x2)) + 1) ∧ s.1 96 ((50 + (4 * x2)) + 1) ≤ 11 := iv_rd96 hI (iv_fba8b7512 (x2) (by omega) (by omega))
    refine sm_252 hI (show (0 : Int) ≤ x2 ∧ x2 ≤ (15 : Int) from by omega) (fun z26 => ?_)
    refine ⟨fun c7 => ?_, fun c7 => ?_⟩
    · skip
      exact sm_306_p116 hQ hX4 (show (16 - x2).toNat ≤ M4 from by omega) hI (show (-2147483648 : Int) ≤ x1 ∧ x1 ≤ (2147483647 : Int) from by omega) (show (0 : Int) ≤ x2 ∧ x2 ≤ (15 : Int) from by omega)
    · skip
      refine sm_265 hI (show (0 : Int) ≤ s.1 96 (50 + (4 * x2)) ∧ s.1 96 (50 + (4 * x2)) ≤ (11 : Int) from by omega) (fun r28 q8 => ?_)
      refine ⟨(show lf_R r28 from lf_Rof (by omega)), ?_⟩
      refine ⟨fun c9 => ?_, fun c9 => ?_⟩
      · skip
        replace c9 : r28 ≠ 3 := c9
        exact sm_306_p63 hQ hX4 (show (16 - x2).toNat ≤ M4 from by omega) hI (show (-2147483648 : Int) ≤ x1 ∧ x1 ≤ (2147483647 : Int) from by omega) (show (0 : Int) ≤ x2 ∧ x2 ≤ (15 : Int) from by omega) (show (0 : Int) ≤ s.1 96 (50 + (4 * x2)) ∧ s.1 96 (50 + (4 * x2)) ≤ (11 : Int) from by omega) (show (0 : Int) ≤ s.1 96 ((50 + (4 * x2)) + 1) ∧ s.1 96 ((50 + (4 * x2)) + 1) ≤ (11 : Int) from by omega) (show (0 : Int) ≤ 0 ∧ 0 ≤ (1 : Int) from by omega)
      · skip
        replace c9 : ¬ (r28 ≠ 3) := c9
        exact sm_306_p63 hQ hX4 (show (16 - x2).toNat ≤ M4 from by omega) hI (show (-2147483648 : Int) ≤ x1 ∧ x1 ≤ (2147483647 : Int) from by omega) (show (0 : Int) ≤ x2 ∧ x2 ≤ (15 : Int) from by omega) (show (0 : Int) ≤ s.1 96 (50 + (4 * x2)) ∧ s.1 96 (50 + (4 * x2)) ≤ (11 : Int) from by omega) (show (0 : Int) ≤ s.1 96 ((50 + (4 * x2)) + 1) ∧ s.1 96 ((50 + (4 * x2)) + 1) ≤ (11 : Int) from by omega) (show (0 : Int) ≤ 1 ∧ 1 ≤ (1 : Int) from by omega)
theorem sm_306_p4L {Q : Int → lf_Z → Prop} {x1 : Int} {x2 : Int} {s : lf_Z} (hQ : ∀ (r : Int) (s' : lf_Z), iv_A s'.1 s'.2.2 → lf_fq [108] 1000000 true s.1 s.2.2 s'.1 s'.2.2 → ((-2147483648) ≤ r ∧ r ≤ 2147483647) → Q r s') (hI : iv_A s.1 s.2.2) (bx1 : (-2147483648) ≤ x1 ∧ x1 ≤ 2147483647) (bx2 : 0 ≤ x2 ∧ x2 ≤ 16) : fm_306_p4L Q x1 x2 s := by
  intro X4 hX
  have key : ∀ (m9 : Nat) (x1 : Int) (x2 : Int) (s' : lf_Z), iv_A s'.1 s'.2.2 → lf_fq [108] 1000000 true s.1 s.2.2 s'.1 s'.2.2 → (-2147483648) ≤ x1 ∧ x1 ≤ 2147483647 → 0 ≤ x2 ∧ x2 ≤ 16 → (16 - x2).toNat < m9 → X4 x1 x2 s' := by
    intro m9
    induction m9 with
    | zero => intro x1 x2 s' _ _ bx1 bx2 h9; exact absurd h9 (Nat.not_lt_zero _)
    | succ m9 ih => intro x1 x2 s' i7 f7 bx1 bx2 h9; exact hX _ _ _ (sm_306_p4 (fun r9 t9 i9 f9 => hQ r9 t9 i9 (lf_fq_tr f7 f9))   (fun x1' x2' t8 i8 f8 bx1' bx2' h8 => ih x1' x2' t8 i8 (lf_fq_tr f7 f8) bx1' bx2' (by omega)) (Nat.le_refl _)  i7  bx1 bx2  )
  exact key _ _ _ s hI lf_fq_rf bx1 bx2 (Nat.lt_succ_self _)
theorem sm_306 {Q : Int → lf_Z → Prop} {s : lf_Z} (hI : iv_A s.1 s.2.2) (hQ : ∀ (r : Int) (s' : lf_Z), iv_A s'.1 s'.2.2 → lf_fq [108] 1000000 true s.1 s.2.2 s'.1 s'.2.2 → ((-2147483648) ≤ r ∧ r ≤ 2147483647) → Q r s') : fm_306 Q s := by
  unfold fm_306
  exact sm_306_p4L hQ hI (show (-2147483648 : Int) ≤ 0 ∧ 0 ≤ (2147483647 : Int) from by omega) (show (0 : Int) ≤ 0 ∧ 0 ≤ (16 : Int) from by omega)
-- fm_153 ElevenBullocks.weightOf i i i
theorem sm_153_p63 {X63 : Int → Int → lf_Z → Prop} {Q : Int → lf_Z → Prop} {x3 : Int} {x5 : Int} {s : lf_Z} (hQ : ∀ (r : Int), Q r s) {M63 : Nat} (hX63 : ∀ (x3 : Int) (x5 : Int), 0 ≤ x5 ∧ x5 ≤ 12 → (12 - x5).toNat < M63 → X63 x3 x5 s) (hM63 : (12 - x5).toNat ≤ M63) (hI : iv_A s.1 s.2.2) (bx5 : 0 ≤ x5 ∧ x5 ≤ 12) : fm_153_p63 Q X63 x3 x5 s := by
  unfold fm_153_p63
  refine ⟨(show lf_R x5 from lf_Rof (by omega)), ?_⟩
  refine ⟨fun c4 => ?_, fun c4 => ?_⟩
  · skip
    replace c4 : 12 ≤ x5 := c4
    exact hQ (lf_wl x3)
  · skip
    replace c4 : ¬ (12 ≤ x5) := c4
    exact hX63 (lf_wl ((lf_wl x3) * 10)) (x5 + 1) (show (0 : Int) ≤ x5 + 1 ∧ x5 + 1 ≤ (12 : Int) from by omega) (show (12 - (x5 + 1)).toNat < M63 from by omega)
theorem sm_153_p63L {Q : Int → lf_Z → Prop} {x3 : Int} {x5 : Int} {s : lf_Z} (hQ : ∀ (r : Int), Q r s) (hI : iv_A s.1 s.2.2) (bx5 : 0 ≤ x5 ∧ x5 ≤ 12) : fm_153_p63L Q x3 x5 s := by
  intro X63 hX
  have key : ∀ (m9 : Nat) (x3 : Int) (x5 : Int), 0 ≤ x5 ∧ x5 ≤ 12 → (12 - x5).toNat < m9 → X63 x3 x5 s := by
    intro m9
    induction m9 with
    | zero => intro x3 x5 bx5 h9; exact absurd h9 (Nat.not_lt_zero _)
    | succ m9 ih => intro x3 x5 bx5 h9; exact hX _ _ _ (sm_153_p63 hQ   (fun x3' x5' bx5' h8 => ih x3' x5' bx5' (by omega)) (Nat.le_refl _)  hI  bx5  )
  exact key _ _ _ bx5   (Nat.lt_succ_self _)
theorem sm_153_p41 {X41 : Int → Int → lf_Z → Prop} {Q : Int → lf_Z → Prop} {x0 : Int} {x1 : Int} {x2 : Int} {x3 : Int} {x5 : Int} {s : lf_Z} (hQ : ∀ (r : Int), Q r s) {M41 : Nat} (hX41 : ∀ (x3 : Int) (x5 : Int), 0 ≤ x5 ∧ x5 ≤ 12 → (12 - x5).toNat < M41 → X41 x3 x5 s) (hM41 : (12 - x5).toNat ≤ M41) (hI : iv_A s.1 s.2.2) (bx0 : 0 ≤ x0 ∧ x0 ≤ 12) (bx1 : 0 ≤ x1 ∧ x1 ≤ 9) (bx2 : 0 ≤ x2 ∧ x2 ≤ 12) (bx5 : 0 ≤ x5 ∧ x5 ≤ 12) : fm_153_p41 Q x0 x1 x2 X41 x3 x5 s := by
  unfold fm_153_p41
  refine ⟨(show lf_R x5 from lf_Rof (by omega)), ?_⟩
  refine ⟨(show lf_R (x0 - x2) from lf_Rof (by omega)), ?_⟩
  refine ⟨fun c3 => ?_, fun c3 => ?_⟩
  · skip
    replace c3 : x0 - x2 ≤ x5 := c3
    exact sm_153_p63L hQ hI (show (0 : Int) ≤ x0 ∧ x0 ≤ (12 : Int) from by omega)
  · skip
    replace c3 : ¬ (x0 - x2 ≤ x5) := c3
    refine ⟨(show lf_R x1 from lf_Rof (by omega)), ?_⟩
    exact hX41 (lf_wl ((lf_wl x3) * x1)) (x5 + 1) (show (0 : Int) ≤ x5 + 1 ∧ x5 + 1 ≤ (12 : Int) from by omega) (show (12 - (x5 + 1)).toNat < M41 from by omega)
theorem sm_153_p41L {Q : Int → lf_Z → Prop} {x0 : Int} {x1 : Int} {x2 : Int} {x3 : Int} {x5 : Int} {s : lf_Z} (hQ : ∀ (r : Int), Q r s) (hI : iv_A s.1 s.2.2) (bx0 : 0 ≤ x0 ∧ x0 ≤ 12) (bx1 : 0 ≤ x1 ∧ x1 ≤ 9) (bx2 : 0 ≤ x2 ∧ x2 ≤ 12) (bx5 : 0 ≤ x5 ∧ x5 ≤ 12) : fm_153_p41L Q x0 x1 x2 x3 x5 s := by
  intro X41 hX
  have key : ∀ (m9 : Nat) (x3 : Int) (x5 : Int), 0 ≤ x5 ∧ x5 ≤ 12 → (12 - x5).toNat < m9 → X41 x3 x5 s := by
    intro m9
    induction m9 with
    | zero => intro x3 x5 bx5 h9; exact absurd h9 (Nat.not_lt_zero _)
    | succ m9 ih => intro x3 x5 bx5 h9; exact hX _ _ _ (sm_153_p41 hQ   (fun x3' x5' bx5' h8 => ih x3' x5' bx5' (by omega)) (Nat.le_refl _)  hI  bx0 bx1 bx2 bx5  )
  exact key _ _ _ bx5   (Nat.lt_succ_self _)
theorem sm_153_p12 {X12 : Int → Int → lf_Z → Prop} {Q : Int → lf_Z → Prop} {x0 : Int} {x1 : Int} {x2 : Int} {x3 : Int} {x5 : Int} {s : lf_Z} (hQ : ∀ (r : Int), Q r s) {M12 : Nat} (hX12 : ∀ (x3 : Int) (x5 : Int), 1 ≤ x5 ∧ x5 ≤ 13 → (13 - x5).toNat < M12 → X12 x3 x5 s) (hM12 : (13 - x5).toNat ≤ M12) (hI : iv_A s.1 s.2.2) (bx0 : 0 ≤ x0 ∧ x0 ≤ 12) (bx1 : 0 ≤ x1 ∧ x1 ≤ 9) (bx2 : 0 ≤ x2 ∧ x2 ≤ 12) (bx5 : 1 ≤ x5 ∧ x5 ≤ 13) : fm_153_p12 Q x0 x1 x2 X12 x3 x5 s := by
  unfold fm_153_p12
  refine ⟨(show lf_R x5 from lf_Rof (by omega)), ?_⟩
  refine ⟨(show lf_R (x0 - x2) from lf_Rof (by omega)), ?_⟩
  refine ⟨fun c2 => ?_, fun c2 => ?_⟩
  · skip
    replace c2 : x0 - x2 < x5 := c2
    exact sm_153_p41L hQ hI (show (0 : Int) ≤ x0 ∧ x0 ≤ (12 : Int) from by omega) (show (0 : Int) ≤ x1 ∧ x1 ≤ (9 : Int) from by omega) (show (0 : Int) ≤ x2 ∧ x2 ≤ (12 : Int) from by omega) (show (0 : Int) ≤ 0 ∧ 0 ≤ (12 : Int) from by omega)
  · skip
    replace c2 : ¬ (x0 - x2 < x5) := c2
    refine ⟨(show lf_R (x2 + x5) from lf_Rof (by omega)), ?_⟩
    refine ⟨(show x5 ≠ 0 from by omega), ?_⟩
    exact hX12 (lf_wl ((lf_wl ((lf_wl x3) * (x2 + x5))).tdiv x5)) (x5 + 1) (show (1 : Int) ≤ x5 + 1 ∧ x5 + 1 ≤ (13 : Int) from by omega) (show (13 - (x5 + 1)).toNat < M12 from by omega)
theorem sm_153_p12L {Q : Int → lf_Z → Prop} {x0 : Int} {x1 : Int} {x2 : Int} {x3 : Int} {x5 : Int} {s : lf_Z} (hQ : ∀ (r : Int), Q r s) (hI : iv_A s.1 s.2.2) (bx0 : 0 ≤ x0 ∧ x0 ≤ 12) (bx1 : 0 ≤ x1 ∧ x1 ≤ 9) (bx2 : 0 ≤ x2 ∧ x2 ≤ 12) (bx5 : 1 ≤ x5 ∧ x5 ≤ 13) : fm_153_p12L Q x0 x1 x2 x3 x5 s := by
  intro X12 hX
  have key : ∀ (m9 : Nat) (x3 : Int) (x5 : Int), 1 ≤ x5 ∧ x5 ≤ 13 → (13 - x5).toNat < m9 → X12 x3 x5 s := by
    intro m9
    induction m9 with
    | zero => intro x3 x5 bx5 h9; exact absurd h9 (Nat.not_lt_zero _)
    | succ m9 ih => intro x3 x5 bx5 h9; exact hX _ _ _ (sm_153_p12 hQ   (fun x3' x5' bx5' h8 => ih x3' x5' bx5' (by omega)) (Nat.le_refl _)  hI  bx0 bx1 bx2 bx5  )
  exact key _ _ _ bx5   (Nat.lt_succ_self _)
theorem sm_153 {a0 : Int} {a1 : Int} {a2 : Int} {Q : Int → lf_Z → Prop} {s : lf_Z} (hI : iv_A s.1 s.2.2) (ba0 : 0 ≤ a0 ∧ a0 ≤ 12) (ba1 : 0 ≤ a1 ∧ a1 ≤ 9) (ba2 : 0 ≤ a2 ∧ a2 ≤ 12) (hQ : ∀ (r : Int), Q r s) : fm_153 a0 a1 a2 Q s := by
  unfold fm_153
  refine ⟨(show lf_R a0 from lf_Rof (by omega)), ?_⟩
  refine ⟨(show lf_R a2 from lf_Rof (by omega)), ?_⟩
  refine ⟨fun c1 => ?_, fun c1 => ?_⟩
  · skip
    replace c1 : a2 ≤ a0 := c1
    exact sm_153_p12L hQ hI (show (0 : Int) ≤ a0 ∧ a0 ≤ (12 : Int) from by omega) (show (0 : Int) ≤ a1 ∧ a1 ≤ (9 : Int) from by omega) (show (0 : Int) ≤ a2 ∧ a2 ≤ (12 : Int) from by omega) (show (1 : Int) ≤ 1 ∧ 1 ≤ (13 : Int) from by omega)
  · skip
    replace c1 : ¬ (a2 ≤ a0) := c1
    exact hQ 0
-- fm_152 ElevenBullocks.many 0 i i i i
theorem sm_152_p30 {Q : Int → lf_Z → Prop} {s : lf_Z} (hQ : ∀ (r : Int), Q r s) (hI : iv_A s.1 s.2.2) : fm_152_p30 Q s := by
  unfold fm_152_p30
  exact hQ (-1)
theorem sm_152_p40 {X40 : Int → Int → lf_Z → Prop} {Q : Int → lf_Z → Prop} {x1 : Int} {x2 : Int} {x3 : Int} {x4 : Int} {x5 : Int} {x7 : Int} {s : lf_Z} (hQ : ∀ (r : Int), Q r s) {M40 : Nat} (hX40 : ∀ (x5 : Int) (x7 : Int), 0 ≤ x7 ∧ x7 ≤ 13 → (13 - x7).toNat < M40 → X40 x5 x7 s) (hM40 : (13 - x7).toNat ≤ M40) (hI : iv_A s.1 s.2.2) (bx1 : 0 ≤ x1 ∧ x1 ≤ 9) (bx2 : 0 ≤ x2 ∧ x2 ≤ 12) (bx3 : 0 ≤ x3 ∧ x3 ≤ 12) (bx4 : 0 ≤ x4 ∧ x4 ≤ 1) (bx7 : 0 ≤ x7 ∧ x7 ≤ 13) : fm_152_p40 Q x1 x2 x3 x4 X40 x5 x7 s := by
  unfold fm_152_p40
  refine ⟨(show lf_R x7 from lf_Rof (by omega)), ?_⟩
  refine ⟨fun c7 => ?_, fun c7 => ?_⟩
  · skip
    replace c7 : 12 < x7 := c7
    refine sm_153 hI (show (0 : Int) ≤ x3 ∧ x3 ≤ (12 : Int) from by omega) (show (0 : Int) ≤ x1 ∧ x1 ≤ (9 : Int) from by omega) (show (0 : Int) ≤ x2 ∧ x2 ≤ (12 : Int) from by omega) (fun r29 => ?_)
    refine sm_125 hI (show (0 : Int) ≤ x4 ∧ x4 ≤ (1 : Int) from by omega) (fun r31 => ?_)
    exact hQ (lf_wl r31)
  · skip
    replace c7 : ¬ (12 < x7) := c7
    refine sm_153 hI (show (0 : Int) ≤ x7 ∧ x7 ≤ (12 : Int) from by omega) (show (0 : Int) ≤ x1 ∧ x1 ≤ (9 : Int) from by omega) (show (0 : Int) ≤ x2 ∧ x2 ≤ (12 : Int) from by omega) (fun r33 => ?_)
    exact hX40 (lf_wl ((lf_wl x5) + (lf_wl r33))) (x7 + 1) (show (0 : Int) ≤ x7 + 1 ∧ x7 + 1 ≤ (13 : Int) from by omega) (show (13 - (x7 + 1)).toNat < M40 from by omega)
theorem sm_152_p40L {Q : Int → lf_Z → Prop} {x1 : Int} {x2 : Int} {x3 : Int} {x4 : Int} {x5 : Int} {x7 : Int} {s : lf_Z} (hQ : ∀ (r : Int), Q r s) (hI : iv_A s.1 s.2.2) (bx1 : 0 ≤ x1 ∧ x1 ≤ 9) (bx2 : 0 ≤ x2 ∧ x2 ≤ 12) (bx3 : 0 ≤ x3 ∧ x3 ≤ 12) (bx4 : 0 ≤ x4 ∧ x4 ≤ 1) (bx7 : 0 ≤ x7 ∧ x7 ≤ 13) : fm_152_p40L Q x1 x2 x3 x4 x5 x7 s := by
  intro X40 hX
  have key : ∀ (m9 : Nat) (x5 : Int) (x7 : Int), 0 ≤ x7 ∧ x7 ≤ 13 → (13 - x7).toNat < m9 → X40 x5 x7 s := by
    intro m9
    induction m9 with
    | zero => intro x5 x7 bx7 h9; exact absurd h9 (Nat.not_lt_zero _)
    | succ m9 ih => intro x5 x7 bx7 h9; exact hX _ _ _ (sm_152_p40 hQ   (fun x5' x7' bx7' h8 => ih x5' x7' bx7' (by omega)) (Nat.le_refl _)  hI  bx1 bx2 bx3 bx4 bx7  )
  exact key _ _ _ bx7   (Nat.lt_succ_self _)
theorem sm_152 {a1 : Int} {a2 : Int} {a3 : Int} {a4 : Int} {Q : Int → lf_Z → Prop} {s : lf_Z} (hI : iv_A s.1 s.2.2) (ba1 : (-2147483648) ≤ a1 ∧ a1 ≤ 2147483647) (ba2 : (-2147483648) ≤ a2 ∧ a2 ≤ 2147483647) (ba3 : (-2147483648) ≤ a3 ∧ a3 ≤ 2147483647) (ba4 : 0 ≤ a4 ∧ a4 ≤ 1) (hQ : ∀ (r : Int), Q r s) : fm_152 a1 a2 a3 a4 Q s := by
  unfold fm_152
  refine sm_15 hI (show (-2147483648 : Int) ≤ a1 ∧ a1 ≤ (2147483647 : Int) from by omega) (show (-1 : Int) ≤ 0 ∧ 0 ≤ (99 : Int) from by omega) (show (-2147483648 : Int) ≤ 9 ∧ 9 ≤ (2147483647 : Int) from by omega) (fun z22 q1 => ?_)
  refine ⟨fun c2 => ?_, fun c2 => ?_⟩
  · skip
    have dc2 := q1.2 c2
    exact sm_152_p30 hQ hI
  · skip
    have dc2 := q1.1 c2
    refine sm_15 hI (show (-2147483648 : Int) ≤ a2 ∧ a2 ≤ (2147483647 : Int) from by omega) (show (-1 : Int) ≤ 0 ∧ 0 ≤ (99 : Int) from by omega) (show (-2147483648 : Int) ≤ 12 ∧ 12 ≤ (2147483647 : Int) from by omega) (fun z24 q3 => ?_)
    refine ⟨fun c4 => ?_, fun c4 => ?_⟩
    · skip
      have dc4 := q3.2 c4
      exact sm_152_p30 hQ hI
    · skip
      have dc4 := q3.1 c4
      refine sm_15 hI (show (-2147483648 : Int) ≤ a3 ∧ a3 ≤ (2147483647 : Int) from by omega) (show (-1 : Int) ≤ 0 ∧ 0 ≤ (99 : Int) from by omega) (show (-2147483648 : Int) ≤ 12 ∧ 12 ≤ (2147483647 : Int) from by omega) (fun z26 q5 => ?_)
      refine ⟨fun c6 => ?_, fun c6 => ?_⟩
      · skip
        have dc6 := q5.1 c6
        exact sm_152_p40L hQ hI (show (0 : Int) ≤ a1 ∧ a1 ≤ (9 : Int) from by omega) (show (0 : Int) ≤ a2 ∧ a2 ≤ (12 : Int) from by omega) (show (0 : Int) ≤ a3 ∧ a3 ≤ (12 : Int) from by omega) (show (0 : Int) ≤ a4 ∧ a4 ≤ (1 : Int) from by omega) (show (0 : Int) ≤ 0 ∧ 0 ≤ (13 : Int) from by omega)
      · skip
        have dc6 := q5.2 c6
        exact sm_152_p30 hQ hI
-- fm_310 Model.power l i
theorem sm_310_p5 {X5 : Int → Int → lf_Z → Prop} {Q : Int → lf_Z → Prop} {x0 : Int} {x2 : Int} {x3 : Int} {x5 : Int} {s : lf_Z} (hQ : ∀ (r : Int), Q r s) {M5 : Nat} (hX5 : ∀ (x3 : Int) (x5 : Int), 0 ≤ x5 ∧ x5 ≤ 12 → (12 - x5).toNat < M5 → X5 x3 x5 s) (hM5 : (12 - x5).toNat ≤ M5) (hI : iv_A s.1 s.2.2) (bx2 : (-12) ≤ x2 ∧ x2 ≤ 12) (bx5 : 0 ≤ x5 ∧ x5 ≤ 12) : fm_310_p5 Q x0 x2 X5 x3 x5 s := by
  unfold fm_310_p5
  refine ⟨(show lf_R x5 from lf_Rof (by omega)), ?_⟩
  refine ⟨(show lf_R x2 from lf_Rof (by omega)), ?_⟩
  refine ⟨fun c1 => ?_, fun c1 => ?_⟩
  · skip
    replace c1 : x2 ≤ x5 := c1
    exact hQ (lf_wl x3)
  · skip
    replace c1 : ¬ (x2 ≤ x5) := c1
    exact hX5 (lf_wl ((lf_wl x3) * (lf_wl x0))) (x5 + 1) (show (0 : Int) ≤ x5 + 1 ∧ x5 + 1 ≤ (12 : Int) from by omega) (show (12 - (x5 + 1)).toNat < M5 from by omega)
theorem sm_310_p5L {Q : Int → lf_Z → Prop} {x0 : Int} {x2 : Int} {x3 : Int} {x5 : Int} {s : lf_Z} (hQ : ∀ (r : Int), Q r s) (hI : iv_A s.1 s.2.2) (bx2 : (-12) ≤ x2 ∧ x2 ≤ 12) (bx5 : 0 ≤ x5 ∧ x5 ≤ 12) : fm_310_p5L Q x0 x2 x3 x5 s := by
  intro X5 hX
  have key : ∀ (m9 : Nat) (x3 : Int) (x5 : Int), 0 ≤ x5 ∧ x5 ≤ 12 → (12 - x5).toNat < m9 → X5 x3 x5 s := by
    intro m9
    induction m9 with
    | zero => intro x3 x5 bx5 h9; exact absurd h9 (Nat.not_lt_zero _)
    | succ m9 ih => intro x3 x5 bx5 h9; exact hX _ _ _ (sm_310_p5 hQ   (fun x3' x5' bx5' h8 => ih x3' x5' bx5' (by omega)) (Nat.le_refl _)  hI  bx2 bx5  )
  exact key _ _ _ bx5   (Nat.lt_succ_self _)
theorem sm_310 {a0 : Int} {a1 : Int} {Q : Int → lf_Z → Prop} {s : lf_Z} (hI : iv_A s.1 s.2.2) (ba1 : (-12) ≤ a1 ∧ a1 ≤ 12) (hQ : ∀ (r : Int), Q r s) : fm_310 a0 a1 Q s := by
  unfold fm_310
  exact sm_310_p5L hQ hI (show (-12 : Int) ≤ a1 ∧ a1 ≤ (12 : Int) from by omega) (show (0 : Int) ≤ 0 ∧ 0 ≤ (12 : Int) from by omega)
-- fm_309 Model.weightOf i i i
theorem sm_309_p12 {X12 : Int → Int → lf_Z → Prop} {Q : Int → lf_Z → Prop} {x0 : Int} {x1 : Int} {x2 : Int} {x3 : Int} {x5 : Int} {s : lf_Z} (hQ : ∀ (r : Int), Q r s) {M12 : Nat} (hX12 : ∀ (x3 : Int) (x5 : Int), 1 ≤ x5 ∧ x5 ≤ 13 → (13 - x5).toNat < M12 → X12 x3 x5 s) (hM12 : (13 - x5).toNat ≤ M12) (hI : iv_A s.1 s.2.2) (bx0 : 0 ≤ x0 ∧ x0 ≤ 9) (bx1 : 0 ≤ x1 ∧ x1 ≤ 12) (bx2 : 0 ≤ x2 ∧ x2 ≤ 12) (bx5 : 1 ≤ x5 ∧ x5 ≤ 13) : fm_309_p12 Q x0 x1 x2 X12 x3 x5 s := by
  unfold fm_309_p12
  refine ⟨(show lf_R x5 from lf_Rof (by omega)), ?_⟩
  refine ⟨(show lf_R x1 from lf_Rof (by omega)), ?_⟩
  refine ⟨fun c2 => ?_, fun c2 => ?_⟩
  · skip
    replace c2 : x1 < x5 := c2
    refine ⟨(show lf_R (10 - x0) from lf_Rof (by omega)), ?_⟩
    refine sm_310 hI (show (-12 : Int) ≤ x1 ∧ x1 ≤ (12 : Int) from by omega) (fun r27 => ?_)
    refine ⟨(show lf_R x0 from lf_Rof (by omega)), ?_⟩
    refine sm_310 hI (show (-12 : Int) ≤ x2 - x1 ∧ x2 - x1 ≤ (12 : Int) from by omega) (fun r30 => ?_)
    refine sm_310 hI (show (-12 : Int) ≤ 12 - x2 ∧ 12 - x2 ≤ (12 : Int) from by omega) (fun r32 => ?_)
    exact hQ (lf_wl ((lf_wl ((lf_wl ((lf_wl x3) * (lf_wl r27))) * (lf_wl r30))) * (lf_wl r32)))
  · skip
    replace c2 : ¬ (x1 < x5) := c2
    refine ⟨(show lf_R ((x2 - x1) + x5) from lf_Rof (by omega)), ?_⟩
    refine ⟨(show x5 ≠ 0 from by omega), ?_⟩
    exact hX12 (lf_wl ((lf_wl ((lf_wl x3) * ((x2 - x1) + x5))).tdiv x5)) (x5 + 1) (show (1 : Int) ≤ x5 + 1 ∧ x5 + 1 ≤ (13 : Int) from by omega) (show (13 - (x5 + 1)).toNat < M12 from by omega)
theorem sm_309_p12L {Q : Int → lf_Z → Prop} {x0 : Int} {x1 : Int} {x2 : Int} {x3 : Int} {x5 : Int} {s : lf_Z} (hQ : ∀ (r : Int), Q r s) (hI : iv_A s.1 s.2.2) (bx0 : 0 ≤ x0 ∧ x0 ≤ 9) (bx1 : 0 ≤ x1 ∧ x1 ≤ 12) (bx2 : 0 ≤ x2 ∧ x2 ≤ 12) (bx5 : 1 ≤ x5 ∧ x5 ≤ 13) : fm_309_p12L Q x0 x1 x2 x3 x5 s := by
  intro X12 hX
  have key : ∀ (m9 : Nat) (x3 : Int) (x5 : Int), 1 ≤ x5 ∧ x5 ≤ 13 → (13 - x5).toNat < m9 → X12 x3 x5 s := by
    intro m9
    induction m9 with
    | zero => intro x3 x5 bx5 h9; exact absurd h9 (Nat.not_lt_zero _)
    | succ m9 ih => intro x3 x5 bx5 h9; exact hX _ _ _ (sm_309_p12 hQ   (fun x3' x5' bx5' h8 => ih x3' x5' bx5' (by omega)) (Nat.le_refl _)  hI  bx0 bx1 bx2 bx5  )
  exact key _ _ _ bx5   (Nat.lt_succ_self _)
theorem sm_309 {a0 : Int} {a1 : Int} {a2 : Int} {Q : Int → lf_Z → Prop} {s : lf_Z} (hI : iv_A s.1 s.2.2) (ba0 : 0 ≤ a0 ∧ a0 ≤ 9) (ba1 : 0 ≤ a1 ∧ a1 ≤ 12) (ba2 : 0 ≤ a2 ∧ a2 ≤ 12) (hQ : ∀ (r : Int), Q r s) : fm_309 a0 a1 a2 Q s := by
  unfold fm_309
  refine ⟨(show lf_R a2 from lf_Rof (by omega)), ?_⟩
  refine ⟨(show lf_R a1 from lf_Rof (by omega)), ?_⟩
  refine ⟨fun c1 => ?_, fun c1 => ?_⟩
  · skip
    replace c1 : a1 ≤ a2 := c1
    exact sm_309_p12L hQ hI (show (0 : Int) ≤ a0 ∧ a0 ≤ (9 : Int) from by omega) (show (0 : Int) ≤ a1 ∧ a1 ≤ (12 : Int) from by omega) (show (0 : Int) ≤ a2 ∧ a2 ≤ (12 : Int) from by omega) (show (1 : Int) ≤ 1 ∧ 1 ≤ (13 : Int) from by omega)
  · skip
    replace c1 : ¬ (a1 ≤ a2) := c1
    exact hQ 0
-- fm_308 Model.many 95 i i i i
-- fm_156 Errands.chooseBunch 74 i i i i i
theorem sm_156_p167 {R156 : Int → Int → Int → Int → Int → (lf_Z → Prop) → lf_Z → Prop} {X36 : Int → lf_Z → Prop} {Q : lf_Z → Prop} {x1 : Int} {x2 : Int} {x3 : Int} {x4 : Int} {x5 : Int} {x6 : Int} {s : lf_Z} {MR : Nat} (hQ : ∀  (s' : lf_Z), iv_A s'.1 s'.2.2 → lf_fq [74, 76, 77] 1000000 true s.1 s.2.2 s'.1 s'.2.2 → Q  s') (hR156 : ∀ {a1 a2 a3 a4 a5 : Int} {Q : lf_Z → Prop} {s : lf_Z}, (7 - a1).toNat < MR → iv_A s.1 s.2.2 → 0 ≤ a1 ∧ a1 ≤ 6 → (-2147483648) ≤ a2 ∧ a2 ≤ 2147483647 → (-2147483648) ≤ a3 ∧ a3 ≤ 2147483647 → (-2147483648) ≤ a4 ∧ a4 ≤ 2147483647 → (-2147483648) ≤ a5 ∧ a5 ≤ 2147483647 → (∀  (s' : lf_Z), iv_A s'.1 s'.2.2 → lf_fq [74, 76, 77] 1000000 true s.1 s.2.2 s'.1 s'.2.2 → Q  s') → R156 a1 a2 a3 a4 a5 Q s) {M36 : Nat} (hX36 : ∀ (x6 : Int) (s' : lf_Z), iv_A s'.1 s'.2.2 → lf_fq [74, 76, 77] 1000000 true s.1 s.2.2 s'.1 s'.2.2 → 0 ≤ x6 ∧ x6 ≤ 4 → (4 - x6).toNat < M36 → X36 x6 s') (hM36 : (4 - x6).toNat ≤ M36) (hMR : (7 - x1).toNat ≤ MR) (hI : iv_A s.1 s.2.2) (bx1 : 0 ≤ x1 ∧ x1 ≤ 5) (bx2 : (-2147483648) ≤ x2 ∧ x2 ≤ 2147483647) (bx3 : (-2147483648) ≤ x3 ∧ x3 ≤ 2147483647) (bx4 : (-2147483648) ≤ x4 ∧ x4 ≤ 2147483647) (bx5 : (-2147483648) ≤ x5 ∧ x5 ≤ 2147483647) (bx6 : 0 ≤ x6 ∧ x6 ≤ 3) : fm_156_p167 R156 X36 Q x1 x2 x3 x4 x5 x6 s := by
  unfold fm_156_p167
  exact hX36 (x6 + 1) s hI (lf_fq_rf) (show (0 : Int) ≤ x6 + 1 ∧ x6 + 1 ≤ (4 : Int) from by omega) (show (4 - (x6 + 1)).toNat < M36 from by omega)
theorem sm_156_p78 {R156 : Int → Int → Int → Int → Int → (lf_Z → Prop) → lf_Z → Prop} {X36 : Int → lf_Z → Prop} {Q : lf_Z → Prop} {x1 : Int} {x2 : Int} {x3 : Int} {x4 : Int} {x5 : Int} {x6 : Int} {y0 : Int} {s : lf_Z} {MR : Nat} (hQ : ∀  (s' : lf_Z), iv_A s'.1 s'.2.2 → lf_fq [74, 76, 77] 1000000 true s.1 s.2.2 s'.1 s'.2.2 → Q  s') (hR156 : ∀ {a1 a2 a3 a4 a5 : Int} {Q : lf_Z → Prop} {s : lf_Z}, (7 - a1).toNat < MR → iv_A s.1 s.2.2 → 0 ≤ a1 ∧ a1 ≤ 6 → (-2147483648) ≤ a2 ∧ a2 ≤ 2147483647 → (-2147483648) ≤ a3 ∧ a3 ≤ 2147483647 → (-2147483648) ≤ a4 ∧ a4 ≤ 2147483647 → (-2147483648) ≤ a5 ∧ a5 ≤ 2147483647 → (∀  (s' : lf_Z), iv_A s'.1 s'.2.2 → lf_fq [74, 76, 77] 1000000 true s.1 s.2.2 s'.1 s'.2.2 → Q  s') → R156 a1 a2 a3 a4 a5 Q s) {M36 : Nat} (hX36 : ∀ (x6 : Int) (s' : lf_Z), iv_A s'.1 s'.2.2 → lf_fq [74, 76, 77] 1000000 true s.1 s.2.2 s'.1 s'.2.2 → 0 ≤ x6 ∧ x6 ≤ 4 → (4 - x6).toNat < M36 → X36 x6 s') (hM36 : (4 - x6).toNat ≤ M36) (hMR : (7 - x1).toNat ≤ MR) (hI : iv_A s.1 s.2.2) (bx1 : 0 ≤ x1 ∧ x1 ≤ 5) (bx2 : (-2147483648) ≤ x2 ∧ x2 ≤ 2147483647) (bx3 : (-2147483648) ≤ x3 ∧ x3 ≤ 2147483647) (bx4 : (-2147483648) ≤ x4 ∧ x4 ≤ 2147483647) (bx5 : (-2147483648) ≤ x5 ∧ x5 ≤ 2147483647) (bx6 : 0 ≤ x6 ∧ x6 ≤ 3) (by0 : (-1) ≤ y0 ∧ y0 ≤ 999) (kv0 : y0 = -1 ∨ 0 ≤ s.1 17 x6) : fm_156_p78 R156 X36 Q x1 x2 x3 x4 x5 x6 y0 s := by
  unfold fm_156_p78
  refine ⟨(show lf_R y0 from lf_Rof (by omega)), ?_⟩
  refine ⟨fun c11 => ?_, fun c11 => ?_⟩
  · skip
    replace c11 : y0 = (-1) := c11
    exact sm_156_p167 hQ hR156 hX36 (show (4 - x6).toNat ≤ M36 from by omega) (show (7 - x1).toNat ≤ MR from by omega) hI (show (0 : Int) ≤ x1 ∧ x1 ≤ (5 : Int) from by omega) (show (-2147483648 : Int) ≤ x2 ∧ x2 ≤ (2147483647 : Int) from by omega) (show (-2147483648 : Int) ≤ x3 ∧ x3 ≤ (2147483647 : Int) from by omega) (show (-2147483648 : Int) ≤ x4 ∧ x4 ≤ (2147483647 : Int) from by omega) (show (-2147483648 : Int) ≤ x5 ∧ x5 ≤ (2147483647 : Int) from by omega) (show (0 : Int) ≤ x6 ∧ x6 ≤ (3 : Int) from by omega)
  · skip
    replace c11 : ¬ (y0 = (-1)) := c11
    have b12 : (-2147483648) ≤ lf_w (x4 + y0) ∧ lf_w (x4 + y0) ≤ 2147483647 := lf_wB
    refine ⟨(show (0 : Int) ≤ x6 ∧ x6 < (4 : Int) from by omega), ?_⟩
    have b13 : (-2147483648) ≤ s.1 16 x6 ∧ s.1 16 x6 ≤ 2147483647 := iv_full hI
    have b14 : (-1) ≤ s.1 17 x6 ∧ s.1 17 x6 ≤ 11 := iv_r17 hI _
    have b15 : s.1 16 x6 ≤ 0 ∨ 0 ≤ s.1 17 x6 := (by first | exact (show s.1 16 x6 ≤ 0 ∨ 0 ≤ s.1 17 x6 from iv_sp hI (by omega) (by omega)) | exact iv_sp hI (by omega) (by omega))
    refine ⟨(show (0 : Int) ≤ s.1 17 x6 ∧ s.1 17 x6 < (12 : Int) from by omega), ?_⟩
    have b16 : 0 ≤ s.1 3 (s.1 17 x6) ∧ s.1 3 (s.1 17 x6) ≤ 99 := iv_r3 hI _
    have b17 : (-2147483648) ≤ lf_w ((s.1 16 x6) * (s.1 3 (s.1 17 x6))) ∧ lf_w ((s.1 16 x6) * (s.1 3 (s.1 17 x6))) ≤ 2147483647 := lf_wB
    have b18 : (-2147483648) ≤ lf_w ((lf_w ((s.1 16 x6) * (s.1 3 (s.1 17 x6)))) * (lf_w (x4 + y0))) ∧ lf_w ((lf_w ((s.1 16 x6) * (s.1 3 (s.1 17 x6)))) * (lf_w (x4 + y0))) ≤ 2147483647 := lf_wB
    refine ⟨(show (0 : Int) ≤ x1 ∧ x1 < (6 : Int) from by omega), ?_⟩
    have hI19 : iv_A (lf_up s.1 76 x1 x6) s.2.2 := iv_w76 hI (by omega)
    have fr20 : lf_fq [74, 76, 77] 1000000 true s.1 s.2.2 (lf_up s.1 76 x1 x6) s.2.2 := lf_fq_up (lf_fq_rf) rfl (fun h => absurd h (by decide))
    have b21 : 1 ≤ lf_shl 1 x6 ∧ lf_shl 1 x6 ≤ 8 := lf_shl1 (m := 3) (by omega) (by omega) (by decide)
    have b22 : (-2147483648) ≤ lf_xor (lf_shl 1 x6) (-1) ∧ lf_xor (lf_shl 1 x6) (-1) ≤ 2147483647 := lf_xorB
    have b23 : (-2147483648) ≤ lf_and x2 (lf_xor (lf_shl 1 x6) (-1)) ∧ lf_and x2 (lf_xor (lf_shl 1 x6) (-1)) ≤ 2147483647 := lf_andF
    have b24 : (-2147483648) ≤ lf_w (x5 + (lf_w ((lf_w ((s.1 16 x6) * (s.1 3 (s.1 17 x6)))) * (lf_w (x4 + y0))))) ∧ lf_w (x5 + (lf_w ((lf_w ((s.1 16 x6) * (s.1 3 (s.1 17 x6)))) * (lf_w (x4 + y0))))) ≤ 2147483647 := lf_wB
    refine hR156 (show (7 - (x1 + 1)).toNat < MR from by omega) hI19 (show (0 : Int) ≤ x1 + 1 ∧ x1 + 1 ≤ (6 : Int) from by omega) (show (-2147483648 : Int) ≤ lf_and x2 (lf_xor (lf_shl 1 x6) (-1)) ∧ lf_and x2 (lf_xor (lf_shl 1 x6) (-1)) ≤ (2147483647 : Int) from by omega) (show (-2147483648 : Int) ≤ s.1 17 x6 ∧ s.1 17 x6 ≤ (2147483647 : Int) from by omega) (show (-2147483648 : Int) ≤ lf_w (x4 + y0) ∧ lf_w (x4 + y0) ≤ (2147483647 : Int) from by omega) (show (-2147483648 : Int) ≤ lf_w (x5 + (lf_w ((lf_w ((s.1 16 x6) * (s.1 3 (s.1 17 x6)))) * (lf_w (x4 + y0))))) ∧ lf_w (x5 + (lf_w ((lf_w ((s.1 16 x6) * (s.1 3 (s.1 17 x6)))) * (lf_w (x4 + y0))))) ≤ (2147483647 : Int) from by omega) (fun s29 hI26 fr25 => ?_)
    have fr28 : lf_fq [74, 76, 77] 1000000 true s.1 s.2.2 s29.1 s29.2.2 := lf_fq_tr fr20 (lf_fq_wk fr25 rfl (by decide) (by decide))
    exact sm_156_p167 (fun t9 i9 f9 => hQ t9 i9 (lf_fq_tr fr28 f9)) hR156 (fun p0 t9 i9 f9 => hX36 p0 t9 i9 (lf_fq_tr fr28 f9)) (show (4 - x6).toNat ≤ M36 from by omega) (show (7 - x1).toNat ≤ MR from by omega) hI26 (show (0 : Int) ≤ x1 ∧ x1 ≤ (5 : Int) from by omega) (show (-2147483648 : Int) ≤ x2 ∧ x2 ≤ (2147483647 : Int) from by omega) (show (-2147483648 : Int) ≤ x3 ∧ x3 ≤ (2147483647 : Int) from by omega) (show (-2147483648 : Int) ≤ x4 ∧ x4 ≤ (2147483647 : Int) from by omega) (show (-2147483648 : Int) ≤ x5 ∧ x5 ≤ (2147483647 : Int) from by omega) (show (0 : Int) ≤ x6 ∧ x6 ≤ (3 : Int) from by omega)
theorem sm_156_p36 {R156 : Int → Int → Int → Int → Int → (lf_Z → Prop) → lf_Z → Prop} {X36 : Int → lf_Z → Prop} {Q : lf_Z → Prop} {x1 : Int} {x2 : Int} {x3 : Int} {x4 : Int} {x5 : Int} {x6 : Int} {s : lf_Z} {MR : Nat} (hQ : ∀  (s' : lf_Z), iv_A s'.1 s'.2.2 → lf_fq [74, 76, 77] 1000000 true s.1 s.2.2 s'.1 s'.2.2 → Q  s') (hR156 : ∀ {a1 a2 a3 a4 a5 : Int} {Q : lf_Z → Prop} {s : lf_Z}, (7 - a1).toNat < MR → iv_A s.1 s.2.2 → 0 ≤ a1 ∧ a1 ≤ 6 → (-2147483648) ≤ a2 ∧ a2 ≤ 2147483647 → (-2147483648) ≤ a3 ∧ a3 ≤ 2147483647 → (-2147483648) ≤ a4 ∧ a4 ≤ 2147483647 → (-2147483648) ≤ a5 ∧ a5 ≤ 2147483647 → (∀  (s' : lf_Z), iv_A s'.1 s'.2.2 → lf_fq [74, 76, 77] 1000000 true s.1 s.2.2 s'.1 s'.2.2 → Q  s') → R156 a1 a2 a3 a4 a5 Q s) {M36 : Nat} (hX36 : ∀ (x6 : Int) (s' : lf_Z), iv_A s'.1 s'.2.2 → lf_fq [74, 76, 77] 1000000 true s.1 s.2.2 s'.1 s'.2.2 → 0 ≤ x6 ∧ x6 ≤ 4 → (4 - x6).toNat < M36 → X36 x6 s') (hM36 : (4 - x6).toNat ≤ M36) (hMR : (7 - x1).toNat ≤ MR) (hI : iv_A s.1 s.2.2) (bx1 : 0 ≤ x1 ∧ x1 ≤ 5) (bx2 : (-2147483648) ≤ x2 ∧ x2 ≤ 2147483647) (bx3 : (-2147483648) ≤ x3 ∧ x3 ≤ 2147483647) (bx4 : (-2147483648) ≤ x4 ∧ x4 ≤ 2147483647) (bx5 : (-2147483648) ≤ x5 ∧ x5 ≤ 2147483647) (bx6 : 0 ≤ x6 ∧ x6 ≤ 4) : fm_156_p36 R156 Q x1 x2 x3 x4 x5 X36 x6 s := by
  unfold fm_156_p36
  refine ⟨(show lf_R x6 from lf_Rof (by omega)), ?_⟩
  refine ⟨fun c5 => ?_, fun c5 => ?_⟩
  · skip
    replace c5 : 4 ≤ x6 := c5
    exact hQ s hI (lf_fq_rf)
  · skip
    replace c5 : ¬ (4 ≤ x6) := c5
    have b6 : (-2147483648) ≤ lf_shr x2 x6 ∧ lf_shr x2 x6 ≤ 2147483647 := lf_shrB
    have b7 : 0 ≤ lf_and (lf_shr x2 x6) 1 ∧ lf_and (lf_shr x2 x6) 1 ≤ 1 := lf_andB (by omega) (by omega)
    refine ⟨fun c8 => ?_, fun c8 => ?_⟩
    · skip
      replace c8 : lf_and (lf_shr x2 x6) 1 ≠ 1 := c8
      have b9 : (-1) ≤ s.1 17 x6 ∧ s.1 17 x6 ≤ 11 := iv_r17 hI _
      have b10 : s.1 16 x6 ≤ 0 ∨ 0 ≤ s.1 17 x6 := (by first | exact (show s.1 16 x6 ≤ 0 ∨ 0 ≤ s.1 17 x6 from iv_sp hI (by omega) (by omega)) | exact iv_sp hI (by omega) (by omega))
      exact sm_156_p78 hQ hR156 hX36 (show (4 - x6).toNat ≤ M36 from by omega) (show (7 - x1).toNat ≤ MR from by omega) hI (show (0 : Int) ≤ x1 ∧ x1 ≤ (5 : Int) from by omega) (show (-2147483648 : Int) ≤ x2 ∧ x2 ≤ (2147483647 : Int) from by omega) (show (-2147483648 : Int) ≤ x3 ∧ x3 ≤ (2147483647 : Int) from by omega) (show (-2147483648 : Int) ≤ x4 ∧ x4 ≤ (2147483647 : Int) from by omega) (show (-2147483648 : Int) ≤ x5 ∧ x5 ≤ (2147483647 : Int) from by omega) (show (0 : Int) ≤ x6 ∧ x6 ≤ (3 : Int) from by omega) (show (-1 : Int) ≤ (-1) ∧ (-1) ≤ (999 : Int) from by omega) (show (-1) = -1 ∨ 0 ≤ (s.1 17 x6) from by omega)
    · skip
      replace c8 : ¬ (lf_and (lf_shr x2 x6) 1 ≠ 1) := c8
      have b29 : (-2147483648) ≤ s.1 74 7 ∧ s.1 74 7 ≤ 2147483647 := iv_full hI
      refine ⟨(show (0 : Int) ≤ x6 ∧ x6 < (4 : Int) from by omega), ?_⟩
      have b30 : (-1) ≤ s.1 17 x6 ∧ s.1 17 x6 ≤ 11 := iv_r17 hI _
      have b31 : s.1 16 x6 ≤ 0 ∨ 0 ≤ s.1 17 x6 := (by first | exact (show s.1 16 x6 ≤ 0 ∨ 0 ≤ s.1 17 x6 from iv_sp hI (by omega) (by omega)) | exact iv_sp hI (by omega) (by omega))
      refine sm_135 hI (show (-2147483648 : Int) ≤ s.1 74 7 ∧ s.1 74 7 ≤ (2147483647 : Int) from by omega) (show (-2147483648 : Int) ≤ x3 ∧ x3 ≤ (2147483647 : Int) from by omega) (show (-2147483648 : Int) ≤ s.1 17 x6 ∧ s.1 17 x6 ≤ (2147483647 : Int) from by omega) (fun r32 q32 => ?_)
      obtain ⟨q32, q32x⟩ := q32
      have b33 : 0 ≤ s.1 1 0 ∧ s.1 1 0 ≤ 12 := iv_r1_0 hI
      replace q32x : r32 = -1 ∨ (0 ≤ x3 ∧ x3 < s.1 1 0 ∧ 0 ≤ (s.1 17 x6) ∧ (s.1 17 x6) < s.1 1 0) := q32x
      exact sm_156_p78 hQ hR156 hX36 (show (4 - x6).toNat ≤ M36 from by omega) (show (7 - x1).toNat ≤ MR from by omega) hI (show (0 : Int) ≤ x1 ∧ x1 ≤ (5 : Int) from by omega) (show (-2147483648 : Int) ≤ x2 ∧ x2 ≤ (2147483647 : Int) from by omega) (show (-2147483648 : Int) ≤ x3 ∧ x3 ≤ (2147483647 : Int) from by omega) (show (-2147483648 : Int) ≤ x4 ∧ x4 ≤ (2147483647 : Int) from by omega) (show (-2147483648 : Int) ≤ x5 ∧ x5 ≤ (2147483647 : Int) from by omega) (show (0 : Int) ≤ x6 ∧ x6 ≤ (3 : Int) from by omega) (show (-1 : Int) ≤ r32 ∧ r32 ≤ (999 : Int) from by omega) (show r32 = -1 ∨ 0 ≤ (s.1 17 x6) from by omega)
theorem sm_156_p36L {R156 : Int → Int → Int → Int → Int → (lf_Z → Prop) → lf_Z → Prop} {Q : lf_Z → Prop} {x1 : Int} {x2 : Int} {x3 : Int} {x4 : Int} {x5 : Int} {x6 : Int} {s : lf_Z} {MR : Nat} (hQ : ∀  (s' : lf_Z), iv_A s'.1 s'.2.2 → lf_fq [74, 76, 77] 1000000 true s.1 s.2.2 s'.1 s'.2.2 → Q  s') (hR156 : ∀ {a1 a2 a3 a4 a5 : Int} {Q : lf_Z → Prop} {s : lf_Z}, (7 - a1).toNat < MR → iv_A s.1 s.2.2 → 0 ≤ a1 ∧ a1 ≤ 6 → (-2147483648) ≤ a2 ∧ a2 ≤ 2147483647 → (-2147483648) ≤ a3 ∧ a3 ≤ 2147483647 → (-2147483648) ≤ a4 ∧ a4 ≤ 2147483647 → (-2147483648) ≤ a5 ∧ a5 ≤ 2147483647 → (∀  (s' : lf_Z), iv_A s'.1 s'.2.2 → lf_fq [74, 76, 77] 1000000 true s.1 s.2.2 s'.1 s'.2.2 → Q  s') → R156 a1 a2 a3 a4 a5 Q s) (hMR : (7 - x1).toNat ≤ MR) (hI : iv_A s.1 s.2.2) (bx1 : 0 ≤ x1 ∧ x1 ≤ 5) (bx2 : (-2147483648) ≤ x2 ∧ x2 ≤ 2147483647) (bx3 : (-2147483648) ≤ x3 ∧ x3 ≤ 2147483647) (bx4 : (-2147483648) ≤ x4 ∧ x4 ≤ 2147483647) (bx5 : (-2147483648) ≤ x5 ∧ x5 ≤ 2147483647) (bx6 : 0 ≤ x6 ∧ x6 ≤ 4) : fm_156_p36L R156 Q x1 x2 x3 x4 x5 x6 s := by
  intro X36 hX
  have key : ∀ (m9 : Nat) (x6 : Int) (s' : lf_Z), iv_A s'.1 s'.2.2 → lf_fq [74, 76, 77] 1000000 true s.1 s.2.2 s'.1 s'.2.2 → 0 ≤ x6 ∧ x6 ≤ 4 → (4 - x6).toNat < m9 → X36 x6 s' := by
    intro m9
    induction m9 with
    | zero => intro x6 s' _ _ bx6 h9; exact absurd h9 (Nat.not_lt_zero _)
    | succ m9 ih => intro x6 s' i7 f7 bx6 h9; exact hX _ _ (sm_156_p36 (fun t9 i9 f9 => hQ t9 i9 (lf_fq_tr f7 f9)) hR156  (fun x6' t8 i8 f8 bx6' h8 => ih x6' t8 i8 (lf_fq_tr f7 f8) bx6' (by omega)) (Nat.le_refl _) hMR i7  bx1 bx2 bx3 bx4 bx5 bx6  )
  exact key _ _ s hI lf_fq_rf bx6 (Nat.lt_succ_self _)
theorem sm_156_p18 {R156 : Int → Int → Int → Int → Int → (lf_Z → Prop) → lf_Z → Prop} {Q : lf_Z → Prop} {x1 : Int} {x2 : Int} {x3 : Int} {x4 : Int} {x5 : Int} {s : lf_Z} {MR : Nat} (hQ : ∀  (s' : lf_Z), iv_A s'.1 s'.2.2 → lf_fq [74, 76, 77] 1000000 true s.1 s.2.2 s'.1 s'.2.2 → Q  s') (hR156 : ∀ {a1 a2 a3 a4 a5 : Int} {Q : lf_Z → Prop} {s : lf_Z}, (7 - a1).toNat < MR → iv_A s.1 s.2.2 → 0 ≤ a1 ∧ a1 ≤ 6 → (-2147483648) ≤ a2 ∧ a2 ≤ 2147483647 → (-2147483648) ≤ a3 ∧ a3 ≤ 2147483647 → (-2147483648) ≤ a4 ∧ a4 ≤ 2147483647 → (-2147483648) ≤ a5 ∧ a5 ≤ 2147483647 → (∀  (s' : lf_Z), iv_A s'.1 s'.2.2 → lf_fq [74, 76, 77] 1000000 true s.1 s.2.2 s'.1 s'.2.2 → Q  s') → R156 a1 a2 a3 a4 a5 Q s) (hMR : (7 - x1).toNat ≤ MR) (hI : iv_A s.1 s.2.2) (bx1 : 0 ≤ x1 ∧ x1 ≤ 6) (bx2 : (-2147483648) ≤ x2 ∧ x2 ≤ 2147483647) (bx3 : (-2147483648) ≤ x3 ∧ x3 ≤ 2147483647) (bx4 : (-2147483648) ≤ x4 ∧ x4 ≤ 2147483647) (bx5 : (-2147483648) ≤ x5 ∧ x5 ≤ 2147483647) : fm_156_p18 R156 Q x1 x2 x3 x4 x5 s := by
  unfold fm_156_p18
  have b3 : 0 ≤ s.1 74 5 ∧ s.1 74 5 ≤ 6 := iv_r74_5 hI
  refine ⟨(show lf_R x1 from lf_Rof (by omega)), ?_⟩
  refine ⟨(show lf_R (s.1 74 5) from lf_Rof (by omega)), ?_⟩
  refine ⟨fun c4 => ?_, fun c4 => ?_⟩
  · skip
    replace c4 : x1 < s.1 74 5 := c4
    exact sm_156_p36L hQ hR156 (show (7 - x1).toNat ≤ MR from by omega) hI (show (0 : Int) ≤ x1 ∧ x1 ≤ (5 : Int) from by omega) (show (-2147483648 : Int) ≤ x2 ∧ x2 ≤ (2147483647 : Int) from by omega) (show (-2147483648 : Int) ≤ x3 ∧ x3 ≤ (2147483647 : Int) from by omega) (show (-2147483648 : Int) ≤ x4 ∧ x4 ≤ (2147483647 : Int) from by omega) (show (-2147483648 : Int) ≤ x5 ∧ x5 ≤ (2147483647 : Int) from by omega) (show (0 : Int) ≤ 0 ∧ 0 ≤ (4 : Int) from by omega)
  · skip
    replace c4 : ¬ (x1 < s.1 74 5) := c4
    refine sm_140 hI (show (-2147483648 : Int) ≤ x5 ∧ x5 ≤ (2147483647 : Int) from by omega) (fun s33 hI35 fr34 => ?_)
    have fr37 : lf_fq [74, 76, 77] 1000000 true s.1 s.2.2 s33.1 s33.2.2 := lf_fq_tr (lf_fq_rf) (lf_fq_wk fr34 rfl (by decide) (by decide))
    exact hQ s33 hI35 fr37
theorem sm_156 {R156 : Int → Int → Int → Int → Int → (lf_Z → Prop) → lf_Z → Prop} {a1 : Int} {a2 : Int} {a3 : Int} {a4 : Int} {a5 : Int} {Q : lf_Z → Prop} {s : lf_Z} {MR : Nat} (hR156 : ∀ {a1 a2 a3 a4 a5 : Int} {Q : lf_Z → Prop} {s : lf_Z}, (7 - a1).toNat < MR → iv_A s.1 s.2.2 → 0 ≤ a1 ∧ a1 ≤ 6 → (-2147483648) ≤ a2 ∧ a2 ≤ 2147483647 → (-2147483648) ≤ a3 ∧ a3 ≤ 2147483647 → (-2147483648) ≤ a4 ∧ a4 ≤ 2147483647 → (-2147483648) ≤ a5 ∧ a5 ≤ 2147483647 → (∀  (s' : lf_Z), iv_A s'.1 s'.2.2 → lf_fq [74, 76, 77] 1000000 true s.1 s.2.2 s'.1 s'.2.2 → Q  s') → R156 a1 a2 a3 a4 a5 Q s) (hMR : (7 - a1).toNat ≤ MR) (hI : iv_A s.1 s.2.2) (ba1 : 0 ≤ a1 ∧ a1 ≤ 6) (ba2 : (-2147483648) ≤ a2 ∧ a2 ≤ 2147483647) (ba3 : (-2147483648) ≤ a3 ∧ a3 ≤ 2147483647) (ba4 : (-2147483648) ≤ a4 ∧ a4 ≤ 2147483647) (ba5 : (-2147483648) ≤ a5 ∧ a5 ≤ 2147483647) (hQ : ∀  (s' : lf_Z), iv_A s'.1 s'.2.2 → lf_fq [74, 76, 77] 1000000 true s.1 s.2.2 s'.1 s'.2.2 → Q  s') : fm_156 R156 a1 a2 a3 a4 a5 Q s := by
  unfold fm_156
  have b1 : (-2147483648) ≤ s.1 74 6 ∧ s.1 74 6 ≤ 2147483647 := iv_full hI
  refine ⟨(show lf_R (s.1 74 6) from lf_Rof (by omega)), ?_⟩
  refine ⟨fun c2 => ?_, fun c2 => ?_⟩
  · skip
    replace c2 : s.1 74 6 = (-1) := c2
    exact sm_156_p18 hQ hR156 (show (7 - a1).toNat ≤ MR from by omega) hI (show (0 : Int) ≤ a1 ∧ a1 ≤ (6 : Int) from by omega) (show (-2147483648 : Int) ≤ a2 ∧ a2 ≤ (2147483647 : Int) from by omega) (show (-2147483648 : Int) ≤ a3 ∧ a3 ≤ (2147483647 : Int) from by omega) (show (-2147483648 : Int) ≤ a4 ∧ a4 ≤ (2147483647 : Int) from by omega) (show (-2147483648 : Int) ≤ a5 ∧ a5 ≤ (2147483647 : Int) from by omega)
  · skip
    replace c2 : ¬ (s.1 74 6 = (-1)) := c2
    refine ⟨(show lf_R a5 from lf_Rof (by omega)), ?_⟩
    refine ⟨fun c38 => ?_, fun c38 => ?_⟩
    · skip
      replace c38 : a5 < s.1 74 6 := c38
      exact sm_156_p18 hQ hR156 (show (7 - a1).toNat ≤ MR from by omega) hI (show (0 : Int) ≤ a1 ∧ a1 ≤ (6 : Int) from by omega) (show (-2147483648 : Int) ≤ a2 ∧ a2 ≤ (2147483647 : Int) from by omega) (show (-2147483648 : Int) ≤ a3 ∧ a3 ≤ (2147483647 : Int) from by omega) (show (-2147483648 : Int) ≤ a4 ∧ a4 ≤ (2147483647 : Int) from by omega) (show (-2147483648 : Int) ≤ a5 ∧ a5 ≤ (2147483647 : Int) from by omega)
    · skip
      replace c38 : ¬ (a5 < s.1 74 6) := c38
      exact hQ s hI (lf_fq_rf)
