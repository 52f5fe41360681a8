-- fm_145 ElevenBullocks.seen 0 i i
theorem sm_145 {a1 : Int} {a2 : Int} {Q : Int → lf_Z → Prop} {s : lf_Z} (hI : iv_A s.1 s.2.2) (ba1 : (-2147483648) ≤ a1 ∧ a1 ≤ 2147483647) (ba2 : (-2147483648) ≤ a2 ∧ a2 ≤ 2147483647) (hQ : ∀ (r : Int) (s' : lf_Z), iv_A s'.1 s'.2.2 → lf_fq [25, 26, 27] 1000000 true s.1 s.2.2 s'.1 s'.2.2 → ((-2) ≤ r ∧ r ≤ 6) → Q r s') : fm_145 a1 a2 Q s := by
  unfold fm_145
  refine ⟨(show lf_R a1 from lf_Rof (by omega)), ?_⟩
  refine ⟨fun c1 => ?_, fun c1 => ?_⟩
  · skip
    replace c1 : a1 ≠ (-1) := c1
    refine sm_18 hI (show (-2147483648 : Int) ≤ a1 ∧ a1 ≤ (2147483647 : Int) from by omega) (fun z23 q2 => ?_)
    have b3 : 0 ≤ s.1 1 0 ∧ s.1 1 0 ≤ 12 := iv_r1_0 hI
    refine ⟨fun c4 => ?_, fun c4 => ?_⟩
    · skip
      have dc4 := q2.2 c4
      exact hQ (-2) s hI (lf_fq_rf) (show (-2 : Int) ≤ (-2) ∧ (-2) ≤ (6 : Int) from by omega)
    · skip
      have dc4 := q2.1 c4
      refine sm_15 hI (show (-2147483648 : Int) ≤ a2 ∧ a2 ≤ (2147483647 : Int) from by omega) (show (-1 : Int) ≤ 0 ∧ 0 ≤ (99 : Int) from by omega) (show (-2147483648 : Int) ≤ 60 ∧ 60 ≤ (2147483647 : Int) from by omega) (fun z25 q5 => ?_)
      refine ⟨fun c6 => ?_, fun c6 => ?_⟩
      · skip
        have dc6 := q5.1 c6
        refine sm_146 hI (show (0 : Int) ≤ a1 ∧ a1 ≤ (11 : Int) from by omega) (show (0 : Int) ≤ a2 ∧ a2 ≤ (60 : Int) from by omega) (fun r27 s26 hI8 fr7 q9 => ?_)
        have fr10 : lf_fq [25, 26, 27] 1000000 true s.1 s.2.2 s26.1 s26.2.2 := lf_fq_tr (lf_fq_rf) (lf_fq_wk fr7 rfl (by decide) (by decide))
        exact hQ r27 s26 hI8 fr10 (show (-2 : Int) ≤ r27 ∧ r27 ≤ (6 : Int) from by omega)
      · skip
        have dc6 := q5.2 c6
        exact hQ (-2) s hI (lf_fq_rf) (show (-2 : Int) ≤ (-2) ∧ (-2) ≤ (6 : Int) from by omega)
  · skip
    replace c1 : ¬ (a1 ≠ (-1)) := c1
    have hI11 : iv_A (lf_up s.1 25 2 0) s.2.2 := iv_w25_2 hI (by omega)
    have fr12 : lf_fq [25, 26, 27] 1000000 true s.1 s.2.2 (lf_up s.1 25 2 0) s.2.2 := lf_fq_up (lf_fq_rf) rfl (fun h => absurd h (by decide))
    exact hQ 0 (lf_up s.1 25 2 0, s.2.1, s.2.2) hI11 fr12 (show (-2 : Int) ≤ 0 ∧ 0 ≤ (6 : Int) from by omega)
-- fm_305 Model.seen 95 i i
theorem sm_305 {a1 : Int} {a2 : Int} {Q : Int → lf_Z → Prop} {s : lf_Z} (hI : iv_A s.1 s.2.2) (ba1 : (-2147483648) ≤ a1 ∧ a1 ≤ 2147483647) (ba2 : (-2147483648) ≤ a2 ∧ a2 ≤ 2147483647) (hQ : ∀ (r : Int) (s' : lf_Z), iv_A s'.1 s'.2.2 → lf_fq [96, 1001] 10 true s.1 s.2.2 s'.1 s'.2.2 → ((-2) ≤ r ∧ r ≤ 6) → Q r s') : fm_305 a1 a2 Q s := by
  unfold fm_305
  refine ⟨(show lf_R a1 from lf_Rof (by omega)), ?_⟩
  refine ⟨fun c1 => ?_, fun c1 => ?_⟩
  · skip
    replace c1 : a1 ≠ (-1) := c1
    refine sm_185 hI (show (-2147483648 : Int) ≤ a1 ∧ a1 ≤ (2147483647 : Int) from by omega) (fun z23 q2 => ?_)
    have b3 : 0 ≤ s.1 96 0 ∧ s.1 96 0 ≤ 12 := iv_rd96 hI (iv_f3e1fa21c (by omega))
    refine ⟨fun c4 => ?_, fun c4 => ?_⟩
    · skip
      have dc4 := q2.2 c4
      exact hQ (-2) s hI (lf_fq_rf) (show (-2 : Int) ≤ (-2) ∧ (-2) ≤ (6 : Int) from by omega)
    · skip
      have dc4 := q2.1 c4
      refine sm_183 hI (show (-2147483648 : Int) ≤ a2 ∧ a2 ≤ (2147483647 : Int) from by omega) (show (-1 : Int) ≤ 0 ∧ 0 ≤ (97 : Int) from by omega) (show (-1 : Int) ≤ 60 ∧ 60 ≤ (9999 : Int) from by omega) (fun z25 q5 => ?_)
      refine ⟨fun c6 => ?_, fun c6 => ?_⟩
      · skip
        have dc6 := q5.2 c6
        exact hQ (-2) s hI (lf_fq_rf) (show (-2 : Int) ≤ (-2) ∧ (-2) ≤ (6 : Int) from by omega)
      · skip
        have dc6 := q5.1 c6
        have b7 : 0 ≤ s.1 96 10 ∧ s.1 96 10 ≤ 6 := iv_rd96 hI (iv_f2f8ad25f (by omega))
        refine ⟨(show lf_R (s.1 96 10) from lf_Rof (by omega)), ?_⟩
        refine ⟨fun c8 => ?_, fun c8 => ?_⟩
        · skip
          replace c8 : s.1 96 10 ≠ 6 := c8
          refine ⟨(show (0 : Int) ≤ 162 + (2 * (s.1 96 10)) ∧ 162 + (2 * (s.1 96 10)) < (1538 : Int) from by omega), ?_⟩
          have hI9 : iv_A (lf_up s.1 96 (162 + (2 * (s.1 96 10))) a1) s.2.2 := iv_wd96 hI (lf_le2 (iv_fe7a41342 (s.1 96 10) (by omega) (by omega)) (by omega)) (fun h => absurd h (by omega))
          have fr10 : lf_fq [96, 1001] 10 true s.1 s.2.2 (lf_up s.1 96 (162 + (2 * (s.1 96 10))) a1) s.2.2 := lf_fq_up (lf_fq_rf) rfl (fun _ => ⟨by omega, fr_o (Or.inr (fr_n0 (by omega))) (Or.inl rfl) (Or.inr (fr_n2 (by omega))) (Or.inr (fr_n3 (by omega))) (Or.inr (fr_n4 (by omega))) (Or.inr (fr_n5 (by omega))) (Or.inr (fr_n6 (by omega)))⟩)
          have b11 : 0 ≤ (lf_up s.1 96 (162 + (2 * (s.1 96 10))) a1) 96 10 ∧ (lf_up s.1 96 (162 + (2 * (s.1 96 10))) a1) 96 10 ≤ 6 := iv_rd96 hI9 (iv_f2f8ad25f (by omega))
          have b12 : (lf_up s.1 96 (162 + (2 * (s.1 96 10))) a1) 96 10 = s.1 96 10 := lf_up_i (by omega)
          refine ⟨(show (0 : Int) ≤ (162 + (2 * ((lf_up s.1 96 (162 + (2 * (s.1 96 10))) a1) 96 10))) + 1 ∧ (162 + (2 * ((lf_up s.1 96 (162 + (2 * (s.1 96 10))) a1) 96 10))) + 1 < (1538 : Int) from by omega), ?_⟩
          have hI13 : iv_A (lf_up (lf_up s.1 96 (162 + (2 * (s.1 96 10))) a1) 96 ((162 + (2 * ((lf_up s.1 96 (162 + (2 * (s.1 96 10))) a1) 96 10))) + 1) a2) s.2.2 := iv_wd96 hI9 (lf_le2 (iv_fcdead904 ((lf_up s.1 96 (162 + (2 * (s.1 96 10))) a1) 96 10) (by omega) (by omega)) (by omega)) (fun h => absurd h (by omega))
          have fr14 : lf_fq [96, 1001] 10 true s.1 s.2.2 (lf_up (lf_up s.1 96 (162 + (2 * (s.1 96 10))) a1) 96 ((162 + (2 * ((lf_up s.1 96 (162 + (2 * (s.1 96 10))) a1) 96 10))) + 1) a2) s.2.2 := lf_fq_up fr10 rfl (fun _ => ⟨by omega, fr_o (Or.inr (fr_n0 (by omega))) (Or.inl rfl) (Or.inr (fr_n2 (by omega))) (Or.inr (fr_n3 (by omega))) (Or.inr (fr_n4 (by omega))) (Or.inr (fr_n5 (by omega))) (Or.inr (fr_n6 (by omega)))⟩)
          have b15 : 0 ≤ (lf_up (lf_up s.1 96 (162 + (2 * (s.1 96 10))) a1) 96 ((162 + (2 * ((lf_up s.1 96 (162 + (2 * (s.1 96 10))) a1) 96 10))) + 1) a2) 96 10 ∧ (lf_up (lf_up s.1 96 (162 + (2 * (s.1 96 10))) a1) 96 ((162 + (2 * ((lf_up s.1 96 (162 + (2 * (s.1 96 10))) a1) 96 10))) + 1) a2) 96 10 ≤ 6 := iv_rd96 hI13 (iv_f2f8ad25f (by omega))
          have b16 : (lf_up (lf_up s.1 96 (162 + (2 * (s.1 96 10))) a1) 96 ((162 + (2 * ((lf_up s.1 96 (162 + (2 * (s.1 96 10))) a1) 96 10))) + 1) a2) 96 10 = (lf_up s.1 96 (162 + (2 * (s.1 96 10))) a1) 96 10 := lf_up_i (by omega)
          have hI17 : iv_A (lf_up (lf_up (lf_up s.1 96 (162 + (2 * (s.1 96 10))) a1) 96 ((162 + (2 * ((lf_up s.1 96 (162 + (2 * (s.1 96 10))) a1) 96 10))) + 1) a2) 96 10 (((lf_up (lf_up s.1 96 (162 + (2 * (s.1 96 10))) a1) 96 ((162 + (2 * ((lf_up s.1 96 (162 + (2 * (s.1 96 10))) a1) 96 10))) + 1) a2) 96 10) + 1)) s.2.2 := iv_wd96 hI13 (lf_le2 (iv_f38c39aa3 (by omega)) (by omega)) (fun h => absurd h (by omega))
          have fr18 : lf_fq [96, 1001] 10 true s.1 s.2.2 (lf_up (lf_up (lf_up s.1 96 (162 + (2 * (s.1 96 10))) a1) 96 ((162 + (2 * ((lf_up s.1 96 (162 + (2 * (s.1 96 10))) a1) 96 10))) + 1) a2) 96 10 (((lf_up (lf_up s.1 96 (162 + (2 * (s.1 96 10))) a1) 96 ((162 + (2 * ((lf_up s.1 96 (162 + (2 * (s.1 96 10))) a1) 96 10))) + 1) a2) 96 10) + 1)) s.2.2 := lf_fq_up fr14 rfl (fun _ => ⟨by omega, fr_o (Or.inr (fr_n0 (by omega))) (Or.inl rfl) (Or.inr (fr_n2 (by omega))) (Or.inr (fr_n3 (by omega))) (Or.inr (fr_n4 (by omega))) (Or.inr (fr_n5 (by omega))) (Or.inr (fr_n6 (by omega)))⟩)
          exact hQ (((lf_up (lf_up s.1 96 (162 + (2 * (s.1 96 10))) a1) 96 ((162 + (2 * ((lf_up s.1 96 (162 + (2 * (s.1 96 10))) a1) 96 10))) + 1) a2) 96 10) + 1) (lf_up (lf_up (lf_up s.1 96 (162 + (2 * (s.1 96 10))) a1) 96 ((162 + (2 * ((lf_up s.1 96 (162 + (2 * (s.1 96 10))) a1) 96 10))) + 1) a2) 96 10 (((lf_up (lf_up s.1 96 (162 + (2 * (s.1 96 10))) a1) 96 ((162 + (2 * ((lf_up s.1 96 (162 + (2 * (s.1 96 10))) a1) 96 10))) + 1) a2) 96 10) + 1), s.2.1, s.2.2) hI17 fr18 (show (-2 : Int) ≤ ((lf_up (lf_up s.1 96 (162 + (2 * (s.1 96 10))) a1) 96 ((162 + (2 * ((lf_up s.1 96 (162 + (2 * (s.1 96 10))) a1) 96 10))) + 1) a2) 96 10) + 1 ∧ ((lf_up (lf_up s.1 96 (162 + (2 * (s.1 96 10))) a1) 96 ((162 + (2 * ((lf_up s.1 96 (162 + (2 * (s.1 96 10))) a1) 96 10))) + 1) a2) 96 10) + 1 ≤ (6 : Int) from by omega)
        · skip
          replace c8 : ¬ (s.1 96 10 ≠ 6) := c8
          exact hQ (-2) s hI (lf_fq_rf) (show (-2 : Int) ≤ (-2) ∧ (-2) ≤ (6 : Int) from by omega)
  · skip
    replace c1 : ¬ (a1 ≠ (-1)) := c1
    have hI19 : iv_A (lf_up s.1 96 10 0) s.2.2 := iv_wd96 hI (lf_le2 (iv_f38c39aa3 (by omega)) (by omega)) (fun h => absurd h (by omega))
    have fr20 : lf_fq [96, 1001] 10 true s.1 s.2.2 (lf_up s.1 96 10 0) s.2.2 := lf_fq_up (lf_fq_rf) rfl (fun _ => ⟨by omega, fr_o (Or.inr (fr_n0 (by omega))) (Or.inl rfl) (Or.inr (fr_n2 (by omega))) (Or.inr (fr_n3 (by omega))) (Or.inr (fr_n4 (by omega))) (Or.inr (fr_n5 (by omega))) (Or.inr (fr_n6 (by omega)))⟩)
    exact hQ 0 (lf_up s.1 96 10 0, s.2.1, s.2.2) hI19 fr20 (show (-2 : Int) ≤ 0 ∧ 0 ≤ (6 : Int) from by omega)
-- fm_2 Land.setApart 14
theorem sm_2_p9 {X9 : Int → lf_Z → Prop} {Q : lf_Z → Prop} {x1 : Int} {s : lf_Z} (hQ : ∀  (s' : lf_Z), iv_A s'.1 s'.2.2 → lf_fq [14] 1000000 true s.1 s.2.2 s'.1 s'.2.2 → Q  s') {M9 : Nat} (hX9 : ∀ (x1 : Int) (s' : lf_Z), iv_A s'.1 s'.2.2 → lf_fq [14] 1000000 true s.1 s.2.2 s'.1 s'.2.2 → 0 ≤ x1 ∧ x1 ≤ 12 → (12 - x1).toNat < M9 → X9 x1 s') (hM9 : (12 - x1).toNat ≤ M9) (hI : iv_A s.1 s.2.2) (bx1 : 0 ≤ x1 ∧ x1 ≤ 12) : fm_2_p9 Q X9 x1 s := by
  unfold fm_2_p9
  refine ⟨(show lf_R x1 from lf_Rof (by omega)), ?_⟩
  refine ⟨fun c3 => ?_, fun c3 => ?_⟩
  · skip
    replace c3 : 12 ≤ x1 := c3
    exact hQ s hI (lf_fq_rf)
  · skip
    replace c3 : ¬ (12 ≤ x1) := c3
    refine ⟨(show (0 : Int) ≤ (x1 * 12) + x1 ∧ (x1 * 12) + x1 < (144 : Int) from by omega), ?_⟩
    have hI4 : iv_A (lf_up s.1 14 ((x1 * 12) + x1) 0) s.2.2 := iv_w14 hI (by omega)
    have fr5 : lf_fq [14] 1000000 true s.1 s.2.2 (lf_up s.1 14 ((x1 * 12) + x1) 0) s.2.2 := lf_fq_up (lf_fq_rf) rfl (fun h => absurd h (by decide))
    exact hX9 (x1 + 1) (lf_up s.1 14 ((x1 * 12) + x1) 0, s.2.1, s.2.2) hI4 fr5 (show (0 : Int) ≤ x1 + 1 ∧ x1 + 1 ≤ (12 : Int) from by omega) (show (12 - (x1 + 1)).toNat < M9 from by omega)
theorem sm_2_p9L {Q : lf_Z → Prop} {x1 : Int} {s : lf_Z} (hQ : ∀  (s' : lf_Z), iv_A s'.1 s'.2.2 → lf_fq [14] 1000000 true s.1 s.2.2 s'.1 s'.2.2 → Q  s') (hI : iv_A s.1 s.2.2) (bx1 : 0 ≤ x1 ∧ x1 ≤ 12) : fm_2_p9L Q x1 s := by
  intro X9 hX
  have key : ∀ (m9 : Nat) (x1 : Int) (s' : lf_Z), iv_A s'.1 s'.2.2 → lf_fq [14] 1000000 true s.1 s.2.2 s'.1 s'.2.2 → 0 ≤ x1 ∧ x1 ≤ 12 → (12 - x1).toNat < m9 → X9 x1 s' := by
    intro m9
    induction m9 with
    | zero => intro x1 s' _ _ bx1 h9; exact absurd h9 (Nat.not_lt_zero _)
    | succ m9 ih => intro x1 s' i7 f7 bx1 h9; exact hX _ _ (sm_2_p9 (fun t9 i9 f9 => hQ t9 i9 (lf_fq_tr f7 f9))   (fun x1' t8 i8 f8 bx1' h8 => ih x1' t8 i8 (lf_fq_tr f7 f8) bx1' (by omega)) (Nat.le_refl _)  i7  bx1  )
  exact key _ _ s hI lf_fq_rf bx1 (Nat.lt_succ_self _)
theorem sm_2 {Q : lf_Z → Prop} {s : lf_Z} (hI : iv_A s.1 s.2.2) (hQ : ∀  (s' : lf_Z), iv_A s'.1 s'.2.2 → lf_fq [14] 1000000 true s.1 s.2.2 s'.1 s'.2.2 → Q  s') : fm_2 Q s := by
  unfold fm_2
  have hI1 : iv_A (lf_fl s.1 14 144 1000) s.2.2 := iv_fl14 hI (by omega)
  have fr2 : lf_fq [14] 1000000 true s.1 s.2.2 (lf_fl s.1 14 144 1000) s.2.2 := lf_fq_fl (lf_fq_rf) rfl (by decide)
  exact sm_2_p9L (fun t9 i9 f9 => hQ t9 i9 (lf_fq_tr fr2 f9)) hI1 (show (0 : Int) ≤ 0 ∧ 0 ≤ (12 : Int) from by omega)
-- fm_22b Land.bringNear 1 14 i i
theorem sm_22b_p22 {X3 : Int → lf_Z → Prop} {X22 : Int → lf_Z → Prop} {Q : lf_Z → Prop} {x2 : Int} {x3 : Int} {x4 : Int} {x5 : Int} {x6 : Int} {s : lf_Z} (hQ : ∀  (s' : lf_Z), iv_A s'.1 s'.2.2 → lf_fq [14] 1000000 true s.1 s.2.2 s'.1 s'.2.2 → Q  s') {M3 : Nat} (hX3 : ∀ (x4 : Int) (s' : lf_Z), iv_A s'.1 s'.2.2 → lf_fq [14] 1000000 true s.1 s.2.2 s'.1 s'.2.2 → 0 ≤ x4 ∧ x4 ≤ 12 → (12 - x4).toNat < M3 → X3 x4 s') (hM3 : (12 - x4).toNat ≤ M3) {M22 : Nat} (hX22 : ∀ (x6 : Int) (s' : lf_Z), iv_A s'.1 s'.2.2 → lf_fq [14] 1000000 true s.1 s.2.2 s'.1 s'.2.2 → 0 ≤ x6 ∧ x6 ≤ 12 → (12 - x6).toNat < M22 → X22 x6 s') (hM22 : (12 - x6).toNat ≤ M22) (hI : iv_A s.1 s.2.2) (bx2 : 0 ≤ x2 ∧ x2 ≤ 11) (bx3 : 0 ≤ x3 ∧ x3 ≤ 11) (bx4 : 0 ≤ x4 ∧ x4 ≤ 11) (bx5 : 0 ≤ x5 ∧ x5 ≤ 132) (bx6 : 0 ≤ x6 ∧ x6 ≤ 12) : fm_22b_p22 X3 Q x2 x3 x4 x5 X22 x6 s := by
  unfold fm_22b_p22
  have b3 : 0 ≤ s.1 1 0 ∧ s.1 1 0 ≤ 12 := iv_r1_0 hI
  refine ⟨(show lf_R x6 from lf_Rof (by omega)), ?_⟩
  refine ⟨(show lf_R (s.1 1 0) from lf_Rof (by omega)), ?_⟩
  refine ⟨fun c4 => ?_, fun c4 => ?_⟩
  · skip
    replace c4 : s.1 1 0 ≤ x6 := c4
    exact hX3 (x4 + 1) s hI (lf_fq_rf) (show (0 : Int) ≤ x4 + 1 ∧ x4 + 1 ≤ (12 : Int) from by omega) (show (12 - (x4 + 1)).toNat < M3 from by omega)
  · skip
    replace c4 : ¬ (s.1 1 0 ≤ x6) := c4
    refine ⟨(show (0 : Int) ≤ x5 + x2 ∧ x5 + x2 < (144 : Int) from by omega), ?_⟩
    have b5 : 0 ≤ s.1 14 (x5 + x2) ∧ s.1 14 (x5 + x2) ≤ 1000 := iv_r14 hI _
    refine ⟨(show (0 : Int) ≤ (x3 * 12) + x6 ∧ (x3 * 12) + x6 < (144 : Int) from by omega), ?_⟩
    have b6 : 0 ≤ s.1 14 ((x3 * 12) + x6) ∧ s.1 14 ((x3 * 12) + x6) ≤ 1000 := iv_r14 hI _
    refine ⟨(show (0 : Int) ≤ x5 + x3 ∧ x5 + x3 < (144 : Int) from by omega), ?_⟩
    have b7 : 0 ≤ s.1 14 (x5 + x3) ∧ s.1 14 (x5 + x3) ≤ 1000 := iv_r14 hI _
    refine ⟨(show (0 : Int) ≤ (x2 * 12) + x6 ∧ (x2 * 12) + x6 < (144 : Int) from by omega), ?_⟩
    have b8 : 0 ≤ s.1 14 ((x2 * 12) + x6) ∧ s.1 14 ((x2 * 12) + x6) ≤ 1000 := iv_r14 hI _
    refine ⟨(show (0 : Int) ≤ x5 + x6 ∧ x5 + x6 < (144 : Int) from by omega), ?_⟩
    have b9 : 0 ≤ s.1 14 (x5 + x6) ∧ s.1 14 (x5 + x6) ≤ 1000 := iv_r14 hI _
    refine ⟨(show lf_R (((s.1 14 (x5 + x2)) + 1) + (s.1 14 ((x3 * 12) + x6))) from lf_Rof (by omega)), ?_⟩
    refine ⟨(show lf_R (((s.1 14 (x5 + x3)) + 1) + (s.1 14 ((x2 * 12) + x6))) from lf_Rof (by omega)), ?_⟩
    refine ⟨(show lf_R (s.1 14 (x5 + x6)) from lf_Rof (by omega)), ?_⟩
    refine ⟨(show lf_R (min (((s.1 14 (x5 + x2)) + 1) + (s.1 14 ((x3 * 12) + x6))) (((s.1 14 (x5 + x3)) + 1) + (s.1 14 ((x2 * 12) + x6)))) from lf_Rof (by omega)), ?_⟩
    have hI10 : iv_A (lf_up s.1 14 (x5 + x6) (min (s.1 14 (x5 + x6)) (min (((s.1 14 (x5 + x2)) + 1) + (s.1 14 ((x3 * 12) + x6))) (((s.1 14 (x5 + x3)) + 1) + (s.1 14 ((x2 * 12) + x6)))))) s.2.2 := iv_w14 hI (by omega)
    have fr11 : lf_fq [14] 1000000 true s.1 s.2.2 (lf_up s.1 14 (x5 + x6) (min (s.1 14 (x5 + x6)) (min (((s.1 14 (x5 + x2)) + 1) + (s.1 14 ((x3 * 12) + x6))) (((s.1 14 (x5 + x3)) + 1) + (s.1 14 ((x2 * 12) + x6)))))) s.2.2 := lf_fq_up (lf_fq_rf) rfl (fun h => absurd h (by decide))
    exact hX22 (x6 + 1) (lf_up s.1 14 (x5 + x6) (min (s.1 14 (x5 + x6)) (min (((s.1 14 (x5 + x2)) + 1) + (s.1 14 ((x3 * 12) + x6))) (((s.1 14 (x5 + x3)) + 1) + (s.1 14 ((x2 * 12) + x6))))), s.2.1, s.2.2) hI10 fr11 (show (0 : Int) ≤ x6 + 1 ∧ x6 + 1 ≤ (12 : Int) from by omega) (show (12 - (x6 + 1)).toNat < M22 from by omega)
theorem sm_22b_p22L {X3 : Int → lf_Z → Prop} {Q : lf_Z → Prop} {x2 : Int} {x3 : Int} {x4 : Int} {x5 : Int} {x6 : Int} {s : lf_Z} (hQ : ∀  (s' : lf_Z), iv_A s'.1 s'.2.2 → lf_fq [14] 1000000 true s.1 s.2.2 s'.1 s'.2.2 → Q  s') {M3 : Nat} (hX3 : ∀ (x4 : Int) (s' : lf_Z), iv_A s'.1 s'.2.2 → lf_fq [14] 1000000 true s.1 s.2.2 s'.1 s'.2.2 → 0 ≤ x4 ∧ x4 ≤ 12 → (12 - x4).toNat < M3 → X3 x4 s') (hM3 : (12 - x4).toNat ≤ M3) (hI : iv_A s.1 s.2.2) (bx2 : 0 ≤ x2 ∧ x2 ≤ 11) (bx3 : 0 ≤ x3 ∧ x3 ≤ 11) (bx4 : 0 ≤ x4 ∧ x4 ≤ 11) (bx5 : 0 ≤ x5 ∧ x5 ≤ 132) (bx6 : 0 ≤ x6 ∧ x6 ≤ 12) : fm_22b_p22L X3 Q x2 x3 x4 x5 x6 s := by
  intro X22 hX
  have key : ∀ (m9 : Nat) (x6 : Int) (s' : lf_Z), iv_A s'.1 s'.2.2 → lf_fq [14] 1000000 true s.1 s.2.2 s'.1 s'.2.2 → 0 ≤ x6 ∧ x6 ≤ 12 → (12 - x6).toNat < m9 → X22 x6 s' := by
    intro m9
    induction m9 with
    | zero => intro x6 s' _ _ bx6 h9; exact absurd h9 (Nat.not_lt_zero _)
    | succ m9 ih => intro x6 s' i7 f7 bx6 h9; exact hX _ _ (sm_22b_p22 (fun t9 i9 f9 => hQ t9 i9 (lf_fq_tr f7 f9))  (fun p0 t9 i9 f9 => hX3 p0 t9 i9 (lf_fq_tr f7 f9)) hM3 (fun x6' t8 i8 f8 bx6' h8 => ih x6' t8 i8 (lf_fq_tr f7 f8) bx6' (by omega)) (Nat.le_refl _)  i7  bx2 bx3 bx4 bx5 bx6  )
  exact key _ _ s hI lf_fq_rf bx6 (Nat.lt_succ_self _)
theorem sm_22b_p3 {X3 : Int → lf_Z → Prop} {Q : lf_Z → Prop} {x2 : Int} {x3 : Int} {x4 : Int} {s : lf_Z} (hQ : ∀  (s' : lf_Z), iv_A s'.1 s'.2.2 → lf_fq [14] 1000000 true s.1 s.2.2 s'.1 s'.2.2 → Q  s') {M3 : Nat} (hX3 : ∀ (x4 : Int) (s' : lf_Z), iv_A s'.1 s'.2.2 → lf_fq [14] 1000000 true s.1 s.2.2 s'.1 s'.2.2 → 0 ≤ x4 ∧ x4 ≤ 12 → (12 - x4).toNat < M3 → X3 x4 s') (hM3 : (12 - x4).toNat ≤ M3) (hI : iv_A s.1 s.2.2) (bx2 : 0 ≤ x2 ∧ x2 ≤ 11) (bx3 : 0 ≤ x3 ∧ x3 ≤ 11) (bx4 : 0 ≤ x4 ∧ x4 ≤ 12) : fm_22b_p3 Q x2 x3 X3 x4 s := by
  unfold fm_22b_p3
  have b1 : 0 ≤ s.1 1 0 ∧ s.1 1 0 ≤ 12 := iv_r1_0 hI
  refine ⟨(show lf_R x4 from lf_Rof (by omega)), ?_⟩
  refine ⟨(show lf_R (s.1 1 0) from lf_Rof (by omega)), ?_⟩
  refine ⟨fun c2 => ?_, fun c2 => ?_⟩
  · skip
    replace c2 : s.1 1 0 ≤ x4 := c2
    exact hQ s hI (lf_fq_rf)
  · skip
    replace c2 : ¬ (s.1 1 0 ≤ x4) := c2
    exact sm_22b_p22L hQ hX3 (show (12 - x4).toNat ≤ M3 from by omega) hI (show (0 : Int) ≤ x2 ∧ x2 ≤ (11 : Int) from by omega) (show (0 : Int) ≤ x3 ∧ x3 ≤ (11 : Int) from by omega) (show (0 : Int) ≤ x4 ∧ x4 ≤ (11 : Int) from by omega) (show (0 : Int) ≤ x4 * 12 ∧ x4 * 12 ≤ (132 : Int) from by omega) (show (0 : Int) ≤ 0 ∧ 0 ≤ (12 : Int) from by omega)
theorem sm_22b_p3L {Q : lf_Z → Prop} {x2 : Int} {x3 : Int} {x4 : Int} {s : lf_Z} (hQ : ∀  (s' : lf_Z), iv_A s'.1 s'.2.2 → lf_fq [14] 1000000 true s.1 s.2.2 s'.1 s'.2.2 → Q  s') (hI : iv_A s.1 s.2.2) (bx2 : 0 ≤ x2 ∧ x2 ≤ 11) (bx3 : 0 ≤ x3 ∧ x3 ≤ 11) (bx4 : 0 ≤ x4 ∧ x4 ≤ 12) : fm_22b_p3L Q x2 x3 x4 s := by
  intro X3 hX
  have key : ∀ (m9 : Nat) (x4 : Int) (s' : lf_Z), iv_A s'.1 s'.2.2 → lf_fq [14] 1000000 true s.1 s.2.2 s'.1 s'.2.2 → 0 ≤ x4 ∧ x4 ≤ 12 → (12 - x4).toNat < m9 → X3 x4 s' := by
    intro m9
    induction m9 with
    | zero => intro x4 s' _ _ bx4 h9; exact absurd h9 (Nat.not_lt_zero _)
    | succ m9 ih => intro x4 s' i7 f7 bx4 h9; exact hX _ _ (sm_22b_p3 (fun t9 i9 f9 => hQ t9 i9 (lf_fq_tr f7 f9))   (fun x4' t8 i8 f8 bx4' h8 => ih x4' t8 i8 (lf_fq_tr f7 f8) bx4' (by omega)) (Nat.le_refl _)  i7  bx2 bx3 bx4  )
  exact key _ _ s hI lf_fq_rf bx4 (Nat.lt_succ_self _)
theorem sm_22b {a2 : Int} {a3 : Int} {Q : lf_Z → Prop} {s : lf_Z} (hI : iv_A s.1 s.2.2) (ba2 : 0 ≤ a2 ∧ a2 ≤ 11) (ba3 : 0 ≤ a3 ∧ a3 ≤ 11) (hQ : ∀  (s' : lf_Z), iv_A s'.1 s'.2.2 → lf_fq [14] 1000000 true s.1 s.2.2 s'.1 s'.2.2 → Q  s') : fm_22b a2 a3 Q s := by
  unfold fm_22b
  exact sm_22b_p3L hQ hI (show (0 : Int) ≤ a2 ∧ a2 ≤ (11 : Int) from by omega) (show (0 : Int) ≤ a3 ∧ a3 ≤ (11 : Int) from by omega) (show (0 : Int) ≤ 0 ∧ 0 ≤ (12 : Int) from by omega)
-- fm_148 Land.measureGates 1
theorem sm_148_p46 {X9 : Int → lf_Z → Prop} {Q : lf_Z → Prop} {x1 : Int} {s : lf_Z} (hQ : ∀  (s' : lf_Z), iv_A s'.1 s'.2.2 → lf_fq [14] 1000000 true s.1 s.2.2 s'.1 s'.2.2 → Q  s') {M9 : Nat} (hX9 : ∀ (x1 : Int) (s' : lf_Z), iv_A s'.1 s'.2.2 → lf_fq [14] 1000000 true s.1 s.2.2 s'.1 s'.2.2 → 0 ≤ x1 ∧ x1 ≤ 16 → (16 - x1).toNat < M9 → X9 x1 s') (hM9 : (16 - x1).toNat ≤ M9) (hI : iv_A s.1 s.2.2) (bx1 : 0 ≤ x1 ∧ x1 ≤ 15) : fm_148_p46 X9 Q x1 s := by
  unfold fm_148_p46
  exact hX9 (x1 + 1) s hI (lf_fq_rf) (show (0 : Int) ≤ x1 + 1 ∧ x1 + 1 ≤ (16 : Int) from by omega) (show (16 - (x1 + 1)).toNat < M9 from by omega)
theorem sm_148_p9 {X9 : Int → lf_Z → Prop} {Q : lf_Z → Prop} {x1 : Int} {s : lf_Z} (hQ : ∀  (s' : lf_Z), iv_A s'.1 s'.2.2 → lf_fq [14] 1000000 true s.1 s.2.2 s'.1 s'.2.2 → Q  s') {M9 : Nat} (hX9 : ∀ (x1 : Int) (s' : lf_Z), iv_A s'.1 s'.2.2 → lf_fq [14] 1000000 true s.1 s.2.2 s'.1 s'.2.2 → 0 ≤ x1 ∧ x1 ≤ 16 → (16 - x1).toNat < M9 → X9 x1 s') (hM9 : (16 - x1).toNat ≤ M9) (hI : iv_A s.1 s.2.2) (bx1 : 0 ≤ x1 ∧ x1 ≤ 16) : fm_148_p9 Q X9 x1 s := by
  unfold fm_148_p9
  have b5 : 0 ≤ s.1 1 1 ∧ s.1 1 1 ≤ 16 := iv_r1_1 hI
  refine ⟨(show lf_R x1 from lf_Rof (by omega)), ?_⟩
  refine ⟨(show lf_R (s.1 1 1) from lf_Rof (by omega)), ?_⟩
  refine ⟨fun c6 => ?_, fun c6 => ?_⟩
  · skip
    replace c6 : s.1 1 1 ≤ x1 := c6
    exact hQ s hI (lf_fq_rf)
  · skip
    replace c6 : ¬ (s.1 1 1 ≤ x1) := c6
    refine ⟨(show (0 : Int) ≤ x1 ∧ x1 < (16 : Int) from by omega), ?_⟩
    have b7 : 0 ≤ s.1 6 x1 ∧ s.1 6 x1 ≤ 1 := iv_r6 hI _
    refine ⟨(show lf_R (s.1 6 x1) from lf_Rof (by omega)), ?_⟩
    refine ⟨fun c8 => ?_, fun c8 => ?_⟩
    · skip
      replace c8 : s.1 6 x1 ≠ 0 := c8
      exact sm_148_p46 hQ hX9 (show (16 - x1).toNat ≤ M9 from by omega) hI (show (0 : Int) ≤ x1 ∧ x1 ≤ (15 : Int) from by omega)
    · skip
      replace c8 : ¬ (s.1 6 x1 ≠ 0) := c8
      have b9 : 0 ≤ s.1 4 x1 ∧ s.1 4 x1 ≤ 11 := iv_r4 hI _
      have b10 : 0 ≤ s.1 5 x1 ∧ s.1 5 x1 ≤ 11 := iv_r5 hI _
      refine sm_22b hI (show (0 : Int) ≤ s.1 4 x1 ∧ s.1 4 x1 ≤ (11 : Int) from by omega) (show (0 : Int) ≤ s.1 5 x1 ∧ s.1 5 x1 ≤ (11 : Int) from by omega) (fun s26 hI12 fr11 => ?_)
      have fr14 : lf_fq [14] 1000000 true s.1 s.2.2 s26.1 s26.2.2 := lf_fq_tr (lf_fq_rf) (lf_fq_wk fr11 rfl (by decide) (by decide))
      exact sm_148_p46 (fun t9 i9 f9 => hQ t9 i9 (lf_fq_tr fr14 f9)) (fun p0 t9 i9 f9 => hX9 p0 t9 i9 (lf_fq_tr fr14 f9)) (show (16 - x1).toNat ≤ M9 from by omega) hI12 (show (0 : Int) ≤ x1 ∧ x1 ≤ (15 : Int) from by omega)
theorem sm_148_p9L {Q : lf_Z → Prop} {x1 : Int} {s : lf_Z} (hQ : ∀  (s' : lf_Z), iv_A s'.1 s'.2.2 → lf_fq [14] 1000000 true s.1 s.2.2 s'.1 s'.2.2 → Q  s') (hI : iv_A s.1 s.2.2) (bx1 : 0 ≤ x1 ∧ x1 ≤ 16) : fm_148_p9L Q x1 s := by
  intro X9 hX
  have key : ∀ (m9 : Nat) (x1 : Int) (s' : lf_Z), iv_A s'.1 s'.2.2 → lf_fq [14] 1000000 true s.1 s.2.2 s'.1 s'.2.2 → 0 ≤ x1 ∧ x1 ≤ 16 → (16 - x1).toNat < m9 → X9 x1 s' := by
    intro m9
    induction m9 with
    | zero => intro x1 s' _ _ bx1 h9; exact absurd h9 (Nat.not_lt_zero _)
    | succ m9 ih => intro x1 s' i7 f7 bx1 h9; exact hX _ _ (sm_148_p9 (fun t9 i9 f9 => hQ t9 i9 (lf_fq_tr f7 f9))   (fun x1' t8 i8 f8 bx1' h8 => ih x1' t8 i8 (lf_fq_tr f7 f8) bx1' (by omega)) (Nat.le_refl _)  i7  bx1  )
  exact key _ _ s hI lf_fq_rf bx1 (Nat.lt_succ_self _)
theorem sm_148 {Q : lf_Z → Prop} {s : lf_Z} (hI : iv_A s.1 s.2.2) (hQ : ∀  (s' : lf_Z), iv_A s'.1 s'.2.2 → lf_fq [14] 1000000 true s.1 s.2.2 s'.1 s'.2.2 → Q  s') : fm_148 Q s := by
  unfold fm_148
  refine sm_2 hI (fun s21 hI2 fr1 => ?_)
  have fr4 : lf_fq [14] 1000000 true s.1 s.2.2 s21.1 s21.2.2 := lf_fq_tr (lf_fq_rf) (lf_fq_wk fr1 rfl (by decide) (by decide))
  exact sm_148_p9L (fun t9 i9 f9 => hQ t9 i9 (lf_fq_tr fr4 f9)) hI2 (show (0 : Int) ≤ 0 ∧ 0 ≤ (16 : Int) from by omega)
-- fm_149 Land.outsideOf 1 i
theorem sm_149_p51 {Q : Int → lf_Z → Prop} {x1 : Int} {x2 : Int} {y0 : Int} {s : lf_Z} (hQ : ∀ (r : Int), ((-1) ≤ r ∧ r ≤ 11) → Q r s) (hI : iv_A s.1 s.2.2) (bx1 : 0 ≤ x1 ∧ x1 ≤ 15) (bx2 : 0 ≤ x2 ∧ x2 ≤ 1) (by0 : 0 ≤ y0 ∧ y0 ≤ 1) : fm_149_p51 Q x1 x2 y0 s := by
  unfold fm_149_p51
  refine ⟨(show lf_R x2 from lf_Rof (by omega)), ?_⟩
  refine ⟨(show lf_R y0 from lf_Rof (by omega)), ?_⟩
  refine ⟨fun c11 => ?_, fun c11 => ?_⟩
  · skip
    replace c11 : x2 ≠ y0 := c11
    refine ⟨fun c12 => ?_, fun c12 => ?_⟩
    · skip
      replace c12 : x2 = 0 := c12
      refine ⟨(show (0 : Int) ≤ x1 ∧ x1 < (16 : Int) from by omega), ?_⟩
      have b13 : 0 ≤ s.1 4 x1 ∧ s.1 4 x1 ≤ 11 := iv_r4 hI _
      exact hQ (s.1 4 x1) (show (-1 : Int) ≤ s.1 4 x1 ∧ s.1 4 x1 ≤ (11 : Int) from by omega)
    · skip
      replace c12 : ¬ (x2 = 0) := c12
      refine ⟨(show (0 : Int) ≤ x1 ∧ x1 < (16 : Int) from by omega), ?_⟩
      have b14 : 0 ≤ s.1 5 x1 ∧ s.1 5 x1 ≤ 11 := iv_r5 hI _
      exact hQ (s.1 5 x1) (show (-1 : Int) ≤ s.1 5 x1 ∧ s.1 5 x1 ≤ (11 : Int) from by omega)
  · skip
    replace c11 : ¬ (x2 ≠ y0) := c11
    exact hQ (-1) (show (-1 : Int) ≤ (-1) ∧ (-1) ≤ (11 : Int) from by omega)
theorem sm_149_p30 {Q : Int → lf_Z → Prop} {x1 : Int} {y0 : Int} {s : lf_Z} (hQ : ∀ (r : Int), ((-1) ≤ r ∧ r ≤ 11) → Q r s) (hI : iv_A s.1 s.2.2) (bx1 : 0 ≤ x1 ∧ x1 ≤ 15) (by0 : 0 ≤ y0 ∧ y0 ≤ 1) : fm_149_p30 Q x1 y0 s := by
  unfold fm_149_p30
  refine ⟨(show (0 : Int) ≤ x1 ∧ x1 < (16 : Int) from by omega), ?_⟩
  have b8 : 0 ≤ s.1 5 x1 ∧ s.1 5 x1 ≤ 11 := iv_r5 hI _
  refine ⟨(show (0 : Int) ≤ s.1 5 x1 ∧ s.1 5 x1 < (12 : Int) from by omega), ?_⟩
  have b9 : 0 ≤ s.1 2 (s.1 5 x1) ∧ s.1 2 (s.1 5 x1) ≤ 3 := iv_r2 hI _
  refine ⟨(show lf_R (s.1 2 (s.1 5 x1)) from lf_Rof (by omega)), ?_⟩
  refine ⟨fun c10 => ?_, fun c10 => ?_⟩
  · skip
    replace c10 : s.1 2 (s.1 5 x1) ≠ 3 := c10
    exact sm_149_p51 hQ hI (show (0 : Int) ≤ x1 ∧ x1 ≤ (15 : Int) from by omega) (show (0 : Int) ≤ y0 ∧ y0 ≤ (1 : Int) from by omega) (show (0 : Int) ≤ 0 ∧ 0 ≤ (1 : Int) from by omega)
  · skip
    replace c10 : ¬ (s.1 2 (s.1 5 x1) ≠ 3) := c10
    exact sm_149_p51 hQ hI (show (0 : Int) ≤ x1 ∧ x1 ≤ (15 : Int) from by omega) (show (0 : Int) ≤ y0 ∧ y0 ≤ (1 : Int) from by omega) (show (0 : Int) ≤ 1 ∧ 1 ≤ (1 : Int) from by omega)
theorem sm_149 {a1 : Int} {Q : Int → lf_Z → Prop} {s : lf_Z} (hI : iv_A s.1 s.2.2) (ba1 : 0 ≤ a1 ∧ a1 ≤ 15) (hQ : ∀ (r : Int), ((-1) ≤ r ∧ r ≤ 11) → Q r s) : fm_149 a1 Q s := by
  unfold fm_149
  refine sm_89 hI (show (-2147483648 : Int) ≤ a1 ∧ a1 ≤ (2147483647 : Int) from by omega) (fun z22 q1 => ?_)
  have b2 : 0 ≤ s.1 1 1 ∧ s.1 1 1 ≤ 16 := iv_r1_1 hI
  have b3 : 0 ≤ s.1 6 a1 ∧ s.1 6 a1 ≤ 1 := iv_r6 hI _
  refine ⟨fun c4 => ?_, fun c4 => ?_⟩
  · skip
    have dc4 := q1.1 c4
    refine ⟨(show (0 : Int) ≤ a1 ∧ a1 < (16 : Int) from by omega), ?_⟩
    have b5 : 0 ≤ s.1 4 a1 ∧ s.1 4 a1 ≤ 11 := iv_r4 hI _
    refine ⟨(show (0 : Int) ≤ s.1 4 a1 ∧ s.1 4 a1 < (12 : Int) from by omega), ?_⟩
    have b6 : 0 ≤ s.1 2 (s.1 4 a1) ∧ s.1 2 (s.1 4 a1) ≤ 3 := iv_r2 hI _
    refine ⟨(show lf_R (s.1 2 (s.1 4 a1)) from lf_Rof (by omega)), ?_⟩
    refine ⟨fun c7 => ?_, fun c7 => ?_⟩
    · skip
      replace c7 : s.1 2 (s.1 4 a1) ≠ 3 := c7
      exact sm_149_p30 hQ hI (show (0 : Int) ≤ a1 ∧ a1 ≤ (15 : Int) from by omega) (show (0 : Int) ≤ 0 ∧ 0 ≤ (1 : Int) from by omega)
    · skip
      replace c7 : ¬ (s.1 2 (s.1 4 a1) ≠ 3) := c7
      exact sm_149_p30 hQ hI (show (0 : Int) ≤ a1 ∧ a1 ≤ (15 : Int) from by omega) (show (0 : Int) ≤ 1 ∧ 1 ≤ (1 : Int) from by omega)
  · skip
    have dc4 := q1.2 c4
    exact hQ (-1) (show (-1 : Int) ≤ (-1) ∧ (-1) ≤ (11 : Int) from by omega)
-- fm_151 Land.distanceByGates 1 i i
theorem sm_151 {a1 : Int} {a2 : Int} {Q : Int → lf_Z → Prop} {s : lf_Z} (hI : iv_A s.1 s.2.2) (ba1 : 0 ≤ a1 ∧ a1 ≤ 11) (ba2 : (-2147483648) ≤ a2 ∧ a2 ≤ 2147483647) (hQ : ∀ (r : Int), ((0 ≤ r ∧ r ≤ 1000) ∧ (1000 ≤ r ∨ (0 ≤ a1 ∧ a1 < s.1 1 0 ∧ 0 ≤ a2 ∧ a2 < s.1 1 0))) → Q r s) : fm_151 a1 a2 Q s := by
  unfold fm_151
  refine sm_18 hI (show (-2147483648 : Int) ≤ a1 ∧ a1 ≤ (2147483647 : Int) from by omega) (fun z22 q1 => ?_)
  have b2 : 0 ≤ s.1 1 0 ∧ s.1 1 0 ≤ 12 := iv_r1_0 hI
  refine ⟨fun c3 => ?_, fun c3 => ?_⟩
  · skip
    have dc3 := q1.2 c3
    exact hQ 1000 ⟨(show (0 : Int) ≤ 1000 ∧ 1000 ≤ (1000 : Int) from by omega), (show 1000 ≤ 1000 ∨ (0 ≤ a1 ∧ a1 < s.1 1 0 ∧ 0 ≤ a2 ∧ a2 < s.1 1 0) from by omega)⟩
  · skip
    have dc3 := q1.1 c3
    refine sm_18 hI (show (-2147483648 : Int) ≤ a2 ∧ a2 ≤ (2147483647 : Int) from by omega) (fun z24 q4 => ?_)
    refine ⟨fun c5 => ?_, fun c5 => ?_⟩
    · skip
      have dc5 := q4.2 c5
      exact hQ 1000 ⟨(show (0 : Int) ≤ 1000 ∧ 1000 ≤ (1000 : Int) from by omega), (show 1000 ≤ 1000 ∨ (0 ≤ a1 ∧ a1 < s.1 1 0 ∧ 0 ≤ a2 ∧ a2 < s.1 1 0) from by omega)⟩
    · skip
      have dc5 := q4.1 c5
      refine ⟨(show (0 : Int) ≤ (a1 * 12) + a2 ∧ (a1 * 12) + a2 < (144 : Int) from by omega), ?_⟩
      have b6 : 0 ≤ s.1 14 ((a1 * 12) + a2) ∧ s.1 14 ((a1 * 12) + a2) ≤ 1000 := iv_r14 hI _
      exact hQ (s.1 14 ((a1 * 12) + a2)) ⟨(show (0 : Int) ≤ s.1 14 ((a1 * 12) + a2) ∧ s.1 14 ((a1 * 12) + a2) ≤ (1000 : Int) from by omega), (show 1000 ≤ s.1 14 ((a1 * 12) + a2) ∨ (0 ≤ a1 ∧ a1 < s.1 1 0 ∧ 0 ≤ a2 ∧ a2 < s.1 1 0) from by omega)⟩
-- fm_150 Notes.couldAllBeFrom 25 i 1
theorem sm_150_p2 {X2 : Int → lf_Z → Prop} {Q : Bool → lf_Z → Prop} {x1 : Int} {x3 : Int} {s : lf_Z} (hQ : ∀ (z : Bool), Q z s) {M2 : Nat} (hX2 : ∀ (x3 : Int), 0 ≤ x3 ∧ x3 ≤ 6 → (6 - x3).toNat < M2 → X2 x3 s) (hM2 : (6 - x3).toNat ≤ M2) (hI : iv_A s.1 s.2.2) (bx1 : 0 ≤ x1 ∧ x1 ≤ 11) (bx3 : 0 ≤ x3 ∧ x3 ≤ 6) : fm_150_p2 Q x1 X2 x3 s := by
  unfold fm_150_p2
  have b1 : 0 ≤ s.1 25 2 ∧ s.1 25 2 ≤ 6 := iv_r25_2 hI
  refine ⟨(show lf_R x3 from lf_Rof (by omega)), ?_⟩
  refine ⟨(show lf_R (s.1 25 2) from lf_Rof (by omega)), ?_⟩
  refine ⟨fun c2 => ?_, fun c2 => ?_⟩
  · skip
    replace c2 : s.1 25 2 ≤ x3 := c2
    exact hQ true
  · skip
    replace c2 : ¬ (s.1 25 2 ≤ x3) := c2
    refine ⟨(show (0 : Int) ≤ x3 ∧ x3 < (6 : Int) from by omega), ?_⟩
    have b3 : (-2147483648) ≤ s.1 26 x3 ∧ s.1 26 x3 ≤ 2147483647 := iv_full hI
    refine sm_151 hI (show (0 : Int) ≤ x1 ∧ x1 ≤ (11 : Int) from by omega) (show (-2147483648 : Int) ≤ s.1 26 x3 ∧ s.1 26 x3 ≤ (2147483647 : Int) from by omega) (fun r25 q4 => ?_)
    obtain ⟨q4, q4x⟩ := q4
    have b5 : 0 ≤ s.1 1 0 ∧ s.1 1 0 ≤ 12 := iv_r1_0 hI
    replace q4x : 1000 ≤ r25 ∨ (0 ≤ x1 ∧ x1 < s.1 1 0 ∧ 0 ≤ (s.1 26 x3) ∧ (s.1 26 x3) < s.1 1 0) := q4x
    have b6 : (-2147483648) ≤ s.1 27 x3 ∧ s.1 27 x3 ≤ 2147483647 := iv_full hI
    refine ⟨(show lf_R r25 from lf_Rof (by omega)), ?_⟩
    refine ⟨(show lf_R (s.1 27 x3) from lf_Rof (by omega)), ?_⟩
    refine ⟨fun c7 => ?_, fun c7 => ?_⟩
    · skip
      replace c7 : r25 ≤ s.1 27 x3 := c7
      exact hX2 (x3 + 1) (show (0 : Int) ≤ x3 + 1 ∧ x3 + 1 ≤ (6 : Int) from by omega) (show (6 - (x3 + 1)).toNat < M2 from by omega)
    · skip
      replace c7 : ¬ (r25 ≤ s.1 27 x3) := c7
      exact hQ false
theorem sm_150_p2L {Q : Bool → lf_Z → Prop} {x1 : Int} {x3 : Int} {s : lf_Z} (hQ : ∀ (z : Bool), Q z s) (hI : iv_A s.1 s.2.2) (bx1 : 0 ≤ x1 ∧ x1 ≤ 11) (bx3 : 0 ≤ x3 ∧ x3 ≤ 6) : fm_150_p2L Q x1 x3 s := by
  intro X2 hX
  have key : ∀ (m9 : Nat) (x3 : Int), 0 ≤ x3 ∧ x3 ≤ 6 → (6 - x3).toNat < m9 → X2 x3 s := by
    intro m9
    induction m9 with
    | zero => intro x3 bx3 h9; exact absurd h9 (Nat.not_lt_zero _)
    | succ m9 ih => intro x3 bx3 h9; exact hX _ _ (sm_150_p2 hQ   (fun x3' bx3' h8 => ih x3' bx3' (by omega)) (Nat.le_refl _)  hI  bx1 bx3  )
  exact key _ _ bx3   (Nat.lt_succ_self _)
theorem sm_150 {a1 : Int} {Q : Bool → lf_Z → Prop} {s : lf_Z} (hI : iv_A s.1 s.2.2) (ba1 : 0 ≤ a1 ∧ a1 ≤ 11) (hQ : ∀ (z : Bool), Q z s) : fm_150 a1 Q s := by
  unfold fm_150
  exact sm_150_p2L hQ hI (show (0 : Int) ≤ a1 ∧ a1 ≤ (11 : Int) from by omega) (show (0 : Int) ≤ 0 ∧ 0 ≤ (6 : Int) from by omega)
-- fm_147 ElevenBullocks.which 0
theorem sm_147_p57 {X11 : Int → Int → lf_Z → Prop} {Q : Int → lf_Z → Prop} {x1 : Int} {x2 : Int} {s : lf_Z} (hQ : ∀ (r : Int) (s' : lf_Z), iv_A s'.1 s'.2.2 → lf_fq [14] 1000000 true s.1 s.2.2 s'.1 s'.2.2 → ((-2147483648) ≤ r ∧ r ≤ 2147483647) → Q r s') {M11 : Nat} (hX11 : ∀ (x1 : Int) (x2 : Int) (s' : lf_Z), iv_A s'.1 s'.2.2 → lf_fq [14] 1000000 true s.1 s.2.2 s'.1 s'.2.2 → (-2147483648) ≤ x1 ∧ x1 ≤ 2147483647 → 0 ≤ x2 ∧ x2 ≤ 16 → (16 - x2).toNat < M11 → X11 x1 x2 s') (hM11 : (16 - x2).toNat ≤ M11) (hI : iv_A s.1 s.2.2) (bx1 : (-2147483648) ≤ x1 ∧ x1 ≤ 2147483647) (bx2 : 0 ≤ x2 ∧ x2 ≤ 15) : fm_147_p57 X11 Q x1 x2 s := by
  unfold fm_147_p57
  exact hX11 (x1) (x2 + 1) s hI (lf_fq_rf) (show (-2147483648 : Int) ≤ x1 ∧ x1 ≤ (2147483647 : Int) from by omega) (show (0 : Int) ≤ x2 + 1 ∧ x2 + 1 ≤ (16 : Int) from by omega) (show (16 - (x2 + 1)).toNat < M11 from by omega)
theorem sm_147_p11 {X11 : Int → Int → lf_Z → Prop} {Q : Int → lf_Z → Prop} {x1 : Int} {x2 : Int} {s : lf_Z} (hQ : ∀ (r : Int) (s' : lf_Z), iv_A s'.1 s'.2.2 → lf_fq [14] 1000000 true s.1 s.2.2 s'.1 s'.2.2 → ((-2147483648) ≤ r ∧ r ≤ 2147483647) → Q r s') {M11 : Nat} (hX11 : ∀ (x1 : Int) (x2 : Int) (s' : lf_Z), iv_A s'.1 s'.2.2 → lf_fq [14] 1000000 true s.1 s.2.2 s'.1 s'.2.2 → (-2147483648) ≤ x1 ∧ x1 ≤ 2147483647 → 0 ≤ x2 ∧ x2 ≤ 16 → (16 - x2).toNat < M11 → X11 x1 x2 s') (hM11 : (16 - x2).toNat ≤ M11) (hI : iv_A s.1 s.2.2) (bx1 : (-2147483648) ≤ x1 ∧ x1 ≤ 2147483647) (bx2 : 0 ≤ x2 ∧ x2 ≤ 16) : fm_147_p11 Q X11 x1 x2 s := by
  unfold fm_147_p11
  have b5 : 0 ≤ s.1 1 1 ∧ s.1 1 1 ≤ 16 := iv_r1_1 hI
  refine ⟨(show lf_R x2 from lf_Rof (by omega)), ?_⟩
  refine ⟨(show lf_R (s.1 1 1) from lf_Rof (by omega)), ?_⟩
  refine ⟨fun c6 => ?_, fun c6 => ?_⟩
  · skip
    replace c6 : s.1 1 1 ≤ x2 := c6
    exact hQ x1 s hI (lf_fq_rf) (show (-2147483648 : Int) ≤ x1 ∧ x1 ≤ (2147483647 : Int) from by omega)
  · skip
    replace c6 : ¬ (s.1 1 1 ≤ x2) := c6
    refine sm_149 hI (show (0 : Int) ≤ x2 ∧ x2 ≤ (15 : Int) from by omega) (fun r25 q7 => ?_)
    refine ⟨(show lf_R r25 from lf_Rof (by omega)), ?_⟩
    refine ⟨fun c8 => ?_, fun c8 => ?_⟩
    · skip
      replace c8 : r25 = (-1) := c8
      exact sm_147_p57 hQ hX11 (show (16 - x2).toNat ≤ M11 from by omega) hI (show (-2147483648 : Int) ≤ x1 ∧ x1 ≤ (2147483647 : Int) from by omega) (show (0 : Int) ≤ x2 ∧ x2 ≤ (15 : Int) from by omega)
    · skip
      replace c8 : ¬ (r25 = (-1)) := c8
      refine sm_150 hI (show (0 : Int) ≤ r25 ∧ r25 ≤ (11 : Int) from by omega) (fun z28 => ?_)
      refine ⟨fun c10 => ?_, fun c10 => ?_⟩
      · skip
        exact sm_147_p57 hQ hX11 (show (16 - x2).toNat ≤ M11 from by omega) hI (show (-2147483648 : Int) ≤ x1 ∧ x1 ≤ (2147483647 : Int) from by omega) (show (0 : Int) ≤ x2 ∧ x2 ≤ (15 : Int) from by omega)
      · skip
        have b11 : 1 ≤ lf_shl 1 x2 ∧ lf_shl 1 x2 ≤ 32768 := lf_shl1 (m := 15) (by omega) (by omega) (by decide)
        have b12 : (-2147483648) ≤ lf_or x1 (lf_shl 1 x2) ∧ lf_or x1 (lf_shl 1 x2) ≤ 2147483647 := lf_orB
        exact sm_147_p57 hQ hX11 (show (16 - x2).toNat ≤ M11 from by omega) hI (show (-2147483648 : Int) ≤ lf_or x1 (lf_shl 1 x2) ∧ lf_or x1 (lf_shl 1 x2) ≤ (2147483647 : Int) from by omega) (show (0 : Int) ≤ x2 ∧ x2 ≤ (15 : Int) from by omega)
theorem sm_147_p11L {Q : Int → lf_Z → Prop} {x1 : Int} {x2 : Int} {s : lf_Z} (hQ : ∀ (r : Int) (s' : lf_Z), iv_A s'.1 s'.2.2 → lf_fq [14] 1000000 true s.1 s.2.2 s'.1 s'.2.2 → ((-2147483648) ≤ r ∧ r ≤ 2147483647) → Q r s') (hI : iv_A s.1 s.2.2) (bx1 : (-2147483648) ≤ x1 ∧ x1 ≤ 2147483647) (bx2 : 0 ≤ x2 ∧ x2 ≤ 16) : fm_147_p11L Q x1 x2 s := by
  intro X11 hX
  have key : ∀ (m9 : Nat) (x1 : Int) (x2 : Int) (s' : lf_Z), iv_A s'.1 s'.2.2 → lf_fq [14] 1000000 true s.1 s.2.2 s'.1 s'.2.2 → (-2147483648) ≤ x1 ∧ x1 ≤ 2147483647 → 0 ≤ x2 ∧ x2 ≤ 16 → (16 - x2).toNat < m9 → X11 x1 x2 s' := by
    intro m9
    induction m9 with
    | zero => intro x1 x2 s' _ _ bx1 bx2 h9; exact absurd h9 (Nat.not_lt_zero _)
    | succ m9 ih => intro x1 x2 s' i7 f7 bx1 bx2 h9; exact hX _ _ _ (sm_147_p11 (fun r9 t9 i9 f9 => hQ r9 t9 i9 (lf_fq_tr f7 f9))   (fun x1' x2' t8 i8 f8 bx1' bx2' h8 => ih x1' x2' t8 i8 (lf_fq_tr f7 f8) bx1' bx2' (by omega)) (Nat.le_refl _)  i7  bx1 bx2  )
  exact key _ _ _ s hI lf_fq_rf bx1 bx2 (Nat.lt_succ_self _)
theorem sm_147 {Q : Int → lf_Z → Prop} {s : lf_Z} (hI : iv_A s.1 s.2.2) (hQ : ∀ (r : Int) (s' : lf_Z), iv_A s'.1 s'.2.2 → lf_fq [14] 1000000 true s.1 s.2.2 s'.1 s'.2.2 → ((-2147483648) ≤ r ∧ r ≤ 2147483647) → Q r s') : fm_147 Q s := by
  unfold fm_147
  refine sm_148 hI (fun s21 hI2 fr1 => ?_)
  have fr4 : lf_fq [14] 1000000 true s.1 s.2.2 s21.1 s21.2.2 := lf_fq_tr (lf_fq_rf) (lf_fq_wk fr1 rfl (by decide) (by decide))
  exact sm_147_p11L (fun r9 t9 i9 f9 => hQ r9 t9 i9 (lf_fq_tr fr4 f9)) hI2 (show (-2147483648 : Int) ≤ 0 ∧ 0 ≤ (2147483647 : Int) from by omega) (show (0 : Int) ≤ 0 ∧ 0 ≤ (16 : Int) from by omega)
-- fm_307 Model.isFrom 95 i
theorem sm_307_p8 {X8 : Int → lf_Z → Prop} {Q : Bool → lf_Z → Prop} {x2 : Int} {s : lf_Z} (hQ : ∀ (z : Bool) (s' : lf_Z), iv_A s'.1 s'.2.2 → lf_fq [108] 1000000 true s.1 s.2.2 s'.1 s'.2.2 → Q z s') {M8 : Nat} (hX8 : ∀ (x2 : Int) (s' : lf_Z), iv_A s'.1 s'.2.2 → lf_fq [108] 1000000 true s.1 s.2.2 s'.1 s'.2.2 → 0 ≤ x2 ∧ x2 ≤ 6 → (6 - x2).toNat < M8 → X8 x2 s') (hM8 : (6 - x2).toNat ≤ M8) (hI : iv_A s.1 s.2.2) (bx2 : 0 ≤ x2 ∧ x2 ≤ 6) : fm_307_p8 Q X8 x2 s := by
  unfold fm_307_p8
  have b6 : 0 ≤ s.1 96 10 ∧ s.1 96 10 ≤ 6 := iv_rd96 hI (iv_f2f8ad25f (by omega))
  refine ⟨(show lf_R x2 from lf_Rof (by omega)), ?_⟩
  refine ⟨(show lf_R (s.1 96 10) from lf_Rof (by omega)), ?_⟩
  refine ⟨fun c7 => ?_, fun c7 => ?_⟩
  · skip
    replace c7 : s.1 96 10 ≤ x2 := c7
    exact hQ true s hI (lf_fq_rf)
  · skip
    replace c7 : ¬ (s.1 96 10 ≤ x2) := c7
    refine ⟨(show (0 : Int) ≤ 162 + (2 * x2) ∧ 162 + (2 * x2) < (1538 : Int) from by omega), ?_⟩
    have b8 : 0 ≤ s.1 96 (162 + (2 * x2)) ∧ s.1 96 (162 + (2 * x2)) ≤ 11 := iv_rd96 hI (iv_f0460dfb4 (x2) (by omega) (by omega))
    refine ⟨(show (0 : Int) ≤ s.1 96 (162 + (2 * x2)) ∧ s.1 96 (162 + (2 * x2)) < (12 : Int) from by omega), ?_⟩
    have b9 : 0 ≤ s.1 108 (s.1 96 (162 + (2 * x2))) ∧ s.1 108 (s.1 96 (162 + (2 * x2))) ≤ 1000 := iv_r108 hI _
    refine ⟨(show (0 : Int) ≤ (162 + (2 * x2)) + 1 ∧ (162 + (2 * x2)) + 1 < (1538 : Int) from by omega), ?_⟩
    have b10 : (-2147483648) ≤ s.1 96 ((162 + (2 * x2)) + 1) ∧ s.1 96 ((162 + (2 * x2)) + 1) ≤ 2147483647 := iv_full hI
    refine ⟨(show lf_R (s.1 108 (s.1 96 (162 + (2 * x2)))) from lf_Rof (by omega)), ?_⟩
    refine ⟨(show lf_R (s.1 96 ((162 + (2 * x2)) + 1)) from lf_Rof (by omega)), ?_⟩
    refine ⟨fun c11 => ?_, fun c11 => ?_⟩
    · skip
      replace c11 : s.1 108 (s.1 96 (162 + (2 * x2))) ≤ s.1 96 ((162 + (2 * x2)) + 1) := c11
      exact hX8 (x2 + 1) s hI (lf_fq_rf) (show (0 : Int) ≤ x2 + 1 ∧ x2 + 1 ≤ (6 : Int) from by omega) (show (6 - (x2 + 1)).toNat < M8 from by omega)
    · skip
      replace c11 : ¬ (s.1 108 (s.1 96 (162 + (2 * x2))) ≤ s.1 96 ((162 + (2 * x2)) + 1)) := c11
      exact hQ false s hI (lf_fq_rf)
theorem sm_307_p8L {Q : Bool → lf_Z → Prop} {x2 : Int} {s : lf_Z} (hQ : ∀ (z : Bool) (s' : lf_Z), iv_A s'.1 s'.2.2 → lf_fq [108] 1000000 true s.1 s.2.2 s'.1 s'.2.2 → Q z s') (hI : iv_A s.1 s.2.2) (bx2 : 0 ≤ x2 ∧ x2 ≤ 6) : fm_307_p8L Q x2 s := by
  intro X8 hX
  have key : ∀ (m9 : Nat) (x2 : Int) (s' : lf_Z), iv_A s'.1 s'.2.2 → lf_fq [108] 1000000 true s.1 s.2.2 s'.1 s'.2.2 → 0 ≤ x2 ∧ x2 ≤ 6 → (6 - x2).toNat < m9 → X8 x2 s' := by
    intro m9
    induction m9 with
    | zero => intro x2 s' _ _ bx2 h9; exact absurd h9 (Nat.not_lt_zero _)
    | succ m9 ih => intro x2 s' i7 f7 bx2 h9; exact hX _ _ (sm_307_p8 (fun r9 t9 i9 f9 => hQ r9 t9 i9 (lf_fq_tr f7 f9))   (fun x2' t8 i8 f8 bx2' h8 => ih x2' t8 i8 (lf_fq_tr f7 f8) bx2' (by omega)) (Nat.le_refl _)  i7  bx2  )
  exact key _ _ s hI lf_fq_rf bx2 (Nat.lt_succ_self _)
theorem sm_307 {a1 : Int} {Q : Bool → lf_Z → Prop} {s : lf_Z} (hI : iv_A s.1 s.2.2) (ba1 : 0 ≤ a1 ∧ a1 ≤ 11) (hQ : ∀ (z : Bool) (s' : lf_Z), iv_A s'.1 s'.2.2 → lf_fq [108] 1000000 true s.1 s.2.2 s'.1 s'.2.2 → Q z s') : fm_307 a1 Q s := by
  unfold fm_307
  refine sm_261 hI (show (-1 : Int) ≤ a1 ∧ a1 ≤ (11 : Int) from by omega) (show (0 : Int) ≤ 0 ∧ 0 ≤ (1 : Int) from by omega) (fun s21 hI2 fr1 ps4 => ?_)
  replace ps4 : (0 : Int) = 1 → bf_G (s21.1 96) (s21.1 108) (a1) := ps4
  have fr5 : lf_fq [108] 1000000 true s.1 s.2.2 s21.1 s21.2.2 := lf_fq_tr (lf_fq_rf) (lf_fq_wk fr1 rfl (by decide) (by decide))
  exact sm_307_p8L (fun r9 t9 i9 f9 => hQ r9 t9 i9 (lf_fq_tr fr5 f9)) hI2 (show (0 : Int) ≤ 0 ∧ 0 ≤ (6 : Int) from by omega)
-- fm_306 Model.which 95
theorem sm_306_p116 {X4 : Int → Int → lf_Z → Prop} {Q : Int → lf_Z → Prop} {x1 : Int} {x2 : Int} {s : lf_Z} (hQ : ∀ (r : Int) (s' : lf_Z), iv_A s'.1 s'.2.2 → lf_fq [108] 1000000 true s.1 s.2.2 s'.1 s'.2.2 → ((-2147483648) ≤ r ∧ r ≤ 2147483647) → Q r s') {M4 : Nat} (hX4 : ∀ (x1 : Int) (x2 : Int) (s' : lf_Z), iv_A s'.1 s'.2.2 → lf_fq [108] 1000000 true s.1 s.2.2 s'.1 s'.2.2 → (-2147483648) ≤ x1 ∧ x1 ≤ 2147483647 → 0 ≤ x2 ∧ x2 ≤ 16 → (16 - x2).toNat < M4 → X4 x1 x2 s') (hM4 : (16 - x2).toNat ≤ M4) (hI : iv_A s.1 s.2.2) (bx1 : (-2147483648) ≤ x1 ∧ x1 ≤ 2147483647) (bx2 : 0 ≤ x2 ∧ x2 ≤ 15) : fm_306_p116 X4 Q x1 x2 s := by
  unfold fm_306_p116
  exact hX4 (x1) (x2 + 1) s hI (lf_fq_rf) (show (-2147483648 : Int) ≤ x1 ∧ x1 ≤ (2147483647 : Int) from by omega) (show (0 : Int) ≤ x2 + 1 ∧ x2 + 1 ≤ (16 : Int) from by omega) (show (16 - (x2 + 1)).toNat < M4 from by omega)
theorem sm_306_p114 {X4 : Int → Int → lf_Z → Prop} {Q : Int → lf_Z → Prop} {x2 : Int} {y0 : Int} {y1 : Int} {s : lf_Z} (hQ : ∀ (r : Int) (s' : lf_Z), iv_A s'.1 s'.2.2 → lf_fq [108] 1000000 true s.1 s.2.2 s'.1 s'.2.2 → ((-2147483648) ≤ r ∧ r ≤ 2147483647) → Q r s') {M4 : Nat} (hX4 : ∀ (x1 : Int) (x2 : Int) (s' : lf_Z), iv_A s'.1 s'.2.2 → lf_fq [108] 1000000 true s.1 s.2.2 s'.1 s'.2.2 → (-2147483648) ≤ x1 ∧ x1 ≤ 2147483647 → 0 ≤ x2 ∧ x2 ≤ 16 → (16 - x2).toNat < M4 → X4 x1 x2 s') (hM4 : (16 - x2).toNat ≤ M4) (hI : iv_A s.1 s.2.2) (bx2 : 0 ≤ x2 ∧ x2 ≤ 15) (by0 : (-2147483648) ≤ y0 ∧ y0 ≤ 2147483647) (by1 : 0 ≤ y1 ∧ y1 ≤ 32768) : fm_306_p114 X4 Q x2 y0 y1 s := by
  unfold fm_306_p114
  have b20 : (-2147483648) ≤ lf_or y0 y1 ∧ lf_or y0 y1 ≤ 2147483647 := lf_orB
  exact sm_306_p116 hQ hX4 (show (16 - x2).toNat ≤ M4 from by omega) hI (show (-2147483648 : Int) ≤ lf_or y0 y1 ∧ lf_or y0 y1 ≤ (2147483647 : Int) from by omega) (show (0 : Int) ≤ x2 ∧ x2 ≤ (15 : Int) from by omega)
theorem sm_306_p101 {X4 : Int → Int → lf_Z → Prop} {Q : Int → lf_Z → Prop} {x2 : Int} {y0 : Int} {y2 : Int} {s : lf_Z} (hQ : ∀ (r : Int) (s' : lf_Z), iv_A s'.1 s'.2.2 → lf_fq [108] 1000000 true s.1 s.2.2 s'.1 s'.2.2 → ((-2147483648) ≤ r ∧ r ≤ 2147483647) → Q r s') {M4 : Nat} (hX4 : ∀ (x1 : Int) (x2 : Int) (s' : lf_Z), iv_A s'.1 s'.2.2 → lf_fq [108] 1000000 true s.1 s.2.2 s'.1 s'.2.2 → (-2147483648) ≤ x1 ∧ x1 ≤ 2147483647 → 0 ≤ x2 ∧ x2 ≤ 16 → (16 - x2).toNat < M4 → X4 x1 x2 s') (hM4 : (16 - x2).toNat ≤ M4) (hI : iv_A s.1 s.2.2) (bx2 : 0 ≤ x2 ∧ x2 ≤ 15) (by0 : (-2147483648) ≤ y0 ∧ y0 ≤ 2147483647) (by2 : 0 ≤ y2 ∧ y2 ≤ 11) : fm_306_p101 X4 Q x2 y0 y2 s := by
  unfold fm_306_p101
  refine sm_307 hI (show (0 : Int) ≤ y2 ∧ y2 ≤ (11 : Int) from by omega) (fun z39 s38 hI16 fr15 => ?_)
  have fr18 : lf_fq [108] 1000000 true s.1 s.2.2 s38.1 s38.2.2 := lf_fq_tr (lf_fq_rf) (lf_fq_wk fr15 rfl (by decide) (by decide))
  refine ⟨fun c19 => ?_, fun c19 => ?_⟩
  · skip
    exact sm_306_p114 (fun r9 t9 i9 f9 => hQ r9 t9 i9 (lf_fq_tr fr18 f9)) (fun p0 p1 t9 i9 f9 => hX4 p0 p1 t9 i9 (lf_fq_tr fr18 f9)) (show (16 - x2).toNat ≤ M4 from by omega) hI16 (show (0 : Int) ≤ x2 ∧ x2 ≤ (15 : Int) from by omega) (show (-2147483648 : Int) ≤ y0 ∧ y0 ≤ (2147483647 : Int) from by omega) (show (0 : Int) ≤ 0 ∧ 0 ≤ (32768 : Int) from by omega)
  · skip
    have b21 : 1 ≤ lf_shl 1 x2 ∧ lf_shl 1 x2 ≤ 32768 := lf_shl1 (m := 15) (by omega) (by omega) (by decide)
    exact sm_306_p114 (fun r9 t9 i9 f9 => hQ r9 t9 i9 (lf_fq_tr fr18 f9)) (fun p0 p1 t9 i9 f9 => hX4 p0 p1 t9 i9 (lf_fq_tr fr18 f9)) (show (16 - x2).toNat ≤ M4 from by omega) hI16 (show (0 : Int) ≤ x2 ∧ x2 ≤ (15 : Int) from by omega) (show (-2147483648 : Int) ≤ y0 ∧ y0 ≤ (2147483647 : Int) from by omega) (show (0 : Int) ≤ lf_shl 1 x2 ∧ lf_shl 1 x2 ≤ (32768 : Int) from by omega)
theorem sm_306_p78 {X4 : Int → Int → lf_Z → Prop} {Q : Int → lf_Z → Prop} {x1 : Int} {x2 : Int} {x3 : Int} {x4 : Int} {y0 : Int} {y1 : Int} {s : lf_Z} (hQ : ∀ (r : Int) (s' : lf_Z), iv_A s'.1 s'.2.2 → lf_fq [108] 1000000 true s.1 s.2.2 s'.1 s'.2.2 → ((-2147483648) ≤ r ∧ r ≤ 2147483647) → Q r s') {M4 : Nat} (hX4 : ∀ (x1 : Int) (x2 : Int) (s' : lf_Z), iv_A s'.1 s'.2.2 → lf_fq [108] 1000000 true s.1 s.2.2 s'.1 s'.2.2 → (-2147483648) ≤ x1 ∧ x1 ≤ 2147483647 → 0 ≤ x2 ∧ x2 ≤ 16 → (16 - x2).toNat < M4 → X4 x1 x2 s') (hM4 : (16 - x2).toNat ≤ M4) (hI : iv_A s.1 s.2.2) (bx1 : (-2147483648) ≤ x1 ∧ x1 ≤ 2147483647) (bx2 : 0 ≤ x2 ∧ x2 ≤ 15) (bx3 : 0 ≤ x3 ∧ x3 ≤ 11) (bx4 : 0 ≤ x4 ∧ x4 ≤ 11) (by0 : 0 ≤ y0 ∧ y0 ≤ 1) (by1 : 0 ≤ y1 ∧ y1 ≤ 1) : fm_306_p78 X4 Q x1 x2 x3 x4 y0 y1 s := by
  unfold fm_306_p78
  refine ⟨(show lf_R y0 from lf_Rof (by omega)), ?_⟩
  refine ⟨(show lf_R y1 from lf_Rof (by omega)), ?_⟩
  refine ⟨fun c12 => ?_, fun c12 => ?_⟩
  · skip
    replace c12 : y0 ≠ y1 := c12
    refine sm_265 hI (show (0 : Int) ≤ x3 ∧ x3 ≤ (11 : Int) from by omega) (fun r36 q13 => ?_)
    refine ⟨(show lf_R r36 from lf_Rof (by omega)), ?_⟩
    refine ⟨fun c14 => ?_, fun c14 => ?_⟩
    · skip
      replace c14 : r36 ≠ 3 := c14
      exact sm_306_p101 hQ hX4 (show (16 - x2).toNat ≤ M4 from by omega) hI (show (0 : Int) ≤ x2 ∧ x2 ≤ (15 : Int) from by omega) (show (-2147483648 : Int) ≤ x1 ∧ x1 ≤ (2147483647 : Int) from by omega) (show (0 : Int) ≤ x3 ∧ x3 ≤ (11 : Int) from by omega)
    · skip
      replace c14 : ¬ (r36 ≠ 3) := c14
      exact sm_306_p101 hQ hX4 (show (16 - x2).toNat ≤ M4 from by omega) hI (show (0 : Int) ≤ x2 ∧ x2 ≤ (15 : Int) from by omega) (show (-2147483648 : Int) ≤ x1 ∧ x1 ≤ (2147483647 : Int) from by omega) (show (0 : Int) ≤ x4 ∧ x4 ≤ (11 : Int) from by omega)
  · skip
    replace c12 : ¬ (y0 ≠ y1) := c12
    exact sm_306_p116 hQ hX4 (show (16 - x2).toNat ≤ M4 from by omega) hI (show (-2147483648 : Int) ≤ x1 ∧ x1 ≤ (2147483647 : Int) from by omega) (show (0 : Int) ≤ x2 ∧ x2 ≤ (15 : Int) from by omega)
theorem sm_306_p63 {X4 : Int → Int → lf_Z → Prop} {Q : Int → lf_Z → Prop} {x1 : Int} {x2 : Int} {x3 : Int} {x4 : Int} {y0 : Int} {s : lf_Z} (hQ : ∀ (r : Int) (s' : lf_Z), iv_A s'.1 s'.2.2 → lf_fq [108] 1000000 true s.1 s.2.2 s'.1 s'.2.2 → ((-2147483648) ≤ r ∧ r ≤ 2147483647) → Q r s') {M4 : Nat} (hX4 : ∀ (x1 : Int) (x2 : Int) (s' : lf_Z), iv_A s'.1 s'.2.2 → lf_fq [108] 1000000 true s.1 s.2.2 s'.1 s'.2.2 → (-2147483648) ≤ x1 ∧ x1 ≤ 2147483647 → 0 ≤ x2 ∧ x2 ≤ 16 → (16 - x2).toNat < M4 → X4 x1 x2 s') (hM4 : (16 - x2).toNat ≤ M4) (hI : iv_A s.1 s.2.2) (bx1 : (-2147483648) ≤ x1 ∧ x1 ≤ 2147483647) (bx2 : 0 ≤ x2 ∧ x2 ≤ 15) (bx3 : 0 ≤ x3 ∧ x3 ≤ 11) (bx4 : 0 ≤ x4 ∧ x4 ≤ 11) (by0 : 0 ≤ y0 ∧ y0 ≤ 1) : fm_306_p63 X4 Q x1 x2 x3 x4 y0 s := by
  unfold fm_306_p63
  refine sm_265 hI (show (0 : Int) ≤ x4 ∧ x4 ≤ (11 : Int) from by omega) (fun r31 q10 => ?_)
  refine ⟨(show lf_R r31 from lf_Rof (by omega)), ?_⟩
  refine ⟨fun c11 => ?_, fun c11 => ?_⟩
  · skip
    replace c11 : r31 ≠ 3 := c11
    exact sm_306_p78 hQ hX4 (show (16 - x2).toNat ≤ M4 from by omega) hI (show (-2147483648 : Int) ≤ x1 ∧ x1 ≤ (2147483647 : Int) from by omega) (show (0 : Int) ≤ x2 ∧ x2 ≤ (15 : Int) from by omega) (show (0 : Int) ≤ x3 ∧ x3 ≤ (11 : Int) from by omega) (show (0 : Int) ≤ x4 ∧ x4 ≤ (11 : Int) from by omega) (show (0 : Int) ≤ y0 ∧ y0 ≤ (1 : Int) from by omega) (show (0 : Int) ≤ 0 ∧ 0 ≤ (1 : Int) from by omega)
  · skip
    replace c11 : ¬ (r31 ≠ 3) := c11
    exact sm_306_p78 hQ hX4 (show (16 - x2).toNat ≤ M4 from by omega) hI (show (-2147483648 : Int) ≤ x1 ∧ x1 ≤ (2147483647 : Int) from by omega) (show (0 : Int) ≤ x2 ∧ x2 ≤ (15 : Int) from by omega) (show (0 : Int) ≤ x3 ∧ x3 ≤ (11 : Int) from by omega) (show (0 : Int) ≤ x4 ∧ x4 ≤ (11 : Int) from by omega) (show (0 : Int) ≤ y0 ∧ y0 ≤ (1 : Int) from by omega) (show (0 : Int) ≤ 1 ∧ 1 ≤ (1 : Int) from by omega)
theorem sm_306_p4 {X4 : Int → Int → lf_Z → Prop} {Q : Int → lf_Z → Prop} {x1 : Int} {x2 : Int} {s : lf_Z} (hQ : ∀ (r : Int) (s' : lf_Z), iv_A s'.1 s'.2.2 → lf_fq [108] 1000000 true s.1 s.2.2 s'.1 s'.2.2 → ((-2147483648) ≤ r ∧ r ≤ 2147483647) → Q r s') {M4 : Nat} (hX4 : ∀ (x1 : Int) (x2 : Int) (s' : lf_Z), iv_A s'.1 s'.2.2 → lf_fq [108] 1000000 true s.1 s.2.2 s'.1 s'.2.2 → (-2147483648) ≤ x1 ∧ x1 ≤ 2147483647 → 0 ≤ x2 ∧ x2 ≤ 16 → (16 - x2).toNat < M4 → X4 x1 x2 s') (hM4 : (16 - x2).toNat ≤ M4) (hI : iv_A s.1 s.2.2) (bx1 : (-2147483648) ≤ x1 ∧ x1 ≤ 2147483647) (bx2 : 0 ≤ x2 ∧ x2 ≤ 16) : fm_306_p4 Q X4 x1 x2 s := by
  unfold fm_306_p4
  have b1 : 0 ≤ s.1 96 1 ∧ s.1 96 1 ≤ 16 := iv_rd96 hI (iv_fd6ad3e54 (by omega))
  have b2 : s.1 96 1 ≤ 0 ∨ 0 < s.1 96 0 := (show s.1 96 1 ≤ 0 ∨ 0 < s.1 96 0 from iv_l96_1 hI)
  refine ⟨(show lf_R x2 from lf_Rof (by omega)), ?_⟩
  refine ⟨(show lf_R (s.1 96 1) from lf_Rof (by omega)), ?_⟩
  refine ⟨fun c3 => ?_, fun c3 => ?_⟩
  · skip
    replace c3 : s.1 96 1 ≤ x2 := c3
    exact hQ x1 s hI (lf_fq_rf) (show (-2147483648 : Int) ≤ x1 ∧ x1 ≤ (2147483647 : Int) from by omega)
  · skip
    replace c3 : ¬ (s.1 96 1 ≤ x2) := c3
    refine ⟨(show (0 : Int) ≤ 50 + (4 * x2) ∧ 50 + (4 * x2) < (1538 : Int) from by omega), ?_⟩
    have b4 : 0 ≤ s.1 96 (50 + (4 * x2)) ∧ s.1 96 (50 + (4 * x2)) ≤ 11 := iv_rd96 hI (iv_f76190a29 (x2) (by omega) (by omega))
    refine ⟨(show (0 : Int) ≤ (50 + (4 * x2)) + 1 ∧ (50 + (4 * x2)) + 1 < (1538 : Int) from by omega), ?_⟩
    have b5 : 0 ≤ s.1 96 ((50 + (4 * x2)) + 1) ∧ s.1 96 ((50 + (4 * x2)) + 1) ≤ 11 := iv_rd96 hI (iv_fba8b7512 (x2) (by omega) (by omega))
    refine sm_252 hI (show (0 : Int) ≤ x2 ∧ x2 ≤ (15 : Int) from by omega) (fun z26 => ?_)
    refine ⟨fun c7 => ?_, fun c7 => ?_⟩
    · skip
      exact sm_306_p116 hQ hX4 (show (16 - x2).toNat ≤ M4 from by omega) hI (show (-2147483648 : Int) ≤ x1 ∧ x1 ≤ (2147483647 : Int) from by omega) (show (0 : Int) ≤ x2 ∧ x2 ≤ (15 : Int) from by omega)
    · skip
      refine sm_265 hI (show (0 : Int) ≤ s.1 96 (50 + (4 * x2)) ∧ s.1 96 (50 + (4 * x2)) ≤ (11 : Int) from by omega) (fun r28 q8 => ?_)
      refine ⟨(show lf_R r28 from lf_Rof (by omega)), ?_⟩
      refine ⟨fun c9 => ?_, fun c9 => ?_⟩
      · skip
        replace c9 : r28 ≠ 3 := c9
        exact sm_306_p63 hQ hX4 (show (16 - x2).toNat ≤ M4 from by omega) hI (show (-2147483648 : Int) ≤ x1 ∧ x1 ≤ (2147483647 : Int) from by omega) (show (0 : Int) ≤ x2 ∧ x2 ≤ (15 : Int) from by omega) (show (0 : Int) ≤ s.1 96 (50 + (4 * x2)) ∧ s.1 96 (50 + (4 * x2)) ≤ (11 : Int) from by omega) (show (0 : Int) ≤ s.1 96 ((50 + (4 * x2)) + 1) ∧ s.1 96 ((50 + (4 * x2)) + 1) ≤ (11 : Int) from by omega) (show (0 : Int) ≤ 0 ∧ 0 ≤ (1 : Int) from by omega)
      · skip
        replace c9 : ¬ (r28 ≠ 3) := c9
        exact sm_306_p63 hQ hX4 (show (16 - x2).toNat ≤ M4 from by omega) hI (show (-2147483648 : Int) ≤ x1 ∧ x1 ≤ (2147483647 : Int) from by omega) (show (0 : Int) ≤ x2 ∧ x2 ≤ (15 : Int) from by omega) (show (0 : Int) ≤ s.1 96 (50 + (4 * x2)) ∧ s.1 96 (50 + (4 * x2)) ≤ (11 : Int) from by omega) (show (0 : Int) ≤ s.1 96 ((50 + (4 * x2)) + 1) ∧ s.1 96 ((50 + (4 * x2)) + 1) ≤ (11 : Int) from by omega) (show (0 : Int) ≤ 1 ∧ 1 ≤ (1 : Int) from by omega)
theorem sm_306_p4L {Q : Int → lf_Z → Prop} {x1 : Int} {x2 : Int} {s : lf_Z} (hQ : ∀ (r : Int) (s' : lf_Z), iv_A s'.1 s'.2.2 → lf_fq [108] 1000000 true s.1 s.2.2 s'.1 s'.2.2 → ((-2147483648) ≤ r ∧ r ≤ 2147483647) → Q r s') (hI : iv_A s.1 s.2.2) (bx1 : (-2147483648) ≤ x1 ∧ x1 ≤ 2147483647) (bx2 : 0 ≤ x2 ∧ x2 ≤ 16) : fm_306_p4L Q x1 x2 s := by
  intro X4 hX
  have key : ∀ (m9 : Nat) (x1 : Int) (x2 : Int) (s' : lf_Z), iv_A s'.1 s'.2.2 → lf_fq [108] 1000000 true s.1 s.2.2 s'.1 s'.2.2 → (-2147483648) ≤ x1 ∧ x1 ≤ 2147483647 → 0 ≤ x2 ∧ x2 ≤ 16 → (16 - x2).toNat < m9 → X4 x1 x2 s' := by
    intro m9
    induction m9 with
    | zero => intro x1 x2 s' _ _ bx1 bx2 h9; exact absurd h9 (Nat.not_lt_zero _)
    | succ m9 ih => intro x1 x2 s' i7 f7 bx1 bx2 h9; exact hX _ _ _ (sm_306_p4 (fun r9 t9 i9 f9 => hQ r9 t9 i9 (lf_fq_tr f7 f9))   (fun x1' x2' t8 i8 f8 bx1' bx2' h8 => ih x1' x2' t8 i8 (lf_fq_tr f7 f8) bx1' bx2' (by omega)) (Nat.le_refl _)  i7  bx1 bx2  )
  exact key _ _ _ s hI lf_fq_rf bx1 bx2 (Nat.lt_succ_self _)
theorem sm_306 {Q : Int → lf_Z → Prop} {s : lf_Z} (hI : iv_A s.1 s.2.2) (hQ : ∀ (r : Int) (s' : lf_Z), iv_A s'.1 s'.2.2 → lf_fq [108] 1000000 true s.1 s.2.2 s'.1 s'.2.2 → ((-2147483648) ≤ r ∧ r ≤ 2147483647) → Q r s') : fm_306 Q s := by
  unfold fm_306
  exact sm_306_p4L hQ hI (show (-2147483648 : Int) ≤ 0 ∧ 0 ≤ (2147483647 : Int) from by omega) (show (0 : Int) ≤ 0 ∧ 0 ≤ (16 : Int) from by omega)
-- fm_153 ElevenBullocks.weightOf i i i
theorem sm_153_p63 {X63 : Int → Int → lf_Z → Prop} {Q : Int → lf_Z → Prop} {x3 : Int} {x5 : Int} {s : lf_Z} (hQ : ∀ (r : Int), Q r s) {M63 : Nat} (hX63 : ∀ (x3 : Int) (x5 : Int), 0 ≤ x5 ∧ x5 ≤ 12 → (12 - x5).toNat < M63 → X63 x3 x5 s) (hM63 : (12 - x5).toNat ≤ M63) (hI : iv_A s.1 s.2.2) (bx5 : 0 ≤ x5 ∧ x5 ≤ 12) : fm_153_p63 Q X63 x3 x5 s := by
  unfold fm_153_p63
  refine ⟨(show lf_R x5 from lf_Rof (by omega)), ?_⟩
  refine ⟨fun c4 => ?_, fun c4 => ?_⟩
  · skip
    replace c4 : 12 ≤ x5 := c4
    exact hQ (lf_wl x3)
  · skip
    replace c4 : ¬ (12 ≤ x5) := c4
    exact hX63 (lf_wl ((lf_wl x3) * 10)) (x5 + 1) (show (0 : Int) ≤ x5 + 1 ∧ x5 + 1 ≤ (12 : Int) from by omega) (show (12 - (x5 + 1)).toNat < M63 from by omega)
theorem sm_153_p63L {Q : Int → lf_Z → Prop} {x3 : Int} {x5 : Int} {s : lf_Z} (hQ : ∀ (r : Int), Q r s) (hI : iv_A s.1 s.2.2) (bx5 : 0 ≤ x5 ∧ x5 ≤ 12) : fm_153_p63L Q x3 x5 s := by
  intro X63 hX
  have key : ∀ (m9 : Nat) (x3 : Int) (x5 : Int), 0 ≤ x5 ∧ x5 ≤ 12 → (12 - x5).toNat < m9 → X63 x3 x5 s := by
    intro m9
    induction m9 with
    | zero => intro x3 x5 bx5 h9; exact absurd h9 (Nat.not_lt_zero _)
    | succ m9 ih => intro x3 x5 bx5 h9; exact hX _ _ _ (sm_153_p63 hQ   (fun x3' x5' bx5' h8 => ih x3' x5' bx5' (by omega)) (Nat.le_refl _)  hI  bx5  )
  exact key _ _ _ bx5   (Nat.lt_succ_self _)
theorem sm_153_p41 {X41 : Int → Int → lf_Z → Prop} {Q : Int → lf_Z → Prop} {x0 : Int} {x1 : Int} {x2 : Int} {x3 : Int} {x5 : Int} {s : lf_Z} (hQ : ∀ (r : Int), Q r s) {M41 : Nat} (hX41 : ∀ (x3 : Int) (x5 : Int), 0 ≤ x5 ∧ x5 ≤ 12 → (12 - x5).toNat < M41 → X41 x3 x5 s) (hM41 : (12 - x5).toNat ≤ M41) (hI : iv_A s.1 s.2.2) (bx0 : 0 ≤ x0 ∧ x0 ≤ 12) (bx1 : 0 ≤ x1 ∧ x1 ≤ 9) (bx2 : 0 ≤ x2 ∧ x2 ≤ 12) (bx5 : 0 ≤ x5 ∧ x5 ≤ 12) : fm_153_p41 Q x0 x1 x2 X41 x3 x5 s := by
  unfold fm_153_p41
  refine ⟨(show lf_R x5 from lf_Rof (by omega)), ?_⟩
  refine ⟨(show lf_R (x0 - x2) from lf_Rof (by omega)), ?_⟩
  refine ⟨fun c3 => ?_, fun c3 => ?_⟩
  · skip
    replace c3 : x0 - x2 ≤ x5 := c3
    exact sm_153_p63L hQ hI (show (0 : Int) ≤ x0 ∧ x0 ≤ (12 : Int) from by omega)
  · skip
    replace c3 : ¬ (x0 - x2 ≤ x5) := c3
    refine ⟨(show lf_R x1 from lf_Rof (by omega)), ?_⟩
    exact hX41 (lf_wl ((lf_wl x3) * x1)) (x5 + 1) (show (0 : Int) ≤ x5 + 1 ∧ x5 + 1 ≤ (12 : Int) from by omega) (show (12 - (x5 + 1)).toNat < M41 from by omega)
theorem sm_153_p41L {Q : Int → lf_Z → Prop} {x0 : Int} {x1 : Int} {x2 : Int} {x3 : Int} {x5 : Int} {s : lf_Z} (hQ : ∀ (r : Int), Q r s) (hI : iv_A s.1 s.2.2) (bx0 : 0 ≤ x0 ∧ x0 ≤ 12) (bx1 : 0 ≤ x1 ∧ x1 ≤ 9) (bx2 : 0 ≤ x2 ∧ x2 ≤ 12) (bx5 : 0 ≤ x5 ∧ x5 ≤ 12) : fm_153_p41L Q x0 x1 x2 x3 x5 s := by
  intro X41 hX
  have key : ∀ (m9 : Nat) (x3 : Int) (x5 : Int), 0 ≤ x5 ∧ x5 ≤ 12 → (12 - x5).toNat < m9 → X41 x3 x5 s := by
    intro m9
    induction m9 with
    | zero => intro x3 x5 bx5 h9; exact absurd h9 (Nat.not_lt_zero _)
    | succ m9 ih => intro x3 x5 bx5 h9; exact hX _ _ _ (sm_153_p41 hQ   (fun x3' x5' bx5' h8 => ih x3' x5' bx5' (by omega)) (Nat.le_refl _)  hI  bx0 bx1 bx2 bx5  )
  exact key _ _ _ bx5   (Nat.lt_succ_self _)
theorem sm_153_p12 {X12 : Int → Int → lf_Z → Prop} {Q : Int → lf_Z → Prop} {x0 : Int} {x1 : Int} {x2 : Int} {x3 : Int} {x5 : Int} {s : lf_Z} (hQ : ∀ (r : Int), Q r s) {M12 : Nat} (hX12 : ∀ (x3 : Int) (x5 : Int), 1 ≤ x5 ∧ x5 ≤ 13 → (13 - x5).toNat < M12 → X12 x3 x5 s) (hM12 : (13 - x5).toNat ≤ M12) (hI : iv_A s.1 s.2.2) (bx0 : 0 ≤ x0 ∧ x0 ≤ 12) (bx1 : 0 ≤ x1 ∧ x1 ≤ 9) (bx2 : 0 ≤ x2 ∧ x2 ≤ 12) (bx5 : 1 ≤ x5 ∧ x5 ≤ 13) : fm_153_p12 Q x0 x1 x2 X12 x3 x5 s := by
  unfold fm_153_p12
  refine ⟨(show lf_R x5 from lf_Rof (by omega)), ?_⟩
  refine ⟨(show lf_R (x0 - x2) from lf_Rof (by omega)), ?_⟩
  refine ⟨fun c2 => ?_, fun c2 => ?_⟩
  · skip
    replace c2 : x0 - x2 < x5 := c2
    exact sm_153_p41L hQ hI (show (0 : Int) ≤ x0 ∧ x0 ≤ (12 : Int) from by omega) (show (0 : Int) ≤ x1 ∧ x1 ≤ (9 : Int) from by omega) (show (0 : Int) ≤ x2 ∧ x2 ≤ (12 : Int) from by omega) (show (0 : Int) ≤ 0 ∧ 0 ≤ (12 : Int) from by omega)
  · skip
    replace c2 : ¬ (x0 - x2 < x5) := c2
    refine ⟨(show lf_R (x2 + x5) from lf_Rof (by omega)), ?_⟩
    refine ⟨(show x5 ≠ 0 from by omega), ?_⟩
    exact hX12 (lf_wl ((lf_wl ((lf_wl x3) * (x2 + x5))).tdiv x5)) (x5 + 1) (show (1 : Int) ≤ x5 + 1 ∧ x5 + 1 ≤ (13 : Int) from by omega) (show (13 - (x5 + 1)).toNat < M12 from by omega)
theorem sm_153_p12L {Q : Int → lf_Z → Prop} {x0 : Int} {x1 : Int} {x2 : Int} {x3 : Int} {x5 : Int} {s : lf_Z} (hQ : ∀ (r : Int), Q r s) (hI : iv_A s.1 s.2.2) (bx0 : 0 ≤ x0 ∧ x0 ≤ 12) (bx1 : 0 ≤ x1 ∧ x1 ≤ 9) (bx2 : 0 ≤ x2 ∧ x2 ≤ 12) (bx5 : 1 ≤ x5 ∧ x5 ≤ 13) : fm_153_p12L Q x0 x1 x2 x3 x5 s := by
  intro X12 hX
  have key : ∀ (m9 : Nat) (x3 : Int) (x5 : Int), 1 ≤ x5 ∧ x5 ≤ 13 → (13 - x5).toNat < m9 → X12 x3 x5 s := by
    intro m9
    induction m9 with
    | zero => intro x3 x5 bx5 h9; exact absurd h9 (Nat.not_lt_zero _)
    | succ m9 ih => intro x3 x5 bx5 h9; exact hX _ _ _ (sm_153_p12 hQ   (fun x3' x5' bx5' h8 => ih x3' x5' bx5' (by omega)) (Nat.le_refl _)  hI  bx0 bx1 bx2 bx5  )
  exact key _ _ _ bx5   (Nat.lt_succ_self _)
theorem sm_153 {a0 : Int} {a1 : Int} {a2 : Int} {Q : Int → lf_Z → Prop} {s : lf_Z} (hI : iv_A s.1 s.2.2) (ba0 : 0 ≤ a0 ∧ a0 ≤ 12) (ba1 : 0 ≤ a1 ∧ a1 ≤ 9) (ba2 : 0 ≤ a2 ∧ a2 ≤ 12) (hQ : ∀ (r : Int), Q r s) : fm_153 a0 a1 a2 Q s := by
  unfold fm_153
  refine ⟨(show lf_R a0 from lf_Rof (by omega)), ?_⟩
  refine ⟨(show lf_R a2 from lf_Rof (by omega)), ?_⟩
  refine ⟨fun c1 => ?_, fun c1 => ?_⟩
  · skip
    replace c1 : a2 ≤ a0 := c1
    exact sm_153_p12L hQ hI (show (0 : Int) ≤ a0 ∧ a0 ≤ (12 : Int) from by omega) (show (0 : Int) ≤ a1 ∧ a1 ≤ (9 : Int) from by omega) (show (0 : Int) ≤ a2 ∧ a2 ≤ (12 : Int) from by omega) (show (1 : Int) ≤ 1 ∧ 1 ≤ (13 : Int) from by omega)
  · skip
    replace c1 : ¬ (a2 ≤ a0) := c1
    exact hQ 0
-- fm_152 ElevenBullocks.many 0 i i i i
theorem sm_152_p30 {Q : Int → lf_Z → Prop} {s : lf_Z} (hQ : ∀ (r : Int), Q r s) (hI : iv_A s.1 s.2.2) : fm_152_p30 Q s := by
  unfold fm_152_p30
  exact hQ (-1)
theorem sm_152_p40 {X40 : Int → Int → lf_Z → Prop} {Q : Int → lf_Z → Prop} {x1 : Int} {x2 : Int} {x3 : Int} {x4 : Int} {x5 : Int} {x7 : Int} {s : lf_Z} (hQ : ∀ (r : Int), Q r s) {M40 : Nat} (hX40 : ∀ (x5 : Int) (x7 : Int), 0 ≤ x7 ∧ x7 ≤ 13 → (13 - x7).toNat < M40 → X40 x5 x7 s) (hM40 : (13 - x7).toNat ≤ M40) (hI : iv_A s.1 s.2.2) (bx1 : 0 ≤ x1 ∧ x1 ≤ 9) (bx2 : 0 ≤ x2 ∧ x2 ≤ 12) (bx3 : 0 ≤ x3 ∧ x3 ≤ 12) (bx4 : 0 ≤ x4 ∧ x4 ≤ 1) (bx7 : 0 ≤ x7 ∧ x7 ≤ 13) : fm_152_p40 Q x1 x2 x3 x4 X40 x5 x7 s := by
  unfold fm_152_p40
  refine ⟨(show lf_R x7 from lf_Rof (by omega)), ?_⟩
  refine ⟨fun c7 => ?_, fun c7 => ?_⟩
  · skip
    replace c7 : 12 < x7 := c7
    refine sm_153 hI (show (0 : Int) ≤ x3 ∧ x3 ≤ (12 : Int) from by omega) (show (0 : Int) ≤ x1 ∧ x1 ≤ (9 : Int) from by omega) (show (0 : Int) ≤ x2 ∧ x2 ≤ (12 : Int) from by omega) (fun r29 => ?_)
    refine sm_125 hI (show (0 : Int) ≤ x4 ∧ x4 ≤ (1 : Int) from by omega) (fun r31 => ?_)
    exact hQ (lf_wl r31)
  · skip
    replace c7 : ¬ (12 < x7) := c7
    refine sm_153 hI (show (0 : Int) ≤ x7 ∧ x7 ≤ (12 : Int) from by omega) (show (0 : Int) ≤ x1 ∧ x1 ≤ (9 : Int) from by omega) (show (0 : Int) ≤ x2 ∧ x2 ≤ (12 : Int) from by omega) (fun r33 => ?_)
    exact hX40 (lf_wl ((lf_wl x5) + (lf_wl r33))) (x7 + 1) (show (0 : Int) ≤ x7 + 1 ∧ x7 + 1 ≤ (13 : Int) from by omega) (show (13 - (x7 + 1)).toNat < M40 from by omega)
theorem sm_152_p40L {Q : Int → lf_Z → Prop} {x1 : Int} {x2 : Int} {x3 : Int} {x4 : Int} {x5 : Int} {x7 : Int} {s : lf_Z} (hQ : ∀ (r : Int), Q r s) (hI : iv_A s.1 s.2.2) (bx1 : 0 ≤ x1 ∧ x1 ≤ 9) (bx2 : 0 ≤ x2 ∧ x2 ≤ 12) (bx3 : 0 ≤ x3 ∧ x3 ≤ 12) (bx4 : 0 ≤ x4 ∧ x4 ≤ 1) (bx7 : 0 ≤ x7 ∧ x7 ≤ 13) : fm_152_p40L Q x1 x2 x3 x4 x5 x7 s := by
  intro X40 hX
  have key : ∀ (m9 : Nat) (x5 : Int) (x7 : Int), 0 ≤ x7 ∧ x7 ≤ 13 → (13 - x7).toNat < m9 → X40 x5 x7 s := by
    intro m9
    induction m9 with
    | zero => intro x5 x7 bx7 h9; exact absurd h9 (Nat.not_lt_zero _)
    | succ m9 ih => intro x5 x7 bx7 h9; exact hX _ _ _ (sm_152_p40 hQ   (fun x5' x7' bx7' h8 => ih x5' x7' bx7' (by omega)) (Nat.le_refl _)  hI  bx1 bx2 bx3 bx4 bx7  )
  exact key _ _ _ bx7   (Nat.lt_succ_self _)
theorem sm_152 {a1 : Int} {a2 : Int} {a3 : Int} {a4 : Int} {Q : Int → lf_Z → Prop} {s : lf_Z} (hI : iv_A s.1 s.2.2) (ba1 : (-2147483648) ≤ a1 ∧ a1 ≤ 2147483647) (ba2 : (-2147483648) ≤ a2 ∧ a2 ≤ 2147483647) (ba3 : (-2147483648) ≤ a3 ∧ a3 ≤ 2147483647) (ba4 : 0 ≤ a4 ∧ a4 ≤ 1) (hQ : ∀ (r : Int), Q r s) : fm_152 a1 a2 a3 a4 Q s := by
  unfold fm_152
  refine sm_15 hI (show (-2147483648 : Int) ≤ a1 ∧ a1 ≤ (2147483647 : Int) from by omega) (show (-1 : Int) ≤ 0 ∧ 0 ≤ (99 : Int) from by omega) (show (-2147483648 : Int) ≤ 9 ∧ 9 ≤ (2147483647 : Int) from by omega) (fun z22 q1 => ?_)
  refine ⟨fun c2 => ?_, fun c2 => ?_⟩
  · skip
    have dc2 := q1.2 c2
    exact sm_152_p30 hQ hI
  · skip
    have dc2 := q1.1 c2
    refine sm_15 hI (show (-2147483648 : Int) ≤ a2 ∧ a2 ≤ (2147483647 : Int) from by omega) (show (-1 : Int) ≤ 0 ∧ 0 ≤ (99 : Int) from by omega) (show (-2147483648 : Int) ≤ 12 ∧ 12 ≤ (2147483647 : Int) from by omega) (fun z24 q3 => ?_)
    refine ⟨fun c4 => ?_, fun c4 => ?_⟩
    · skip
      have dc4 := q3.2 c4
      exact sm_152_p30 hQ hI
    · skip
      have dc4 := q3.1 c4
      refine sm_15 hI (show (-2147483648 : Int) ≤ a3 ∧ a3 ≤ (2147483647 : Int) from by omega) (show (-1 : Int) ≤ 0 ∧ 0 ≤ (99 : Int) from by omega) (show (-2147483648 : Int) ≤ 12 ∧ 12 ≤ (2147483647 : Int) from by omega) (fun z26 q5 => ?_)
      refine ⟨fun c6 => ?_, fun c6 => ?_⟩
      · skip
        have dc6 := q5.1 c6
        exact sm_152_p40L hQ hI (show (0 : Int) ≤ a1 ∧ a1 ≤ (9 : Int) from by omega) (show (0 : Int) ≤ a2 ∧ a2 ≤ (12 : Int) from by omega) (show (0 : Int) ≤ a3 ∧ a3 ≤ (12 : Int) from by omega) (show (0 : Int) ≤ a4 ∧ a4 ≤ (1 : Int) from by omega) (show (0 : Int) ≤ 0 ∧ 0 ≤ (13 : Int) from by omega)
      · skip
        have dc6 := q5.2 c6
        exact sm_152_p30 hQ hI
-- fm_310 Model.power l i
theorem sm_310_p5 {X5 : Int → Int → lf_Z → Prop} {Q : Int → lf_Z → Prop} {x0 : Int} {x2 : Int} {x3 : Int} {x5 : Int} {s : lf_Z} (hQ : ∀ (r : Int), Q r s) {M5 : Nat} (hX5 : ∀ (x3 : Int) (x5 : Int), 0 ≤ x5 ∧ x5 ≤ 12 → (12 - x5).toNat < M5 → X5 x3 x5 s) (hM5 : (12 - x5).toNat ≤ M5) (hI : iv_A s.1 s.2.2) (bx2 : (-12) ≤ x2 ∧ x2 ≤ 12) (bx5 : 0 ≤ x5 ∧ x5 ≤ 12) : fm_310_p5 Q x0 x2 X5 x3 x5 s := by
  unfold fm_310_p5
  refine ⟨(show lf_R x5 from lf_Rof (by omega)), ?_⟩
  refine ⟨(show lf_R x2 from lf_Rof (by omega)), ?_⟩
  refine ⟨fun c1 => ?_, fun c1 => ?_⟩
  · skip
    replace c1 : x2 ≤ x5 := c1
    exact hQ (lf_wl x3)
  · skip
    replace c1 : ¬ (x2 ≤ x5) := c1
    exact hX5 (lf_wl ((lf_wl x3) * (lf_wl x0))) (x5 + 1) (show (0 : Int) ≤ x5 + 1 ∧ x5 + 1 ≤ (12 : Int) from by omega) (show (12 - (x5 + 1)).toNat < M5 from by omega)
theorem sm_310_p5L {Q : Int → lf_Z → Prop} {x0 : Int} {x2 : Int} {x3 : Int} {x5 : Int} {s : lf_Z} (hQ : ∀ (r : Int), Q r s) (hI : iv_A s.1 s.2.2) (bx2 : (-12) ≤ x2 ∧ x2 ≤ 12) (bx5 : 0 ≤ x5 ∧ x5 ≤ 12) : fm_310_p5L Q x0 x2 x3 x5 s := by
  intro X5 hX
  have key : ∀ (m9 : Nat) (x3 : Int) (x5 : Int), 0 ≤ x5 ∧ x5 ≤ 12 → (12 - x5).toNat < m9 → X5 x3 x5 s := by
    intro m9
    induction m9 with
    | zero => intro x3 x5 bx5 h9; exact absurd h9 (Nat.not_lt_zero _)
    | succ m9 ih => intro x3 x5 bx5 h9; exact hX _ _ _ (sm_310_p5 hQ   (fun x3' x5' bx5' h8 => ih x3' x5' bx5' (by omega)) (Nat.le_refl _)  hI  bx2 bx5  )
  exact key _ _ _ bx5   (Nat.lt_succ_self _)
theorem sm_310 {a0 : Int} {a1 : Int} {Q : Int → lf_Z → Prop} {s : lf_Z} (hI : iv_A s.1 s.2.2) (ba1 : (-12) ≤ a1 ∧ a1 ≤ 12) (hQ : ∀ (r : Int), Q r s) : fm_310 a0 a1 Q s := by
  unfold fm_310
  exact sm_310_p5L hQ hI (show (-12 : Int) ≤ a1 ∧ a1 ≤ (12 : Int) from by omega) (show (0 : Int) ≤ 0 ∧ 0 ≤ (12 : Int) from by omega)
-- fm_309 Model.weightOf i i i
theorem sm_309_p12 {X12 : Int → Int → lf_Z → Prop} {Q : Int → lf_Z → Prop} {x0 : Int} {x1 : Int} {x2 : Int} {x3 : Int} {x5 : Int} {s : lf_Z} (hQ : ∀ (r : Int), Q r s) {M12 : Nat} (hX12 : ∀ (x3 : Int) (x5 : Int), 1 ≤ x5 ∧ x5 ≤ 13 → (13 - x5).toNat < M12 → X12 x3 x5 s) (hM12 : (13 - x5).toNat ≤ M12) (hI : iv_A s.1 s.2.2) (bx0 : 0 ≤ x0 ∧ x0 ≤ 9) (bx1 : 0 ≤ x1 ∧ x1 ≤ 12) (bx2 : 0 ≤ x2 ∧ x2 ≤ 12) (bx5 : 1 ≤ x5 ∧ x5 ≤ 13) : fm_309_p12 Q x0 x1 x2 X12 x3 x5 s := by
  unfold fm_309_p12
  refine ⟨(show lf_R x5 from lf_Rof (by omega)), ?_⟩
  refine ⟨(show lf_R x1 from lf_Rof (by omega)), ?_⟩
  refine ⟨fun c2 => ?_, fun c2 => ?_⟩
  · skip
    replace c2 : x1 < x5 := c2
    refine ⟨(show lf_R (10 - x0) from lf_Rof (by omega)), ?_⟩
    refine sm_310 hI (show (-12 : Int) ≤ x1 ∧ x1 ≤ (12 : Int) from by omega) (fun r27 => ?_)
    refine ⟨(show lf_R x0 from lf_Rof (by omega)), ?_⟩
    refine sm_310 hI (show (-12 : Int) ≤ x2 - x1 ∧ x2 - x1 ≤ (12 : Int) from by omega) (fun r30 => ?_)
    refine sm_310 hI (show (-12 : Int) ≤ 12 - x2 ∧ 12 - x2 ≤ (12 : Int) from by omega) (fun r32 => ?_)
    exact hQ (lf_wl ((lf_wl ((lf_wl ((lf_wl x3) * (lf_wl r27))) * (lf_wl r30))) * (lf_wl r32)))
  · skip
    replace c2 : ¬ (x1 < x5) := c2
    refine ⟨(show lf_R ((x2 - x1) + x5) from lf_Rof (by omega)), ?_⟩
    refine ⟨(show x5 ≠ 0 from by omega), ?_⟩
    exact hX12 (lf_wl ((lf_wl ((lf_wl x3) * ((x2 - x1) + x5))).tdiv x5)) (x5 + 1) (show (1 : Int) ≤ x5 + 1 ∧ x5 + 1 ≤ (13 : Int) from by omega) (show (13 - (x5 + 1)).toNat < M12 from by omega)
theorem sm_309_p12L {Q : Int → lf_Z → Prop} {x0 : Int} {x1 : Int} {x2 : Int} {x3 : Int} {x5 : Int} {s : lf_Z} (hQ : ∀ (r : Int), Q r s) (hI : iv_A s.1 s.2.2) (bx0 : 0 ≤ x0 ∧ x0 ≤ 9) (bx1 : 0 ≤ x1 ∧ x1 ≤ 12) (bx2 : 0 ≤ x2 ∧ x2 ≤ 12) (bx5 : 1 ≤ x5 ∧ x5 ≤ 13) : fm_309_p12L Q x0 x1 x2 x3 x5 s := by
  intro X12 hX
  have key : ∀ (m9 : Nat) (x3 : Int) (x5 : Int), 1 ≤ x5 ∧ x5 ≤ 13 → (13 - x5).toNat < m9 → X12 x3 x5 s := by
    intro m9
    induction m9 with
    | zero => intro x3 x5 bx5 h9; exact absurd h9 (Nat.not_lt_zero _)
    | succ m9 ih => intro x3 x5 bx5 h9; exact hX _ _ _ (sm_309_p12 hQ   (fun x3' x5' bx5' h8 => ih x3' x5' bx5' (by omega)) (Nat.le_refl _)  hI  bx0 bx1 bx2 bx5  )
  exact key _ _ _ bx5   (Nat.lt_succ_self _)
theorem sm_309 {a0 : Int} {a1 : Int} {a2 : Int} {Q : Int → lf_Z → Prop} {s : lf_Z} (hI : iv_A s.1 s.2.2) (ba0 : 0 ≤ a0 ∧ a0 ≤ 9) (ba1 : 0 ≤ a1 ∧ a1 ≤ 12) (ba2 : 0 ≤ a2 ∧ a2 ≤ 12) (hQ : ∀ (r : Int), Q r s) : fm_309 a0 a1 a2 Q s := by
  unfold fm_309
  refine ⟨(show lf_R a2 from lf_Rof (by omega)), ?_⟩
  refine ⟨(show lf_R a1 from lf_Rof (by omega)), ?_⟩
  refine ⟨fun c1 => ?_, fun c1 => ?_⟩
  · skip
    replace c1 : a1 ≤ a2 := c1
    exact sm_309_p12L hQ hI (show (0 : Int) ≤ a0 ∧ a0 ≤ (9 : Int) from by omega) (show (0 : Int) ≤ a1 ∧ a1 ≤ (12 : Int) from by omega) (show (0 : Int) ≤ a2 ∧ a2 ≤ (12 : Int) from by omega) (show (1 : Int) ≤ 1 ∧ 1 ≤ (13 : Int) from by omega)
  · skip
    replace c1 : ¬ (a1 ≤ a2) := c1
    exact hQ 0
-- fm_308 Model.many 95 i i i i
-- fm_156 Errands.chooseBunch 74 i i i i i
theorem sm_156_p167 {R156 : Int → Int → Int → Int → Int → (lf_Z → Prop) → lf_Z → Prop} {X36 : Int → lf_Z → Prop} {Q : lf_Z → Prop} {x1 : Int} {x2 : Int} {x3 : Int} {x4 : Int} {x5 : Int} {x6 : Int} {s : lf_Z} {MR : Nat} (hQ : ∀  (s' : lf_Z), iv_A s'.1 s'.2.2 → lf_fq [74, 76, 77] 1000000 true s.1 s.2.2 s'.1 s'.2.2 → Q  s') (hR156 : ∀ {a1 a2 a3 a4 a5 : Int} {Q : lf_Z → Prop} {s : lf_Z}, (7 - a1).toNat < MR → iv_A s.1 s.2.2 → 0 ≤ a1 ∧ a1 ≤ 6 → (-2147483648) ≤ a2 ∧ a2 ≤ 2147483647 → (-2147483648) ≤ a3 ∧ a3 ≤ 2147483647 → (-2147483648) ≤ a4 ∧ a4 ≤ 2147483647 → (-2147483648) ≤ a5 ∧ a5 ≤ 2147483647 → (∀  (s' : lf_Z), iv_A s'.1 s'.2.2 → lf_fq [74, 76, 77] 1000000 true s.1 s.2.2 s'.1 s'.2.2 → Q  s') → R156 a1 a2 a3 a4 a5 Q s) {M36 : Nat} (hX36 : ∀ (x6 : Int) (s' : lf_Z), iv_A s'.1 s'.2.2 → lf_fq [74, 76, 77] 1000000 true s.1 s.2.2 s'.1 s'.2.2 → 0 ≤ x6 ∧ x6 ≤ 4 → (4 - x6).toNat < M36 → X36 x6 s') (hM36 : (4 - x6).toNat ≤ M36) (hMR : (7 - x1).toNat ≤ MR) (hI : iv_A s.1 s.2.2) (bx1 : 0 ≤ x1 ∧ x1 ≤ 5) (bx2 : (-2147483648) ≤ x2 ∧ x2 ≤ 2147483647) (bx3 : (-2147483648) ≤ x3 ∧ x3 ≤ 2147483647) (bx4 : (-2147483648) ≤ x4 ∧ x4 ≤ 2147483647) (bx5 : (-2147483648) ≤ x5 ∧ x5 ≤ 2147483647) (bx6 : 0 ≤ x6 ∧ x6 ≤ 3) : fm_156_p167 R156 X36 Q x1 x2 x3 x4 x5 x6 s := by
  unfold fm_156_p167
  exact hX36 (x6 + 1) s hI (lf_fq_rf) (show (0 : Int) ≤ x6 + 1 ∧ x6 + 1 ≤ (4 : Int) from by omega) (show (4 - (x6 + 1)).toNat < M36 from by omega)
theorem sm_156_p78 {R156 : Int → Int → Int → Int → Int → (lf_Z → Prop) → lf_Z → Prop} {X36 : Int → lf_Z → Prop} {Q : lf_Z → Prop} {x1 : Int} {x2 : Int} {x3 : Int} {x4 : Int} {x5 : Int} {x6 : Int} {y0 : Int} {s : lf_Z} {MR : Nat} (hQ : ∀  (s' : lf_Z), iv_A s'.1 s'.2.2 → lf_fq [74, 76, 77] 1000000 true s.1 s.2.2 s'.1 s'.2.2 → Q  s') (hR156 : ∀ {a1 a2 a3 a4 a5 : Int} {Q : lf_Z → Prop} {s : lf_Z}, (7 - a1).toNat < MR → iv_A s.1 s.2.2 → 0 ≤ a1 ∧ a1 ≤ 6 → (-2147483648) ≤ a2 ∧ a2 ≤ 2147483647 → (-2147483648) ≤ a3 ∧ a3 ≤ 2147483647 → (-2147483648) ≤ a4 ∧ a4 ≤ 2147483647 → (-2147483648) ≤ a5 ∧ a5 ≤ 2147483647 → (∀  (s' : lf_Z), iv_A s'.1 s'.2.2 → lf_fq [74, 76, 77] 1000000 true s.1 s.2.2 s'.1 s'.2.2 → Q  s') → R156 a1 a2 a3 a4 a5 Q s) {M36 : Nat} (hX36 : ∀ (x6 : Int) (s' : lf_Z), iv_A s'.1 s'.2.2 → lf_fq [74, 76, 77] 1000000 true s.1 s.2.2 s'.1 s'.2.2 → 0 ≤ x6 ∧ x6 ≤ 4 → (4 - x6).toNat < M36 → X36 x6 s') (hM36 : (4 - x6).toNat ≤ M36) (hMR : (7 - x1).toNat ≤ MR) (hI : iv_A s.1 s.2.2) (bx1 : 0 ≤ x1 ∧ x1 ≤ 5) (bx2 : (-2147483648) ≤ x2 ∧ x2 ≤ 2147483647) (bx3 : (-2147483648) ≤ x3 ∧ x3 ≤ 2147483647) (bx4 : (-2147483648) ≤ x4 ∧ x4 ≤ 2147483647) (bx5 : (-2147483648) ≤ x5 ∧ x5 ≤ 2147483647) (bx6 : 0 ≤ x6 ∧ x6 ≤ 3) (by0 : (-1) ≤ y0 ∧ y0 ≤ 999) (kv0 : y0 = -1 ∨ 0 ≤ s.1 17 x6) : fm_156_p78 R156 X36 Q x1 x2 x3 x4 x5 x6 y0 s := by
  unfold fm_156_p78
  refine ⟨(show lf_R y0 from lf_Rof (by omega)), ?_⟩
  refine ⟨fun c11 => ?_, fun c11 => ?_⟩
  · skip
    replace c11 : y0 = (-1) := c11
    exact sm_156_p167 hQ hR156 hX36 (show (4 - x6).toNat ≤ M36 from by omega) (show (7 - x1).toNat ≤ MR from by omega) hI (show (0 : Int) ≤ x1 ∧ x1 ≤ (5 : Int) from by omega) (show (-2147483648 : Int) ≤ x2 ∧ x2 ≤ (2147483647 : Int) from by omega) (show (-2147483648 : Int) ≤ x3 ∧ x3 ≤ (2147483647 : Int) from by omega) (show (-2147483648 : Int) ≤ x4 ∧ x4 ≤ (2147483647 : Int) from by omega) (show (-2147483648 : Int) ≤ x5 ∧ x5 ≤ (2147483647 : Int) from by omega) (show (0 : Int) ≤ x6 ∧ x6 ≤ (3 : Int) from by omega)
  · skip
    replace c11 : ¬ (y0 = (-1)) := c11
    have b12 : (-2147483648) ≤ lf_w (x4 + y0) ∧ lf_w (x4 + y0) ≤ 2147483647 := lf_wB
    refine ⟨(show (0 : Int) ≤ x6 ∧ x6 < (4 : Int) from by omega), ?_⟩
    have b13 : (-2147483648) ≤ s.1 16 x6 ∧ s.1 16 x6 ≤ 2147483647 := iv_full hI
    have b14 : (-1) ≤ s.1 17 x6 ∧ s.1 17 x6 ≤ 11 := iv_r17 hI _
    have b15 : s.1 16 x6 ≤ 0 ∨ 0 ≤ s.1 17 x6 := (by first | exact (show s.1 16 x6 ≤ 0 ∨ 0 ≤ s.1 17 x6 from iv_sp hI (by omega) (by omega)) | exact iv_sp hI (by omega) (by omega))
    refine ⟨(show (0 : Int) ≤ s.1 17 x6 ∧ s.1 17 x6 < (12 : Int) from by omega), ?_⟩
    have b16 : 0 ≤ s.1 3 (s.1 17 x6) ∧ s.1 3 (s.1 17 x6) ≤ 99 := iv_r3 hI _
    have b17 : (-2147483648) ≤ lf_w ((s.1 16 x6) * (s.1 3 (s.1 17 x6))) ∧ lf_w ((s.1 16 x6) * (s.1 3 (s.1 17 x6))) ≤ 2147483647 := lf_wB
    have b18 : (-2147483648) ≤ lf_w ((lf_w ((s.1 16 x6) * (s.1 3 (s.1 17 x6)))) * (lf_w (x4 + y0))) ∧ lf_w ((lf_w ((s.1 16 x6) * (s.1 3 (s.1 17 x6)))) * (lf_w (x4 + y0))) ≤ 2147483647 := lf_wB
    refine ⟨(show (0 : Int) ≤ x1 ∧ x1 < (6 : Int) from by omega), ?_⟩
    have hI19 : iv_A (lf_up s.1 76 x1 x6) s.2.2 := iv_w76 hI (by omega)
    have fr20 : lf_fq [74, 76, 77] 1000000 true s.1 s.2.2 (lf_up s.1 76 x1 x6) s.2.2 := lf_fq_up (lf_fq_rf) rfl (fun h => absurd h (by decide))
    have b21 : 1 ≤ lf_shl 1 x6 ∧ lf_shl 1 x6 ≤ 8 := lf_shl1 (m := 3) (by omega) (by omega) (by decide)
    have b22 : (-2147483648) ≤ lf_xor (lf_shl 1 x6) (-1) ∧ lf_xor (lf_shl 1 x6) (-1) ≤ 2147483647 := lf_xorB
    have b23 : (-2147483648) ≤ lf_and x2 (lf_xor (lf_shl 1 x6) (-1)) ∧ lf_and x2 (lf_xor (lf_shl 1 x6) (-1)) ≤ 2147483647 := lf_andF
    have b24 : (-2147483648) ≤ lf_w (x5 + (lf_w ((lf_w ((s.1 16 x6) * (s.1 3 (s.1 17 x6)))) * (lf_w (x4 + y0))))) ∧ lf_w (x5 + (lf_w ((lf_w ((s.1 16 x6) * (s.1 3 (s.1 17 x6)))) * (lf_w (x4 + y0))))) ≤ 2147483647 := lf_wB
    refine hR156 (show (7 - (x1 + 1)).toNat < MR from by omega) hI19 (show (0 : Int) ≤ x1 + 1 ∧ x1 + 1 ≤ (6 : Int) from by omega) (show (-2147483648 : Int) ≤ lf_and x2 (lf_xor (lf_shl 1 x6) (-1)) ∧ lf_and x2 (lf_xor (lf_shl 1 x6) (-1)) ≤ (2147483647 : Int) from by omega) (show (-2147483648 : Int) ≤ s.1 17 x6 ∧ s.1 17 x6 ≤ (2147483647 : Int) from by omega) (show (-2147483648 : Int) ≤ lf_w (x4 + y0) ∧ lf_w (x4 + y0) ≤ (2147483647 : Int) from by omega) (show (-2147483648 : Int) ≤ lf_w (x5 + (lf_w ((lf_w ((s.1 16 x6) * (s.1 3 (s.1 17 x6)))) * (lf_w (x4 + y0))))) ∧ lf_w (x5 + (lf_w ((lf_w ((s.1 16 x6) * (s.1 3 (s.1 17 x6)))) * (lf_w (x4 + y0))))) ≤ (2147483647 : Int) from by omega) (fun s29 hI26 fr25 => ?_)
    have fr28 : lf_fq [74, 76, 77] 1000000 true s.1 s.2.2 s29.1 s29.2.2 := lf_fq_tr fr20 (lf_fq_wk fr25 rfl (by decide) (by decide))
    exact sm_156_p167 (fun t9 i9 f9 => hQ t9 i9 (lf_fq_tr fr28 f9)) hR156 (fun p0 t9 i9 f9 => hX36 p0 t9 i9 (lf_fq_tr fr28 f9)) (show (4 - x6).toNat ≤ M36 from by omega) (show (7 - x1).toNat ≤ MR from by omega) hI26 (show (0 : Int) ≤ x1 ∧ x1 ≤ (5 : Int) from by omega) (show (-2147483648 : Int) ≤ x2 ∧ x2 ≤ (2147483647 : Int) from by omega) (show (-2147483648 : Int) ≤ x3 ∧ x3 ≤ (2147483647 : Int) from by omega) (show (-2147483648 : Int) ≤ x4 ∧ x4 ≤ (2147483647 : Int) from by omega) (show (-2147483648 : Int) ≤ x5 ∧ x5 ≤ (2147483647 : Int) from by omega) (show (0 : Int) ≤ x6 ∧ x6 ≤ (3 : Int) from by omega)
theorem sm_156_p36 {R156 : Int → Int → Int → Int → Int → (lf_Z → Prop) → lf_Z → Prop} {X36 : Int → lf_Z → Prop} {Q : lf_Z → Prop} {x1 : Int} {x2 : Int} {x3 : Int} {x4 : Int} {x5 : Int} {x6 : Int} {s : lf_Z} {MR : Nat} (hQ : ∀  (s' : lf_Z), iv_A s'.1 s'.2.2 → lf_fq [74, 76, 77] 1000000 true s.1 s.2.2 s'.1 s'.2.2 → Q  s') (hR156 : ∀ {a1 a2 a3 a4 a5 : Int} {Q : lf_Z → Prop} {s : lf_Z}, (7 - a1).toNat < MR → iv_A s.1 s.2.2 → 0 ≤ a1 ∧ a1 ≤ 6 → (-2147483648) ≤ a2 ∧ a2 ≤ 2147483647 → (-2147483648) ≤ a3 ∧ a3 ≤ 2147483647 → (-2147483648) ≤ a4 ∧ a4 ≤ 2147483647 → (-2147483648) ≤ a5 ∧ a5 ≤ 2147483647 → (∀  (s' : lf_Z), iv_A s'.1 s'.2.2 → lf_fq [74, 76, 77] 1000000 true s.1 s.2.2 s'.1 s'.2.2 → Q  s') → R156 a1 a2 a3 a4 a5 Q s) {M36 : Nat} (hX36 : ∀ (x6 : Int) (s' : lf_Z), iv_A s'.1 s'.2.2 → lf_fq [74, 76, 77] 1000000 true s.1 s.2.2 s'.1 s'.2.2 → 0 ≤ x6 ∧ x6 ≤ 4 → (4 - x6).toNat < M36 → X36 x6 s') (hM36 : (4 - x6).toNat ≤ M36) (hMR : (7 - x1).toNat ≤ MR) (hI : iv_A s.1 s.2.2) (bx1 : 0 ≤ x1 ∧ x1 ≤ 5) (bx2 : (-2147483648) ≤ x2 ∧ x2 ≤ 2147483647) (bx3 : (-2147483648) ≤ x3 ∧ x3 ≤ 2147483647) (bx4 : (-2147483648) ≤ x4 ∧ x4 ≤ 2147483647) (bx5 : (-2147483648) ≤ x5 ∧ x5 ≤ 2147483647) (bx6 : 0 ≤ x6 ∧ x6 ≤ 4) : fm_156_p36 R156 Q x1 x2 x3 x4 x5 X36 x6 s := by
  unfold fm_156_p36
  refine ⟨(show lf_R x6 from lf_Rof (by omega)), ?_⟩
  refine ⟨fun c5 => ?_, fun c5 => ?_⟩
  · skip
    replace c5 : 4 ≤ x6 := c5
    exact hQ s hI (lf_fq_rf)
  · skip
    replace c5 : ¬ (4 ≤ x6) := c5
    have b6 : (-2147483648) ≤ lf_shr x2 x6 ∧ lf_shr x2 x6 ≤ 2147483647 := lf_shrB
    have b7 : 0 ≤ lf_and (lf_shr x2 x6) 1 ∧ lf_and (lf_shr x2 x6) 1 ≤ 1 := lf_andB (by omega) (by omega)
    refine ⟨fun c8 => ?_, fun c8 => ?_⟩
    · skip
      replace c8 : lf_and (lf_shr x2 x6) 1 ≠ 1 := c8
      have b9 : (-1) ≤ s.1 17 x6 ∧ s.1 17 x6 ≤ 11 := iv_r17 hI _
      have b10 : s.1 16 x6 ≤ 0 ∨ 0 ≤ s.1 17 x6 := (by first | exact (show s.1 16 x6 ≤ 0 ∨ 0 ≤ s.1 17 x6 from iv_sp hI (by omega) (by omega)) | exact iv_sp hI (by omega) (by omega))
      exact sm_156_p78 hQ hR156 hX36 (show (4 - x6).toNat ≤ M36 from by omega) (show (7 - x1).toNat ≤ MR from by omega) hI (show (0 : Int) ≤ x1 ∧ x1 ≤ (5 : Int) from by omega) (show (-2147483648 : Int) ≤ x2 ∧ x2 ≤ (2147483647 : Int) from by omega) (show (-2147483648 : Int) ≤ x3 ∧ x3 ≤ (2147483647 : Int) from by omega) (show (-2147483648 : Int) ≤ x4 ∧ x4 ≤ (2147483647 : Int) from by omega) (show (-2147483648 : Int) ≤ x5 ∧ x5 ≤ (2147483647 : Int) from by omega) (show (0 : Int) ≤ x6 ∧ x6 ≤ (3 : Int) from by omega) (show (-1 : Int) ≤ (-1) ∧ (-1) ≤ (999 : Int) from by omega) (show (-1) = -1 ∨ 0 ≤ (s.1 17 x6) from by omega)
    · skip
      replace c8 : ¬ (lf_and (lf_shr x2 x6) 1 ≠ 1) := c8
      have b29 : (-2147483648) ≤ s.1 74 7 ∧ s.1 74 7 ≤ 2147483647 := iv_full hI
      refine ⟨(show (0 : Int) ≤ x6 ∧ x6 < (4 : Int) from by omega), ?_⟩
      have b30 : (-1) ≤ s.1 17 x6 ∧ s.1 17 x6 ≤ 11 := iv_r17 hI _
      have b31 : s.1 16 x6 ≤ 0 ∨ 0 ≤ s.1 17 x6 := (by first | exact (show s.1 16 x6 ≤ 0 ∨ 0 ≤ s.1 17 x6 from iv_sp hI (by omega) (by omega)) | exact iv_sp hI (by omega) (by omega))
      refine sm_135 hI (show (-2147483648 : Int) ≤ s.1 74 7 ∧ s.1 74 7 ≤ (2147483647 : Int) from by omega) (show (-2147483648 : Int) ≤ x3 ∧ x3 ≤ (2147483647 : Int) from by omega) (show (-2147483648 : Int) ≤ s.1 17 x6 ∧ s.1 17 x6 ≤ (2147483647 : Int) from by omega) (fun r32 q32 => ?_)
      obtain ⟨q32, q32x⟩ := q32
      have b33 : 0 ≤ s.1 1 0 ∧ s.1 1 0 ≤ 12 := iv_r1_0 hI
      replace q32x : r32 = -1 ∨ (0 ≤ x3 ∧ x3 < s.1 1 0 ∧ 0 ≤ (s.1 17 x6) ∧ (s.1 17 x6) < s.1 1 0) := q32x
      exact sm_156_p78 hQ hR156 hX36 (show (4 - x6).toNat ≤ M36 from by omega) (show (7 - x1).toNat ≤ MR from by omega) hI (show (0 : Int) ≤ x1 ∧ x1 ≤ (5 : Int) from by omega) (show (-2147483648 : Int) ≤ x2 ∧ x2 ≤ (2147483647 : Int) from by omega) (show (-2147483648 : Int) ≤ x3 ∧ x3 ≤ (2147483647 : Int) from by omega) (show (-2147483648 : Int) ≤ x4 ∧ x4 ≤ (2147483647 : Int) from by omega) (show (-2147483648 : Int) ≤ x5 ∧ x5 ≤ (2147483647 : Int) from by omega) (show (0 : Int) ≤ x6 ∧ x6 ≤ (3 : Int) from by omega) (show (-1 : Int) ≤ r32 ∧ r32 ≤ (999 : Int) from by omega) (show r32 = -1 ∨ 0 ≤ (s.1 17 x6) from by omega)
theorem sm_156_p36L {R156 : Int → Int → Int → Int → Int → (lf_Z → Prop) → lf_Z → Prop} {Q : lf_Z → Prop} {x1 : Int} {x2 : Int} {x3 : Int} {x4 : Int} {x5 : Int} {x6 : Int} {s : lf_Z} {MR : Nat} (hQ : ∀  (s' : lf_Z), iv_A s'.1 s'.2.2 → lf_fq [74, 76, 77] 1000000 true s.1 s.2.2 s'.1 s'.2.2 → Q  s') (hR156 : ∀ {a1 a2 a3 a4 a5 : Int} {Q : lf_Z → Prop} {s : lf_Z}, (7 - a1).toNat < MR → iv_A s.1 s.2.2 → 0 ≤ a1 ∧ a1 ≤ 6 → (-2147483648) ≤ a2 ∧ a2 ≤ 2147483647 → (-2147483648) ≤ a3 ∧ a3 ≤ 2147483647 → (-2147483648) ≤ a4 ∧ a4 ≤ 2147483647 → (-2147483648) ≤ a5 ∧ a5 ≤ 2147483647 → (∀  (s' : lf_Z), iv_A s'.1 s'.2.2 → lf_fq [74, 76, 77] 1000000 true s.1 s.2.2 s'.1 s'.2.2 → Q  s') → R156 a1 a2 a3 a4 a5 Q s) (hMR : (7 - x1).toNat ≤ MR) (hI : iv_A s.1 s.2.2) (bx1 : 0 ≤ x1 ∧ x1 ≤ 5) (bx2 : (-2147483648) ≤ x2 ∧ x2 ≤ 2147483647) (bx3 : (-2147483648) ≤ x3 ∧ x3 ≤ 2147483647) (bx4 : (-2147483648) ≤ x4 ∧ x4 ≤ 2147483647) (bx5 : (-2147483648) ≤ x5 ∧ x5 ≤ 2147483647) (bx6 : 0 ≤ x6 ∧ x6 ≤ 4) : fm_156_p36L R156 Q x1 x2 x3 x4 x5 x6 s := by
  intro X36 hX
  have key : ∀ (m9 : Nat) (x6 : Int) (s' : lf_Z), iv_A s'.1 s'.2.2 → lf_fq [74, 76, 77] 1000000 true s.1 s.2.2 s'.1 s'.2.2 → 0 ≤ x6 ∧ x6 ≤ 4 → (4 - x6).toNat < m9 → X36 x6 s' := by
    intro m9
    induction m9 with
    | zero => intro x6 s' _ _ bx6 h9; exact absurd h9 (Nat.not_lt_zero _)
    | succ m9 ih => intro x6 s' i7 f7 bx6 h9; exact hX _ _ (sm_156_p36 (fun t9 i9 f9 => hQ t9 i9 (lf_fq_tr f7 f9)) hR156  (fun x6' t8 i8 f8 bx6' h8 => ih x6' t8 i8 (lf_fq_tr f7 f8) bx6' (by omega)) (Nat.le_refl _) hMR i7  bx1 bx2 bx3 bx4 bx5 bx6  )
  exact key _ _ s hI lf_fq_rf bx6 (Nat.lt_succ_self _)
theorem sm_156_p18 {R156 : Int → Int → Int → Int → Int → (lf_Z → Prop) → lf_Z → Prop} {Q : lf_Z → Prop} {x1 : Int} {x2 : Int} {x3 : Int} {x4 : Int} {x5 : Int} {s : lf_Z} {MR : Nat} (hQ : ∀  (s' : lf_Z), iv_A s'.1 s'.2.2 → lf_fq [74, 76, 77] 1000000 true s.1 s.2.2 s'.1 s'.2.2 → Q  s') (hR156 : ∀ {a1 a2 a3 a4 a5 : Int} {Q : lf_Z → Prop} {s : lf_Z}, (7 - a1).toNat < MR → iv_A s.1 s.2.2 → 0 ≤ a1 ∧ a1 ≤ 6 → (-2147483648) ≤ a2 ∧ a2 ≤ 2147483647 → (-2147483648) ≤ a3 ∧ a3 ≤ 2147483647 → (-2147483648) ≤ a4 ∧ a4 ≤ 2147483647 → (-2147483648) ≤ a5 ∧ a5 ≤ 2147483647 → (∀  (s' : lf_Z), iv_A s'.1 s'.2.2 → lf_fq [74, 76, 77] 1000000 true s.1 s.2.2 s'.1 s'.2.2 → Q  s') → R156 a1 a2 a3 a4 a5 Q s) (hMR : (7 - x1).toNat ≤ MR) (hI : iv_A s.1 s.2.2) (bx1 : 0 ≤ x1 ∧ x1 ≤ 6) (bx2 : (-2147483648) ≤ x2 ∧ x2 ≤ 2147483647) (bx3 : (-2147483648) ≤ x3 ∧ x3 ≤ 2147483647) (bx4 : (-2147483648) ≤ x4 ∧ x4 ≤ 2147483647) (bx5 : (-2147483648) ≤ x5 ∧ x5 ≤ 2147483647) : fm_156_p18 R156 Q x1 x2 x3 x4 x5 s := by
  unfold fm_156_p18
  have b3 : 0 ≤ s.1 74 5 ∧ s.1 74 5 ≤ 6 := iv_r74_5 hI
  refine ⟨(show lf_R x1 from lf_Rof (by omega)), ?_⟩
  refine ⟨(show lf_R (s.1 74 5) from lf_Rof (by omega)), ?_⟩
  refine ⟨fun c4 => ?_, fun c4 => ?_⟩
  · skip
    replace c4 : x1 < s.1 74 5 := c4
    exact sm_156_p36L hQ hR156 (show (7 - x1).toNat ≤ MR from by omega) hI (show (0 : Int) ≤ x1 ∧ x1 ≤ (5 : Int) from by omega) (show (-2147483648 : Int) ≤ x2 ∧ x2 ≤ (2147483647 : Int) from by omega) (show (-2147483648 : Int) ≤ x3 ∧ x3 ≤ (2147483647 : Int) from by omega) (show (-2147483648 : Int) ≤ x4 ∧ x4 ≤ (2147483647 : Int) from by omega) (show (-2147483648 : Int) ≤ x5 ∧ x5 ≤ (2147483647 : Int) from by omega) (show (0 : Int) ≤ 0 ∧ 0 ≤ (4 : Int) from by omega)
  · skip
    replace c4 : ¬ (x1 < s.1 74 5) := c4
    refine sm_140 hI (show (-2147483648 : Int) ≤ x5 ∧ x5 ≤ (2147483647 : Int) from by omega) (fun s33 hI35 fr34 => ?_)
    have fr37 : lf_fq [74, 76, 77] 1000000 true s.1 s.2.2 s33.1 s33.2.2 := lf_fq_tr (lf_fq_rf) (lf_fq_wk fr34 rfl (by decide) (by decide))
    exact hQ s33 hI35 fr37
theorem sm_156 {R156 : Int → Int → Int → Int → Int → (lf_Z → Prop) → lf_Z → Prop} {a1 : Int} {a2 : Int} {a3 : Int} {a4 : Int} {a5 : Int} {Q : lf_Z → Prop} {s : lf_Z} {MR : Nat} (hR156 : ∀ {a1 a2 a3 a4 a5 : Int} {Q : lf_Z → Prop} {s : lf_Z}, (7 - a1).toNat < MR → iv_A s.1 s.2.2 → 0 ≤ a1 ∧ a1 ≤ 6 → (-2147483648) ≤ a2 ∧ a2 ≤ 2147483647 → (-2147483648) ≤ a3 ∧ a3 ≤ 2147483647 → (-2147483648) ≤ a4 ∧ a4 ≤ 2147483647 → (-2147483648) ≤ a5 ∧ a5 ≤ 2147483647 → (∀  (s' : lf_Z), iv_A s'.1 s'.2.2 → lf_fq [74, 76, 77] 1000000 true s.1 s.2.2 s'.1 s'.2.2 → Q  s') → R156 a1 a2 a3 a4 a5 Q s) (hMR : (7 - a1).toNat ≤ MR) (hI : iv_A s.1 s.2.2) (ba1 : 0 ≤ a1 ∧ a1 ≤ 6) (ba2 : (-2147483648) ≤ a2 ∧ a2 ≤ 2147483647) (ba3 : (-2147483648) ≤ a3 ∧ a3 ≤ 2147483647) (ba4 : (-2147483648) ≤ a4 ∧ a4 ≤ 2147483647) (ba5 : (-2147483648) ≤ a5 ∧ a5 ≤ 2147483647) (hQ : ∀  (s' : lf_Z), iv_A s'.1 s'.2.2 → lf_fq [74, 76, 77] 1000000 true s.1 s.2.2 s'.1 s'.2.2 → Q  s') : fm_156 R156 a1 a2 a3 a4 a5 Q s := by
  unfold fm_156
  have b1 : (-2147483648) ≤ s.1 74 6 ∧ s.1 74 6 ≤ 2147483647 := iv_full hI
  refine ⟨(show lf_R (s.1 74 6) from lf_Rof (by omega)), ?_⟩
  refine ⟨fun c2 => ?_, fun c2 => ?_⟩
  · skip
    replace c2 : s.1 74 6 = (-1) := c2
    exact sm_156_p18 hQ hR156 (show (7 - a1).toNat ≤ MR from by omega) hI (show (0 : Int) ≤ a1 ∧ a1 ≤ (6 : Int) from by omega) (show (-2147483648 : Int) ≤ a2 ∧ a2 ≤ (2147483647 : Int) from by omega) (show (-2147483648 : Int) ≤ a3 ∧ a3 ≤ (2147483647 : Int) from by omega) (show (-2147483648 : Int) ≤ a4 ∧ a4 ≤ (2147483647 : Int) from by omega) (show (-2147483648 : Int) ≤ a5 ∧ a5 ≤ (2147483647 : Int) from by omega)
  · skip
    replace c2 : ¬ (s.1 74 6 = (-1)) := c2
    refine ⟨(show lf_R a5 from lf_Rof (by omega)), ?_⟩
    refine ⟨fun c38 => ?_, fun c38 => ?_⟩
    · skip
      replace c38 : a5 < s.1 74 6 := c38
      exact sm_156_p18 hQ hR156 (show (7 - a1).toNat ≤ MR from by omega) hI (show (0 : Int) ≤ a1 ∧ a1 ≤ (6 : Int) from by omega) (show (-2147483648 : Int) ≤ a2 ∧ a2 ≤ (2147483647 : Int) from by omega) (show (-2147483648 : Int) ≤ a3 ∧ a3 ≤ (2147483647 : Int) from by omega) (show (-2147483648 : Int) ≤ a4 ∧ a4 ≤ (2147483647 : Int) from by omega) (show (-2147483648 : Int) ≤ a5 ∧ a5 ≤ (2147483647 : Int) from by omega)
    · skip
      replace c38 : ¬ (a5 < s.1 74 6) := c38
      exact hQ s hI (lf_fq_rf)
-- cl_156 cluster
theorem sc_156T : ∀ n : Nat, (∀ {a1 a2 a3 a4 a5 : Int} {Q : lf_Z → Prop} {s : lf_Z}, (7 - a1).toNat < n → iv_A s.1 s.2.2 → 0 ≤ a1 ∧ a1 ≤ 6 → (-2147483648) ≤ a2 ∧ a2 ≤ 2147483647 → (-2147483648) ≤ a3 ∧ a3 ≤ 2147483647 → (-2147483648) ≤ a4 ∧ a4 ≤ 2147483647 → (-2147483648) ≤ a5 ∧ a5 ≤ 2147483647 → (∀  (s' : lf_Z), iv_A s'.1 s'.2.2 → lf_fq [74, 76, 77] 1000000 true s.1 s.2.2 s'.1 s'.2.2 → Q  s') → (fc_156T n) a1 a2 a3 a4 a5 Q s)
  | 0 => by intros; omega
  | n + 1 => fun hm hI b1 b2 b3 b4 b5 hQ => sm_156 (MR := n) (sc_156T n) (by omega) hI b1 b2 b3 b4 b5 hQ
theorem sc_156 {a1 : Int} {a2 : Int} {a3 : Int} {a4 : Int} {a5 : Int} {Q : lf_Z → Prop} {s : lf_Z} (hI : iv_A s.1 s.2.2) (ba1 : 0 ≤ a1 ∧ a1 ≤ 6) (ba2 : (-2147483648) ≤ a2 ∧ a2 ≤ 2147483647) (ba3 : (-2147483648) ≤ a3 ∧ a3 ≤ 2147483647) (ba4 : (-2147483648) ≤ a4 ∧ a4 ≤ 2147483647) (ba5 : (-2147483648) ≤ a5 ∧ a5 ≤ 2147483647) (hQ : ∀  (s' : lf_Z), iv_A s'.1 s'.2.2 → lf_fq [74, 76, 77] 1000000 true s.1 s.2.2 s'.1 s'.2.2 → Q  s') : fc_156 a1 a2 a3 a4 a5 Q s := (sc_156T 200) (by omega) hI ba1 ba2 ba3 ba4 ba5 hQ
-- fm_155 Errands.goAfterAll 74 i
theorem sm_155_p51 {X19 : Int → Int → lf_Z → Prop} {Q : Int → lf_Z → Prop} {x1 : Int} {x2 : Int} {x3 : Int} {s : lf_Z} (hQ : ∀ (r : Int) (s' : lf_Z), iv_A s'.1 s'.2.2 → lf_fq [74, 76, 77] 1000000 true s.1 s.2.2 s'.1 s'.2.2 → ((-2147483648) ≤ r ∧ r ≤ 2147483647) → Q r s') {M19 : Nat} (hX19 : ∀ (x2 : Int) (x3 : Int) (s' : lf_Z), iv_A s'.1 s'.2.2 → lf_fq [74, 76, 77] 1000000 true s.1 s.2.2 s'.1 s'.2.2 → (-2147483648) ≤ x2 ∧ x2 ≤ 2147483647 → 0 ≤ x3 ∧ x3 ≤ 4 → (s'.1 74 5 ≤ x3) → (4 - x3).toNat < M19 → X19 x2 x3 s') (hM19 : (4 - x3).toNat ≤ M19) (hI : iv_A s.1 s.2.2) (bx1 : 0 ≤ x1 ∧ x1 ≤ 5) (bx2 : (-2147483648) ≤ x2 ∧ x2 ≤ 2147483647) (bx3 : 0 ≤ x3 ∧ x3 ≤ 3) (kv0 : s.1 74 5 ≤ x3 + 1) : fm_155_p51 X19 Q x1 x2 x3 s := by
  unfold fm_155_p51
  have b21 : 0 ≤ s.1 74 5 ∧ s.1 74 5 ≤ 6 := iv_r74_5 hI
  exact hX19 (x2) (x3 + 1) s hI (lf_fq_rf) (show (-2147483648 : Int) ≤ x2 ∧ x2 ≤ (2147483647 : Int) from by omega) (show (0 : Int) ≤ x3 + 1 ∧ x3 + 1 ≤ (4 : Int) from by omega) (show (s.1 74 5) ≤ (x3 + 1) from by omega) (show (4 - (x3 + 1)).toNat < M19 from by omega)
theorem sm_155_p19 {X19 : Int → Int → lf_Z → Prop} {Q : Int → lf_Z → Prop} {x1 : Int} {x2 : Int} {x3 : Int} {s : lf_Z} (hQ : ∀ (r : Int) (s' : lf_Z), iv_A s'.1 s'.2.2 → lf_fq [74, 76, 77] 1000000 true s.1 s.2.2 s'.1 s'.2.2 → ((-2147483648) ≤ r ∧ r ≤ 2147483647) → Q r s') {M19 : Nat} (hX19 : ∀ (x2 : Int) (x3 : Int) (s' : lf_Z), iv_A s'.1 s'.2.2 → lf_fq [74, 76, 77] 1000000 true s.1 s.2.2 s'.1 s'.2.2 → (-2147483648) ≤ x2 ∧ x2 ≤ 2147483647 → 0 ≤ x3 ∧ x3 ≤ 4 → (s'.1 74 5 ≤ x3) → (4 - x3).toNat < M19 → X19 x2 x3 s') (hM19 : (4 - x3).toNat ≤ M19) (hI : iv_A s.1 s.2.2) (bx1 : 0 ≤ x1 ∧ x1 ≤ 5) (bx2 : (-2147483648) ≤ x2 ∧ x2 ≤ 2147483647) (bx3 : 0 ≤ x3 ∧ x3 ≤ 4) (kv0 : s.1 74 5 ≤ x3) : fm_155_p19 Q x1 X19 x2 x3 s := by
  unfold fm_155_p19
  refine ⟨(show lf_R x3 from lf_Rof (by omega)), ?_⟩
  refine ⟨fun c7 => ?_, fun c7 => ?_⟩
  · skip
    replace c7 : 4 ≤ x3 := c7
    have b8 : 0 ≤ s.1 74 5 ∧ s.1 74 5 ≤ 6 := iv_r74_5 hI
    refine ⟨(show lf_R (s.1 74 5) from lf_Rof (by omega)), ?_⟩
    refine ⟨fun c9 => ?_, fun c9 => ?_⟩
    · skip
      replace c9 : s.1 74 5 ≤ 0 := c9
      have b10 : (-2147483648) ≤ s.1 74 6 ∧ s.1 74 6 ≤ 2147483647 := iv_full hI
      exact hQ (s.1 74 6) s hI (lf_fq_rf) (show (-2147483648 : Int) ≤ s.1 74 6 ∧ s.1 74 6 ≤ (2147483647 : Int) from by omega)
    · skip
      replace c9 : ¬ (s.1 74 5 ≤ 0) := c9
      refine ⟨(show (0 : Int) ≤ x1 ∧ x1 < (6 : Int) from by omega), ?_⟩
      have b11 : (-2147483648) ≤ s.1 19 x1 ∧ s.1 19 x1 ≤ 2147483647 := iv_full hI
      refine sc_156 hI (show (0 : Int) ≤ 0 ∧ 0 ≤ (6 : Int) from by omega) (show (-2147483648 : Int) ≤ x2 ∧ x2 ≤ (2147483647 : Int) from by omega) (show (-2147483648 : Int) ≤ s.1 19 x1 ∧ s.1 19 x1 ≤ (2147483647 : Int) from by omega) (show (-2147483648 : Int) ≤ 0 ∧ 0 ≤ (2147483647 : Int) from by omega) (show (-2147483648 : Int) ≤ 0 ∧ 0 ≤ (2147483647 : Int) from by omega) (fun s24 hI13 fr12 => ?_)
      have fr15 : lf_fq [74, 76, 77] 1000000 true s.1 s.2.2 s24.1 s24.2.2 := lf_fq_tr (lf_fq_rf) (lf_fq_wk fr12 rfl (by decide) (by decide))
      have b16 : (-2147483648) ≤ s24.1 74 6 ∧ s24.1 74 6 ≤ 2147483647 := iv_full hI13
      exact hQ (s24.1 74 6) s24 hI13 fr15 (show (-2147483648 : Int) ≤ s24.1 74 6 ∧ s24.1 74 6 ≤ (2147483647 : Int) from by omega)
  · skip
    replace c7 : ¬ (4 ≤ x3) := c7
    refine sm_80 hI (show (-2147483648 : Int) ≤ x3 ∧ x3 ≤ (2147483647 : Int) from by omega) (fun z26 q17 => ?_)
    have b18 : (-2147483648) ≤ s.1 16 x3 ∧ s.1 16 x3 ≤ 2147483647 := iv_full hI
    refine ⟨fun c19 => ?_, fun c19 => ?_⟩
    · skip
      have dc19 := q17.2 c19
      have b20 : 0 ≤ s.1 74 5 ∧ s.1 74 5 ≤ 6 := iv_r74_5 hI
      exact sm_155_p51 hQ hX19 (show (4 - x3).toNat ≤ M19 from by omega) hI (show (0 : Int) ≤ x1 ∧ x1 ≤ (5 : Int) from by omega) (show (-2147483648 : Int) ≤ x2 ∧ x2 ≤ (2147483647 : Int) from by omega) (show (0 : Int) ≤ x3 ∧ x3 ≤ (3 : Int) from by omega) (show (s.1 74 5) ≤ x3 + 1 from by omega)
    · skip
      have dc19 := q17.1 c19
      have b22 : 1 ≤ lf_shl 1 x3 ∧ lf_shl 1 x3 ≤ 8 := lf_shl1 (m := 3) (by omega) (by omega) (by decide)
      have b23 : (-2147483648) ≤ lf_or x2 (lf_shl 1 x3) ∧ lf_or x2 (lf_shl 1 x3) ≤ 2147483647 := lf_orB
      have b24 : 0 ≤ s.1 74 5 ∧ s.1 74 5 ≤ 6 := iv_r74_5 hI
      have hI25 : iv_A (lf_up s.1 74 5 ((s.1 74 5) + 1)) s.2.2 := iv_w74_5 hI (by omega)
      have fr26 : lf_fq [74, 76, 77] 1000000 true s.1 s.2.2 (lf_up s.1 74 5 ((s.1 74 5) + 1)) s.2.2 := lf_fq_up (lf_fq_rf) rfl (fun h => absurd h (by decide))
      exact sm_155_p51 (fun r9 t9 i9 f9 => hQ r9 t9 i9 (lf_fq_tr fr26 f9)) (fun p0 p1 t9 i9 f9 => hX19 p0 p1 t9 i9 (lf_fq_tr fr26 f9)) (show (4 - x3).toNat ≤ M19 from by omega) hI25 (show (0 : Int) ≤ x1 ∧ x1 ≤ (5 : Int) from by omega) (show (-2147483648 : Int) ≤ lf_or x2 (lf_shl 1 x3) ∧ lf_or x2 (lf_shl 1 x3) ≤ (2147483647 : Int) from by omega) (show (0 : Int) ≤ x3 ∧ x3 ≤ (3 : Int) from by omega) (show ((s.1 74 5) + 1) ≤ x3 + 1 from by omega)
theorem sm_155_p19L {Q : Int → lf_Z → Prop} {x1 : Int} {x2 : Int} {x3 : Int} {s : lf_Z} (hQ : ∀ (r : Int) (s' : lf_Z), iv_A s'.1 s'.2.2 → lf_fq [74, 76, 77] 1000000 true s.1 s.2.2 s'.1 s'.2.2 → ((-2147483648) ≤ r ∧ r ≤ 2147483647) → Q r s') (hI : iv_A s.1 s.2.2) (bx1 : 0 ≤ x1 ∧ x1 ≤ 5) (bx2 : (-2147483648) ≤ x2 ∧ x2 ≤ 2147483647) (bx3 : 0 ≤ x3 ∧ x3 ≤ 4) (kv0 : s.1 74 5 ≤ x3) : fm_155_p19L Q x1 x2 x3 s := by
  intro X19 hX
  have key : ∀ (m9 : Nat) (x2 : Int) (x3 : Int) (s' : lf_Z), iv_A s'.1 s'.2.2 → lf_fq [74, 76, 77] 1000000 true s.1 s.2.2 s'.1 s'.2.2 → (-2147483648) ≤ x2 ∧ x2 ≤ 2147483647 → 0 ≤ x3 ∧ x3 ≤ 4 → (s'.1 74 5 ≤ x3) → (4 - x3).toNat < m9 → X19 x2 x3 s' := by
    intro m9
    induction m9 with
    | zero => intro x2 x3 s' _ _ bx2 bx3 kv0 h9; exact absurd h9 (Nat.not_lt_zero _)
    | succ m9 ih => intro x2 x3 s' i7 f7 bx2 bx3 kv0 h9; exact hX _ _ _ (sm_155_p19 (fun r9 t9 i9 f9 => hQ r9 t9 i9 (lf_fq_tr f7 f9))   (fun x2' x3' t8 i8 f8 bx2' bx3' kv0' h8 => ih x2' x3' t8 i8 (lf_fq_tr f7 f8) bx2' bx3' kv0' (by omega)) (Nat.le_refl _)  i7  bx1 bx2 bx3  kv0)
  exact key _ _ _ s hI lf_fq_rf bx2 bx3 kv0 (Nat.lt_succ_self _)
theorem sm_155 {a1 : Int} {Q : Int → lf_Z → Prop} {s : lf_Z} (hI : iv_A s.1 s.2.2) (ba1 : 0 ≤ a1 ∧ a1 ≤ 5) (hQ : ∀ (r : Int) (s' : lf_Z), iv_A s'.1 s'.2.2 → lf_fq [74, 76, 77] 1000000 true s.1 s.2.2 s'.1 s'.2.2 → ((-2147483648) ≤ r ∧ r ≤ 2147483647) → Q r s') : fm_155 a1 Q s := by
  unfold fm_155
  have hI1 : iv_A (lf_up s.1 74 6 (-1)) s.2.2 := iv_w74_6 hI (by omega)
  have fr2 : lf_fq [74, 76, 77] 1000000 true s.1 s.2.2 (lf_up s.1 74 6 (-1)) s.2.2 := lf_fq_up (lf_fq_rf) rfl (fun h => absurd h (by decide))
  have hI3 : iv_A (lf_up (lf_up s.1 74 6 (-1)) 74 5 0) s.2.2 := iv_w74_5 hI1 (by omega)
  have fr4 : lf_fq [74, 76, 77] 1000000 true s.1 s.2.2 (lf_up (lf_up s.1 74 6 (-1)) 74 5 0) s.2.2 := lf_fq_up fr2 rfl (fun h => absurd h (by decide))
  have hI5 : iv_A (lf_up (lf_up (lf_up s.1 74 6 (-1)) 74 5 0) 74 7 a1) s.2.2 := iv_w74_7 hI3 (by omega)
  have fr6 : lf_fq [74, 76, 77] 1000000 true s.1 s.2.2 (lf_up (lf_up (lf_up s.1 74 6 (-1)) 74 5 0) 74 7 a1) s.2.2 := lf_fq_up fr4 rfl (fun h => absurd h (by decide))
  exact sm_155_p19L (fun r9 t9 i9 f9 => hQ r9 t9 i9 (lf_fq_tr fr6 f9)) hI5 (show (0 : Int) ≤ a1 ∧ a1 ≤ (5 : Int) from by omega) (show (-2147483648 : Int) ≤ 0 ∧ 0 ≤ (2147483647 : Int) from by omega) (show (0 : Int) ≤ 0 ∧ 0 ≤ (4 : Int) from by omega) (show 0 ≤ 0 from by omega)
-- fm_157 Errands.bunchAt 74 i
theorem sm_157 {a1 : Int} {Q : Int → lf_Z → Prop} {s : lf_Z} (hI : iv_A s.1 s.2.2) (ba1 : 0 ≤ a1 ∧ a1 ≤ 2147483647) (hQ : ∀ (r : Int), ((-1) ≤ r ∧ r ≤ 5) → Q r s) : fm_157 a1 Q s := by
  unfold fm_157
  have b1 : (-2147483648) ≤ s.1 74 6 ∧ s.1 74 6 ≤ 2147483647 := iv_full hI
  refine ⟨(show lf_R (s.1 74 6) from lf_Rof (by omega)), ?_⟩
  refine ⟨fun c2 => ?_, fun c2 => ?_⟩
  · skip
    replace c2 : s.1 74 6 = (-1) := c2
    exact hQ (-1) (show (-1 : Int) ≤ (-1) ∧ (-1) ≤ (5 : Int) from by omega)
  · skip
    replace c2 : ¬ (s.1 74 6 = (-1)) := c2
    have b3 : 0 ≤ s.1 74 5 ∧ s.1 74 5 ≤ 6 := iv_r74_5 hI
    refine sm_15 hI (show (-2147483648 : Int) ≤ a1 ∧ a1 ≤ (2147483647 : Int) from by omega) (show (-1 : Int) ≤ 0 ∧ 0 ≤ (99 : Int) from by omega) (show (-2147483648 : Int) ≤ (s.1 74 5) - 1 ∧ (s.1 74 5) - 1 ≤ (2147483647 : Int) from by omega) (fun z23 q4 => ?_)
    refine ⟨fun c5 => ?_, fun c5 => ?_⟩
    · skip
      have dc5 := q4.2 c5
      exact hQ (-1) (show (-1 : Int) ≤ (-1) ∧ (-1) ≤ (5 : Int) from by omega)
    · skip
      have dc5 := q4.1 c5
      refine ⟨(show (0 : Int) ≤ a1 ∧ a1 < (6 : Int) from by omega), ?_⟩
      have b6 : 0 ≤ s.1 77 a1 ∧ s.1 77 a1 ≤ 5 := iv_r77 hI _
      exact hQ (s.1 77 a1) (show (-1 : Int) ≤ s.1 77 a1 ∧ s.1 77 a1 ≤ (5 : Int) from by omega)
-- fm_154 ElevenBullocks.after 0 i i
theorem sm_154 {a1 : Int} {a2 : Int} {Q : Int → lf_Z → Prop} {s : lf_Z} (hI : iv_A s.1 s.2.2) (ba1 : (-2147483648) ≤ a1 ∧ a1 ≤ 2147483647) (ba2 : (-2147483648) ≤ a2 ∧ a2 ≤ 2147483647) (hQ : ∀ (r : Int) (s' : lf_Z), iv_A s'.1 s'.2.2 → lf_fq [74, 76, 77] 1000000 true s.1 s.2.2 s'.1 s'.2.2 → ((-2147483648) ≤ r ∧ r ≤ 2147483647) → Q r s') : fm_154 a1 a2 Q s := by
  unfold fm_154
  refine sm_99 hI (show (-2147483648 : Int) ≤ a1 ∧ a1 ≤ (2147483647 : Int) from by omega) (fun z22 q1 => ?_)
  have b2 : 0 ≤ s.1 1 2 ∧ s.1 1 2 ≤ 6 := iv_r1_2 hI
  refine ⟨fun c3 => ?_, fun c3 => ?_⟩
  · skip
    have dc3 := q1.2 c3
    exact hQ (-1) s hI (lf_fq_rf) (show (-2147483648 : Int) ≤ (-1) ∧ (-1) ≤ (2147483647 : Int) from by omega)
  · skip
    have dc3 := q1.1 c3
    refine ⟨(show lf_R a2 from lf_Rof (by omega)), ?_⟩
    refine ⟨fun c4 => ?_, fun c4 => ?_⟩
    · skip
      replace c4 : (-1) ≤ a2 := c4
      refine sm_155 hI (show (0 : Int) ≤ a1 ∧ a1 ≤ (5 : Int) from by omega) (fun r25 s24 hI6 fr5 q7 => ?_)
      have fr8 : lf_fq [74, 76, 77] 1000000 true s.1 s.2.2 s24.1 s24.2.2 := lf_fq_tr (lf_fq_rf) (lf_fq_wk fr5 rfl (by decide) (by decide))
      refine ⟨fun c9 => ?_, fun c9 => ?_⟩
      · skip
        replace c9 : a2 ≠ (-1) := c9
        refine sm_157 hI6 (show (0 : Int) ≤ a2 ∧ a2 ≤ (2147483647 : Int) from by omega) (fun r27 q10 => ?_)
        exact hQ r27 s24 hI6 fr8 (show (-2147483648 : Int) ≤ r27 ∧ r27 ≤ (2147483647 : Int) from by omega)
      · skip
        replace c9 : ¬ (a2 ≠ (-1)) := c9
        exact hQ r25 s24 hI6 fr8 (show (-2147483648 : Int) ≤ r25 ∧ r25 ≤ (2147483647 : Int) from by omega)
    · skip
      replace c4 : ¬ ((-1) ≤ a2) := c4
      exact hQ (-1) s hI (lf_fq_rf) (show (-2147483648 : Int) ≤ (-1) ∧ (-1) ≤ (2147483647 : Int) from by omega)
-- fm_312 Model.layBunches 95 i
theorem sm_312_p61 {X38 : Int → lf_Z → Prop} {X61 : Int → lf_Z → Prop} {Q : Int → lf_Z → Prop} {x1 : Int} {x2 : Int} {x3 : Int} {x4 : Int} {s : lf_Z} (hQ : ∀ (r : Int) (s' : lf_Z), iv_A s'.1 s'.2.2 → lf_fq [108, 118, 119] 1000000 true s.1 s.2.2 s'.1 s'.2.2 → (0 ≤ r ∧ r ≤ 4) → Q r s') {M38 : Nat} (hX38 : ∀ (x3 : Int) (s' : lf_Z), iv_A s'.1 s'.2.2 → lf_fq [108, 118, 119] 1000000 true s.1 s.2.2 s'.1 s'.2.2 → 0 ≤ x3 ∧ x3 ≤ 4 → (4 - x3).toNat < M38 → X38 x3 s') (hM38 : (4 - x3).toNat ≤ M38) {M61 : Nat} (hX61 : ∀ (x4 : Int) (s' : lf_Z), iv_A s'.1 s'.2.2 → lf_fq [108, 118, 119] 1000000 true s.1 s.2.2 s'.1 s'.2.2 → 0 ≤ x4 ∧ x4 ≤ 4 → (4 - x4).toNat < M61 → X61 x4 s') (hM61 : (4 - x4).toNat ≤ M61) (hI : iv_A s.1 s.2.2) (bx1 : 0 ≤ x1 ∧ x1 ≤ 5) (bx2 : 1 ≤ x2 ∧ x2 ≤ 4) (bx3 : 0 ≤ x3 ∧ x3 ≤ 3) (bx4 : 0 ≤ x4 ∧ x4 ≤ 4) : fm_312_p61 X38 Q x1 x2 x3 X61 x4 s := by
  unfold fm_312_p61
  refine ⟨(show lf_R x4 from lf_Rof (by omega)), ?_⟩
  refine ⟨(show lf_R x2 from lf_Rof (by omega)), ?_⟩
  refine ⟨fun c10 => ?_, fun c10 => ?_⟩
  · skip
    replace c10 : x2 ≤ x4 := c10
    refine sm_239 hI (show (0 : Int) ≤ x1 ∧ x1 ≤ (5 : Int) from by omega) (fun r31 q11 => ?_)
    obtain ⟨q11, q11x⟩ := q11
    replace q11x : r31 = s.1 96 (126 + 6 * x1 + 3) := q11x
    refine sm_299 hI (show (0 : Int) ≤ x1 ∧ x1 ≤ (5 : Int) from by omega) (show (0 : Int) ≤ r31 ∧ r31 ≤ (11 : Int) from by omega) (fun r33 q12 => ?_)
    refine ⟨(show (0 : Int) ≤ 16 + x3 ∧ 16 + x3 < (20 : Int) from by omega), ?_⟩
    have hI13 : iv_A (lf_up s.1 119 (16 + x3) r33) s.2.2 := iv_w119 hI (by omega)
    have fr14 : lf_fq [108, 118, 119] 1000000 true s.1 s.2.2 (lf_up s.1 119 (16 + x3) r33) s.2.2 := lf_fq_up (lf_fq_rf) rfl (fun h => absurd h (by decide))
    exact hX38 (x3 + 1) (lf_up s.1 119 (16 + x3) r33, s.2.1, s.2.2) hI13 fr14 (show (0 : Int) ≤ x3 + 1 ∧ x3 + 1 ≤ (4 : Int) from by omega) (show (4 - (x3 + 1)).toNat < M38 from by omega)
  · skip
    replace c10 : ¬ (x2 ≤ x4) := c10
    refine ⟨(show (0 : Int) ≤ x4 ∧ x4 < (4 : Int) from by omega), ?_⟩
    have b15 : 0 ≤ s.1 118 x4 ∧ s.1 118 x4 ≤ 3 := iv_r118 hI _
    refine sm_255 hI (show (0 : Int) ≤ s.1 118 x4 ∧ s.1 118 x4 ≤ (3 : Int) from by omega) (fun r37 q16 => ?_)
    refine sm_299 hI (show (0 : Int) ≤ x1 ∧ x1 ≤ (5 : Int) from by omega) (show (0 : Int) ≤ r37 ∧ r37 ≤ (11 : Int) from by omega) (fun r39 q17 => ?_)
    refine ⟨(show (0 : Int) ≤ (4 * x4) + x3 ∧ (4 * x4) + x3 < (20 : Int) from by omega), ?_⟩
    have hI18 : iv_A (lf_up s.1 119 ((4 * x4) + x3) r39) s.2.2 := iv_w119 hI (by omega)
    have fr19 : lf_fq [108, 118, 119] 1000000 true s.1 s.2.2 (lf_up s.1 119 ((4 * x4) + x3) r39) s.2.2 := lf_fq_up (lf_fq_rf) rfl (fun h => absurd h (by decide))
    exact hX61 (x4 + 1) (lf_up s.1 119 ((4 * x4) + x3) r39, s.2.1, s.2.2) hI18 fr19 (show (0 : Int) ≤ x4 + 1 ∧ x4 + 1 ≤ (4 : Int) from by omega) (show (4 - (x4 + 1)).toNat < M61 from by omega)
theorem sm_312_p61L {X38 : Int → lf_Z → Prop} {Q : Int → lf_Z → Prop} {x1 : Int} {x2 : Int} {x3 : Int} {x4 : Int} {s : lf_Z} (hQ : ∀ (r : Int) (s' : lf_Z), iv_A s'.1 s'.2.2 → lf_fq [108, 118, 119] 1000000 true s.1 s.2.2 s'.1 s'.2.2 → (0 ≤ r ∧ r ≤ 4) → Q r s') {M38 : Nat} (hX38 : ∀ (x3 : Int) (s' : lf_Z), iv_A s'.1 s'.2.2 → lf_fq [108, 118, 119] 1000000 true s.1 s.2.2 s'.1 s'.2.2 → 0 ≤ x3 ∧ x3 ≤ 4 → (4 - x3).toNat < M38 → X38 x3 s') (hM38 : (4 - x3).toNat ≤ M38) (hI : iv_A s.1 s.2.2) (bx1 : 0 ≤ x1 ∧ x1 ≤ 5) (bx2 : 1 ≤ x2 ∧ x2 ≤ 4) (bx3 : 0 ≤ x3 ∧ x3 ≤ 3) (bx4 : 0 ≤ x4 ∧ x4 ≤ 4) : fm_312_p61L X38 Q x1 x2 x3 x4 s := by
  intro X61 hX
  have key : ∀ (m9 : Nat) (x4 : Int) (s' : lf_Z), iv_A s'.1 s'.2.2 → lf_fq [108, 118, 119] 1000000 true s.1 s.2.2 s'.1 s'.2.2 → 0 ≤ x4 ∧ x4 ≤ 4 → (4 - x4).toNat < m9 → X61 x4 s' := by
    intro m9
    induction m9 with
    | zero => intro x4 s' _ _ bx4 h9; exact absurd h9 (Nat.not_lt_zero _)
    | succ m9 ih => intro x4 s' i7 f7 bx4 h9; exact hX _ _ (sm_312_p61 (fun r9 t9 i9 f9 => hQ r9 t9 i9 (lf_fq_tr f7 f9))  (fun p0 t9 i9 f9 => hX38 p0 t9 i9 (lf_fq_tr f7 f9)) hM38 (fun x4' t8 i8 f8 bx4' h8 => ih x4' t8 i8 (lf_fq_tr f7 f8) bx4' (by omega)) (Nat.le_refl _)  i7  bx1 bx2 bx3 bx4  )
  exact key _ _ s hI lf_fq_rf bx4 (Nat.lt_succ_self _)
theorem sm_312_p38 {X38 : Int → lf_Z → Prop} {Q : Int → lf_Z → Prop} {x1 : Int} {x2 : Int} {x3 : Int} {s : lf_Z} (hQ : ∀ (r : Int) (s' : lf_Z), iv_A s'.1 s'.2.2 → lf_fq [108, 118, 119] 1000000 true s.1 s.2.2 s'.1 s'.2.2 → (0 ≤ r ∧ r ≤ 4) → Q r s') {M38 : Nat} (hX38 : ∀ (x3 : Int) (s' : lf_Z), iv_A s'.1 s'.2.2 → lf_fq [108, 118, 119] 1000000 true s.1 s.2.2 s'.1 s'.2.2 → 0 ≤ x3 ∧ x3 ≤ 4 → (4 - x3).toNat < M38 → X38 x3 s') (hM38 : (4 - x3).toNat ≤ M38) (hI : iv_A s.1 s.2.2) (bx1 : 0 ≤ x1 ∧ x1 ≤ 5) (bx2 : 0 ≤ x2 ∧ x2 ≤ 4) (bx3 : 0 ≤ x3 ∧ x3 ≤ 4) : fm_312_p38 Q x1 x2 X38 x3 s := by
  unfold fm_312_p38
  refine ⟨(show lf_R x3 from lf_Rof (by omega)), ?_⟩
  refine ⟨(show lf_R x2 from lf_Rof (by omega)), ?_⟩
  refine ⟨fun c2 => ?_, fun c2 => ?_⟩
  · skip
    replace c2 : x2 ≤ x3 := c2
    exact hQ x2 s hI (lf_fq_rf) (show (0 : Int) ≤ x2 ∧ x2 ≤ (4 : Int) from by omega)
  · skip
    replace c2 : ¬ (x2 ≤ x3) := c2
    refine ⟨(show (0 : Int) ≤ x3 ∧ x3 < (4 : Int) from by omega), ?_⟩
    have b3 : 0 ≤ s.1 118 x3 ∧ s.1 118 x3 ≤ 3 := iv_r118 hI _
    refine sm_255 hI (show (0 : Int) ≤ s.1 118 x3 ∧ s.1 118 x3 ≤ (3 : Int) from by omega) (fun r26 q4 => ?_)
    refine sm_261 hI (show (-1 : Int) ≤ r26 ∧ r26 ≤ (11 : Int) from by omega) (show (0 : Int) ≤ 1 ∧ 1 ≤ (1 : Int) from by omega) (fun s27 hI6 fr5 ps8 => ?_)
    replace ps8 : (1 : Int) = 1 → bf_G (s27.1 96) (s27.1 108) (r26) := ps8
    have fr9 : lf_fq [108, 118, 119] 1000000 true s.1 s.2.2 s27.1 s27.2.2 := lf_fq_tr (lf_fq_rf) (lf_fq_wk fr5 rfl (by decide) (by decide))
    exact sm_312_p61L (fun r9 t9 i9 f9 => hQ r9 t9 i9 (lf_fq_tr fr9 f9)) (fun p0 t9 i9 f9 => hX38 p0 t9 i9 (lf_fq_tr fr9 f9)) (show (4 - x3).toNat ≤ M38 from by omega) hI6 (show (0 : Int) ≤ x1 ∧ x1 ≤ (5 : Int) from by omega) (show (1 : Int) ≤ x2 ∧ x2 ≤ (4 : Int) from by omega) (show (0 : Int) ≤ x3 ∧ x3 ≤ (3 : Int) from by omega) (show (0 : Int) ≤ 0 ∧ 0 ≤ (4 : Int) from by omega)
theorem sm_312_p38L {Q : Int → lf_Z → Prop} {x1 : Int} {x2 : Int} {x3 : Int} {s : lf_Z} (hQ : ∀ (r : Int) (s' : lf_Z), iv_A s'.1 s'.2.2 → lf_fq [108, 118, 119] 1000000 true s.1 s.2.2 s'.1 s'.2.2 → (0 ≤ r ∧ r ≤ 4) → Q r s') (hI : iv_A s.1 s.2.2) (bx1 : 0 ≤ x1 ∧ x1 ≤ 5) (bx2 : 0 ≤ x2 ∧ x2 ≤ 4) (bx3 : 0 ≤ x3 ∧ x3 ≤ 4) : fm_312_p38L Q x1 x2 x3 s := by
  intro X38 hX
  have key : ∀ (m9 : Nat) (x3 : Int) (s' : lf_Z), iv_A s'.1 s'.2.2 → lf_fq [108, 118, 119] 1000000 true s.1 s.2.2 s'.1 s'.2.2 → 0 ≤ x3 ∧ x3 ≤ 4 → (4 - x3).toNat < m9 → X38 x3 s' := by
    intro m9
    induction m9 with
    | zero => intro x3 s' _ _ bx3 h9; exact absurd h9 (Nat.not_lt_zero _)
    | succ m9 ih => intro x3 s' i7 f7 bx3 h9; exact hX _ _ (sm_312_p38 (fun r9 t9 i9 f9 => hQ r9 t9 i9 (lf_fq_tr f7 f9))   (fun x3' t8 i8 f8 bx3' h8 => ih x3' t8 i8 (lf_fq_tr f7 f8) bx3' (by omega)) (Nat.le_refl _)  i7  bx1 bx2 bx3  )
  exact key _ _ s hI lf_fq_rf bx3 (Nat.lt_succ_self _)
theorem sm_312_p30 {X4 : Int → Int → lf_Z → Prop} {Q : Int → lf_Z → Prop} {x1 : Int} {x2 : Int} {x3 : Int} {s : lf_Z} (hQ : ∀ (r : Int) (s' : lf_Z), iv_A s'.1 s'.2.2 → lf_fq [108, 118, 119] 1000000 true s.1 s.2.2 s'.1 s'.2.2 → (0 ≤ r ∧ r ≤ 4) → Q r s') {M4 : Nat} (hX4 : ∀ (x2 : Int) (x3 : Int) (s' : lf_Z), iv_A s'.1 s'.2.2 → lf_fq [108, 118, 119] 1000000 true s.1 s.2.2 s'.1 s'.2.2 → 0 ≤ x2 ∧ x2 ≤ 4 → 0 ≤ x3 ∧ x3 ≤ 4 → (x2 ≤ x3) → (4 - x3).toNat < M4 → X4 x2 x3 s') (hM4 : (4 - x3).toNat ≤ M4) (hI : iv_A s.1 s.2.2) (bx1 : 0 ≤ x1 ∧ x1 ≤ 5) (bx2 : 0 ≤ x2 ∧ x2 ≤ 4) (bx3 : 0 ≤ x3 ∧ x3 ≤ 3) (kv0 : x2 ≤ x3 + 1) : fm_312_p30 X4 Q x1 x2 x3 s := by
  unfold fm_312_p30
  exact hX4 (x2) (x3 + 1) s hI (lf_fq_rf) (show (0 : Int) ≤ x2 ∧ x2 ≤ (4 : Int) from by omega) (show (0 : Int) ≤ x3 + 1 ∧ x3 + 1 ≤ (4 : Int) from by omega) (show x2 ≤ (x3 + 1) from by omega) (show (4 - (x3 + 1)).toNat < M4 from by omega)
theorem sm_312_p4 {X4 : Int → Int → lf_Z → Prop} {Q : Int → lf_Z → Prop} {x1 : Int} {x2 : Int} {x3 : Int} {s : lf_Z} (hQ : ∀ (r : Int) (s' : lf_Z), iv_A s'.1 s'.2.2 → lf_fq [108, 118, 119] 1000000 true s.1 s.2.2 s'.1 s'.2.2 → (0 ≤ r ∧ r ≤ 4) → Q r s') {M4 : Nat} (hX4 : ∀ (x2 : Int) (x3 : Int) (s' : lf_Z), iv_A s'.1 s'.2.2 → lf_fq [108, 118, 119] 1000000 true s.1 s.2.2 s'.1 s'.2.2 → 0 ≤ x2 ∧ x2 ≤ 4 → 0 ≤ x3 ∧ x3 ≤ 4 → (x2 ≤ x3) → (4 - x3).toNat < M4 → X4 x2 x3 s') (hM4 : (4 - x3).toNat ≤ M4) (hI : iv_A s.1 s.2.2) (bx1 : 0 ≤ x1 ∧ x1 ≤ 5) (bx2 : 0 ≤ x2 ∧ x2 ≤ 4) (bx3 : 0 ≤ x3 ∧ x3 ≤ 4) (kv0 : x2 ≤ x3) : fm_312_p4 Q x1 X4 x2 x3 s := by
  unfold fm_312_p4
  refine ⟨(show lf_R x3 from lf_Rof (by omega)), ?_⟩
  refine ⟨fun c1 => ?_, fun c1 => ?_⟩
  · skip
    replace c1 : 4 ≤ x3 := c1
    exact sm_312_p38L hQ hI (show (0 : Int) ≤ x1 ∧ x1 ≤ (5 : Int) from by omega) (show (0 : Int) ≤ x2 ∧ x2 ≤ (4 : Int) from by omega) (show (0 : Int) ≤ 0 ∧ 0 ≤ (4 : Int) from by omega)
  · skip
    replace c1 : ¬ (4 ≤ x3) := c1
    refine sm_242 hI (show (0 : Int) ≤ x3 ∧ x3 ≤ (3 : Int) from by omega) (fun r42 q20 => ?_)
    obtain ⟨q20, q20x⟩ := q20
    replace q20x : r42 = s.1 96 (114 + 3 * x3) := q20x
    refine ⟨(show lf_R r42 from lf_Rof (by omega)), ?_⟩
    refine ⟨fun c21 => ?_, fun c21 => ?_⟩
    · skip
      replace c21 : r42 ≠ 0 := c21
      refine ⟨(show (0 : Int) ≤ x2 ∧ x2 < (4 : Int) from by omega), ?_⟩
      have hI22 : iv_A (lf_up s.1 118 x2 x3) s.2.2 := iv_w118 hI (by omega)
      have fr23 : lf_fq [108, 118, 119] 1000000 true s.1 s.2.2 (lf_up s.1 118 x2 x3) s.2.2 := lf_fq_up (lf_fq_rf) rfl (fun h => absurd h (by decide))
      exact sm_312_p30 (fun r9 t9 i9 f9 => hQ r9 t9 i9 (lf_fq_tr fr23 f9)) (fun p0 p1 t9 i9 f9 => hX4 p0 p1 t9 i9 (lf_fq_tr fr23 f9)) (show (4 - x3).toNat ≤ M4 from by omega) hI22 (show (0 : Int) ≤ x1 ∧ x1 ≤ (5 : Int) from by omega) (show (0 : Int) ≤ x2 + 1 ∧ x2 + 1 ≤ (4 : Int) from by omega) (show (0 : Int) ≤ x3 ∧ x3 ≤ (3 : Int) from by omega) (show (x2 + 1) ≤ x3 + 1 from by omega)
    · skip
      replace c21 : ¬ (r42 ≠ 0) := c21
      exact sm_312_p30 hQ hX4 (show (4 - x3).toNat ≤ M4 from by omega) hI (show (0 : Int) ≤ x1 ∧ x1 ≤ (5 : Int) from by omega) (show (0 : Int) ≤ x2 ∧ x2 ≤ (4 : Int) from by omega) (show (0 : Int) ≤ x3 ∧ x3 ≤ (3 : Int) from by omega) (show x2 ≤ x3 + 1 from by omega)
theorem sm_312_p4L {Q : Int → lf_Z → Prop} {x1 : Int} {x2 : Int} {x3 : Int} {s : lf_Z} (hQ : ∀ (r : Int) (s' : lf_Z), iv_A s'.1 s'.2.2 → lf_fq [108, 118, 119] 1000000 true s.1 s.2.2 s'.1 s'.2.2 → (0 ≤ r ∧ r ≤ 4) → Q r s') (hI : iv_A s.1 s.2.2) (bx1 : 0 ≤ x1 ∧ x1 ≤ 5) (bx2 : 0 ≤ x2 ∧ x2 ≤ 4) (bx3 : 0 ≤ x3 ∧ x3 ≤ 4) (kv0 : x2 ≤ x3) : fm_312_p4L Q x1 x2 x3 s := by
  intro X4 hX
  have key : ∀ (m9 : Nat) (x2 : Int) (x3 : Int) (s' : lf_Z), iv_A s'.1 s'.2.2 → lf_fq [108, 118, 119] 1000000 true s.1 s.2.2 s'.1 s'.2.2 → 0 ≤ x2 ∧ x2 ≤ 4 → 0 ≤ x3 ∧ x3 ≤ 4 → (x2 ≤ x3) → (4 - x3).toNat < m9 → X4 x2 x3 s' := by
    intro m9
    induction m9 with
    | zero => intro x2 x3 s' _ _ bx2 bx3 kv0 h9; exact absurd h9 (Nat.not_lt_zero _)
    | succ m9 ih => intro x2 x3 s' i7 f7 bx2 bx3 kv0 h9; exact hX _ _ _ (sm_312_p4 (fun r9 t9 i9 f9 => hQ r9 t9 i9 (lf_fq_tr f7 f9))   (fun x2' x3' t8 i8 f8 bx2' bx3' kv0' h8 => ih x2' x3' t8 i8 (lf_fq_tr f7 f8) bx2' bx3' kv0' (by omega)) (Nat.le_refl _)  i7  bx1 bx2 bx3  kv0)
  exact key _ _ _ s hI lf_fq_rf bx2 bx3 kv0 (Nat.lt_succ_self _)
theorem sm_312 {a1 : Int} {Q : Int → lf_Z → Prop} {s : lf_Z} (hI : iv_A s.1 s.2.2) (ba1 : 0 ≤ a1 ∧ a1 ≤ 5) (hQ : ∀ (r : Int) (s' : lf_Z), iv_A s'.1 s'.2.2 → lf_fq [108, 118, 119] 1000000 true s.1 s.2.2 s'.1 s'.2.2 → (0 ≤ r ∧ r ≤ 4) → Q r s') : fm_312 a1 Q s := by
  unfold fm_312
  exact sm_312_p4L hQ hI (show (0 : Int) ≤ a1 ∧ a1 ≤ (5 : Int) from by omega) (show (0 : Int) ≤ 0 ∧ 0 ≤ (4 : Int) from by omega) (show (0 : Int) ≤ 0 ∧ 0 ≤ (4 : Int) from by omega) (show 0 ≤ 0 from by omega)
-- fm_313 Model.harmBy 95 i
theorem sm_313_p10 {X10 : Int → Int → Int → Int → lf_Z → Prop} {Q : Int → lf_Z → Prop} {x1 : Int} {x2 : Int} {x3 : Int} {x4 : Int} {x5 : Int} {s : lf_Z} (hQ : ∀ (r : Int), (0 ≤ r ∧ r ≤ 38016000) → Q r s) {M10 : Nat} (hX10 : ∀ (x2 : Int) (x3 : Int) (x4 : Int) (x5 : Int), 0 ≤ x2 ∧ x2 ≤ 38016000 → 0 ≤ x3 ∧ x3 ≤ 4000 → 0 ≤ x4 ∧ x4 ≤ 4 → 0 ≤ x5 ∧ x5 ≤ 4 → (od_B (s.1 116) (x1) 4) → (0 ≤ x2 ∧ x2 ≤ 9504000 * x5 ∧ 0 ≤ x3 ∧ x3 ≤ 1000 * x5) → (4 - x5).toNat < M10 → X10 x2 x3 x4 x5 s) (hM10 : (4 - x5).toNat ≤ M10) (hI : iv_A s.1 s.2.2) (bx1 : 0 ≤ x1 ∧ x1 ≤ 4) (bx2 : 0 ≤ x2 ∧ x2 ≤ 38016000) (bx3 : 0 ≤ x3 ∧ x3 ≤ 4000) (bx4 : 0 ≤ x4 ∧ x4 ≤ 4) (bx5 : 0 ≤ x5 ∧ x5 ≤ 4) (kv0 : od_B (s.1 116) (x1) 4) (kv1 : 0 ≤ x2 ∧ x2 ≤ 9504000 * x5 ∧ 0 ≤ x3 ∧ x3 ≤ 1000 * x5) : fm_313_p10 Q x1 X10 x2 x3 x4 x5 s := by
  unfold fm_313_p10
  refine ⟨(show lf_R x5 from lf_Rof (by omega)), ?_⟩
  refine ⟨(show lf_R x1 from lf_Rof (by omega)), ?_⟩
  refine ⟨fun c1 => ?_, fun c1 => ?_⟩
  · skip
    replace c1 : x1 ≤ x5 := c1
    exact hQ x2 (show (0 : Int) ≤ x2 ∧ x2 ≤ (38016000 : Int) from by omega)
  · skip
    replace c1 : ¬ (x1 ≤ x5) := c1
    have b2 : 0 ≤ (s.1 116 x5) ∧ (s.1 116 x5) < 4 := kv0 _ (by omega) (by omega)
    refine ⟨(show (0 : Int) ≤ x5 ∧ x5 < (6 : Int) from by omega), ?_⟩
    have b3 : 0 ≤ s.1 116 x5 ∧ s.1 116 x5 ≤ 5 := iv_r116 hI _
    refine ⟨(show (0 : Int) ≤ s.1 116 x5 ∧ s.1 116 x5 < (4 : Int) from by omega), ?_⟩
    have b4 : 0 ≤ s.1 118 (s.1 116 x5) ∧ s.1 118 (s.1 116 x5) ≤ 3 := iv_r118 hI _
    refine ⟨(show (0 : Int) ≤ (4 * x4) + (s.1 116 x5) ∧ (4 * x4) + (s.1 116 x5) < (20 : Int) from by omega), ?_⟩
    have b5 : 0 ≤ s.1 119 ((4 * x4) + (s.1 116 x5)) ∧ s.1 119 ((4 * x4) + (s.1 116 x5)) ≤ 1000 := iv_r119 hI _
    refine sm_242 hI (show (0 : Int) ≤ s.1 118 (s.1 116 x5) ∧ s.1 118 (s.1 116 x5) ≤ (3 : Int) from by omega) (fun r27 q6 => ?_)
    obtain ⟨q6, q6x⟩ := q6
    replace q6x : r27 = s.1 96 (114 + 3 * (s.1 118 (s.1 116 x5))) := q6x
    refine sm_255 hI (show (0 : Int) ≤ s.1 118 (s.1 116 x5) ∧ s.1 118 (s.1 116 x5) ≤ (3 : Int) from by omega) (fun r29 q7 => ?_)
    refine sm_277 hI (show (0 : Int) ≤ r29 ∧ r29 ≤ (11 : Int) from by omega) (fun r31 q8 => ?_)
    have b9 : 0 ≤ r27 * r31 ∧ r27 * r31 ≤ 2376 := lf_mulB (a := r27) (b := r31) (p := 0) (q := 24) (r := 0) (u := 99) (by omega) (by omega) (by decide) (by decide) (by decide) (by decide) (by decide) (by decide) (by decide) (by decide)
    have b10 : 0 ≤ (r27 * r31) * (x3 + (s.1 119 ((4 * x4) + (s.1 116 x5)))) ∧ (r27 * r31) * (x3 + (s.1 119 ((4 * x4) + (s.1 116 x5)))) ≤ 11880000 := lf_mulB (a := (r27 * r31)) (b := (x3 + (s.1 119 ((4 * x4) + (s.1 116 x5))))) (p := 0) (q := 2376) (r := 0) (u := 5000) (by omega) (by omega) (by decide) (by decide) (by decide) (by decide) (by decide) (by decide) (by decide) (by decide)
    have b11 : ((r27 * r31) * (x3 + (s.1 119 ((4 * x4) + (s.1 116 x5))))) ≤ 9504000 := lf_m9 (by omega) (by omega)
    exact hX10 (x2 + ((r27 * r31) * (x3 + (s.1 119 ((4 * x4) + (s.1 116 x5)))))) (x3 + (s.1 119 ((4 * x4) + (s.1 116 x5)))) (s.1 116 x5) (x5 + 1) (show (0 : Int) ≤ x2 + ((r27 * r31) * (x3 + (s.1 119 ((4 * x4) + (s.1 116 x5))))) ∧ x2 + ((r27 * r31) * (x3 + (s.1 119 ((4 * x4) + (s.1 116 x5))))) ≤ (38016000 : Int) from by omega) (show (0 : Int) ≤ x3 + (s.1 119 ((4 * x4) + (s.1 116 x5))) ∧ x3 + (s.1 119 ((4 * x4) + (s.1 116 x5))) ≤ (4000 : Int) from by omega) (show (0 : Int) ≤ s.1 116 x5 ∧ s.1 116 x5 ≤ (4 : Int) from by omega) (show (0 : Int) ≤ x5 + 1 ∧ x5 + 1 ≤ (4 : Int) from by omega) (show od_B ((s.1 116)) (x1) 4 from by first | with_reducible assumption | assumption) (show 0 ≤ (x2 + ((r27 * r31) * (x3 + (s.1 119 ((4 * x4) + (s.1 116 x5)))))) ∧ (x2 + ((r27 * r31) * (x3 + (s.1 119 ((4 * x4) + (s.1 116 x5)))))) ≤ 9504000 * (x5 + 1) ∧ 0 ≤ (x3 + (s.1 119 ((4 * x4) + (s.1 116 x5)))) ∧ (x3 + (s.1 119 ((4 * x4) + (s.1 116 x5)))) ≤ 1000 * (x5 + 1) from by omega) (show (4 - (x5 + 1)).toNat < M10 from by omega)
theorem sm_313_p10L {Q : Int → lf_Z → Prop} {x1 : Int} {x2 : Int} {x3 : Int} {x4 : Int} {x5 : Int} {s : lf_Z} (hQ : ∀ (r : Int), (0 ≤ r ∧ r ≤ 38016000) → Q r s) (hI : iv_A s.1 s.2.2) (bx1 : 0 ≤ x1 ∧ x1 ≤ 4) (bx2 : 0 ≤ x2 ∧ x2 ≤ 38016000) (bx3 : 0 ≤ x3 ∧ x3 ≤ 4000) (bx4 : 0 ≤ x4 ∧ x4 ≤ 4) (bx5 : 0 ≤ x5 ∧ x5 ≤ 4) (kv0 : od_B (s.1 116) (x1) 4) (kv1 : 0 ≤ x2 ∧ x2 ≤ 9504000 * x5 ∧ 0 ≤ x3 ∧ x3 ≤ 1000 * x5) : fm_313_p10L Q x1 x2 x3 x4 x5 s := by
  intro X10 hX
  have key : ∀ (m9 : Nat) (x2 : Int) (x3 : Int) (x4 : Int) (x5 : Int), 0 ≤ x2 ∧ x2 ≤ 38016000 → 0 ≤ x3 ∧ x3 ≤ 4000 → 0 ≤ x4 ∧ x4 ≤ 4 → 0 ≤ x5 ∧ x5 ≤ 4 → (od_B (s.1 116) (x1) 4) → (0 ≤ x2 ∧ x2 ≤ 9504000 * x5 ∧ 0 ≤ x3 ∧ x3 ≤ 1000 * x5) → (4 - x5).toNat < m9 → X10 x2 x3 x4 x5 s := by
    intro m9
    induction m9 with
    | zero => intro x2 x3 x4 x5 bx2 bx3 bx4 bx5 kv0 kv1 h9; exact absurd h9 (Nat.not_lt_zero _)
    | succ m9 ih => intro x2 x3 x4 x5 bx2 bx3 bx4 bx5 kv0 kv1 h9; exact hX _ _ _ _ _ (sm_313_p10 hQ   (fun x2' x3' x4' x5' bx2' bx3' bx4' bx5' kv0' kv1' h8 => ih x2' x3' x4' x5' bx2' bx3' bx4' bx5' kv0' kv1' (by omega)) (Nat.le_refl _)  hI  bx1 bx2 bx3 bx4 bx5  kv0 kv1)
  exact key _ _ _ _ _ bx2 bx3 bx4 bx5  kv0 kv1 (Nat.lt_succ_self _)
theorem sm_313 {a1 : Int} {Q : Int → lf_Z → Prop} {s : lf_Z} (hI : iv_A s.1 s.2.2) (ba1 : 0 ≤ a1 ∧ a1 ≤ 4) (kp0 : od_B (s.1 116) (a1) 4) (hQ : ∀ (r : Int), (0 ≤ r ∧ r ≤ 38016000) → Q r s) : fm_313 a1 Q s := by
  unfold fm_313
  exact sm_313_p10L hQ hI (show (0 : Int) ≤ a1 ∧ a1 ≤ (4 : Int) from by omega) (show (0 : Int) ≤ 0 ∧ 0 ≤ (38016000 : Int) from by omega) (show (0 : Int) ≤ 0 ∧ 0 ≤ (4000 : Int) from by omega) (show (0 : Int) ≤ 4 ∧ 4 ≤ (4 : Int) from by omega) (show (0 : Int) ≤ 0 ∧ 0 ≤ (4 : Int) from by omega) (show od_B ((s.1 116)) (a1) 4 from by first | with_reducible assumption | assumption) (show 0 ≤ 0 ∧ 0 ≤ 9504000 * 0 ∧ 0 ≤ 0 ∧ 0 ≤ 1000 * 0 from by omega)
-- fm_311 Model.after 95 i i
theorem sm_311_p168 {X94 : Int → Int → lf_Z → Prop} {Q : Int → lf_Z → Prop} {x2 : Int} {x3 : Int} {x4 : Int} {s : lf_Z} (hQ : ∀ (r : Int) (s' : lf_Z), iv_A s'.1 s'.2.2 → lf_fq [108, 116, 117, 118, 119] 1000000 true s.1 s.2.2 s'.1 s'.2.2 → ((-1) ≤ r ∧ r ≤ 38016000) → Q r s') {M94 : Nat} (hX94 : ∀ (x4 : Int) (x5 : Int) (s' : lf_Z), iv_A s'.1 s'.2.2 → lf_fq [108, 116, 117, 118, 119] 1000000 true s.1 s.2.2 s'.1 s'.2.2 → (-1) ≤ x4 ∧ x4 ≤ 38016000 → 0 ≤ x5 ∧ x5 ≤ 1 → (x2 < x3 ∧ -1 ≤ x2) → (od_B (s'.1 116) (x3) (x3)) → (af_F (s'.1 116) (s'.1 117) (x3) (x4) (x5)) → (od_m (x5) (46657 - od (s'.1 116) (x3) (x3))).toNat < M94 → X94 x4 x5 s') (hM94 : (46657 - od (s.1 116) (x3) (x3)).toNat ≤ M94) (hI : iv_A s.1 s.2.2) (bx2 : (-1) ≤ x2 ∧ x2 ≤ 3) (bx3 : 1 ≤ x3 ∧ x3 ≤ 4) (bx4 : (-1) ≤ x4 ∧ x4 ≤ 38016000) (kv0 : x2 < x3 ∧ -1 ≤ x2) (kv1 : od_B (s.1 116) (x3) (x3)) (kv2 : af_K (s.1 116) (s.1 117) (x3) (x4)) : fm_311_p168 X94 Q x2 x3 x4 s := by
  unfold fm_311_p168
  have b30 : 0 ≤ od ((s.1 116)) (x3) (x3) ∧ od ((s.1 116)) (x3) (x3) ≤ 46655 := od_le kv1 (by omega) (by omega)
  refine sm_304 hI (show (0 : Int) ≤ x3 ∧ x3 ≤ (6 : Int) from by omega) (show (0 : Int) ≤ x3 ∧ x3 ≤ (6 : Int) from by omega) (show od_B ((s.1 116)) (x3) (x3) from by first | with_reducible assumption | assumption) (show 1 ≤ x3 ∧ x3 ≤ 6 ∧ 0 ≤ x3 ∧ x3 ≤ 6 from by omega) (fun z39 s38 hI32 fr31 ps34 ps35 ps36 => ?_)
  replace ps34 : z39 = true → od (s38.1 116) (x3) (x3) = od ((s.1 116)) (x3) (x3) + 1 := ps34
  replace ps35 : od_B (s38.1 116) (x3) (x3) := ps35
  replace ps36 : z39 = false → ∀ j : Int, 0 ≤ j → j < x3 → (s.1 116) j = x3 - 1 := ps36
  have fr37 : lf_fq [108, 116, 117, 118, 119] 1000000 true s.1 s.2.2 s38.1 s38.2.2 := lf_fq_tr (lf_fq_rf) (lf_fq_wk fr31 rfl (by decide) (by decide))
  have b38 : (lf_b z39) = 0 ∨ od ((s38.1 116)) (x3) (x3) = od (s.1 116) (x3) (x3) + 1 := lf_bz ps34
  have b39 : ((lf_b z39) = 0 ∧ od_m (lf_b z39) (46657 - od ((s38.1 116)) (x3) (x3)) = 0) ∨ ((lf_b z39) ≠ 0 ∧ od_m (lf_b z39) (46657 - od ((s38.1 116)) (x3) (x3)) = 46657 - od ((s38.1 116)) (x3) (x3)) := od_mE _ _
  have b40 : 0 ≤ od ((s38.1 116)) (x3) (x3) ∧ od ((s38.1 116)) (x3) (x3) ≤ 46655 := od_le ps35 (by omega) (by omega)
  have b41 : af_F ((s38.1 116)) ((s38.1 117)) (x3) (x4) (lf_b z39) := af_n kv2 (fr31.1 117 rfl) (lf_bz ps34) (lf_bf ps36) (by omega)
  have b42 : od_B ((s38.1 116)) (x3) (x3) := by first | with_reducible assumption | exact od_Bz kv1 (by omega) (by omega)
  have b43 : af_F ((s38.1 116)) ((s38.1 117)) (x3) (x4) ((lf_b z39)) := by first | with_reducible assumption | exact af_0 kv1 (by omega) (by omega)
  have zzz39 : 0 ≤ lf_b z39 ∧ lf_b z39 ≤ 1 := lf_b01
  exact hX94 (x4) (lf_b z39) s38 hI32 fr37 (show (-1 : Int) ≤ x4 ∧ x4 ≤ (38016000 : Int) from by omega) (show (0 : Int) ≤ lf_b z39 ∧ lf_b z39 ≤ (1 : Int) from by omega) (show x2 < x3 ∧ -1 ≤ x2 from by omega) (show od_B ((s38.1 116)) (x3) (x3) from by first | with_reducible assumption | assumption) (show af_F ((s38.1 116)) ((s38.1 117)) (x3) (x4) ((lf_b z39)) from by first | with_reducible assumption | assumption) (show (od_m ((lf_b z39)) (46657 - od ((s38.1 116)) (x3) (x3))).toNat < M94 from by omega)
theorem sm_311_p142 {X94 : Int → Int → lf_Z → Prop} {X142 : Int → lf_Z → Prop} {Q : Int → lf_Z → Prop} {x2 : Int} {x3 : Int} {x4 : Int} {x7 : Int} {s : lf_Z} (hQ : ∀ (r : Int) (s' : lf_Z), iv_A s'.1 s'.2.2 → lf_fq [108, 116, 117, 118, 119] 1000000 true s.1 s.2.2 s'.1 s'.2.2 → ((-1) ≤ r ∧ r ≤ 38016000) → Q r s') {M94 : Nat} (hX94 : ∀ (x4 : Int) (x5 : Int) (s' : lf_Z), iv_A s'.1 s'.2.2 → lf_fq [108, 116, 117, 118, 119] 1000000 true s.1 s.2.2 s'.1 s'.2.2 → (-1) ≤ x4 ∧ x4 ≤ 38016000 → 0 ≤ x5 ∧ x5 ≤ 1 → (x2 < x3 ∧ -1 ≤ x2) → (od_B (s'.1 116) (x3) (x3)) → (af_F (s'.1 116) (s'.1 117) (x3) (x4) (x5)) → (od_m (x5) (46657 - od (s'.1 116) (x3) (x3))).toNat < M94 → X94 x4 x5 s') (hM94 : (46657 - od (s.1 116) (x3) (x3)).toNat ≤ M94) {M142 : Nat} (hX142 : ∀ (x7 : Int) (s' : lf_Z), iv_A s'.1 s'.2.2 → lf_fq [108, 116, 117, 118, 119] 1000000 true s.1 s.2.2 s'.1 s'.2.2 → 0 ≤ x7 ∧ x7 ≤ 4 → (x2 < x3 ∧ -1 ≤ x2) → (od_B (s'.1 116) (x3) (x3)) → (od_B (s'.1 117) (x7) 4) → (0 ≤ x4) → ((46657 - od (s'.1 116) (x3) (x3)).toNat ≤ M94) → (4 - x7).toNat < M142 → X142 x7 s') (hM142 : (4 - x7).toNat ≤ M142) (hI : iv_A s.1 s.2.2) (bx2 : (-1) ≤ x2 ∧ x2 ≤ 3) (bx3 : 1 ≤ x3 ∧ x3 ≤ 4) (bx4 : 0 ≤ x4 ∧ x4 ≤ 38016000) (bx7 : 0 ≤ x7 ∧ x7 ≤ 4) (kv0 : x2 < x3 ∧ -1 ≤ x2) (kv1 : od_B (s.1 116) (x3) (x3)) (kv2 : od_B (s.1 117) (x7) 4) (kv3 : 0 ≤ x4) (kv4 : (46657 - od (s.1 116) (x3) (x3)).toNat ≤ M94) : fm_311_p142 X94 Q x2 x3 x4 X142 x7 s := by
  unfold fm_311_p142
  refine ⟨(show lf_R x7 from lf_Rof (by omega)), ?_⟩
  refine ⟨(show lf_R x3 from lf_Rof (by omega)), ?_⟩
  refine ⟨fun c46 => ?_, fun c46 => ?_⟩
  · skip
    replace c46 : x3 ≤ x7 := c46
    have b47 : af_K ((s.1 116)) ((s.1 117)) (x3) (x4) := by first | exact Or.inl ⟨by omega, od_Bl kv2 (by omega)⟩ | exact af_k kv1 kv2 kv3 (by omega) (by omega) | exact af_l kv2 (by omega)
    exact sm_311_p168 hQ hX94 (show (46657 - od ((s.1 116)) (x3) (x3)).toNat ≤ M94 from by omega) hI (show (-1 : Int) ≤ x2 ∧ x2 ≤ (3 : Int) from by omega) (show (1 : Int) ≤ x3 ∧ x3 ≤ (4 : Int) from by omega) (show (-1 : Int) ≤ x4 ∧ x4 ≤ (38016000 : Int) from by omega) (show x2 < x3 ∧ -1 ≤ x2 from by omega) (show od_B ((s.1 116)) (x3) (x3) from by first | with_reducible assumption | assumption) (show af_K ((s.1 116)) ((s.1 117)) (x3) (x4) from by first | with_reducible assumption | assumption)
  · skip
    replace c46 : ¬ (x3 ≤ x7) := c46
    have b48 : 0 ≤ (s.1 116 x7) ∧ (s.1 116 x7) < x3 := kv1 _ (by omega) (by omega)
    refine ⟨(show (0 : Int) ≤ x7 ∧ x7 < (6 : Int) from by omega), ?_⟩
    have b49 : 0 ≤ s.1 116 x7 ∧ s.1 116 x7 ≤ 5 := iv_r116 hI _
    have hI50 : iv_A (lf_up s.1 117 x7 (s.1 116 x7)) s.2.2 := iv_w117 hI (by omega)
    have fr51 : lf_fq [108, 116, 117, 118, 119] 1000000 true s.1 s.2.2 (lf_up s.1 117 x7 (s.1 116 x7)) s.2.2 := lf_fq_up (lf_fq_rf) rfl (fun h => absurd h (by decide))
    have b52 : od_B (((lf_up s.1 117 x7 (s.1 116 x7)) 117)) ((x7 + 1)) 4 := by first | exact od_Bk kv2 (by omega) lf_up_s (fun j hj => lf_up_i hj) | exact (fun j a b => by omega)
    exact hX142 (x7 + 1) (lf_up s.1 117 x7 (s.1 116 x7), s.2.1, s.2.2) hI50 fr51 (show (0 : Int) ≤ x7 + 1 ∧ x7 + 1 ≤ (4 : Int) from by omega) (show x2 < x3 ∧ -1 ≤ x2 from by omega) (show od_B ((s.1 116)) (x3) (x3) from by first | with_reducible assumption | assumption) (show od_B (((lf_up s.1 117 x7 (s.1 116 x7)) 117)) ((x7 + 1)) 4 from by first | with_reducible assumption | assumption) (show 0 ≤ x4 from by omega) (show (46657 - od ((s.1 116)) (x3) (x3)).toNat ≤ M94 from by omega) (show (4 - (x7 + 1)).toNat < M142 from by omega)
theorem sm_311_p142L {X94 : Int → Int → lf_Z → Prop} {Q : Int → lf_Z → Prop} {x2 : Int} {x3 : Int} {x4 : Int} {x7 : Int} {s : lf_Z} (hQ : ∀ (r : Int) (s' : lf_Z), iv_A s'.1 s'.2.2 → lf_fq [108, 116, 117, 118, 119] 1000000 true s.1 s.2.2 s'.1 s'.2.2 → ((-1) ≤ r ∧ r ≤ 38016000) → Q r s') {M94 : Nat} (hX94 : ∀ (x4 : Int) (x5 : Int) (s' : lf_Z), iv_A s'.1 s'.2.2 → lf_fq [108, 116, 117, 118, 119] 1000000 true s.1 s.2.2 s'.1 s'.2.2 → (-1) ≤ x4 ∧ x4 ≤ 38016000 → 0 ≤ x5 ∧ x5 ≤ 1 → (x2 < x3 ∧ -1 ≤ x2) → (od_B (s'.1 116) (x3) (x3)) → (af_F (s'.1 116) (s'.1 117) (x3) (x4) (x5)) → (od_m (x5) (46657 - od (s'.1 116) (x3) (x3))).toNat < M94 → X94 x4 x5 s') (hM94 : (46657 - od (s.1 116) (x3) (x3)).toNat ≤ M94) (hI : iv_A s.1 s.2.2) (bx2 : (-1) ≤ x2 ∧ x2 ≤ 3) (bx3 : 1 ≤ x3 ∧ x3 ≤ 4) (bx4 : 0 ≤ x4 ∧ x4 ≤ 38016000) (bx7 : 0 ≤ x7 ∧ x7 ≤ 4) (kv0 : x2 < x3 ∧ -1 ≤ x2) (kv1 : od_B (s.1 116) (x3) (x3)) (kv2 : od_B (s.1 117) (x7) 4) (kv3 : 0 ≤ x4) (kv4 : (46657 - od (s.1 116) (x3) (x3)).toNat ≤ M94) : fm_311_p142L X94 Q x2 x3 x4 x7 s := by
  intro X142 hX
  have key : ∀ (m9 : Nat) (x7 : Int) (s' : lf_Z), iv_A s'.1 s'.2.2 → lf_fq [108, 116, 117, 118, 119] 1000000 true s.1 s.2.2 s'.1 s'.2.2 → 0 ≤ x7 ∧ x7 ≤ 4 → (x2 < x3 ∧ -1 ≤ x2) → (od_B (s'.1 116) (x3) (x3)) → (od_B (s'.1 117) (x7) 4) → (0 ≤ x4) → ((46657 - od (s'.1 116) (x3) (x3)).toNat ≤ M94) → (4 - x7).toNat < m9 → X142 x7 s' := by
    intro m9
    induction m9 with
    | zero => intro x7 s' _ _ bx7 kv0 kv1 kv2 kv3 kv4 h9; exact absurd h9 (Nat.not_lt_zero _)
    | succ m9 ih => intro x7 s' i7 f7 bx7 kv0 kv1 kv2 kv3 kv4 h9; exact hX _ _ (sm_311_p142 (fun r9 t9 i9 f9 => hQ r9 t9 i9 (lf_fq_tr f7 f9))  (fun p0 p1 t9 i9 f9 => hX94 p0 p1 t9 i9 (lf_fq_tr f7 f9)) kv4 (fun x7' t8 i8 f8 bx7' kv0' kv1' kv2' kv3' kv4' h8 => ih x7' t8 i8 (lf_fq_tr f7 f8) bx7' kv0' kv1' kv2' kv3' kv4' (by omega)) (Nat.le_refl _)  i7  bx2 bx3 bx4 bx7  kv0 kv1 kv2 kv3 kv4)
  exact key _ _ s hI lf_fq_rf bx7 kv0 kv1 kv2 kv3 kv4 (Nat.lt_succ_self _)
theorem sm_311_p135 {X94 : Int → Int → lf_Z → Prop} {Q : Int → lf_Z → Prop} {x2 : Int} {x3 : Int} {x6 : Int} {s : lf_Z} (hQ : ∀ (r : Int) (s' : lf_Z), iv_A s'.1 s'.2.2 → lf_fq [108, 116, 117, 118, 119] 1000000 true s.1 s.2.2 s'.1 s'.2.2 → ((-1) ≤ r ∧ r ≤ 38016000) → Q r s') {M94 : Nat} (hX94 : ∀ (x4 : Int) (x5 : Int) (s' : lf_Z), iv_A s'.1 s'.2.2 → lf_fq [108, 116, 117, 118, 119] 1000000 true s.1 s.2.2 s'.1 s'.2.2 → (-1) ≤ x4 ∧ x4 ≤ 38016000 → 0 ≤ x5 ∧ x5 ≤ 1 → (x2 < x3 ∧ -1 ≤ x2) → (od_B (s'.1 116) (x3) (x3)) → (af_F (s'.1 116) (s'.1 117) (x3) (x4) (x5)) → (od_m (x5) (46657 - od (s'.1 116) (x3) (x3))).toNat < M94 → X94 x4 x5 s') (hM94 : (46657 - od (s.1 116) (x3) (x3)).toNat ≤ M94) (hI : iv_A s.1 s.2.2) (bx2 : (-1) ≤ x2 ∧ x2 ≤ 3) (bx3 : 1 ≤ x3 ∧ x3 ≤ 4) (bx6 : 0 ≤ x6 ∧ x6 ≤ 38016000) (kv0 : x2 < x3 ∧ -1 ≤ x2) (kv1 : od_B (s.1 116) (x3) (x3)) : fm_311_p135 X94 Q x2 x3 x6 s := by
  unfold fm_311_p135
  have b45 : od_B ((s.1 117)) (0) 4 := by first | exact od_Bk kv2 (by omega) lf_up_s (fun j hj => lf_up_i hj) | exact (fun j a b => by omega)
  exact sm_311_p142L hQ hX94 (show (46657 - od ((s.1 116)) (x3) (x3)).toNat ≤ M94 from by omega) hI (show (-1 : Int) ≤ x2 ∧ x2 ≤ (3 : Int) from by omega) (show (1 : Int) ≤ x3 ∧ x3 ≤ (4 : Int) from by omega) (show (0 : Int) ≤ x6 ∧ x6 ≤ (38016000 : Int) from by omega) (show (0 : Int) ≤ 0 ∧ 0 ≤ (4 : Int) from by omega) (show x2 < x3 ∧ -1 ≤ x2 from by omega) (show od_B ((s.1 116)) (x3) (x3) from by first | with_reducible assumption | assumption) (show od_B ((s.1 117)) (0) 4 from by first | with_reducible assumption | assumption) (show 0 ≤ x6 from by omega) (show (46657 - od ((s.1 116)) (x3) (x3)).toNat ≤ M94 from by omega)
theorem sm_311_p116 {X94 : Int → Int → lf_Z → Prop} {Q : Int → lf_Z → Prop} {x2 : Int} {x3 : Int} {x4 : Int} {y0 : Int} {s : lf_Z} (hQ : ∀ (r : Int) (s' : lf_Z), iv_A s'.1 s'.2.2 → lf_fq [108, 116, 117, 118, 119] 1000000 true s.1 s.2.2 s'.1 s'.2.2 → ((-1) ≤ r ∧ r ≤ 38016000) → Q r s') {M94 : Nat} (hX94 : ∀ (x4 : Int) (x5 : Int) (s' : lf_Z), iv_A s'.1 s'.2.2 → lf_fq [108, 116, 117, 118, 119] 1000000 true s.1 s.2.2 s'.1 s'.2.2 → (-1) ≤ x4 ∧ x4 ≤ 38016000 → 0 ≤ x5 ∧ x5 ≤ 1 → (x2 < x3 ∧ -1 ≤ x2) → (od_B (s'.1 116) (x3) (x3)) → (af_F (s'.1 116) (s'.1 117) (x3) (x4) (x5)) → (od_m (x5) (46657 - od (s'.1 116) (x3) (x3))).toNat < M94 → X94 x4 x5 s') (hM94 : (46657 - od (s.1 116) (x3) (x3)).toNat ≤ M94) (hI : iv_A s.1 s.2.2) (bx2 : (-1) ≤ x2 ∧ x2 ≤ 3) (bx3 : 1 ≤ x3 ∧ x3 ≤ 4) (bx4 : (-1) ≤ x4 ∧ x4 ≤ 38016000) (by0 : (-1) ≤ y0 ∧ y0 ≤ 38016000) (kv0 : x2 < x3 ∧ -1 ≤ x2) (kv1 : od_B (s.1 116) (x3) (x3)) (kv2 : af_F (s.1 116) (s.1 117) (x3) (x4) 1) (kv3 : 0 ≤ y0 ∨ ¬ od_D (s.1 116) (x3)) : fm_311_p116 X94 Q x2 x3 x4 y0 s := by
  unfold fm_311_p116
  refine ⟨(show lf_R y0 from lf_Rof (by omega)), ?_⟩
  refine ⟨fun c28 => ?_, fun c28 => ?_⟩
  · skip
    replace c28 : y0 < 0 := c28
    have b29 : af_K ((s.1 116)) ((s.1 117)) (x3) (x4) := by first | exact Or.inl ⟨by omega, od_Bl kv2 (by omega)⟩ | exact af_k kv1 kv2 kv3 (by omega) (by omega) | exact af_l kv2 (by omega)
    exact sm_311_p168 hQ hX94 (show (46657 - od ((s.1 116)) (x3) (x3)).toNat ≤ M94 from by omega) hI (show (-1 : Int) ≤ x2 ∧ x2 ≤ (3 : Int) from by omega) (show (1 : Int) ≤ x3 ∧ x3 ≤ (4 : Int) from by omega) (show (-1 : Int) ≤ x4 ∧ x4 ≤ (38016000 : Int) from by omega) (show x2 < x3 ∧ -1 ≤ x2 from by omega) (show od_B ((s.1 116)) (x3) (x3) from by first | with_reducible assumption | assumption) (show af_K ((s.1 116)) ((s.1 117)) (x3) (x4) from by first | with_reducible assumption | assumption)
  · skip
    replace c28 : ¬ (y0 < 0) := c28
    refine ⟨(show lf_R x4 from lf_Rof (by omega)), ?_⟩
    refine ⟨fun c44 => ?_, fun c44 => ?_⟩
    · skip
      replace c44 : x4 < 0 := c44
      exact sm_311_p135 hQ hX94 (show (46657 - od ((s.1 116)) (x3) (x3)).toNat ≤ M94 from by omega) hI (show (-1 : Int) ≤ x2 ∧ x2 ≤ (3 : Int) from by omega) (show (1 : Int) ≤ x3 ∧ x3 ≤ (4 : Int) from by omega) (show (0 : Int) ≤ y0 ∧ y0 ≤ (38016000 : Int) from by omega) (show x2 < x3 ∧ -1 ≤ x2 from by omega) (show od_B ((s.1 116)) (x3) (x3) from by first | with_reducible assumption | assumption)
    · skip
      replace c44 : ¬ (x4 < 0) := c44
      refine ⟨fun c53 => ?_, fun c53 => ?_⟩
      · skip
        replace c53 : x4 ≤ y0 := c53
        have b54 : af_K ((s.1 116)) ((s.1 117)) (x3) (x4) := by first | exact Or.inl ⟨by omega, od_Bl kv2 (by omega)⟩ | exact af_k kv1 kv2 kv3 (by omega) (by omega) | exact af_l kv2 (by omega)
        exact sm_311_p168 hQ hX94 (show (46657 - od ((s.1 116)) (x3) (x3)).toNat ≤ M94 from by omega) hI (show (-1 : Int) ≤ x2 ∧ x2 ≤ (3 : Int) from by omega) (show (1 : Int) ≤ x3 ∧ x3 ≤ (4 : Int) from by omega) (show (-1 : Int) ≤ x4 ∧ x4 ≤ (38016000 : Int) from by omega) (show x2 < x3 ∧ -1 ≤ x2 from by omega) (show od_B ((s.1 116)) (x3) (x3) from by first | with_reducible assumption | assumption) (show af_K ((s.1 116)) ((s.1 117)) (x3) (x4) from by first | with_reducible assumption | assumption)
      · skip
        replace c53 : ¬ (x4 ≤ y0) := c53
        exact sm_311_p135 hQ hX94 (show (46657 - od ((s.1 116)) (x3) (x3)).toNat ≤ M94 from by omega) hI (show (-1 : Int) ≤ x2 ∧ x2 ≤ (3 : Int) from by omega) (show (1 : Int) ≤ x3 ∧ x3 ≤ (4 : Int) from by omega) (show (0 : Int) ≤ y0 ∧ y0 ≤ (38016000 : Int) from by omega) (show x2 < x3 ∧ -1 ≤ x2 from by omega) (show od_B ((s.1 116)) (x3) (x3) from by first | with_reducible assumption | assumption)
theorem sm_311_p94 {X94 : Int → Int → lf_Z → Prop} {Q : Int → lf_Z → Prop} {x2 : Int} {x3 : Int} {x4 : Int} {x5 : Int} {s : lf_Z} (hQ : ∀ (r : Int) (s' : lf_Z), iv_A s'.1 s'.2.2 → lf_fq [108, 116, 117, 118, 119] 1000000 true s.1 s.2.2 s'.1 s'.2.2 → ((-1) ≤ r ∧ r ≤ 38016000) → Q r s') {M94 : Nat} (hX94 : ∀ (x4 : Int) (x5 : Int) (s' : lf_Z), iv_A s'.1 s'.2.2 → lf_fq [108, 116, 117, 118, 119] 1000000 true s.1 s.2.2 s'.1 s'.2.2 → (-1) ≤ x4 ∧ x4 ≤ 38016000 → 0 ≤ x5 ∧ x5 ≤ 1 → (x2 < x3 ∧ -1 ≤ x2) → (od_B (s'.1 116) (x3) (x3)) → (af_F (s'.1 116) (s'.1 117) (x3) (x4) (x5)) → (od_m (x5) (46657 - od (s'.1 116) (x3) (x3))).toNat < M94 → X94 x4 x5 s') (hM94 : (od_m (x5) (46657 - od (s.1 116) (x3) (x3))).toNat ≤ M94) (hI : iv_A s.1 s.2.2) (bx2 : (-1) ≤ x2 ∧ x2 ≤ 3) (bx3 : 1 ≤ x3 ∧ x3 ≤ 4) (bx4 : (-1) ≤ x4 ∧ x4 ≤ 38016000) (bx5 : 0 ≤ x5 ∧ x5 ≤ 1) (kv0 : x2 < x3 ∧ -1 ≤ x2) (kv1 : od_B (s.1 116) (x3) (x3)) (kv2 : af_F (s.1 116) (s.1 117) (x3) (x4) (x5)) : fm_311_p94 Q x2 x3 X94 x4 x5 s := by
  unfold fm_311_p94
  have b17 : (x5 = 0 ∧ od_m (x5) (46657 - od ((s.1 116)) (x3) (x3)) = 0) ∨ (x5 ≠ 0 ∧ od_m (x5) (46657 - od ((s.1 116)) (x3) (x3)) = 46657 - od ((s.1 116)) (x3) (x3)) := od_mE _ _
  refine ⟨(show lf_R x5 from lf_Rof (by omega)), ?_⟩
  refine ⟨fun c18 => ?_, fun c18 => ?_⟩
  · skip
    replace c18 : x5 = 0 := c18
    refine ⟨(show lf_R x2 from lf_Rof (by omega)), ?_⟩
    refine ⟨fun c19 => ?_, fun c19 => ?_⟩
    · skip
      replace c19 : x2 ≠ (-1) := c19
      have b20 : 0 ≤ (s.1 117 x2) ∧ (s.1 117 x2) < 4 := af_x kv2 (by omega) (by omega) (by omega)
      refine ⟨(show (0 : Int) ≤ x2 ∧ x2 < (6 : Int) from by omega), ?_⟩
      have b21 : 0 ≤ s.1 117 x2 ∧ s.1 117 x2 ≤ 5 := iv_r117 hI _
      refine ⟨(show (0 : Int) ≤ s.1 117 x2 ∧ s.1 117 x2 < (4 : Int) from by omega), ?_⟩
      have b22 : 0 ≤ s.1 118 (s.1 117 x2) ∧ s.1 118 (s.1 117 x2) ≤ 3 := iv_r118 hI _
      exact hQ (s.1 118 (s.1 117 x2)) s hI (lf_fq_rf) (show (-1 : Int) ≤ s.1 118 (s.1 117 x2) ∧ s.1 118 (s.1 117 x2) ≤ (38016000 : Int) from by omega)
    · skip
      replace c19 : ¬ (x2 ≠ (-1)) := c19
      exact hQ x4 s hI (lf_fq_rf) (show (-1 : Int) ≤ x4 ∧ x4 ≤ (38016000 : Int) from by omega)
  · skip
    replace c18 : ¬ (x5 = 0) := c18
    have b23 : af_F ((s.1 116)) ((s.1 117)) (x3) (x4) 1 := af_1 kv2
    refine sm_303 hI (show (0 : Int) ≤ x3 ∧ x3 ≤ (6 : Int) from by omega) (fun z36 ps25 => ?_)
    replace ps25 : z36 = false → ¬ od_D ((s.1 116)) (x3) := ps25
    refine ⟨fun c26 => ?_, fun c26 => ?_⟩
    · skip
      have dps25 := ps25 c26
      have b27 : 0 ≤ (-1) ∨ ¬ od_D ((s.1 116)) (x3) := by first | exact Or.inl (by omega) | exact Or.inr (by first | with_reducible assumption | assumption)
      exact sm_311_p116 hQ hX94 (show (46657 - od ((s.1 116)) (x3) (x3)).toNat ≤ M94 from by omega) hI (show (-1 : Int) ≤ x2 ∧ x2 ≤ (3 : Int) from by omega) (show (1 : Int) ≤ x3 ∧ x3 ≤ (4 : Int) from by omega) (show (-1 : Int) ≤ x4 ∧ x4 ≤ (38016000 : Int) from by omega) (show (-1 : Int) ≤ (-1) ∧ (-1) ≤ (38016000 : Int) from by omega) (show x2 < x3 ∧ -1 ≤ x2 from by omega) (show od_B ((s.1 116)) (x3) (x3) from by first | with_reducible assumption | assumption) (show af_F ((s.1 116)) ((s.1 117)) (x3) (x4) 1 from by first | with_reducible assumption | assumption) (show 0 ≤ (-1) ∨ ¬ od_D ((s.1 116)) (x3) from by first | with_reducible assumption | assumption)
    · skip
      have b55 : od_B ((s.1 116)) (x3) 4 := od_Bm kv1 (by omega)
      refine sm_313 hI (show (0 : Int) ≤ x3 ∧ x3 ≤ (4 : Int) from by omega) (show od_B ((s.1 116)) (x3) 4 from by first | with_reducible assumption | assumption) (fun r45 q56 => ?_)
      have b57 : 0 ≤ r45 ∨ ¬ od_D ((s.1 116)) (x3) := by first | exact Or.inl (by omega) | exact Or.inr (by first | with_reducible assumption | assumption)
      exact sm_311_p116 hQ hX94 (show (46657 - od ((s.1 116)) (x3) (x3)).toNat ≤ M94 from by omega) hI (show (-1 : Int) ≤ x2 ∧ x2 ≤ (3 : Int) from by omega) (show (1 : Int) ≤ x3 ∧ x3 ≤ (4 : Int) from by omega) (show (-1 : Int) ≤ x4 ∧ x4 ≤ (38016000 : Int) from by omega) (show (-1 : Int) ≤ r45 ∧ r45 ≤ (38016000 : Int) from by omega) (show x2 < x3 ∧ -1 ≤ x2 from by omega) (show od_B ((s.1 116)) (x3) (x3) from by first | with_reducible assumption | assumption) (show af_F ((s.1 116)) ((s.1 117)) (x3) (x4) 1 from by first | with_reducible assumption | assumption) (show 0 ≤ r45 ∨ ¬ od_D ((s.1 116)) (x3) from by first | with_reducible assumption | assumption)
theorem sm_311_p94L {Q : Int → lf_Z → Prop} {x2 : Int} {x3 : Int} {x4 : Int} {x5 : Int} {s : lf_Z} (hQ : ∀ (r : Int) (s' : lf_Z), iv_A s'.1 s'.2.2 → lf_fq [108, 116, 117, 118, 119] 1000000 true s.1 s.2.2 s'.1 s'.2.2 → ((-1) ≤ r ∧ r ≤ 38016000) → Q r s') (hI : iv_A s.1 s.2.2) (bx2 : (-1) ≤ x2 ∧ x2 ≤ 3) (bx3 : 1 ≤ x3 ∧ x3 ≤ 4) (bx4 : (-1) ≤ x4 ∧ x4 ≤ 38016000) (bx5 : 0 ≤ x5 ∧ x5 ≤ 1) (kv0 : x2 < x3 ∧ -1 ≤ x2) (kv1 : od_B (s.1 116) (x3) (x3)) (kv2 : af_F (s.1 116) (s.1 117) (x3) (x4) (x5)) : fm_311_p94L Q x2 x3 x4 x5 s := by
  intro X94 hX
  have key : ∀ (m9 : Nat) (x4 : Int) (x5 : Int) (s' : lf_Z), iv_A s'.1 s'.2.2 → lf_fq [108, 116, 117, 118, 119] 1000000 true s.1 s.2.2 s'.1 s'.2.2 → (-1) ≤ x4 ∧ x4 ≤ 38016000 → 0 ≤ x5 ∧ x5 ≤ 1 → (x2 < x3 ∧ -1 ≤ x2) → (od_B (s'.1 116) (x3) (x3)) → (af_F (s'.1 116) (s'.1 117) (x3) (x4) (x5)) → (od_m (x5) (46657 - od (s'.1 116) (x3) (x3))).toNat < m9 → X94 x4 x5 s' := by
    intro m9
    induction m9 with
    | zero => intro x4 x5 s' _ _ bx4 bx5 kv0 kv1 kv2 h9; exact absurd h9 (Nat.not_lt_zero _)
    | succ m9 ih => intro x4 x5 s' i7 f7 bx4 bx5 kv0 kv1 kv2 h9; exact hX _ _ _ (sm_311_p94 (fun r9 t9 i9 f9 => hQ r9 t9 i9 (lf_fq_tr f7 f9))   (fun x4' x5' t8 i8 f8 bx4' bx5' kv0' kv1' kv2' h8 => ih x4' x5' t8 i8 (lf_fq_tr f7 f8) bx4' bx5' kv0' kv1' kv2' (by omega)) (Nat.le_refl _)  i7  bx2 bx3 bx4 bx5  kv0 kv1 kv2)
  exact key _ _ _ s hI lf_fq_rf bx4 bx5 kv0 kv1 kv2 (Nat.lt_succ_self _)
theorem sm_311_p71 {X71 : Int → lf_Z → Prop} {Q : Int → lf_Z → Prop} {x2 : Int} {x3 : Int} {x4 : Int} {x5 : Int} {s : lf_Z} (hQ : ∀ (r : Int) (s' : lf_Z), iv_A s'.1 s'.2.2 → lf_fq [108, 116, 117, 118, 119] 1000000 true s.1 s.2.2 s'.1 s'.2.2 → ((-1) ≤ r ∧ r ≤ 38016000) → Q r s') {M71 : Nat} (hX71 : ∀ (x5 : Int) (s' : lf_Z), iv_A s'.1 s'.2.2 → lf_fq [108, 116, 117, 118, 119] 1000000 true s.1 s.2.2 s'.1 s'.2.2 → 0 ≤ x5 ∧ x5 ≤ 4 → (x2 < x3 ∧ -1 ≤ x2) → (lf_zr (s'.1 116) (x5)) → (4 - x5).toNat < M71 → X71 x5 s') (hM71 : (4 - x5).toNat ≤ M71) (hI : iv_A s.1 s.2.2) (bx2 : (-1) ≤ x2 ∧ x2 ≤ 3) (bx3 : 1 ≤ x3 ∧ x3 ≤ 4) (bx4 : (-1) ≤ x4 ∧ x4 ≤ (-1)) (bx5 : 0 ≤ x5 ∧ x5 ≤ 4) (kv0 : x2 < x3 ∧ -1 ≤ x2) (kv1 : lf_zr (s.1 116) (x5)) : fm_311_p71 Q x2 x3 x4 X71 x5 s := by
  unfold fm_311_p71
  refine ⟨(show lf_R x5 from lf_Rof (by omega)), ?_⟩
  refine ⟨(show lf_R x3 from lf_Rof (by omega)), ?_⟩
  refine ⟨fun c14 => ?_, fun c14 => ?_⟩
  · skip
    replace c14 : x3 ≤ x5 := c14
    have b15 : od_B ((s.1 116)) (x3) (x3) := by first | with_reducible assumption | exact od_Bz kv1 (by omega) (by omega)
    have b16 : af_F ((s.1 116)) ((s.1 117)) (x3) (x4) (1) := by first | with_reducible assumption | exact af_0 kv1 (by omega) (by omega)
    exact sm_311_p94L hQ hI (show (-1 : Int) ≤ x2 ∧ x2 ≤ (3 : Int) from by omega) (show (1 : Int) ≤ x3 ∧ x3 ≤ (4 : Int) from by omega) (show (-1 : Int) ≤ x4 ∧ x4 ≤ (38016000 : Int) from by omega) (show (0 : Int) ≤ 1 ∧ 1 ≤ (1 : Int) from by omega) (show x2 < x3 ∧ -1 ≤ x2 from by omega) (show od_B ((s.1 116)) (x3) (x3) from by first | with_reducible assumption | assumption) (show af_F ((s.1 116)) ((s.1 117)) (x3) (x4) (1) from by first | with_reducible assumption | assumption)
  · skip
    replace c14 : ¬ (x3 ≤ x5) := c14
    refine ⟨(show (0 : Int) ≤ x5 ∧ x5 < (6 : Int) from by omega), ?_⟩
    have hI58 : iv_A (lf_up s.1 116 x5 0) s.2.2 := iv_w116 hI (by omega)
    have fr59 : lf_fq [108, 116, 117, 118, 119] 1000000 true s.1 s.2.2 (lf_up s.1 116 x5 0) s.2.2 := lf_fq_up (lf_fq_rf) rfl (fun h => absurd h (by decide))
    have b60 : lf_zr (((lf_up s.1 116 x5 0) 116)) ((x5 + 1)) := by first | exact lf_zrS kv1 lf_up_s (fun j hj => lf_up_i hj) | exact (fun j a b => by omega)
    exact hX71 (x5 + 1) (lf_up s.1 116 x5 0, s.2.1, s.2.2) hI58 fr59 (show (0 : Int) ≤ x5 + 1 ∧ x5 + 1 ≤ (4 : Int) from by omega) (show x2 < x3 ∧ -1 ≤ x2 from by omega) (show lf_zr (((lf_up s.1 116 x5 0) 116)) ((x5 + 1)) from by first | with_reducible assumption | assumption) (show (4 - (x5 + 1)).toNat < M71 from by omega)
theorem sm_311_p71L {Q : Int → lf_Z → Prop} {x2 : Int} {x3 : Int} {x4 : Int} {x5 : Int} {s : lf_Z} (hQ : ∀ (r : Int) (s' : lf_Z), iv_A s'.1 s'.2.2 → lf_fq [108, 116, 117, 118, 119] 1000000 true s.1 s.2.2 s'.1 s'.2.2 → ((-1) ≤ r ∧ r ≤ 38016000) → Q r s') (hI : iv_A s.1 s.2.2) (bx2 : (-1) ≤ x2 ∧ x2 ≤ 3) (bx3 : 1 ≤ x3 ∧ x3 ≤ 4) (bx4 : (-1) ≤ x4 ∧ x4 ≤ (-1)) (bx5 : 0 ≤ x5 ∧ x5 ≤ 4) (kv0 : x2 < x3 ∧ -1 ≤ x2) (kv1 : lf_zr (s.1 116) (x5)) : fm_311_p71L Q x2 x3 x4 x5 s := by
  intro X71 hX
  have key : ∀ (m9 : Nat) (x5 : Int) (s' : lf_Z), iv_A s'.1 s'.2.2 → lf_fq [108, 116, 117, 118, 119] 1000000 true s.1 s.2.2 s'.1 s'.2.2 → 0 ≤ x5 ∧ x5 ≤ 4 → (x2 < x3 ∧ -1 ≤ x2) → (lf_zr (s'.1 116) (x5)) → (4 - x5).toNat < m9 → X71 x5 s' := by
    intro m9
    induction m9 with
    | zero => intro x5 s' _ _ bx5 kv0 kv1 h9; exact absurd h9 (Nat.not_lt_zero _)
    | succ m9 ih => intro x5 s' i7 f7 bx5 kv0 kv1 h9; exact hX _ _ (sm_311_p71 (fun r9 t9 i9 f9 => hQ r9 t9 i9 (lf_fq_tr f7 f9))   (fun x5' t8 i8 f8 bx5' kv0' kv1' h8 => ih x5' t8 i8 (lf_fq_tr f7 f8) bx5' kv0' kv1' (by omega)) (Nat.le_refl _)  i7  bx2 bx3 bx4 bx5  kv0 kv1)
  exact key _ _ s hI lf_fq_rf bx5 kv0 kv1 (Nat.lt_succ_self _)
theorem sm_311_p35 {X35 : Int → lf_Z → Prop} {Q : Int → lf_Z → Prop} {x2 : Int} {x3 : Int} {x4 : Int} {s : lf_Z} (hQ : ∀ (r : Int) (s' : lf_Z), iv_A s'.1 s'.2.2 → lf_fq [108, 116, 117, 118, 119] 1000000 true s.1 s.2.2 s'.1 s'.2.2 → ((-1) ≤ r ∧ r ≤ 38016000) → Q r s') {M35 : Nat} (hX35 : ∀ (x4 : Int) (s' : lf_Z), iv_A s'.1 s'.2.2 → lf_fq [108, 116, 117, 118, 119] 1000000 true s.1 s.2.2 s'.1 s'.2.2 → 0 ≤ x4 ∧ x4 ≤ 4 → (x2 < x3 ∧ -1 ≤ x2) → (4 - x4).toNat < M35 → X35 x4 s') (hM35 : (4 - x4).toNat ≤ M35) (hI : iv_A s.1 s.2.2) (bx2 : (-1) ≤ x2 ∧ x2 ≤ 3) (bx3 : 1 ≤ x3 ∧ x3 ≤ 4) (bx4 : 0 ≤ x4 ∧ x4 ≤ 4) (kv0 : x2 < x3 ∧ -1 ≤ x2) : fm_311_p35 Q x2 x3 X35 x4 s := by
  unfold fm_311_p35
  refine ⟨(show lf_R x4 from lf_Rof (by omega)), ?_⟩
  refine ⟨(show lf_R x3 from lf_Rof (by omega)), ?_⟩
  refine ⟨fun c12 => ?_, fun c12 => ?_⟩
  · skip
    replace c12 : x3 ≤ x4 := c12
    have b13 : lf_zr ((s.1 116)) (0) := by first | exact lf_zrS kv1 lf_up_s (fun j hj => lf_up_i hj) | exact (fun j a b => by omega)
    exact sm_311_p71L hQ hI (show (-1 : Int) ≤ x2 ∧ x2 ≤ (3 : Int) from by omega) (show (1 : Int) ≤ x3 ∧ x3 ≤ (4 : Int) from by omega) (show (-1 : Int) ≤ (-1) ∧ (-1) ≤ (-1 : Int) from by omega) (show (0 : Int) ≤ 0 ∧ 0 ≤ (4 : Int) from by omega) (show x2 < x3 ∧ -1 ≤ x2 from by omega) (show lf_zr ((s.1 116)) (0) from by first | with_reducible assumption | assumption)
  · skip
    replace c12 : ¬ (x3 ≤ x4) := c12
    refine ⟨(show (0 : Int) ≤ 16 + x4 ∧ 16 + x4 < (20 : Int) from by omega), ?_⟩
    have b61 : 0 ≤ s.1 119 (16 + x4) ∧ s.1 119 (16 + x4) ≤ 1000 := iv_r119 hI _
    refine ⟨(show lf_R (s.1 119 (16 + x4)) from lf_Rof (by omega)), ?_⟩
    refine ⟨fun c62 => ?_, fun c62 => ?_⟩
    · skip
      replace c62 : s.1 119 (16 + x4) < 1000 := c62
      exact hX35 (x4 + 1) s hI (lf_fq_rf) (show (0 : Int) ≤ x4 + 1 ∧ x4 + 1 ≤ (4 : Int) from by omega) (show x2 < x3 ∧ -1 ≤ x2 from by omega) (show (4 - (x4 + 1)).toNat < M35 from by omega)
    · skip
      replace c62 : ¬ (s.1 119 (16 + x4) < 1000) := c62
      exact hQ (-1) s hI (lf_fq_rf) (show (-1 : Int) ≤ (-1) ∧ (-1) ≤ (38016000 : Int) from by omega)
theorem sm_311_p35L {Q : Int → lf_Z → Prop} {x2 : Int} {x3 : Int} {x4 : Int} {s : lf_Z} (hQ : ∀ (r : Int) (s' : lf_Z), iv_A s'.1 s'.2.2 → lf_fq [108, 116, 117, 118, 119] 1000000 true s.1 s.2.2 s'.1 s'.2.2 → ((-1) ≤ r ∧ r ≤ 38016000) → Q r s') (hI : iv_A s.1 s.2.2) (bx2 : (-1) ≤ x2 ∧ x2 ≤ 3) (bx3 : 1 ≤ x3 ∧ x3 ≤ 4) (bx4 : 0 ≤ x4 ∧ x4 ≤ 4) (kv0 : x2 < x3 ∧ -1 ≤ x2) : fm_311_p35L Q x2 x3 x4 s := by
  intro X35 hX
  have key : ∀ (m9 : Nat) (x4 : Int) (s' : lf_Z), iv_A s'.1 s'.2.2 → lf_fq [108, 116, 117, 118, 119] 1000000 true s.1 s.2.2 s'.1 s'.2.2 → 0 ≤ x4 ∧ x4 ≤ 4 → (x2 < x3 ∧ -1 ≤ x2) → (4 - x4).toNat < m9 → X35 x4 s' := by
    intro m9
    induction m9 with
    | zero => intro x4 s' _ _ bx4 kv0 h9; exact absurd h9 (Nat.not_lt_zero _)
    | succ m9 ih => intro x4 s' i7 f7 bx4 kv0 h9; exact hX _ _ (sm_311_p35 (fun r9 t9 i9 f9 => hQ r9 t9 i9 (lf_fq_tr f7 f9))   (fun x4' t8 i8 f8 bx4' kv0' h8 => ih x4' t8 i8 (lf_fq_tr f7 f8) bx4' kv0' (by omega)) (Nat.le_refl _)  i7  bx2 bx3 bx4  kv0)
  exact key _ _ s hI lf_fq_rf bx4 kv0 (Nat.lt_succ_self _)
theorem sm_311 {a1 : Int} {a2 : Int} {Q : Int → lf_Z → Prop} {s : lf_Z} (hI : iv_A s.1 s.2.2) (ba1 : (-2147483648) ≤ a1 ∧ a1 ≤ 2147483647) (ba2 : (-2147483648) ≤ a2 ∧ a2 ≤ 2147483647) (hQ : ∀ (r : Int) (s' : lf_Z), iv_A s'.1 s'.2.2 → lf_fq [108, 116, 117, 118, 119] 1000000 true s.1 s.2.2 s'.1 s'.2.2 → ((-1) ≤ r ∧ r ≤ 38016000) → Q r s') : fm_311 a1 a2 Q s := by
  unfold fm_311
  refine sm_249 hI (show (-2147483648 : Int) ≤ a1 ∧ a1 ≤ (2147483647 : Int) from by omega) (fun z22 q1 => ?_)
  have b2 : 0 ≤ s.1 96 2 ∧ s.1 96 2 ≤ 6 := iv_rd96 hI (iv_f2103129b (by omega))
  have b3 : s.1 96 2 ≤ 0 ∨ 0 < s.1 96 0 := (show s.1 96 2 ≤ 0 ∨ 0 < s.1 96 0 from iv_l96_2 hI)
  refine ⟨fun c4 => ?_, fun c4 => ?_⟩
  · skip
    have dc4 := q1.2 c4
    exact hQ (-1) s hI (lf_fq_rf) (show (-1 : Int) ≤ (-1) ∧ (-1) ≤ (38016000 : Int) from by omega)
  · skip
    have dc4 := q1.1 c4
    refine ⟨(show lf_R a2 from lf_Rof (by omega)), ?_⟩
    refine ⟨fun c5 => ?_, fun c5 => ?_⟩
    · skip
      replace c5 : (-1) ≤ a2 := c5
      refine sm_312 hI (show (0 : Int) ≤ a1 ∧ a1 ≤ (5 : Int) from by omega) (fun r25 s24 hI7 fr6 q8 => ?_)
      have fr9 : lf_fq [108, 116, 117, 118, 119] 1000000 true s.1 s.2.2 s24.1 s24.2.2 := lf_fq_tr (lf_fq_rf) (lf_fq_wk fr6 rfl (by decide) (by decide))
      refine ⟨(show lf_R r25 from lf_Rof (by omega)), ?_⟩
      refine ⟨fun c10 => ?_, fun c10 => ?_⟩
      · skip
        replace c10 : r25 = 0 := c10
        exact hQ (-1) s24 hI7 fr9 (show (-1 : Int) ≤ (-1) ∧ (-1) ≤ (38016000 : Int) from by omega)
      · skip
        replace c10 : ¬ (r25 = 0) := c10
        refine ⟨fun c11 => ?_, fun c11 => ?_⟩
        · skip
          replace c11 : a2 < r25 := c11
          exact sm_311_p35L (fun r9 t9 i9 f9 => hQ r9 t9 i9 (lf_fq_tr fr9 f9)) hI7 (show (-1 : Int) ≤ a2 ∧ a2 ≤ (3 : Int) from by omega) (show (1 : Int) ≤ r25 ∧ r25 ≤ (4 : Int) from by omega) (show (0 : Int) ≤ 0 ∧ 0 ≤ (4 : Int) from by omega) (show a2 < r25 ∧ -1 ≤ a2 from by omega)
        · skip
          replace c11 : ¬ (a2 < r25) := c11
          exact hQ (-1) s24 hI7 fr9 (show (-1 : Int) ≤ (-1) ∧ (-1) ≤ (38016000 : Int) from by omega)
    · skip
      replace c5 : ¬ ((-1) ≤ a2) := c5
      exact hQ (-1) s hI (lf_fq_rf) (show (-1 : Int) ≤ (-1) ∧ (-1) ≤ (38016000 : Int) from by omega)
-- fm_160 Laws.shareOf 63 n i
theorem sm_160 {a2 : Int} {Q : Int → lf_Z → Prop} {s : lf_Z} (hI : iv_A s.1 s.2.2) (ba2 : 0 ≤ a2 ∧ a2 ≤ 11) (hQ : ∀ (r : Int), (100 ≤ r ∧ r ≤ 100) → Q r s) : fm_160 a2 Q s := by
  unfold fm_160
  exact hQ 100 (show (100 : Int) ≤ 100 ∧ 100 ≤ (100 : Int) from by omega)
-- fm_159 ElevenBullocks.costAt 0 i n
theorem sm_159 {a1 : Int} {Q : Int → lf_Z → Prop} {s : lf_Z} (hI : iv_A s.1 s.2.2) (ba1 : 0 ≤ a1 ∧ a1 ≤ 11) (hQ : ∀ (r : Int), ((-21474836) ≤ r ∧ r ≤ 21474836) → Q r s) : fm_159 a1 Q s := by
  unfold fm_159
  refine ⟨(show (0 : Int) ≤ a1 ∧ a1 < (12 : Int) from by omega), ?_⟩
  have b1 : (-2147483648) ≤ s.1 21 a1 ∧ s.1 21 a1 ≤ 2147483647 := iv_full hI
  refine sm_160 hI (show (0 : Int) ≤ a1 ∧ a1 ≤ (11 : Int) from by omega) (fun r23 q2 => ?_)
  have b3 : (-2147483648) ≤ lf_w ((s.1 21 a1) * r23) ∧ lf_w ((s.1 21 a1) * r23) ≤ 2147483647 := lf_wB
  have b4 : (-21474836) ≤ (lf_w ((s.1 21 a1) * r23)).tdiv 100 ∧ (lf_w ((s.1 21 a1) * r23)).tdiv 100 ≤ 21474836 := lf_tdivB (p := -2147483648) (q := 2147483647) (by omega) (by omega) (by decide) (by decide) (by decide)
  exact hQ ((lf_w ((s.1 21 a1) * r23)).tdiv 100) (show (-21474836 : Int) ≤ (lf_w ((s.1 21 a1) * r23)).tdiv 100 ∧ (lf_w ((s.1 21 a1) * r23)).tdiv 100 ≤ (21474836 : Int) from by omega)
-- fm_160b Laws.shareOf 63 t i
theorem sm_160b {t1 : Nat} {a2 : Int} {Q : Int → lf_Z → Prop} {s : lf_Z} (htt1 : t1 < 4) (hI : iv_A s.1 s.2.2) (ba2 : 0 ≤ a2 ∧ a2 ≤ 11) (hQ : ∀ (r : Int) (s' : lf_Z), iv_A s'.1 s'.2.2 → lf_fq [63, 64, 65, 66] 1000000 true s.1 s.2.2 s'.1 s'.2.2 → (0 ≤ r ∧ r ≤ 1000000) → Q r s') : fm_160b t1 a2 Q s := by
  unfold fm_160b
  refine sm_40 htt1 hI (show (0 : Int) ≤ 2 ∧ 2 ≤ (12 : Int) from by omega) (fun z22 => ?_)
  refine ⟨fun c2 => ?_, fun c2 => ?_⟩
  · skip
    exact hQ 100 s hI (lf_fq_rf) (show (0 : Int) ≤ 100 ∧ 100 ≤ (1000000 : Int) from by omega)
  · skip
    refine sm_18 hI (show (-2147483648 : Int) ≤ a2 ∧ a2 ≤ (2147483647 : Int) from by omega) (fun z24 q3 => ?_)
    have b4 : 0 ≤ s.1 1 0 ∧ s.1 1 0 ≤ 12 := iv_r1_0 hI
    refine ⟨fun c5 => ?_, fun c5 => ?_⟩
    · skip
      have dc5 := q3.1 c5
      refine sm_82 hI (show (-2147483648 : Int) ≤ 0 ∧ 0 ≤ (2147483647 : Int) from by omega) (show (-1 : Int) ≤ a2 ∧ a2 ≤ (11 : Int) from by omega) (show (0 : Int) ≤ 0 ∧ 0 ≤ (1 : Int) from by omega) (fun s25 hI7 fr6 => ?_)
      have fr9 : lf_fq [63, 64, 65, 66] 1000000 true s.1 s.2.2 s25.1 s25.2.2 := lf_fq_tr (lf_fq_rf) (lf_fq_wk fr6 rfl (by decide) (by decide))
      refine ⟨(show (0 : Int) ≤ a2 ∧ a2 < (12 : Int) from by omega), ?_⟩
      have b10 : (-2147483648) ≤ s25.1 21 a2 ∧ s25.1 21 a2 ≤ 2147483647 := iv_full hI7
      have b11 : s25.1 21 a2 = s.1 21 a2 := congrFun (fr6.1 21 rfl) _
      refine sm_55 hI7 (show (-2147483648 : Int) ≤ s25.1 21 a2 ∧ s25.1 21 a2 ≤ (2147483647 : Int) from by omega) (show (0 : Int) ≤ 0 ∧ 0 ≤ (0 : Int) from by omega) (show (2 : Int) ≤ 1000000 ∧ 1000000 ≤ (1000000 : Int) from by omega) (fun r28 q12 => ?_)
      obtain ⟨q12, q12x⟩ := q12
      replace q12x : 0 ≤ r28 ∧ (r28 ≤ 1000000 ∨ r28 ≤ 0) := q12x
      have hI13 : iv_A (lf_up s25.1 64 9 r28) s25.2.2 := iv_w64 hI7 (by omega)
      have fr14 : lf_fq [63, 64, 65, 66] 1000000 true s.1 s.2.2 (lf_up s25.1 64 9 r28) s25.2.2 := lf_fq_up fr9 rfl (fun h => absurd h (by decide))
      refine sm_84b htt1 hI13 (show (0 : Int) ≤ 2 ∧ 2 ≤ (2 : Int) from by omega) (fun r30 s29 hI16 fr15 q17 => ?_)
      have fr18 : lf_fq [63, 64, 65, 66] 1000000 true s.1 s.2.2 s29.1 s29.2.2 := lf_fq_tr fr14 (lf_fq_wk fr15 rfl (by decide) (by decide))
      refine sm_55 hI16 (show (-2147483648 : Int) ≤ r30 ∧ r30 ≤ (2147483647 : Int) from by omega) (show (0 : Int) ≤ 0 ∧ 0 ≤ (0 : Int) from by omega) (show (2 : Int) ≤ 100 ∧ 100 ≤ (1000000 : Int) from by omega) (fun r32 q19 => ?_)
      obtain ⟨q19, q19x⟩ := q19
      replace q19x : 0 ≤ r32 ∧ (r32 ≤ 100 ∨ r32 ≤ 0) := q19x
      exact hQ r32 s29 hI16 fr18 (show (0 : Int) ≤ r32 ∧ r32 ≤ (1000000 : Int) from by omega)
    · skip
      have dc5 := q3.2 c5
      exact hQ 100 s hI (lf_fq_rf) (show (0 : Int) ≤ 100 ∧ 100 ≤ (1000000 : Int) from by omega)
-- fm_159b ElevenBullocks.costAt 0 i t
theorem sm_159b {a1 : Int} {t2 : Nat} {Q : Int → lf_Z → Prop} {s : lf_Z} (htt2 : t2 < 4) (hI : iv_A s.1 s.2.2) (ba1 : 0 ≤ a1 ∧ a1 ≤ 11) (hQ : ∀ (r : Int) (s' : lf_Z), iv_A s'.1 s'.2.2 → lf_fq [63, 64, 65, 66] 1000000 true s.1 s.2.2 s'.1 s'.2.2 → ((-21474836) ≤ r ∧ r ≤ 21474836) → Q r s') : fm_159b a1 t2 Q s := by
  unfold fm_159b
  refine ⟨(show (0 : Int) ≤ a1 ∧ a1 < (12 : Int) from by omega), ?_⟩
  have b1 : (-2147483648) ≤ s.1 21 a1 ∧ s.1 21 a1 ≤ 2147483647 := iv_full hI
  refine sm_160b htt2 hI (show (0 : Int) ≤ a1 ∧ a1 ≤ (11 : Int) from by omega) (fun r23 s22 hI3 fr2 q4 => ?_)
  have fr5 : lf_fq [63, 64, 65, 66] 1000000 true s.1 s.2.2 s22.1 s22.2.2 := lf_fq_tr (lf_fq_rf) (lf_fq_wk fr2 rfl (by decide) (by decide))
  have b6 : (-2147483648) ≤ lf_w ((s.1 21 a1) * r23) ∧ lf_w ((s.1 21 a1) * r23) ≤ 2147483647 := lf_wB
  have b7 : (-21474836) ≤ (lf_w ((s.1 21 a1) * r23)).tdiv 100 ∧ (lf_w ((s.1 21 a1) * r23)).tdiv 100 ≤ 21474836 := lf_tdivB (p := -2147483648) (q := 2147483647) (by omega) (by omega) (by decide) (by decide) (by decide)
  exact hQ ((lf_w ((s.1 21 a1) * r23)).tdiv 100) s22 hI3 fr5 (show (-21474836 : Int) ≤ (lf_w ((s.1 21 a1) * r23)).tdiv 100 ∧ (lf_w ((s.1 21 a1) * r23)).tdiv 100 ≤ (21474836 : Int) from by omega)
-- fm_158 ElevenBullocks.pays 0 i i
theorem sm_158 {a1 : Int} {a2 : Int} {Q : Int → lf_Z → Prop} {s : lf_Z} (hI : iv_A s.1 s.2.2) (ba1 : (-2147483648) ≤ a1 ∧ a1 ≤ 2147483647) (ba2 : (-2147483648) ≤ a2 ∧ a2 ≤ 2147483647) (hQ : ∀ (r : Int) (s' : lf_Z), iv_A s'.1 s'.2.2 → lf_fq [63, 64, 65, 66] 1000000 true s.1 s.2.2 s'.1 s'.2.2 → ((-21474836) ≤ r ∧ r ≤ 21474836) → Q r s') : fm_158 a1 a2 Q s := by
  unfold fm_158
  refine sm_18 hI (show (-2147483648 : Int) ≤ a1 ∧ a1 ≤ (2147483647 : Int) from by omega) (fun z22 q1 => ?_)
  have b2 : 0 ≤ s.1 1 0 ∧ s.1 1 0 ≤ 12 := iv_r1_0 hI
  refine ⟨fun c3 => ?_, fun c3 => ?_⟩
  · skip
    have dc3 := q1.2 c3
    exact hQ (-1) s hI (lf_fq_rf) (show (-21474836 : Int) ≤ (-1) ∧ (-1) ≤ (21474836 : Int) from by omega)
  · skip
    have dc3 := q1.1 c3
    have b4 : 0 ≤ s.1 0 11 ∧ s.1 0 11 ≤ 4 := iv_r0_11 hI
    refine sm_15 hI (show (-2147483648 : Int) ≤ a2 ∧ a2 ≤ (2147483647 : Int) from by omega) (show (-1 : Int) ≤ (-1) ∧ (-1) ≤ (99 : Int) from by omega) (show (-2147483648 : Int) ≤ (s.1 0 11) - 1 ∧ (s.1 0 11) - 1 ≤ (2147483647 : Int) from by omega) (fun z24 q5 => ?_)
    refine ⟨fun c6 => ?_, fun c6 => ?_⟩
    · skip
      have dc6 := q5.1 c6
      refine sm_62 hI (show (-2147483648 : Int) ≤ a2 ∧ a2 ≤ (2147483647 : Int) from by omega) (fun r27 q7 => ?_)
      refine ⟨fun et26 => ?_, fun t26 et26 => ?_⟩
      · skip
        refine sm_159 hI (show (0 : Int) ≤ a1 ∧ a1 ≤ (11 : Int) from by omega) (fun r29 q8 => ?_)
        exact hQ r29 s hI (lf_fq_rf) (show (-21474836 : Int) ≤ r29 ∧ r29 ≤ (21474836 : Int) from by omega)
      · have htt26 : t26 < 4 := q7 t26 et26
        refine ⟨htt26, ?_⟩
        refine sm_159b htt26 hI (show (0 : Int) ≤ a1 ∧ a1 ≤ (11 : Int) from by omega) (fun r31 s30 hI10 fr9 q11 => ?_)
        have fr12 : lf_fq [63, 64, 65, 66] 1000000 true s.1 s.2.2 s30.1 s30.2.2 := lf_fq_tr (lf_fq_rf) (lf_fq_wk fr9 rfl (by decide) (by decide))
        exact hQ r31 s30 hI10 fr12 (show (-21474836 : Int) ≤ r31 ∧ r31 ≤ (21474836 : Int) from by omega)
    · skip
      have dc6 := q5.2 c6
      exact hQ (-1) s hI (lf_fq_rf) (show (-21474836 : Int) ≤ (-1) ∧ (-1) ≤ (21474836 : Int) from by omega)
-- fm_315 Model.paysBy 95 i i
theorem sm_315 {a1 : Int} {a2 : Int} {Q : Int → lf_Z → Prop} {s : lf_Z} (hI : iv_A s.1 s.2.2) (ba1 : 0 ≤ a1 ∧ a1 ≤ 11) (ba2 : (-1) ≤ a2 ∧ a2 ≤ 3) (hQ : ∀ (r : Int) (s' : lf_Z), iv_A s'.1 s'.2.2 → lf_fq [104, 107] 1000000 true s.1 s.2.2 s'.1 s'.2.2 → ((-2147483648) ≤ r ∧ r ≤ 2147483647) → Q r s') : fm_315 a1 a2 Q s := by
  unfold fm_315
  refine sm_264 hI (show (0 : Int) ≤ 0 ∧ 0 ≤ (24 : Int) from by omega) (show (0 : Int) ≤ a1 ∧ a1 ≤ (11 : Int) from by omega) (fun s21 hI2 fr1 => ?_)
  have fr4 : lf_fq [104, 107] 1000000 true s.1 s.2.2 s21.1 s21.2.2 := lf_fq_tr (lf_fq_rf) (lf_fq_wk fr1 rfl (by decide) (by decide))
  refine sm_246 hI2 (show (0 : Int) ≤ a1 ∧ a1 ≤ (11 : Int) from by omega) (fun r23 q5 => ?_)
  have hI6 : iv_A (lf_up s21.1 104 10 r23) s21.2.2 := iv_w104 hI2 (by omega)
  have fr7 : lf_fq [104, 107] 1000000 true s.1 s.2.2 (lf_up s21.1 104 10 r23) s21.2.2 := lf_fq_up fr4 rfl (fun h => absurd h (by decide))
  refine sm_246 hI6 (show (0 : Int) ≤ a1 ∧ a1 ≤ (11 : Int) from by omega) (fun r25 q8 => ?_)
  refine ⟨(show lf_R r25 from lf_Rof (by omega)), ?_⟩
  refine sm_267 hI6 (show (-1 : Int) ≤ a2 ∧ a2 ≤ (3 : Int) from by omega) (show (0 : Int) ≤ 2 ∧ 2 ≤ (2 : Int) from by omega) (show (0 : Int) ≤ 100 ∧ 100 ≤ (100 : Int) from by omega) (show (2 : Int) ≤ 100 ∧ 100 ≤ (100 : Int) from by omega) (fun r28 s27 hI10 fr9 q11 => ?_)
  have fr12 : lf_fq [104, 107] 1000000 true s.1 s.2.2 s27.1 s27.2.2 := lf_fq_tr fr7 (lf_fq_wk fr9 rfl (by decide) (by decide))
  refine ⟨(show lf_R r28 from lf_Rof (by omega)), ?_⟩
  have b13 : (-2147483648) ≤ lf_w (lf_wl ((lf_wl (r25 * r28)).tdiv 100)) ∧ lf_w (lf_wl ((lf_wl (r25 * r28)).tdiv 100)) ≤ 2147483647 := lf_wB
  exact hQ (lf_w (lf_wl ((lf_wl (r25 * r28)).tdiv 100))) s27 hI10 fr12 (show (-2147483648 : Int) ≤ lf_w (lf_wl ((lf_wl (r25 * r28)).tdiv 100)) ∧ lf_w (lf_wl ((lf_wl (r25 * r28)).tdiv 100)) ≤ (2147483647 : Int) from by omega)
-- fm_314 Model.pays 95 i i
theorem sm_314 {a1 : Int} {a2 : Int} {Q : Int → lf_Z → Prop} {s : lf_Z} (hI : iv_A s.1 s.2.2) (ba1 : (-2147483648) ≤ a1 ∧ a1 ≤ 2147483647) (ba2 : (-2147483648) ≤ a2 ∧ a2 ≤ 2147483647) (hQ : ∀ (r : Int) (s' : lf_Z), iv_A s'.1 s'.2.2 → lf_fq [104, 107] 1000000 true s.1 s.2.2 s'.1 s'.2.2 → ((-2147483648) ≤ r ∧ r ≤ 2147483647) → Q r s') : fm_314 a1 a2 Q s := by
  unfold fm_314
  refine sm_185 hI (show (-2147483648 : Int) ≤ a1 ∧ a1 ≤ (2147483647 : Int) from by omega) (fun z22 q1 => ?_)
  have b2 : 0 ≤ s.1 96 0 ∧ s.1 96 0 ≤ 12 := iv_rd96 hI (iv_f3e1fa21c (by omega))
  refine ⟨fun c3 => ?_, fun c3 => ?_⟩
  · skip
    have dc3 := q1.2 c3
    exact hQ (-1) s hI (lf_fq_rf) (show (-2147483648 : Int) ≤ (-1) ∧ (-1) ≤ (2147483647 : Int) from by omega)
  · skip
    have dc3 := q1.1 c3
    have b4 : 0 ≤ s.1 96 7 ∧ s.1 96 7 ≤ 4 := iv_rd96 hI (iv_ffb272d5f (by omega))
    refine sm_183 hI (show (-2147483648 : Int) ≤ a2 ∧ a2 ≤ (2147483647 : Int) from by omega) (show (-1 : Int) ≤ (-1) ∧ (-1) ≤ (97 : Int) from by omega) (show (-1 : Int) ≤ (s.1 96 7) - 1 ∧ (s.1 96 7) - 1 ≤ (9999 : Int) from by omega) (fun z24 q5 => ?_)
    refine ⟨fun c6 => ?_, fun c6 => ?_⟩
    · skip
      have dc6 := q5.2 c6
      exact hQ (-1) s hI (lf_fq_rf) (show (-2147483648 : Int) ≤ (-1) ∧ (-1) ≤ (2147483647 : Int) from by omega)
    · skip
      have dc6 := q5.1 c6
      refine sm_315 hI (show (0 : Int) ≤ a1 ∧ a1 ≤ (11 : Int) from by omega) (show (-1 : Int) ≤ a2 ∧ a2 ≤ (3 : Int) from by omega) (fun r26 s25 hI8 fr7 q9 => ?_)
      have fr10 : lf_fq [104, 107] 1000000 true s.1 s.2.2 s25.1 s25.2.2 := lf_fq_tr (lf_fq_rf) (lf_fq_wk fr7 rfl (by decide) (by decide))
      exact hQ r26 s25 hI8 fr10 (show (-2147483648 : Int) ≤ r26 ∧ r26 ≤ (2147483647 : Int) from by omega)
-- fm_162 ElevenBullocks.costOfGardens 0 i
theorem sm_162_p41 {X4 : Int → Int → lf_Z → Prop} {Q : Int → lf_Z → Prop} {x1 : Int} {x2 : Int} {x3 : Int} {s : lf_Z} (hQ : ∀ (r : Int) (s' : lf_Z), iv_A s'.1 s'.2.2 → lf_fq [63, 64, 65, 66] 1000000 true s.1 s.2.2 s'.1 s'.2.2 → ((-2147483648) ≤ r ∧ r ≤ 2147483647) → Q r s') {M4 : Nat} (hX4 : ∀ (x2 : Int) (x3 : Int) (s' : lf_Z), iv_A s'.1 s'.2.2 → lf_fq [63, 64, 65, 66] 1000000 true s.1 s.2.2 s'.1 s'.2.2 → (-2147483648) ≤ x2 ∧ x2 ≤ 2147483647 → 0 ≤ x3 ∧ x3 ≤ 12 → (12 - x3).toNat < M4 → X4 x2 x3 s') (hM4 : (12 - x3).toNat ≤ M4) (hI : iv_A s.1 s.2.2) (bx1 : (-1) ≤ x1 ∧ x1 ≤ 3) (bx2 : (-2147483648) ≤ x2 ∧ x2 ≤ 2147483647) (bx3 : 0 ≤ x3 ∧ x3 ≤ 11) : fm_162_p41 X4 Q x1 x2 x3 s := by
  unfold fm_162_p41
  exact hX4 (x2) (x3 + 1) s hI (lf_fq_rf) (show (-2147483648 : Int) ≤ x2 ∧ x2 ≤ (2147483647 : Int) from by omega) (show (0 : Int) ≤ x3 + 1 ∧ x3 + 1 ≤ (12 : Int) from by omega) (show (12 - (x3 + 1)).toNat < M4 from by omega)
theorem sm_162_p4 {X4 : Int → Int → lf_Z → Prop} {Q : Int → lf_Z → Prop} {x1 : Int} {x2 : Int} {x3 : Int} {s : lf_Z} (hQ : ∀ (r : Int) (s' : lf_Z), iv_A s'.1 s'.2.2 → lf_fq [63, 64, 65, 66] 1000000 true s.1 s.2.2 s'.1 s'.2.2 → ((-2147483648) ≤ r ∧ r ≤ 2147483647) → Q r s') {M4 : Nat} (hX4 : ∀ (x2 : Int) (x3 : Int) (s' : lf_Z), iv_A s'.1 s'.2.2 → lf_fq [63, 64, 65, 66] 1000000 true s.1 s.2.2 s'.1 s'.2.2 → (-2147483648) ≤ x2 ∧ x2 ≤ 2147483647 → 0 ≤ x3 ∧ x3 ≤ 12 → (12 - x3).toNat < M4 → X4 x2 x3 s') (hM4 : (12 - x3).toNat ≤ M4) (hI : iv_A s.1 s.2.2) (bx1 : (-1) ≤ x1 ∧ x1 ≤ 3) (bx2 : (-2147483648) ≤ x2 ∧ x2 ≤ 2147483647) (bx3 : 0 ≤ x3 ∧ x3 ≤ 12) : fm_162_p4 Q x1 X4 x2 x3 s := by
  unfold fm_162_p4
  have b1 : 0 ≤ s.1 1 0 ∧ s.1 1 0 ≤ 12 := iv_r1_0 hI
  refine ⟨(show lf_R x3 from lf_Rof (by omega)), ?_⟩
  refine ⟨(show lf_R (s.1 1 0) from lf_Rof (by omega)), ?_⟩
  refine ⟨fun c2 => ?_, fun c2 => ?_⟩
  · skip
    replace c2 : s.1 1 0 ≤ x3 := c2
    exact hQ x2 s hI (lf_fq_rf) (show (-2147483648 : Int) ≤ x2 ∧ x2 ≤ (2147483647 : Int) from by omega)
  · skip
    replace c2 : ¬ (s.1 1 0 ≤ x3) := c2
    refine ⟨(show (0 : Int) ≤ x3 ∧ x3 < (12 : Int) from by omega), ?_⟩
    have b3 : 0 ≤ s.1 2 x3 ∧ s.1 2 x3 ≤ 3 := iv_r2 hI _
    refine ⟨(show lf_R (s.1 2 x3) from lf_Rof (by omega)), ?_⟩
    refine ⟨fun c4 => ?_, fun c4 => ?_⟩
    · skip
      replace c4 : s.1 2 x3 ≠ 1 := c4
      exact sm_162_p41 hQ hX4 (show (12 - x3).toNat ≤ M4 from by omega) hI (show (-1 : Int) ≤ x1 ∧ x1 ≤ (3 : Int) from by omega) (show (-2147483648 : Int) ≤ x2 ∧ x2 ≤ (2147483647 : Int) from by omega) (show (0 : Int) ≤ x3 ∧ x3 ≤ (11 : Int) from by omega)
    · skip
      replace c4 : ¬ (s.1 2 x3 ≠ 1) := c4
      refine sm_62 hI (show (-2147483648 : Int) ≤ x1 ∧ x1 ≤ (2147483647 : Int) from by omega) (fun r27 q5 => ?_)
      refine ⟨fun et26 => ?_, fun t26 et26 => ?_⟩
      · skip
        refine sm_159 hI (show (0 : Int) ≤ x3 ∧ x3 ≤ (11 : Int) from by omega) (fun r29 q6 => ?_)
        have b7 : (-2147483648) ≤ lf_w (x2 + r29) ∧ lf_w (x2 + r29) ≤ 2147483647 := lf_wB
        exact sm_162_p41 hQ hX4 (show (12 - x3).toNat ≤ M4 from by omega) hI (show (-1 : Int) ≤ x1 ∧ x1 ≤ (3 : Int) from by omega) (show (-2147483648 : Int) ≤ lf_w (x2 + r29) ∧ lf_w (x2 + r29) ≤ (2147483647 : Int) from by omega) (show (0 : Int) ≤ x3 ∧ x3 ≤ (11 : Int) from by omega)
      · have htt26 : t26 < 4 := q5 t26 et26
        refine ⟨htt26, ?_⟩
        refine sm_159b htt26 hI (show (0 : Int) ≤ x3 ∧ x3 ≤ (11 : Int) from by omega) (fun r31 s30 hI9 fr8 q10 => ?_)
        have fr11 : lf_fq [63, 64, 65, 66] 1000000 true s.1 s.2.2 s30.1 s30.2.2 := lf_fq_tr (lf_fq_rf) (lf_fq_wk fr8 rfl (by decide) (by decide))
        have b12 : (-2147483648) ≤ lf_w (x2 + r31) ∧ lf_w (x2 + r31) ≤ 2147483647 := lf_wB
        exact sm_162_p41 (fun r9 t9 i9 f9 => hQ r9 t9 i9 (lf_fq_tr fr11 f9)) (fun p0 p1 t9 i9 f9 => hX4 p0 p1 t9 i9 (lf_fq_tr fr11 f9)) (show (12 - x3).toNat ≤ M4 from by omega) hI9 (show (-1 : Int) ≤ x1 ∧ x1 ≤ (3 : Int) from by omega) (show (-2147483648 : Int) ≤ lf_w (x2 + r31) ∧ lf_w (x2 + r31) ≤ (2147483647 : Int) from by omega) (show (0 : Int) ≤ x3 ∧ x3 ≤ (11 : Int) from by omega)
theorem sm_162_p4L {Q : Int → lf_Z → Prop} {x1 : Int} {x2 : Int} {x3 : Int} {s : lf_Z} (hQ : ∀ (r : Int) (s' : lf_Z), iv_A s'.1 s'.2.2 → lf_fq [63, 64, 65, 66] 1000000 true s.1 s.2.2 s'.1 s'.2.2 → ((-2147483648) ≤ r ∧ r ≤ 2147483647) → Q r s') (hI : iv_A s.1 s.2.2) (bx1 : (-1) ≤ x1 ∧ x1 ≤ 3) (bx2 : (-2147483648) ≤ x2 ∧ x2 ≤ 2147483647) (bx3 : 0 ≤ x3 ∧ x3 ≤ 12) : fm_162_p4L Q x1 x2 x3 s := by
  intro X4 hX
  have key : ∀ (m9 : Nat) (x2 : Int) (x3 : Int) (s' : lf_Z), iv_A s'.1 s'.2.2 → lf_fq [63, 64, 65, 66] 1000000 true s.1 s.2.2 s'.1 s'.2.2 → (-2147483648) ≤ x2 ∧ x2 ≤ 2147483647 → 0 ≤ x3 ∧ x3 ≤ 12 → (12 - x3).toNat < m9 → X4 x2 x3 s' := by
    intro m9
    induction m9 with
    | zero => intro x2 x3 s' _ _ bx2 bx3 h9; exact absurd h9 (Nat.not_lt_zero _)
    | succ m9 ih => intro x2 x3 s' i7 f7 bx2 bx3 h9; exact hX _ _ _ (sm_162_p4 (fun r9 t9 i9 f9 => hQ r9 t9 i9 (lf_fq_tr f7 f9))   (fun x2' x3' t8 i8 f8 bx2' bx3' h8 => ih x2' x3' t8 i8 (lf_fq_tr f7 f8) bx2' bx3' (by omega)) (Nat.le_refl _)  i7  bx1 bx2 bx3  )
  exact key _ _ _ s hI lf_fq_rf bx2 bx3 (Nat.lt_succ_self _)
theorem sm_162 {a1 : Int} {Q : Int → lf_Z → Prop} {s : lf_Z} (hI : iv_A s.1 s.2.2) (ba1 : (-1) ≤ a1 ∧ a1 ≤ 3) (hQ : ∀ (r : Int) (s' : lf_Z), iv_A s'.1 s'.2.2 → lf_fq [63, 64, 65, 66] 1000000 true s.1 s.2.2 s'.1 s'.2.2 → ((-2147483648) ≤ r ∧ r ≤ 2147483647) → Q r s') : fm_162 a1 Q s := by
  unfold fm_162
  exact sm_162_p4L hQ hI (show (-1 : Int) ≤ a1 ∧ a1 ≤ (3 : Int) from by omega) (show (-2147483648 : Int) ≤ 0 ∧ 0 ≤ (2147483647 : Int) from by omega) (show (0 : Int) ≤ 0 ∧ 0 ≤ (12 : Int) from by omega)
-- fm_161 ElevenBullocks.cheapest 0
theorem sm_161_p36 {X10 : Int → Int → Int → lf_Z → Prop} {Q : Int → lf_Z → Prop} {x1 : Int} {x2 : Int} {x3 : Int} {s : lf_Z} (hQ : ∀ (r : Int) (s' : lf_Z), iv_A s'.1 s'.2.2 → lf_fq [63, 64, 65, 66] 1000000 true s.1 s.2.2 s'.1 s'.2.2 → ((-1) ≤ r ∧ r ≤ 3) → Q r s') {M10 : Nat} (hX10 : ∀ (x1 : Int) (x2 : Int) (x3 : Int) (s' : lf_Z), iv_A s'.1 s'.2.2 → lf_fq [63, 64, 65, 66] 1000000 true s.1 s.2.2 s'.1 s'.2.2 → (-1) ≤ x1 ∧ x1 ≤ 3 → (-2147483648) ≤ x2 ∧ x2 ≤ 2147483647 → 0 ≤ x3 ∧ x3 ≤ 4 → (4 - x3).toNat < M10 → X10 x1 x2 x3 s') (hM10 : (4 - x3).toNat ≤ M10) (hI : iv_A s.1 s.2.2) (bx1 : (-1) ≤ x1 ∧ x1 ≤ 3) (bx2 : (-2147483648) ≤ x2 ∧ x2 ≤ 2147483647) (bx3 : 0 ≤ x3 ∧ x3 ≤ 3) : fm_161_p36 X10 Q x1 x2 x3 s := by
  unfold fm_161_p36
  exact hX10 (x1) (x2) (x3 + 1) s hI (lf_fq_rf) (show (-1 : Int) ≤ x1 ∧ x1 ≤ (3 : Int) from by omega) (show (-2147483648 : Int) ≤ x2 ∧ x2 ≤ (2147483647 : Int) from by omega) (show (0 : Int) ≤ x3 + 1 ∧ x3 + 1 ≤ (4 : Int) from by omega) (show (4 - (x3 + 1)).toNat < M10 from by omega)
theorem sm_161_p10 {X10 : Int → Int → Int → lf_Z → Prop} {Q : Int → lf_Z → Prop} {x1 : Int} {x2 : Int} {x3 : Int} {s : lf_Z} (hQ : ∀ (r : Int) (s' : lf_Z), iv_A s'.1 s'.2.2 → lf_fq [63, 64, 65, 66] 1000000 true s.1 s.2.2 s'.1 s'.2.2 → ((-1) ≤ r ∧ r ≤ 3) → Q r s') {M10 : Nat} (hX10 : ∀ (x1 : Int) (x2 : Int) (x3 : Int) (s' : lf_Z), iv_A s'.1 s'.2.2 → lf_fq [63, 64, 65, 66] 1000000 true s.1 s.2.2 s'.1 s'.2.2 → (-1) ≤ x1 ∧ x1 ≤ 3 → (-2147483648) ≤ x2 ∧ x2 ≤ 2147483647 → 0 ≤ x3 ∧ x3 ≤ 4 → (4 - x3).toNat < M10 → X10 x1 x2 x3 s') (hM10 : (4 - x3).toNat ≤ M10) (hI : iv_A s.1 s.2.2) (bx1 : (-1) ≤ x1 ∧ x1 ≤ 3) (bx2 : (-2147483648) ≤ x2 ∧ x2 ≤ 2147483647) (bx3 : 0 ≤ x3 ∧ x3 ≤ 4) : fm_161_p10 Q X10 x1 x2 x3 s := by
  unfold fm_161_p10
  have b5 : 0 ≤ s.1 0 11 ∧ s.1 0 11 ≤ 4 := iv_r0_11 hI
  refine ⟨(show lf_R x3 from lf_Rof (by omega)), ?_⟩
  refine ⟨(show lf_R (s.1 0 11) from lf_Rof (by omega)), ?_⟩
  refine ⟨fun c6 => ?_, fun c6 => ?_⟩
  · skip
    replace c6 : s.1 0 11 ≤ x3 := c6
    exact hQ x1 s hI (lf_fq_rf) (show (-1 : Int) ≤ x1 ∧ x1 ≤ (3 : Int) from by omega)
  · skip
    replace c6 : ¬ (s.1 0 11 ≤ x3) := c6
    refine sm_162 hI (show (-1 : Int) ≤ x3 ∧ x3 ≤ (3 : Int) from by omega) (fun r26 s25 hI8 fr7 q9 => ?_)
    have fr10 : lf_fq [63, 64, 65, 66] 1000000 true s.1 s.2.2 s25.1 s25.2.2 := lf_fq_tr (lf_fq_rf) (lf_fq_wk fr7 rfl (by decide) (by decide))
    refine ⟨(show lf_R r26 from lf_Rof (by omega)), ?_⟩
    refine ⟨(show lf_R x2 from lf_Rof (by omega)), ?_⟩
    refine ⟨fun c11 => ?_, fun c11 => ?_⟩
    · skip
      replace c11 : x2 ≤ r26 := c11
      exact sm_161_p36 (fun r9 t9 i9 f9 => hQ r9 t9 i9 (lf_fq_tr fr10 f9)) (fun p0 p1 p2 t9 i9 f9 => hX10 p0 p1 p2 t9 i9 (lf_fq_tr fr10 f9)) (show (4 - x3).toNat ≤ M10 from by omega) hI8 (show (-1 : Int) ≤ x1 ∧ x1 ≤ (3 : Int) from by omega) (show (-2147483648 : Int) ≤ x2 ∧ x2 ≤ (2147483647 : Int) from by omega) (show (0 : Int) ≤ x3 ∧ x3 ≤ (3 : Int) from by omega)
    · skip
      replace c11 : ¬ (x2 ≤ r26) := c11
      exact sm_161_p36 (fun r9 t9 i9 f9 => hQ r9 t9 i9 (lf_fq_tr fr10 f9)) (fun p0 p1 p2 t9 i9 f9 => hX10 p0 p1 p2 t9 i9 (lf_fq_tr fr10 f9)) (show (4 - x3).toNat ≤ M10 from by omega) hI8 (show (-1 : Int) ≤ x3 ∧ x3 ≤ (3 : Int) from by omega) (show (-2147483648 : Int) ≤ r26 ∧ r26 ≤ (2147483647 : Int) from by omega) (show (0 : Int) ≤ x3 ∧ x3 ≤ (3 : Int) from by omega)
theorem sm_161_p10L {Q : Int → lf_Z → Prop} {x1 : Int} {x2 : Int} {x3 : Int} {s : lf_Z} (hQ : ∀ (r : Int) (s' : lf_Z), iv_A s'.1 s'.2.2 → lf_fq [63, 64, 65, 66] 1000000 true s.1 s.2.2 s'.1 s'.2.2 → ((-1) ≤ r ∧ r ≤ 3) → Q r s') (hI : iv_A s.1 s.2.2) (bx1 : (-1) ≤ x1 ∧ x1 ≤ 3) (bx2 : (-2147483648) ≤ x2 ∧ x2 ≤ 2147483647) (bx3 : 0 ≤ x3 ∧ x3 ≤ 4) : fm_161_p10L Q x1 x2 x3 s := by
  intro X10 hX
  have key : ∀ (m9 : Nat) (x1 : Int) (x2 : Int) (x3 : Int) (s' : lf_Z), iv_A s'.1 s'.2.2 → lf_fq [63, 64, 65, 66] 1000000 true s.1 s.2.2 s'.1 s'.2.2 → (-1) ≤ x1 ∧ x1 ≤ 3 → (-2147483648) ≤ x2 ∧ x2 ≤ 2147483647 → 0 ≤ x3 ∧ x3 ≤ 4 → (4 - x3).toNat < m9 → X10 x1 x2 x3 s' := by
    intro m9
    induction m9 with
    | zero => intro x1 x2 x3 s' _ _ bx1 bx2 bx3 h9; exact absurd h9 (Nat.not_lt_zero _)
    | succ m9 ih => intro x1 x2 x3 s' i7 f7 bx1 bx2 bx3 h9; exact hX _ _ _ _ (sm_161_p10 (fun r9 t9 i9 f9 => hQ r9 t9 i9 (lf_fq_tr f7 f9))   (fun x1' x2' x3' t8 i8 f8 bx1' bx2' bx3' h8 => ih x1' x2' x3' t8 i8 (lf_fq_tr f7 f8) bx1' bx2' bx3' (by omega)) (Nat.le_refl _)  i7  bx1 bx2 bx3  )
  exact key _ _ _ _ s hI lf_fq_rf bx1 bx2 bx3 (Nat.lt_succ_self _)
theorem sm_161 {Q : Int → lf_Z → Prop} {s : lf_Z} (hI : iv_A s.1 s.2.2) (hQ : ∀ (r : Int) (s' : lf_Z), iv_A s'.1 s'.2.2 → lf_fq [63, 64, 65, 66] 1000000 true s.1 s.2.2 s'.1 s'.2.2 → ((-1) ≤ r ∧ r ≤ 3) → Q r s') : fm_161 Q s := by
  unfold fm_161
  refine sm_162 hI (show (-1 : Int) ≤ (-1) ∧ (-1) ≤ (3 : Int) from by omega) (fun r22 s21 hI2 fr1 q3 => ?_)
  have fr4 : lf_fq [63, 64, 65, 66] 1000000 true s.1 s.2.2 s21.1 s21.2.2 := lf_fq_tr (lf_fq_rf) (lf_fq_wk fr1 rfl (by decide) (by decide))
  exact sm_161_p10L (fun r9 t9 i9 f9 => hQ r9 t9 i9 (lf_fq_tr fr4 f9)) hI2 (show (-1 : Int) ≤ (-1) ∧ (-1) ≤ (3 : Int) from by omega) (show (-2147483648 : Int) ≤ r22 ∧ r22 ≤ (2147483647 : Int) from by omega) (show (0 : Int) ≤ 0 ∧ 0 ≤ (4 : Int) from by omega)
-- fm_317 Model.costBy 95 i
theorem sm_317_p34 {X4 : Int → Int → lf_Z → Prop} {Q : Int → lf_Z → Prop} {x1 : Int} {x3 : Int} {y0 : Int} {y1 : Int} {s : lf_Z} (hQ : ∀ (r : Int) (s' : lf_Z), iv_A s'.1 s'.2.2 → lf_fq [104, 107] 1000000 true s.1 s.2.2 s'.1 s'.2.2 → ((-2147483648) ≤ r ∧ r ≤ 2147483647) → Q r s') {M4 : Nat} (hX4 : ∀ (x2 : Int) (x3 : Int) (s' : lf_Z), iv_A s'.1 s'.2.2 → lf_fq [104, 107] 1000000 true s.1 s.2.2 s'.1 s'.2.2 → (-2147483648) ≤ x2 ∧ x2 ≤ 2147483647 → 0 ≤ x3 ∧ x3 ≤ 12 → (12 - x3).toNat < M4 → X4 x2 x3 s') (hM4 : (12 - x3).toNat ≤ M4) (hI : iv_A s.1 s.2.2) (bx1 : (-1) ≤ x1 ∧ x1 ≤ 3) (bx3 : 0 ≤ x3 ∧ x3 ≤ 11) (by0 : (-2147483648) ≤ y0 ∧ y0 ≤ 2147483647) (by1 : (-2147483648) ≤ y1 ∧ y1 ≤ 2147483647) : fm_317_p34 X4 Q x1 x3 y0 y1 s := by
  unfold fm_317_p34
  have b5 : (-2147483648) ≤ lf_w (y0 + y1) ∧ lf_w (y0 + y1) ≤ 2147483647 := lf_wB
  exact hX4 (lf_w (y0 + y1)) (x3 + 1) s hI (lf_fq_rf) (show (-2147483648 : Int) ≤ lf_w (y0 + y1) ∧ lf_w (y0 + y1) ≤ (2147483647 : Int) from by omega) (show (0 : Int) ≤ x3 + 1 ∧ x3 + 1 ≤ (12 : Int) from by omega) (show (12 - (x3 + 1)).toNat < M4 from by omega)
theorem sm_317_p4 {X4 : Int → Int → lf_Z → Prop} {Q : Int → lf_Z → Prop} {x1 : Int} {x2 : Int} {x3 : Int} {s : lf_Z} (hQ : ∀ (r : Int) (s' : lf_Z), iv_A s'.1 s'.2.2 → lf_fq [104, 107] 1000000 true s.1 s.2.2 s'.1 s'.2.2 → ((-2147483648) ≤ r ∧ r ≤ 2147483647) → Q r s') {M4 : Nat} (hX4 : ∀ (x2 : Int) (x3 : Int) (s' : lf_Z), iv_A s'.1 s'.2.2 → lf_fq [104, 107] 1000000 true s.1 s.2.2 s'.1 s'.2.2 → (-2147483648) ≤ x2 ∧ x2 ≤ 2147483647 → 0 ≤ x3 ∧ x3 ≤ 12 → (12 - x3).toNat < M4 → X4 x2 x3 s') (hM4 : (12 - x3).toNat ≤ M4) (hI : iv_A s.1 s.2.2) (bx1 : (-1) ≤ x1 ∧ x1 ≤ 3) (bx2 : (-2147483648) ≤ x2 ∧ x2 ≤ 2147483647) (bx3 : 0 ≤ x3 ∧ x3 ≤ 12) : fm_317_p4 Q x1 X4 x2 x3 s := by
  unfold fm_317_p4
  have b1 : 0 ≤ s.1 96 0 ∧ s.1 96 0 ≤ 12 := iv_rd96 hI (iv_f3e1fa21c (by omega))
  refine ⟨(show lf_R x3 from lf_Rof (by omega)), ?_⟩
  refine ⟨(show lf_R (s.1 96 0) from lf_Rof (by omega)), ?_⟩
  refine ⟨fun c2 => ?_, fun c2 => ?_⟩
  · skip
    replace c2 : s.1 96 0 ≤ x3 := c2
    exact hQ x2 s hI (lf_fq_rf) (show (-2147483648 : Int) ≤ x2 ∧ x2 ≤ (2147483647 : Int) from by omega)
  · skip
    replace c2 : ¬ (s.1 96 0 ≤ x3) := c2
    refine sm_265 hI (show (0 : Int) ≤ x3 ∧ x3 ≤ (11 : Int) from by omega) (fun r24 q3 => ?_)
    refine ⟨(show lf_R r24 from lf_Rof (by omega)), ?_⟩
    refine ⟨fun c4 => ?_, fun c4 => ?_⟩
    · skip
      replace c4 : r24 ≠ 1 := c4
      exact sm_317_p34 hQ hX4 (show (12 - x3).toNat ≤ M4 from by omega) hI (show (-1 : Int) ≤ x1 ∧ x1 ≤ (3 : Int) from by omega) (show (0 : Int) ≤ x3 ∧ x3 ≤ (11 : Int) from by omega) (show (-2147483648 : Int) ≤ x2 ∧ x2 ≤ (2147483647 : Int) from by omega) (show (-2147483648 : Int) ≤ 0 ∧ 0 ≤ (2147483647 : Int) from by omega)
    · skip
      replace c4 : ¬ (r24 ≠ 1) := c4
      refine sm_315 hI (show (0 : Int) ≤ x3 ∧ x3 ≤ (11 : Int) from by omega) (show (-1 : Int) ≤ x1 ∧ x1 ≤ (3 : Int) from by omega) (fun r27 s26 hI7 fr6 q8 => ?_)
      have fr9 : lf_fq [104, 107] 1000000 true s.1 s.2.2 s26.1 s26.2.2 := lf_fq_tr (lf_fq_rf) (lf_fq_wk fr6 rfl (by decide) (by decide))
      exact sm_317_p34 (fun r9 t9 i9 f9 => hQ r9 t9 i9 (lf_fq_tr fr9 f9)) (fun p0 p1 t9 i9 f9 => hX4 p0 p1 t9 i9 (lf_fq_tr fr9 f9)) (show (12 - x3).toNat ≤ M4 from by omega) hI7 (show (-1 : Int) ≤ x1 ∧ x1 ≤ (3 : Int) from by omega) (show (0 : Int) ≤ x3 ∧ x3 ≤ (11 : Int) from by omega) (show (-2147483648 : Int) ≤ x2 ∧ x2 ≤ (2147483647 : Int) from by omega) (show (-2147483648 : Int) ≤ r27 ∧ r27 ≤ (2147483647 : Int) from by omega)
theorem sm_317_p4L {Q : Int → lf_Z → Prop} {x1 : Int} {x2 : Int} {x3 : Int} {s : lf_Z} (hQ : ∀ (r : Int) (s' : lf_Z), iv_A s'.1 s'.2.2 → lf_fq [104, 107] 1000000 true s.1 s.2.2 s'.1 s'.2.2 → ((-2147483648) ≤ r ∧ r ≤ 2147483647) → Q r s') (hI : iv_A s.1 s.2.2) (bx1 : (-1) ≤ x1 ∧ x1 ≤ 3) (bx2 : (-2147483648) ≤ x2 ∧ x2 ≤ 2147483647) (bx3 : 0 ≤ x3 ∧ x3 ≤ 12) : fm_317_p4L Q x1 x2 x3 s := by
  intro X4 hX
  have key : ∀ (m9 : Nat) (x2 : Int) (x3 : Int) (s' : lf_Z), iv_A s'.1 s'.2.2 → lf_fq [104, 107] 1000000 true s.1 s.2.2 s'.1 s'.2.2 → (-2147483648) ≤ x2 ∧ x2 ≤ 2147483647 → 0 ≤ x3 ∧ x3 ≤ 12 → (12 - x3).toNat < m9 → X4 x2 x3 s' := by
    intro m9
    induction m9 with
    | zero => intro x2 x3 s' _ _ bx2 bx3 h9; exact absurd h9 (Nat.not_lt_zero _)
    | succ m9 ih => intro x2 x3 s' i7 f7 bx2 bx3 h9; exact hX _ _ _ (sm_317_p4 (fun r9 t9 i9 f9 => hQ r9 t9 i9 (lf_fq_tr f7 f9))   (fun x2' x3' t8 i8 f8 bx2' bx3' h8 => ih x2' x3' t8 i8 (lf_fq_tr f7 f8) bx2' bx3' (by omega)) (Nat.le_refl _)  i7  bx1 bx2 bx3  )
  exact key _ _ _ s hI lf_fq_rf bx2 bx3 (Nat.lt_succ_self _)
theorem sm_317 {a1 : Int} {Q : Int → lf_Z → Prop} {s : lf_Z} (hI : iv_A s.1 s.2.2) (ba1 : (-1) ≤ a1 ∧ a1 ≤ 3) (hQ : ∀ (r : Int) (s' : lf_Z), iv_A s'.1 s'.2.2 → lf_fq [104, 107] 1000000 true s.1 s.2.2 s'.1 s'.2.2 → ((-2147483648) ≤ r ∧ r ≤ 2147483647) → Q r s') : fm_317 a1 Q s := by
  unfold fm_317
  exact sm_317_p4L hQ hI (show (-1 : Int) ≤ a1 ∧ a1 ≤ (3 : Int) from by omega) (show (-2147483648 : Int) ≤ 0 ∧ 0 ≤ (2147483647 : Int) from by omega) (show (0 : Int) ≤ 0 ∧ 0 ≤ (12 : Int) from by omega)
-- fm_316 Model.cheapest 95
theorem sm_316_p30 {X4 : Int → Int → lf_Z → Prop} {Q : Int → lf_Z → Prop} {x1 : Int} {x2 : Int} {s : lf_Z} (hQ : ∀ (r : Int) (s' : lf_Z), iv_A s'.1 s'.2.2 → lf_fq [104, 107] 1000000 true s.1 s.2.2 s'.1 s'.2.2 → ((-1) ≤ r ∧ r ≤ 3) → Q r s') {M4 : Nat} (hX4 : ∀ (x1 : Int) (x2 : Int) (s' : lf_Z), iv_A s'.1 s'.2.2 → lf_fq [104, 107] 1000000 true s.1 s.2.2 s'.1 s'.2.2 → (-1) ≤ x1 ∧ x1 ≤ 3 → 0 ≤ x2 ∧ x2 ≤ 4 → (4 - x2).toNat < M4 → X4 x1 x2 s') (hM4 : (4 - x2).toNat ≤ M4) (hI : iv_A s.1 s.2.2) (bx1 : (-1) ≤ x1 ∧ x1 ≤ 3) (bx2 : 0 ≤ x2 ∧ x2 ≤ 3) : fm_316_p30 X4 Q x1 x2 s := by
  unfold fm_316_p30
  exact hX4 (x1) (x2 + 1) s hI (lf_fq_rf) (show (-1 : Int) ≤ x1 ∧ x1 ≤ (3 : Int) from by omega) (show (0 : Int) ≤ x2 + 1 ∧ x2 + 1 ≤ (4 : Int) from by omega) (show (4 - (x2 + 1)).toNat < M4 from by omega)
theorem sm_316_p4 {X4 : Int → Int → lf_Z → Prop} {Q : Int → lf_Z → Prop} {x1 : Int} {x2 : Int} {s : lf_Z} (hQ : ∀ (r : Int) (s' : lf_Z), iv_A s'.1 s'.2.2 → lf_fq [104, 107] 1000000 true s.1 s.2.2 s'.1 s'.2.2 → ((-1) ≤ r ∧ r ≤ 3) → Q r s') {M4 : Nat} (hX4 : ∀ (x1 : Int) (x2 : Int) (s' : lf_Z), iv_A s'.1 s'.2.2 → lf_fq [104, 107] 1000000 true s.1 s.2.2 s'.1 s'.2.2 → (-1) ≤ x1 ∧ x1 ≤ 3 → 0 ≤ x2 ∧ x2 ≤ 4 → (4 - x2).toNat < M4 → X4 x1 x2 s') (hM4 : (4 - x2).toNat ≤ M4) (hI : iv_A s.1 s.2.2) (bx1 : (-1) ≤ x1 ∧ x1 ≤ 3) (bx2 : 0 ≤ x2 ∧ x2 ≤ 4) : fm_316_p4 Q X4 x1 x2 s := by
  unfold fm_316_p4
  have b1 : 0 ≤ s.1 96 7 ∧ s.1 96 7 ≤ 4 := iv_rd96 hI (iv_ffb272d5f (by omega))
  refine ⟨(show lf_R x2 from lf_Rof (by omega)), ?_⟩
  refine ⟨(show lf_R (s.1 96 7) from lf_Rof (by omega)), ?_⟩
  refine ⟨fun c2 => ?_, fun c2 => ?_⟩
  · skip
    replace c2 : s.1 96 7 ≤ x2 := c2
    exact hQ x1 s hI (lf_fq_rf) (show (-1 : Int) ≤ x1 ∧ x1 ≤ (3 : Int) from by omega)
  · skip
    replace c2 : ¬ (s.1 96 7 ≤ x2) := c2
    refine sm_317 hI (show (-1 : Int) ≤ x2 ∧ x2 ≤ (3 : Int) from by omega) (fun r24 s23 hI4 fr3 q5 => ?_)
    have fr6 : lf_fq [104, 107] 1000000 true s.1 s.2.2 s23.1 s23.2.2 := lf_fq_tr (lf_fq_rf) (lf_fq_wk fr3 rfl (by decide) (by decide))
    refine sm_317 hI4 (show (-1 : Int) ≤ x1 ∧ x1 ≤ (3 : Int) from by omega) (fun r26 s25 hI8 fr7 q9 => ?_)
    have fr10 : lf_fq [104, 107] 1000000 true s.1 s.2.2 s25.1 s25.2.2 := lf_fq_tr fr6 (lf_fq_wk fr7 rfl (by decide) (by decide))
    refine ⟨(show lf_R r24 from lf_Rof (by omega)), ?_⟩
    refine ⟨(show lf_R r26 from lf_Rof (by omega)), ?_⟩
    refine ⟨fun c11 => ?_, fun c11 => ?_⟩
    · skip
      replace c11 : r26 ≤ r24 := c11
      exact sm_316_p30 (fun r9 t9 i9 f9 => hQ r9 t9 i9 (lf_fq_tr fr10 f9)) (fun p0 p1 t9 i9 f9 => hX4 p0 p1 t9 i9 (lf_fq_tr fr10 f9)) (show (4 - x2).toNat ≤ M4 from by omega) hI8 (show (-1 : Int) ≤ x1 ∧ x1 ≤ (3 : Int) from by omega) (show (0 : Int) ≤ x2 ∧ x2 ≤ (3 : Int) from by omega)
    · skip
      replace c11 : ¬ (r26 ≤ r24) := c11
      exact sm_316_p30 (fun r9 t9 i9 f9 => hQ r9 t9 i9 (lf_fq_tr fr10 f9)) (fun p0 p1 t9 i9 f9 => hX4 p0 p1 t9 i9 (lf_fq_tr fr10 f9)) (show (4 - x2).toNat ≤ M4 from by omega) hI8 (show (-1 : Int) ≤ x2 ∧ x2 ≤ (3 : Int) from by omega) (show (0 : Int) ≤ x2 ∧ x2 ≤ (3 : Int) from by omega)
theorem sm_316_p4L {Q : Int → lf_Z → Prop} {x1 : Int} {x2 : Int} {s : lf_Z} (hQ : ∀ (r : Int) (s' : lf_Z), iv_A s'.1 s'.2.2 → lf_fq [104, 107] 1000000 true s.1 s.2.2 s'.1 s'.2.2 → ((-1) ≤ r ∧ r ≤ 3) → Q r s') (hI : iv_A s.1 s.2.2) (bx1 : (-1) ≤ x1 ∧ x1 ≤ 3) (bx2 : 0 ≤ x2 ∧ x2 ≤ 4) : fm_316_p4L Q x1 x2 s := by
  intro X4 hX
  have key : ∀ (m9 : Nat) (x1 : Int) (x2 : Int) (s' : lf_Z), iv_A s'.1 s'.2.2 → lf_fq [104, 107] 1000000 true s.1 s.2.2 s'.1 s'.2.2 → (-1) ≤ x1 ∧ x1 ≤ 3 → 0 ≤ x2 ∧ x2 ≤ 4 → (4 - x2).toNat < m9 → X4 x1 x2 s' := by
    intro m9
    induction m9 with
    | zero => intro x1 x2 s' _ _ bx1 bx2 h9; exact absurd h9 (Nat.not_lt_zero _)
    | succ m9 ih => intro x1 x2 s' i7 f7 bx1 bx2 h9; exact hX _ _ _ (sm_316_p4 (fun r9 t9 i9 f9 => hQ r9 t9 i9 (lf_fq_tr f7 f9))   (fun x1' x2' t8 i8 f8 bx1' bx2' h8 => ih x1' x2' t8 i8 (lf_fq_tr f7 f8) bx1' bx2' (by omega)) (Nat.le_refl _)  i7  bx1 bx2  )
  exact key _ _ _ s hI lf_fq_rf bx1 bx2 (Nat.lt_succ_self _)
theorem sm_316 {Q : Int → lf_Z → Prop} {s : lf_Z} (hI : iv_A s.1 s.2.2) (hQ : ∀ (r : Int) (s' : lf_Z), iv_A s'.1 s'.2.2 → lf_fq [104, 107] 1000000 true s.1 s.2.2 s'.1 s'.2.2 → ((-1) ≤ r ∧ r ≤ 3) → Q r s') : fm_316 Q s := by
  unfold fm_316
  exact sm_316_p4L hQ hI (show (-1 : Int) ≤ (-1) ∧ (-1) ≤ (3 : Int) from by omega) (show (0 : Int) ≤ 0 ∧ 0 ≤ (4 : Int) from by omega)
-- fm_163 ElevenBullocks.mending 0 i i i i i
theorem sm_163_p72 {Q : Bool → lf_Z → Prop} {x1 : Int} {x2 : Int} {x3 : Int} {x4 : Int} {x5 : Int} {y0 : Int} {s : lf_Z} (hQ : ∀ (z : Bool) (s' : lf_Z), iv_A s'.1 s'.2.2 → lf_fq [28] 1000000 true s.1 s.2.2 s'.1 s'.2.2 → Q z s') (hI : iv_A s.1 s.2.2) (bx1 : (-2147483648) ≤ x1 ∧ x1 ≤ 2147483647) (bx2 : (-2147483648) ≤ x2 ∧ x2 ≤ 2147483647) (bx3 : (-2147483648) ≤ x3 ∧ x3 ≤ 2147483647) (bx4 : (-2147483648) ≤ x4 ∧ x4 ≤ 2147483647) (bx5 : (-2147483648) ≤ x5 ∧ x5 ≤ 2147483647) (by0 : 0 ≤ y0 ∧ y0 ≤ 1) (kv0 : y0 = 0 ∨ (0 ≤ x1 ∧ x1 < 16)) : fm_163_p72 Q x1 x2 x3 x4 x5 y0 s := by
  unfold fm_163_p72
  refine ⟨(show lf_R y0 from lf_Rof (by omega)), ?_⟩
  refine ⟨fun c6 => ?_, fun c6 => ?_⟩
  · skip
    replace c6 : y0 = 0 := c6
    refine ⟨(show y0 = 0 ∨ y0 = 1 from by omega), fun _ => ?_, fun _ => ?_⟩
    · skip
      exact hQ false s hI (lf_fq_rf)
    · skip
      exact hQ true s hI (lf_fq_rf)
  · skip
    replace c6 : ¬ (y0 = 0) := c6
    have b7 : (-2147483648) ≤ lf_w (x4 * x2) ∧ lf_w (x4 * x2) ≤ 2147483647 := lf_wB
    have b8 : (-2147483648) ≤ lf_w ((lf_w (x4 * x2)) * x5) ∧ lf_w ((lf_w (x4 * x2)) * x5) ≤ 2147483647 := lf_wB
    have b9 : (-214748364) ≤ (lf_w ((lf_w (x4 * x2)) * x5)).tdiv 10 ∧ (lf_w ((lf_w (x4 * x2)) * x5)).tdiv 10 ≤ 214748364 := lf_tdivB (p := -2147483648) (q := 2147483647) (by omega) (by omega) (by decide) (by decide) (by decide)
    have b10 : (-2147483648) ≤ lf_w (((lf_w ((lf_w (x4 * x2)) * x5)).tdiv 10) - x3) ∧ lf_w (((lf_w ((lf_w (x4 * x2)) * x5)).tdiv 10) - x3) ≤ 2147483647 := lf_wB
    refine ⟨(show (0 : Int) ≤ x1 ∧ x1 < (16 : Int) from by omega), ?_⟩
    have hI11 : iv_A (lf_up s.1 28 x1 (lf_w (((lf_w ((lf_w (x4 * x2)) * x5)).tdiv 10) - x3))) s.2.2 := iv_w28 hI (by omega)
    have fr12 : lf_fq [28] 1000000 true s.1 s.2.2 (lf_up s.1 28 x1 (lf_w (((lf_w ((lf_w (x4 * x2)) * x5)).tdiv 10) - x3))) s.2.2 := lf_fq_up (lf_fq_rf) rfl (fun h => absurd h (by decide))
    refine ⟨(show y0 = 0 ∨ y0 = 1 from by omega), fun _ => ?_, fun _ => ?_⟩
    · skip
      exact hQ false (lf_up s.1 28 x1 (lf_w (((lf_w ((lf_w (x4 * x2)) * x5)).tdiv 10) - x3)), s.2.1, s.2.2) hI11 fr12
    · skip
      exact hQ true (lf_up s.1 28 x1 (lf_w (((lf_w ((lf_w (x4 * x2)) * x5)).tdiv 10) - x3)), s.2.1, s.2.2) hI11 fr12
theorem sm_163_p71 {Q : Bool → lf_Z → Prop} {x1 : Int} {x2 : Int} {x3 : Int} {x4 : Int} {x5 : Int} {s : lf_Z} (hQ : ∀ (z : Bool) (s' : lf_Z), iv_A s'.1 s'.2.2 → lf_fq [28] 1000000 true s.1 s.2.2 s'.1 s'.2.2 → Q z s') (hI : iv_A s.1 s.2.2) (bx1 : (-2147483648) ≤ x1 ∧ x1 ≤ 2147483647) (bx2 : (-2147483648) ≤ x2 ∧ x2 ≤ 2147483647) (bx3 : (-2147483648) ≤ x3 ∧ x3 ≤ 2147483647) (bx4 : (-2147483648) ≤ x4 ∧ x4 ≤ 2147483647) (bx5 : (-2147483648) ≤ x5 ∧ x5 ≤ 2147483647) : fm_163_p71 Q x1 x2 x3 x4 x5 s := by
  unfold fm_163_p71
  exact sm_163_p72 hQ hI (show (-2147483648 : Int) ≤ x1 ∧ x1 ≤ (2147483647 : Int) from by omega) (show (-2147483648 : Int) ≤ x2 ∧ x2 ≤ (2147483647 : Int) from by omega) (show (-2147483648 : Int) ≤ x3 ∧ x3 ≤ (2147483647 : Int) from by omega) (show (-2147483648 : Int) ≤ x4 ∧ x4 ≤ (2147483647 : Int) from by omega) (show (-2147483648 : Int) ≤ x5 ∧ x5 ≤ (2147483647 : Int) from by omega) (show (0 : Int) ≤ 0 ∧ 0 ≤ (1 : Int) from by omega) (show 0 = 0 ∨ (0 ≤ x1 ∧ x1 < 16) from by omega)
theorem sm_163_p37 {Q : Bool → lf_Z → Prop} {x1 : Int} {x2 : Int} {x3 : Int} {x4 : Int} {x5 : Int} {y0 : Int} {s : lf_Z} (hQ : ∀ (z : Bool) (s' : lf_Z), iv_A s'.1 s'.2.2 → lf_fq [28] 1000000 true s.1 s.2.2 s'.1 s'.2.2 → Q z s') (hI : iv_A s.1 s.2.2) (bx1 : (-2147483648) ≤ x1 ∧ x1 ≤ 2147483647) (bx2 : (-2147483648) ≤ x2 ∧ x2 ≤ 2147483647) (bx3 : (-2147483648) ≤ x3 ∧ x3 ≤ 2147483647) (bx4 : (-2147483648) ≤ x4 ∧ x4 ≤ 2147483647) (bx5 : (-2147483648) ≤ x5 ∧ x5 ≤ 2147483647) (by0 : 0 ≤ y0 ∧ y0 ≤ 1) (kv0 : y0 = 0 ∨ (0 ≤ x1 ∧ x1 < 16)) : fm_163_p37 Q x1 x2 x3 x4 x5 y0 s := by
  unfold fm_163_p37
  refine ⟨(show lf_R y0 from lf_Rof (by omega)), ?_⟩
  refine ⟨fun c5 => ?_, fun c5 => ?_⟩
  · skip
    replace c5 : y0 = 0 := c5
    exact sm_163_p71 hQ hI (show (-2147483648 : Int) ≤ x1 ∧ x1 ≤ (2147483647 : Int) from by omega) (show (-2147483648 : Int) ≤ x2 ∧ x2 ≤ (2147483647 : Int) from by omega) (show (-2147483648 : Int) ≤ x3 ∧ x3 ≤ (2147483647 : Int) from by omega) (show (-2147483648 : Int) ≤ x4 ∧ x4 ≤ (2147483647 : Int) from by omega) (show (-2147483648 : Int) ≤ x5 ∧ x5 ≤ (2147483647 : Int) from by omega)
  · skip
    replace c5 : ¬ (y0 = 0) := c5
    refine sm_15 hI (show (-2147483648 : Int) ≤ x4 ∧ x4 ≤ (2147483647 : Int) from by omega) (show (-1 : Int) ≤ 0 ∧ 0 ≤ (99 : Int) from by omega) (show (-2147483648 : Int) ≤ 999 ∧ 999 ≤ (2147483647 : Int) from by omega) (fun z27 q13 => ?_)
    refine ⟨fun c14 => ?_, fun c14 => ?_⟩
    · skip
      have dc14 := q13.2 c14
      exact sm_163_p71 hQ hI (show (-2147483648 : Int) ≤ x1 ∧ x1 ≤ (2147483647 : Int) from by omega) (show (-2147483648 : Int) ≤ x2 ∧ x2 ≤ (2147483647 : Int) from by omega) (show (-2147483648 : Int) ≤ x3 ∧ x3 ≤ (2147483647 : Int) from by omega) (show (-2147483648 : Int) ≤ x4 ∧ x4 ≤ (2147483647 : Int) from by omega) (show (-2147483648 : Int) ≤ x5 ∧ x5 ≤ (2147483647 : Int) from by omega)
    · skip
      have dc14 := q13.1 c14
      refine sm_15 hI (show (-2147483648 : Int) ≤ x5 ∧ x5 ≤ (2147483647 : Int) from by omega) (show (-1 : Int) ≤ 1 ∧ 1 ≤ (99 : Int) from by omega) (show (-2147483648 : Int) ≤ 99 ∧ 99 ≤ (2147483647 : Int) from by omega) (fun z29 q15 => ?_)
      refine ⟨fun c16 => ?_, fun c16 => ?_⟩
      · skip
        have dc16 := q15.2 c16
        exact sm_163_p71 hQ hI (show (-2147483648 : Int) ≤ x1 ∧ x1 ≤ (2147483647 : Int) from by omega) (show (-2147483648 : Int) ≤ x2 ∧ x2 ≤ (2147483647 : Int) from by omega) (show (-2147483648 : Int) ≤ x3 ∧ x3 ≤ (2147483647 : Int) from by omega) (show (-2147483648 : Int) ≤ x4 ∧ x4 ≤ (2147483647 : Int) from by omega) (show (-2147483648 : Int) ≤ x5 ∧ x5 ≤ (2147483647 : Int) from by omega)
      · skip
        have dc16 := q15.1 c16
        exact sm_163_p72 hQ hI (show (-2147483648 : Int) ≤ x1 ∧ x1 ≤ (2147483647 : Int) from by omega) (show (-2147483648 : Int) ≤ x2 ∧ x2 ≤ (2147483647 : Int) from by omega) (show (-2147483648 : Int) ≤ x3 ∧ x3 ≤ (2147483647 : Int) from by omega) (show (-2147483648 : Int) ≤ x4 ∧ x4 ≤ (2147483647 : Int) from by omega) (show (-2147483648 : Int) ≤ x5 ∧ x5 ≤ (2147483647 : Int) from by omega) (show (0 : Int) ≤ 1 ∧ 1 ≤ (1 : Int) from by omega) (show 1 = 0 ∨ (0 ≤ x1 ∧ x1 < 16) from by omega)
theorem sm_163_p36 {Q : Bool → lf_Z → Prop} {x1 : Int} {x2 : Int} {x3 : Int} {x4 : Int} {x5 : Int} {s : lf_Z} (hQ : ∀ (z : Bool) (s' : lf_Z), iv_A s'.1 s'.2.2 → lf_fq [28] 1000000 true s.1 s.2.2 s'.1 s'.2.2 → Q z s') (hI : iv_A s.1 s.2.2) (bx1 : (-2147483648) ≤ x1 ∧ x1 ≤ 2147483647) (bx2 : (-2147483648) ≤ x2 ∧ x2 ≤ 2147483647) (bx3 : (-2147483648) ≤ x3 ∧ x3 ≤ 2147483647) (bx4 : (-2147483648) ≤ x4 ∧ x4 ≤ 2147483647) (bx5 : (-2147483648) ≤ x5 ∧ x5 ≤ 2147483647) : fm_163_p36 Q x1 x2 x3 x4 x5 s := by
  unfold fm_163_p36
  exact sm_163_p37 hQ hI (show (-2147483648 : Int) ≤ x1 ∧ x1 ≤ (2147483647 : Int) from by omega) (show (-2147483648 : Int) ≤ x2 ∧ x2 ≤ (2147483647 : Int) from by omega) (show (-2147483648 : Int) ≤ x3 ∧ x3 ≤ (2147483647 : Int) from by omega) (show (-2147483648 : Int) ≤ x4 ∧ x4 ≤ (2147483647 : Int) from by omega) (show (-2147483648 : Int) ≤ x5 ∧ x5 ≤ (2147483647 : Int) from by omega) (show (0 : Int) ≤ 0 ∧ 0 ≤ (1 : Int) from by omega) (show 0 = 0 ∨ (0 ≤ x1 ∧ x1 < 16) from by omega)
theorem sm_163 {a1 : Int} {a2 : Int} {a3 : Int} {a4 : Int} {a5 : Int} {Q : Bool → lf_Z → Prop} {s : lf_Z} (hI : iv_A s.1 s.2.2) (ba1 : (-2147483648) ≤ a1 ∧ a1 ≤ 2147483647) (ba2 : (-2147483648) ≤ a2 ∧ a2 ≤ 2147483647) (ba3 : (-2147483648) ≤ a3 ∧ a3 ≤ 2147483647) (ba4 : (-2147483648) ≤ a4 ∧ a4 ≤ 2147483647) (ba5 : (-2147483648) ≤ a5 ∧ a5 ≤ 2147483647) (hQ : ∀ (z : Bool) (s' : lf_Z), iv_A s'.1 s'.2.2 → lf_fq [28] 1000000 true s.1 s.2.2 s'.1 s'.2.2 → Q z s') : fm_163 a1 a2 a3 a4 a5 Q s := by
  unfold fm_163
  refine sm_89 hI (show (-2147483648 : Int) ≤ a1 ∧ a1 ≤ (2147483647 : Int) from by omega) (fun z22 q1 => ?_)
  have b2 : 0 ≤ s.1 1 1 ∧ s.1 1 1 ≤ 16 := iv_r1_1 hI
  have b3 : 0 ≤ s.1 6 a1 ∧ s.1 6 a1 ≤ 1 := iv_r6 hI _
  refine ⟨fun c4 => ?_, fun c4 => ?_⟩
  · skip
    have dc4 := q1.2 c4
    exact sm_163_p36 hQ hI (show (-2147483648 : Int) ≤ a1 ∧ a1 ≤ (2147483647 : Int) from by omega) (show (-2147483648 : Int) ≤ a2 ∧ a2 ≤ (2147483647 : Int) from by omega) (show (-2147483648 : Int) ≤ a3 ∧ a3 ≤ (2147483647 : Int) from by omega) (show (-2147483648 : Int) ≤ a4 ∧ a4 ≤ (2147483647 : Int) from by omega) (show (-2147483648 : Int) ≤ a5 ∧ a5 ≤ (2147483647 : Int) from by omega)
  · skip
    have dc4 := q1.1 c4
    refine sm_15 hI (show (-2147483648 : Int) ≤ a2 ∧ a2 ≤ (2147483647 : Int) from by omega) (show (-1 : Int) ≤ 0 ∧ 0 ≤ (99 : Int) from by omega) (show (-2147483648 : Int) ≤ 10 ∧ 10 ≤ (2147483647 : Int) from by omega) (fun z31 q17 => ?_)
    refine ⟨fun c18 => ?_, fun c18 => ?_⟩
    · skip
      have dc18 := q17.2 c18
      exact sm_163_p36 hQ hI (show (-2147483648 : Int) ≤ a1 ∧ a1 ≤ (2147483647 : Int) from by omega) (show (-2147483648 : Int) ≤ a2 ∧ a2 ≤ (2147483647 : Int) from by omega) (show (-2147483648 : Int) ≤ a3 ∧ a3 ≤ (2147483647 : Int) from by omega) (show (-2147483648 : Int) ≤ a4 ∧ a4 ≤ (2147483647 : Int) from by omega) (show (-2147483648 : Int) ≤ a5 ∧ a5 ≤ (2147483647 : Int) from by omega)
    · skip
      have dc18 := q17.1 c18
      refine sm_15 hI (show (-2147483648 : Int) ≤ a3 ∧ a3 ≤ (2147483647 : Int) from by omega) (show (-1 : Int) ≤ 0 ∧ 0 ≤ (99 : Int) from by omega) (show (-2147483648 : Int) ≤ 999 ∧ 999 ≤ (2147483647 : Int) from by omega) (fun z33 q19 => ?_)
      refine ⟨fun c20 => ?_, fun c20 => ?_⟩
      · skip
        have dc20 := q19.2 c20
        exact sm_163_p36 hQ hI (show (-2147483648 : Int) ≤ a1 ∧ a1 ≤ (2147483647 : Int) from by omega) (show (-2147483648 : Int) ≤ a2 ∧ a2 ≤ (2147483647 : Int) from by omega) (show (-2147483648 : Int) ≤ a3 ∧ a3 ≤ (2147483647 : Int) from by omega) (show (-2147483648 : Int) ≤ a4 ∧ a4 ≤ (2147483647 : Int) from by omega) (show (-2147483648 : Int) ≤ a5 ∧ a5 ≤ (2147483647 : Int) from by omega)
      · skip
        have dc20 := q19.1 c20
        exact sm_163_p37 hQ hI (show (-2147483648 : Int) ≤ a1 ∧ a1 ≤ (2147483647 : Int) from by omega) (show (-2147483648 : Int) ≤ a2 ∧ a2 ≤ (2147483647 : Int) from by omega) (show (-2147483648 : Int) ≤ a3 ∧ a3 ≤ (2147483647 : Int) from by omega) (show (-2147483648 : Int) ≤ a4 ∧ a4 ≤ (2147483647 : Int) from by omega) (show (-2147483648 : Int) ≤ a5 ∧ a5 ≤ (2147483647 : Int) from by omega) (show (0 : Int) ≤ 1 ∧ 1 ≤ (1 : Int) from by omega) (show 1 = 0 ∨ (0 ≤ a1 ∧ a1 < 16) from by omega)
-- fm_318 Model.mending 95 i i i i i
theorem sm_318 {a1 : Int} {a2 : Int} {a3 : Int} {a4 : Int} {a5 : Int} {Q : Bool → lf_Z → Prop} {s : lf_Z} (hI : iv_A s.1 s.2.2) (ba1 : (-2147483648) ≤ a1 ∧ a1 ≤ 2147483647) (ba2 : (-2147483648) ≤ a2 ∧ a2 ≤ 2147483647) (ba3 : (-2147483648) ≤ a3 ∧ a3 ≤ 2147483647) (ba4 : (-2147483648) ≤ a4 ∧ a4 ≤ 2147483647) (ba5 : (-2147483648) ≤ a5 ∧ a5 ≤ 2147483647) (hQ : ∀ (z : Bool) (s' : lf_Z), iv_A s'.1 s'.2.2 → lf_fq [96, 1002] 174 true s.1 s.2.2 s'.1 s'.2.2 → Q z s') : fm_318 a1 a2 a3 a4 a5 Q s := by
  unfold fm_318
  refine sm_251 hI (show (-2147483648 : Int) ≤ a1 ∧ a1 ≤ (2147483647 : Int) from by omega) (fun z22 q1 => ?_)
  have b2 : 0 ≤ s.1 96 1 ∧ s.1 96 1 ≤ 16 := iv_rd96 hI (iv_fd6ad3e54 (by omega))
  have b3 : s.1 96 1 ≤ 0 ∨ 0 < s.1 96 0 := (show s.1 96 1 ≤ 0 ∨ 0 < s.1 96 0 from iv_l96_1 hI)
  refine ⟨fun c4 => ?_, fun c4 => ?_⟩
  · skip
    have dc4 := q1.2 c4
    exact hQ false s hI (lf_fq_rf)
  · skip
    have dc4 := q1.1 c4
    refine sm_252 hI (show (0 : Int) ≤ a1 ∧ a1 ≤ (15 : Int) from by omega) (fun z24 => ?_)
    refine ⟨fun c6 => ?_, fun c6 => ?_⟩
    · skip
      exact hQ false s hI (lf_fq_rf)
    · skip
      refine sm_183 hI (show (-2147483648 : Int) ≤ a2 ∧ a2 ≤ (2147483647 : Int) from by omega) (show (-1 : Int) ≤ 0 ∧ 0 ≤ (97 : Int) from by omega) (show (-1 : Int) ≤ 10 ∧ 10 ≤ (9999 : Int) from by omega) (fun z26 q7 => ?_)
      refine ⟨fun c8 => ?_, fun c8 => ?_⟩
      · skip
        have dc8 := q7.2 c8
        exact hQ false s hI (lf_fq_rf)
      · skip
        have dc8 := q7.1 c8
        refine sm_183 hI (show (-2147483648 : Int) ≤ a3 ∧ a3 ≤ (2147483647 : Int) from by omega) (show (-1 : Int) ≤ 0 ∧ 0 ≤ (97 : Int) from by omega) (show (-1 : Int) ≤ 999 ∧ 999 ≤ (9999 : Int) from by omega) (fun z28 q9 => ?_)
        refine ⟨fun c10 => ?_, fun c10 => ?_⟩
        · skip
          have dc10 := q9.2 c10
          exact hQ false s hI (lf_fq_rf)
        · skip
          have dc10 := q9.1 c10
          refine sm_183 hI (show (-2147483648 : Int) ≤ a4 ∧ a4 ≤ (2147483647 : Int) from by omega) (show (-1 : Int) ≤ 0 ∧ 0 ≤ (97 : Int) from by omega) (show (-1 : Int) ≤ 999 ∧ 999 ≤ (9999 : Int) from by omega) (fun z30 q11 => ?_)
          refine ⟨fun c12 => ?_, fun c12 => ?_⟩
          · skip
            have dc12 := q11.2 c12
            exact hQ false s hI (lf_fq_rf)
          · skip
            have dc12 := q11.1 c12
            refine sm_183 hI (show (-2147483648 : Int) ≤ a5 ∧ a5 ≤ (2147483647 : Int) from by omega) (show (-1 : Int) ≤ 1 ∧ 1 ≤ (97 : Int) from by omega) (show (-1 : Int) ≤ 99 ∧ 99 ≤ (9999 : Int) from by omega) (fun z32 q13 => ?_)
            refine ⟨fun c14 => ?_, fun c14 => ?_⟩
            · skip
              have dc14 := q13.1 c14
              refine ⟨(show (0 : Int) ≤ 174 + (5 * a1) ∧ 174 + (5 * a1) < (1538 : Int) from by omega), ?_⟩
              have hI15 : iv_A (lf_up s.1 96 (174 + (5 * a1)) 1) s.2.2 := iv_wd96 hI (lf_le2 (iv_fff015721 (a1) (by omega) (by omega)) (by omega)) (fun h => absurd h (by omega))
              have fr16 : lf_fq [96, 1002] 174 true s.1 s.2.2 (lf_up s.1 96 (174 + (5 * a1)) 1) s.2.2 := lf_fq_up (lf_fq_rf) rfl (fun _ => ⟨by omega, fr_o (Or.inr (fr_n0 (by omega))) (Or.inr (fr_n1 (by omega))) (Or.inl rfl) (Or.inr (fr_n3 (by omega))) (Or.inr (fr_n4 (by omega))) (Or.inr (fr_n5 (by omega))) (Or.inr (fr_n6 (by omega)))⟩)
              refine ⟨(show (0 : Int) ≤ (174 + (5 * a1)) + 1 ∧ (174 + (5 * a1)) + 1 < (1538 : Int) from by omega), ?_⟩
              have hI17 : iv_A (lf_up (lf_up s.1 96 (174 + (5 * a1)) 1) 96 ((174 + (5 * a1)) + 1) a2) s.2.2 := iv_wd96 hI15 (lf_le2 (iv_f02d2919a (a1) (by omega) (by omega)) (by omega)) (fun h => absurd h (by omega))
              have fr18 : lf_fq [96, 1002] 174 true s.1 s.2.2 (lf_up (lf_up s.1 96 (174 + (5 * a1)) 1) 96 ((174 + (5 * a1)) + 1) a2) s.2.2 := lf_fq_up fr16 rfl (fun _ => ⟨by omega, fr_o (Or.inr (fr_n0 (by omega))) (Or.inr (fr_n1 (by omega))) (Or.inl rfl) (Or.inr (fr_n3 (by omega))) (Or.inr (fr_n4 (by omega))) (Or.inr (fr_n5 (by omega))) (Or.inr (fr_n6 (by omega)))⟩)
              refine ⟨(show (0 : Int) ≤ (174 + (5 * a1)) + 2 ∧ (174 + (5 * a1)) + 2 < (1538 : Int) from by omega), ?_⟩
              have hI19 : iv_A (lf_up (lf_up (lf_up s.1 96 (174 + (5 * a1)) 1) 96 ((174 + (5 * a1)) + 1) a2) 96 ((174 + (5 * a1)) + 2) a3) s.2.2 := iv_wd96 hI17 (lf_le2 (iv_f63ffe759 (a1) (by omega) (by omega)) (by omega)) (fun h => absurd h (by omega))
              have fr20 : lf_fq [96, 1002] 174 true s.1 s.2.2 (lf_up (lf_up (lf_up s.1 96 (174 + (5 * a1)) 1) 96 ((174 + (5 * a1)) + 1) a2) 96 ((174 + (5 * a1)) + 2) a3) s.2.2 := lf_fq_up fr18 rfl (fun _ => ⟨by omega, fr_o (Or.inr (fr_n0 (by omega))) (Or.inr (fr_n1 (by omega))) (Or.inl rfl) (Or.inr (fr_n3 (by omega))) (Or.inr (fr_n4 (by omega))) (Or.inr (fr_n5 (by omega))) (Or.inr (fr_n6 (by omega)))⟩)
              refine ⟨(show (0 : Int) ≤ (174 + (5 * a1)) + 3 ∧ (174 + (5 * a1)) + 3 < (1538 : Int) from by omega), ?_⟩
              have hI21 : iv_A (lf_up (lf_up (lf_up (lf_up s.1 96 (174 + (5 * a1)) 1) 96 ((174 + (5 * a1)) + 1) a2) 96 ((174 + (5 * a1)) + 2) a3) 96 ((174 + (5 * a1)) + 3) a4) s.2.2 := iv_wd96 hI19 (lf_le2 (iv_fa9f80a67 (a1) (by omega) (by omega)) (by omega)) (fun h => absurd h (by omega))
              have fr22 : lf_fq [96, 1002] 174 true s.1 s.2.2 (lf_up (lf_up (lf_up (lf_up s.1 96 (174 + (5 * a1)) 1) 96 ((174 + (5 * a1)) + 1) a2) 96 ((174 + (5 * a1)) + 2) a3) 96 ((174 + (5 * a1)) + 3) a4) s.2.2 := lf_fq_up fr20 rfl (fun _ => ⟨by omega, fr_o (Or.inr (fr_n0 (by omega))) (Or.inr (fr_n1 (by omega))) (Or.inl rfl) (Or.inr (fr_n3 (by omega))) (Or.inr (fr_n4 (by omega))) (Or.inr (fr_n5 (by omega))) (Or.inr (fr_n6 (by omega)))⟩)
              refine ⟨(show (0 : Int) ≤ (174 + (5 * a1)) + 4 ∧ (174 + (5 * a1)) + 4 < (1538 : Int) from by omega), ?_⟩
              have hI23 : iv_A (lf_up (lf_up (lf_up (lf_up (lf_up s.1 96 (174 + (5 * a1)) 1) 96 ((174 + (5 * a1)) + 1) a2) 96 ((174 + (5 * a1)) + 2) a3) 96 ((174 + (5 * a1)) + 3) a4) 96 ((174 + (5 * a1)) + 4) a5) s.2.2 := iv_wd96 hI21 (lf_le2 (iv_fa7b3c3a4 (a1) (by omega) (by omega)) (by omega)) (fun h => absurd h (by omega))
              have fr24 : lf_fq [96, 1002] 174 true s.1 s.2.2 (lf_up (lf_up (lf_up (lf_up (lf_up s.1 96 (174 + (5 * a1)) 1) 96 ((174 + (5 * a1)) + 1) a2) 96 ((174 + (5 * a1)) + 2) a3) 96 ((174 + (5 * a1)) + 3) a4) 96 ((174 + (5 * a1)) + 4) a5) s.2.2 := lf_fq_up fr22 rfl (fun _ => ⟨by omega, fr_o (Or.inr (fr_n0 (by omega))) (Or.inr (fr_n1 (by omega))) (Or.inl rfl) (Or.inr (fr_n3 (by omega))) (Or.inr (fr_n4 (by omega))) (Or.inr (fr_n5 (by omega))) (Or.inr (fr_n6 (by omega)))⟩)
              exact hQ true (lf_up (lf_up (lf_up (lf_up (lf_up s.1 96 (174 + (5 * a1)) 1) 96 ((174 + (5 * a1)) + 1) a2) 96 ((174 + (5 * a1)) + 2) a3) 96 ((174 + (5 * a1)) + 3) a4) 96 ((174 + (5 * a1)) + 4) a5, s.2.1, s.2.2) hI23 fr24
            · skip
              have dc14 := q13.2 c14
              exact hQ false s hI (lf_fq_rf)
-- fm_165 Notes.bestGate 25
theorem sm_165_p31 {X6 : Int → Int → Int → lf_Z → Prop} {Q : Int → lf_Z → Prop} {x1 : Int} {x2 : Int} {x3 : Int} {s : lf_Z} (hQ : ∀ (r : Int), ((-1) ≤ r ∧ r ≤ 15) → Q r s) {M6 : Nat} (hX6 : ∀ (x1 : Int) (x2 : Int) (x3 : Int), (-1) ≤ x1 ∧ x1 ≤ 15 → 0 ≤ x2 ∧ x2 ≤ 2147483647 → 0 ≤ x3 ∧ x3 ≤ 16 → (16 - x3).toNat < M6 → X6 x1 x2 x3 s) (hM6 : (16 - x3).toNat ≤ M6) (hI : iv_A s.1 s.2.2) (bx1 : (-1) ≤ x1 ∧ x1 ≤ 15) (bx2 : 0 ≤ x2 ∧ x2 ≤ 2147483647) (bx3 : 0 ≤ x3 ∧ x3 ≤ 15) : fm_165_p31 X6 Q x1 x2 x3 s := by
  unfold fm_165_p31
  exact hX6 (x1) (x2) (x3 + 1) (show (-1 : Int) ≤ x1 ∧ x1 ≤ (15 : Int) from by omega) (show (0 : Int) ≤ x2 ∧ x2 ≤ (2147483647 : Int) from by omega) (show (0 : Int) ≤ x3 + 1 ∧ x3 + 1 ≤ (16 : Int) from by omega) (show (16 - (x3 + 1)).toNat < M6 from by omega)
theorem sm_165_p6 {X6 : Int → Int → Int → lf_Z → Prop} {Q : Int → lf_Z → Prop} {x1 : Int} {x2 : Int} {x3 : Int} {s : lf_Z} (hQ : ∀ (r : Int), ((-1) ≤ r ∧ r ≤ 15) → Q r s) {M6 : Nat} (hX6 : ∀ (x1 : Int) (x2 : Int) (x3 : Int), (-1) ≤ x1 ∧ x1 ≤ 15 → 0 ≤ x2 ∧ x2 ≤ 2147483647 → 0 ≤ x3 ∧ x3 ≤ 16 → (16 - x3).toNat < M6 → X6 x1 x2 x3 s) (hM6 : (16 - x3).toNat ≤ M6) (hI : iv_A s.1 s.2.2) (bx1 : (-1) ≤ x1 ∧ x1 ≤ 15) (bx2 : 0 ≤ x2 ∧ x2 ≤ 2147483647) (bx3 : 0 ≤ x3 ∧ x3 ≤ 16) : fm_165_p6 Q X6 x1 x2 x3 s := by
  unfold fm_165_p6
  refine ⟨(show lf_R x3 from lf_Rof (by omega)), ?_⟩
  refine ⟨fun c1 => ?_, fun c1 => ?_⟩
  · skip
    replace c1 : 16 ≤ x3 := c1
    exact hQ x1 (show (-1 : Int) ≤ x1 ∧ x1 ≤ (15 : Int) from by omega)
  · skip
    replace c1 : ¬ (16 ≤ x3) := c1
    refine ⟨(show (0 : Int) ≤ x3 ∧ x3 < (16 : Int) from by omega), ?_⟩
    have b2 : (-2147483648) ≤ s.1 28 x3 ∧ s.1 28 x3 ≤ 2147483647 := iv_full hI
    refine ⟨(show lf_R (s.1 28 x3) from lf_Rof (by omega)), ?_⟩
    refine ⟨(show lf_R x2 from lf_Rof (by omega)), ?_⟩
    refine ⟨fun c3 => ?_, fun c3 => ?_⟩
    · skip
      replace c3 : s.1 28 x3 ≤ x2 := c3
      exact sm_165_p31 hQ hX6 (show (16 - x3).toNat ≤ M6 from by omega) hI (show (-1 : Int) ≤ x1 ∧ x1 ≤ (15 : Int) from by omega) (show (0 : Int) ≤ x2 ∧ x2 ≤ (2147483647 : Int) from by omega) (show (0 : Int) ≤ x3 ∧ x3 ≤ (15 : Int) from by omega)
    · skip
      replace c3 : ¬ (s.1 28 x3 ≤ x2) := c3
      exact sm_165_p31 hQ hX6 (show (16 - x3).toNat ≤ M6 from by omega) hI (show (-1 : Int) ≤ x3 ∧ x3 ≤ (15 : Int) from by omega) (show (0 : Int) ≤ s.1 28 x3 ∧ s.1 28 x3 ≤ (2147483647 : Int) from by omega) (show (0 : Int) ≤ x3 ∧ x3 ≤ (15 : Int) from by omega)
theorem sm_165_p6L {Q : Int → lf_Z → Prop} {x1 : Int} {x2 : Int} {x3 : Int} {s : lf_Z} (hQ : ∀ (r : Int), ((-1) ≤ r ∧ r ≤ 15) → Q r s) (hI : iv_A s.1 s.2.2) (bx1 : (-1) ≤ x1 ∧ x1 ≤ 15) (bx2 : 0 ≤ x2 ∧ x2 ≤ 2147483647) (bx3 : 0 ≤ x3 ∧ x3 ≤ 16) : fm_165_p6L Q x1 x2 x3 s := by
  intro X6 hX
  have key : ∀ (m9 : Nat) (x1 : Int) (x2 : Int) (x3 : Int), (-1) ≤ x1 ∧ x1 ≤ 15 → 0 ≤ x2 ∧ x2 ≤ 2147483647 → 0 ≤ x3 ∧ x3 ≤ 16 → (16 - x3).toNat < m9 → X6 x1 x2 x3 s := by
    intro m9
    induction m9 with
    | zero => intro x1 x2 x3 bx1 bx2 bx3 h9; exact absurd h9 (Nat.not_lt_zero _)
    | succ m9 ih => intro x1 x2 x3 bx1 bx2 bx3 h9; exact hX _ _ _ _ (sm_165_p6 hQ   (fun x1' x2' x3' bx1' bx2' bx3' h8 => ih x1' x2' x3' bx1' bx2' bx3' (by omega)) (Nat.le_refl _)  hI  bx1 bx2 bx3  )
  exact key _ _ _ _ bx1 bx2 bx3   (Nat.lt_succ_self _)
theorem sm_165 {Q : Int → lf_Z → Prop} {s : lf_Z} (hI : iv_A s.1 s.2.2) (hQ : ∀ (r : Int), ((-1) ≤ r ∧ r ≤ 15) → Q r s) : fm_165 Q s := by
  unfold fm_165
  exact sm_165_p6L hQ hI (show (-1 : Int) ≤ (-1) ∧ (-1) ≤ (15 : Int) from by omega) (show (0 : Int) ≤ 0 ∧ 0 ≤ (2147483647 : Int) from by omega) (show (0 : Int) ≤ 0 ∧ 0 ≤ (16 : Int) from by omega)
-- fm_164 ElevenBullocks.saved 0 i
theorem sm_164 {a1 : Int} {Q : Int → lf_Z → Prop} {s : lf_Z} (hI : iv_A s.1 s.2.2) (ba1 : (-2147483648) ≤ a1 ∧ a1 ≤ 2147483647) (hQ : ∀ (r : Int), ((-2147483648) ≤ r ∧ r ≤ 2147483647) → Q r s) : fm_164 a1 Q s := by
  unfold fm_164
  refine ⟨(show lf_R a1 from lf_Rof (by omega)), ?_⟩
  refine ⟨fun c1 => ?_, fun c1 => ?_⟩
  · skip
    replace c1 : a1 ≠ (-1) := c1
    refine sm_79 hI (show (-2147483648 : Int) ≤ a1 ∧ a1 ≤ (2147483647 : Int) from by omega) (fun z23 q2 => ?_)
    have b3 : 0 ≤ s.1 1 1 ∧ s.1 1 1 ≤ 16 := iv_r1_1 hI
    refine ⟨fun c4 => ?_, fun c4 => ?_⟩
    · skip
      have dc4 := q2.2 c4
      exact hQ (-10000) (show (-2147483648 : Int) ≤ (-10000) ∧ (-10000) ≤ (2147483647 : Int) from by omega)
    · skip
      have dc4 := q2.1 c4
      refine ⟨(show (0 : Int) ≤ a1 ∧ a1 < (16 : Int) from by omega), ?_⟩
      have b5 : (-2147483648) ≤ s.1 28 a1 ∧ s.1 28 a1 ≤ 2147483647 := iv_full hI
      exact hQ (s.1 28 a1) (show (-2147483648 : Int) ≤ s.1 28 a1 ∧ s.1 28 a1 ≤ (2147483647 : Int) from by omega)
  · skip
    replace c1 : ¬ (a1 ≠ (-1)) := c1
    refine sm_165 hI (fun r26 q6 => ?_)
    exact hQ r26 (show (-2147483648 : Int) ≤ r26 ∧ r26 ≤ (2147483647 : Int) from by omega)
-- fm_320 Model.savedBy 95 i
theorem sm_320 {a1 : Int} {Q : Int → lf_Z → Prop} {s : lf_Z} (hI : iv_A s.1 s.2.2) (ba1 : 0 ≤ a1 ∧ a1 ≤ 15) (hQ : ∀ (r : Int), ((-2147483648) ≤ r ∧ r ≤ 2147483647) → Q r s) : fm_320 a1 Q s := by
  unfold fm_320
  refine ⟨(show (0 : Int) ≤ (174 + (5 * a1)) + 3 ∧ (174 + (5 * a1)) + 3 < (1538 : Int) from by omega), ?_⟩
  have b1 : (-2147483648) ≤ s.1 96 ((174 + (5 * a1)) + 3) ∧ s.1 96 ((174 + (5 * a1)) + 3) ≤ 2147483647 := iv_full hI
  refine ⟨(show (0 : Int) ≤ (174 + (5 * a1)) + 1 ∧ (174 + (5 * a1)) + 1 < (1538 : Int) from by omega), ?_⟩
  have b2 : (-2147483648) ≤ s.1 96 ((174 + (5 * a1)) + 1) ∧ s.1 96 ((174 + (5 * a1)) + 1) ≤ 2147483647 := iv_full hI
  have b3 : (-2147483648) ≤ lf_w ((s.1 96 ((174 + (5 * a1)) + 3)) * (s.1 96 ((174 + (5 * a1)) + 1))) ∧ lf_w ((s.1 96 ((174 + (5 * a1)) + 3)) * (s.1 96 ((174 + (5 * a1)) + 1))) ≤ 2147483647 := lf_wB
  refine ⟨(show (0 : Int) ≤ (174 + (5 * a1)) + 4 ∧ (174 + (5 * a1)) + 4 < (1538 : Int) from by omega), ?_⟩
  have b4 : (-2147483648) ≤ s.1 96 ((174 + (5 * a1)) + 4) ∧ s.1 96 ((174 + (5 * a1)) + 4) ≤ 2147483647 := iv_full hI
  have b5 : (-2147483648) ≤ lf_w ((lf_w ((s.1 96 ((174 + (5 * a1)) + 3)) * (s.1 96 ((174 + (5 * a1)) + 1)))) * (s.1 96 ((174 + (5 * a1)) + 4))) ∧ lf_w ((lf_w ((s.1 96 ((174 + (5 * a1)) + 3)) * (s.1 96 ((174 + (5 * a1)) + 1)))) * (s.1 96 ((174 + (5 * a1)) + 4))) ≤ 2147483647 := lf_wB
  have b6 : (-214748364) ≤ (lf_w ((lf_w ((s.1 96 ((174 + (5 * a1)) + 3)) * (s.1 96 ((174 + (5 * a1)) + 1)))) * (s.1 96 ((174 + (5 * a1)) + 4)))).tdiv 10 ∧ (lf_w ((lf_w ((s.1 96 ((174 + (5 * a1)) + 3)) * (s.1 96 ((174 + (5 * a1)) + 1)))) * (s.1 96 ((174 + (5 * a1)) + 4)))).tdiv 10 ≤ 214748364 := lf_tdivB (p := -2147483648) (q := 2147483647) (by omega) (by omega) (by decide) (by decide) (by decide)
  refine ⟨(show (0 : Int) ≤ (174 + (5 * a1)) + 2 ∧ (174 + (5 * a1)) + 2 < (1538 : Int) from by omega), ?_⟩
  have b7 : (-2147483648) ≤ s.1 96 ((174 + (5 * a1)) + 2) ∧ s.1 96 ((174 + (5 * a1)) + 2) ≤ 2147483647 := iv_full hI
  have b8 : (-2147483648) ≤ lf_w (((lf_w ((lf_w ((s.1 96 ((174 + (5 * a1)) + 3)) * (s.1 96 ((174 + (5 * a1)) + 1)))) * (s.1 96 ((174 + (5 * a1)) + 4)))).tdiv 10) - (s.1 96 ((174 + (5 * a1)) + 2))) ∧ lf_w (((lf_w ((lf_w ((s.1 96 ((174 + (5 * a1)) + 3)) * (s.1 96 ((174 + (5 * a1)) + 1)))) * (s.1 96 ((174 + (5 * a1)) + 4)))).tdiv 10) - (s.1 96 ((174 + (5 * a1)) + 2))) ≤ 2147483647 := lf_wB
  exact hQ (lf_w (((lf_w ((lf_w ((s.1 96 ((174 + (5 * a1)) + 3)) * (s.1 96 ((174 + (5 * a1)) + 1)))) * (s.1 96 ((174 + (5 * a1)) + 4)))).tdiv 10) - (s.1 96 ((174 + (5 * a1)) + 2)))) (show (-2147483648 : Int) ≤ lf_w (((lf_w ((lf_w ((s.1 96 ((174 + (5 * a1)) + 3)) * (s.1 96 ((174 + (5 * a1)) + 1)))) * (s.1 96 ((174 + (5 * a1)) + 4)))).tdiv 10) - (s.1 96 ((174 + (5 * a1)) + 2))) ∧ lf_w (((lf_w ((lf_w ((s.1 96 ((174 + (5 * a1)) + 3)) * (s.1 96 ((174 + (5 * a1)) + 1)))) * (s.1 96 ((174 + (5 * a1)) + 4)))).tdiv 10) - (s.1 96 ((174 + (5 * a1)) + 2))) ≤ (2147483647 : Int) from by omega)
-- fm_319 Model.saved 95 i
theorem sm_319_p98 {X48 : Int → Int → Int → lf_Z → Prop} {Q : Int → lf_Z → Prop} {x2 : Int} {x3 : Int} {x4 : Int} {s : lf_Z} (hQ : ∀ (r : Int), ((-2147483648) ≤ r ∧ r ≤ 2147483647) → Q r s) {M48 : Nat} (hX48 : ∀ (x2 : Int) (x3 : Int) (x4 : Int), (-1) ≤ x2 ∧ x2 ≤ 15 → (-2147483648) ≤ x3 ∧ x3 ≤ 2147483647 → 0 ≤ x4 ∧ x4 ≤ 16 → (16 - x4).toNat < M48 → X48 x2 x3 x4 s) (hM48 : (16 - x4).toNat ≤ M48) (hI : iv_A s.1 s.2.2) (bx2 : (-1) ≤ x2 ∧ x2 ≤ 15) (bx3 : (-2147483648) ≤ x3 ∧ x3 ≤ 2147483647) (bx4 : 0 ≤ x4 ∧ x4 ≤ 15) : fm_319_p98 X48 Q x2 x3 x4 s := by
  unfold fm_319_p98
  exact hX48 (x2) (x3) (x4 + 1) (show (-1 : Int) ≤ x2 ∧ x2 ≤ (15 : Int) from by omega) (show (-2147483648 : Int) ≤ x3 ∧ x3 ≤ (2147483647 : Int) from by omega) (show (0 : Int) ≤ x4 + 1 ∧ x4 + 1 ≤ (16 : Int) from by omega) (show (16 - (x4 + 1)).toNat < M48 from by omega)
theorem sm_319_p48 {X48 : Int → Int → Int → lf_Z → Prop} {Q : Int → lf_Z → Prop} {x2 : Int} {x3 : Int} {x4 : Int} {s : lf_Z} (hQ : ∀ (r : Int), ((-2147483648) ≤ r ∧ r ≤ 2147483647) → Q r s) {M48 : Nat} (hX48 : ∀ (x2 : Int) (x3 : Int) (x4 : Int), (-1) ≤ x2 ∧ x2 ≤ 15 → (-2147483648) ≤ x3 ∧ x3 ≤ 2147483647 → 0 ≤ x4 ∧ x4 ≤ 16 → (16 - x4).toNat < M48 → X48 x2 x3 x4 s) (hM48 : (16 - x4).toNat ≤ M48) (hI : iv_A s.1 s.2.2) (bx2 : (-1) ≤ x2 ∧ x2 ≤ 15) (bx3 : (-2147483648) ≤ x3 ∧ x3 ≤ 2147483647) (bx4 : 0 ≤ x4 ∧ x4 ≤ 16) : fm_319_p48 Q X48 x2 x3 x4 s := by
  unfold fm_319_p48
  have b2 : 0 ≤ s.1 96 1 ∧ s.1 96 1 ≤ 16 := iv_rd96 hI (iv_fd6ad3e54 (by omega))
  have b3 : s.1 96 1 ≤ 0 ∨ 0 < s.1 96 0 := (show s.1 96 1 ≤ 0 ∨ 0 < s.1 96 0 from iv_l96_1 hI)
  refine ⟨(show lf_R x4 from lf_Rof (by omega)), ?_⟩
  refine ⟨(show lf_R (s.1 96 1) from lf_Rof (by omega)), ?_⟩
  refine ⟨fun c4 => ?_, fun c4 => ?_⟩
  · skip
    replace c4 : s.1 96 1 ≤ x4 := c4
    exact hQ x2 (show (-2147483648 : Int) ≤ x2 ∧ x2 ≤ (2147483647 : Int) from by omega)
  · skip
    replace c4 : ¬ (s.1 96 1 ≤ x4) := c4
    refine ⟨(show (0 : Int) ≤ 174 + (5 * x4) ∧ 174 + (5 * x4) < (1538 : Int) from by omega), ?_⟩
    have b5 : (-2147483648) ≤ s.1 96 (174 + (5 * x4)) ∧ s.1 96 (174 + (5 * x4)) ≤ 2147483647 := iv_full hI
    refine ⟨(show lf_R (s.1 96 (174 + (5 * x4))) from lf_Rof (by omega)), ?_⟩
    refine ⟨fun c6 => ?_, fun c6 => ?_⟩
    · skip
      replace c6 : s.1 96 (174 + (5 * x4)) = 0 := c6
      exact sm_319_p98 hQ hX48 (show (16 - x4).toNat ≤ M48 from by omega) hI (show (-1 : Int) ≤ x2 ∧ x2 ≤ (15 : Int) from by omega) (show (-2147483648 : Int) ≤ x3 ∧ x3 ≤ (2147483647 : Int) from by omega) (show (0 : Int) ≤ x4 ∧ x4 ≤ (15 : Int) from by omega)
    · skip
      replace c6 : ¬ (s.1 96 (174 + (5 * x4)) = 0) := c6
      refine sm_320 hI (show (0 : Int) ≤ x4 ∧ x4 ≤ (15 : Int) from by omega) (fun r27 q7 => ?_)
      refine ⟨(show lf_R r27 from lf_Rof (by omega)), ?_⟩
      refine ⟨(show lf_R x3 from lf_Rof (by omega)), ?_⟩
      refine ⟨fun c8 => ?_, fun c8 => ?_⟩
      · skip
        replace c8 : x3 < r27 := c8
        refine sm_320 hI (show (0 : Int) ≤ x4 ∧ x4 ≤ (15 : Int) from by omega) (fun r31 q9 => ?_)
        exact sm_319_p98 hQ hX48 (show (16 - x4).toNat ≤ M48 from by omega) hI (show (-1 : Int) ≤ x4 ∧ x4 ≤ (15 : Int) from by omega) (show (-2147483648 : Int) ≤ r31 ∧ r31 ≤ (2147483647 : Int) from by omega) (show (0 : Int) ≤ x4 ∧ x4 ≤ (15 : Int) from by omega)
      · skip
        replace c8 : ¬ (x3 < r27) := c8
        exact sm_319_p98 hQ hX48 (show (16 - x4).toNat ≤ M48 from by omega) hI (show (-1 : Int) ≤ x2 ∧ x2 ≤ (15 : Int) from by omega) (show (-2147483648 : Int) ≤ x3 ∧ x3 ≤ (2147483647 : Int) from by omega) (show (0 : Int) ≤ x4 ∧ x4 ≤ (15 : Int) from by omega)
theorem sm_319_p48L {Q : Int → lf_Z → Prop} {x2 : Int} {x3 : Int} {x4 : Int} {s : lf_Z} (hQ : ∀ (r : Int), ((-2147483648) ≤ r ∧ r ≤ 2147483647) → Q r s) (hI : iv_A s.1 s.2.2) (bx2 : (-1) ≤ x2 ∧ x2 ≤ 15) (bx3 : (-2147483648) ≤ x3 ∧ x3 ≤ 2147483647) (bx4 : 0 ≤ x4 ∧ x4 ≤ 16) : fm_319_p48L Q x2 x3 x4 s := by
  intro X48 hX
  have key : ∀ (m9 : Nat) (x2 : Int) (x3 : Int) (x4 : Int), (-1) ≤ x2 ∧ x2 ≤ 15 → (-2147483648) ≤ x3 ∧ x3 ≤ 2147483647 → 0 ≤ x4 ∧ x4 ≤ 16 → (16 - x4).toNat < m9 → X48 x2 x3 x4 s := by
    intro m9
    induction m9 with
    | zero => intro x2 x3 x4 bx2 bx3 bx4 h9; exact absurd h9 (Nat.not_lt_zero _)
    | succ m9 ih => intro x2 x3 x4 bx2 bx3 bx4 h9; exact hX _ _ _ _ (sm_319_p48 hQ   (fun x2' x3' x4' bx2' bx3' bx4' h8 => ih x2' x3' x4' bx2' bx3' bx4' (by omega)) (Nat.le_refl _)  hI  bx2 bx3 bx4  )
  exact key _ _ _ _ bx2 bx3 bx4   (Nat.lt_succ_self _)
theorem sm_319 {a1 : Int} {Q : Int → lf_Z → Prop} {s : lf_Z} (hI : iv_A s.1 s.2.2) (ba1 : (-2147483648) ≤ a1 ∧ a1 ≤ 2147483647) (hQ : ∀ (r : Int), ((-2147483648) ≤ r ∧ r ≤ 2147483647) → Q r s) : fm_319 a1 Q s := by
  unfold fm_319
  refine ⟨(show lf_R a1 from lf_Rof (by omega)), ?_⟩
  refine ⟨fun c1 => ?_, fun c1 => ?_⟩
  · skip
    replace c1 : a1 = (-1) := c1
    exact sm_319_p48L hQ hI (show (-1 : Int) ≤ (-1) ∧ (-1) ≤ (15 : Int) from by omega) (show (-2147483648 : Int) ≤ 0 ∧ 0 ≤ (2147483647 : Int) from by omega) (show (0 : Int) ≤ 0 ∧ 0 ≤ (16 : Int) from by omega)
  · skip
    replace c1 : ¬ (a1 = (-1)) := c1
    refine sm_251 hI (show (-2147483648 : Int) ≤ a1 ∧ a1 ≤ (2147483647 : Int) from by omega) (fun z33 q10 => ?_)
    have b11 : 0 ≤ s.1 96 1 ∧ s.1 96 1 ≤ 16 := iv_rd96 hI (iv_fd6ad3e54 (by omega))
    have b12 : s.1 96 1 ≤ 0 ∨ 0 < s.1 96 0 := (show s.1 96 1 ≤ 0 ∨ 0 < s.1 96 0 from iv_l96_1 hI)
    refine ⟨fun c13 => ?_, fun c13 => ?_⟩
    · skip
      have dc13 := q10.2 c13
      exact hQ (-10000) (show (-2147483648 : Int) ≤ (-10000) ∧ (-10000) ≤ (2147483647 : Int) from by omega)
    · skip
      have dc13 := q10.1 c13
      refine ⟨(show (0 : Int) ≤ 174 + (5 * a1) ∧ 174 + (5 * a1) < (1538 : Int) from by omega), ?_⟩
      have b14 : (-2147483648) ≤ s.1 96 (174 + (5 * a1)) ∧ s.1 96 (174 + (5 * a1)) ≤ 2147483647 := iv_full hI
      refine ⟨(show lf_R (s.1 96 (174 + (5 * a1))) from lf_Rof (by omega)), ?_⟩
      refine ⟨fun c15 => ?_, fun c15 => ?_⟩
      · skip
        replace c15 : s.1 96 (174 + (5 * a1)) ≠ 1 := c15
        exact hQ (-10000) (show (-2147483648 : Int) ≤ (-10000) ∧ (-10000) ≤ (2147483647 : Int) from by omega)
      · skip
        replace c15 : ¬ (s.1 96 (174 + (5 * a1)) ≠ 1) := c15
        refine sm_320 hI (show (0 : Int) ≤ a1 ∧ a1 ≤ (15 : Int) from by omega) (fun r37 q16 => ?_)
        exact hQ r37 (show (-2147483648 : Int) ≤ r37 ∧ r37 ≤ (2147483647 : Int) from by omega)
-- fm_65c Stand.sum 29
theorem sm_65c_p10 {X10 : Int → Int → lf_Z → Prop} {Q : Int → lf_Z → Prop} {x1 : Int} {x3 : Int} {x4 : Int} {s : lf_Z} (hQ : ∀ (r : Int), ((-2147483648) ≤ r ∧ r ≤ 2147483647) → Q r s) {M10 : Nat} (hX10 : ∀ (x1 : Int) (x4 : Int), (-2147483648) ≤ x1 ∧ x1 ≤ 2147483647 → 0 ≤ x4 ∧ x4 ≤ 4 → (4 - x4).toNat < M10 → X10 x1 x4 s) (hM10 : (4 - x4).toNat ≤ M10) (hI : iv_A s.1 s.2.2) (bx1 : (-2147483648) ≤ x1 ∧ x1 ≤ 2147483647) (bx3 : 4 ≤ x3 ∧ x3 ≤ 4) (bx4 : 0 ≤ x4 ∧ x4 ≤ 4) : fm_65c_p10 Q x3 X10 x1 x4 s := by
  unfold fm_65c_p10
  refine ⟨(show lf_R x4 from lf_Rof (by omega)), ?_⟩
  refine ⟨(show lf_R x3 from lf_Rof (by omega)), ?_⟩
  refine ⟨fun c1 => ?_, fun c1 => ?_⟩
  · skip
    replace c1 : x3 ≤ x4 := c1
    exact hQ x1 (show (-2147483648 : Int) ≤ x1 ∧ x1 ≤ (2147483647 : Int) from by omega)
  · skip
    replace c1 : ¬ (x3 ≤ x4) := c1
    refine ⟨(show (0 : Int) ≤ x4 ∧ x4 < (4 : Int) from by omega), ?_⟩
    have b2 : (-2147483648) ≤ s.1 29 x4 ∧ s.1 29 x4 ≤ 2147483647 := iv_full hI
    have b3 : (-2147483648) ≤ lf_w (x1 + (s.1 29 x4)) ∧ lf_w (x1 + (s.1 29 x4)) ≤ 2147483647 := lf_wB
    exact hX10 (lf_w (x1 + (s.1 29 x4))) (x4 + 1) (show (-2147483648 : Int) ≤ lf_w (x1 + (s.1 29 x4)) ∧ lf_w (x1 + (s.1 29 x4)) ≤ (2147483647 : Int) from by omega) (show (0 : Int) ≤ x4 + 1 ∧ x4 + 1 ≤ (4 : Int) from by omega) (show (4 - (x4 + 1)).toNat < M10 from by omega)
theorem sm_65c_p10L {Q : Int → lf_Z → Prop} {x1 : Int} {x3 : Int} {x4 : Int} {s : lf_Z} (hQ : ∀ (r : Int), ((-2147483648) ≤ r ∧ r ≤ 2147483647) → Q r s) (hI : iv_A s.1 s.2.2) (bx1 : (-2147483648) ≤ x1 ∧ x1 ≤ 2147483647) (bx3 : 4 ≤ x3 ∧ x3 ≤ 4) (bx4 : 0 ≤ x4 ∧ x4 ≤ 4) : fm_65c_p10L Q x1 x3 x4 s := by
  intro X10 hX
  have key : ∀ (m9 : Nat) (x1 : Int) (x4 : Int), (-2147483648) ≤ x1 ∧ x1 ≤ 2147483647 → 0 ≤ x4 ∧ x4 ≤ 4 → (4 - x4).toNat < m9 → X10 x1 x4 s := by
    intro m9
    induction m9 with
    | zero => intro x1 x4 bx1 bx4 h9; exact absurd h9 (Nat.not_lt_zero _)
    | succ m9 ih => intro x1 x4 bx1 bx4 h9; exact hX _ _ _ (sm_65c_p10 hQ   (fun x1' x4' bx1' bx4' h8 => ih x1' x4' bx1' bx4' (by omega)) (Nat.le_refl _)  hI  bx1 bx3 bx4  )
  exact key _ _ _ bx1 bx4   (Nat.lt_succ_self _)
theorem sm_65c {Q : Int → lf_Z → Prop} {s : lf_Z} (hI : iv_A s.1 s.2.2) (hQ : ∀ (r : Int), ((-2147483648) ≤ r ∧ r ≤ 2147483647) → Q r s) : fm_65c Q s := by
  unfold fm_65c
  exact sm_65c_p10L hQ hI (show (-2147483648 : Int) ≤ 0 ∧ 0 ≤ (2147483647 : Int) from by omega) (show (4 : Int) ≤ 4 ∧ 4 ≤ (4 : Int) from by omega) (show (0 : Int) ≤ 0 ∧ 0 ≤ (4 : Int) from by omega)
-- fm_168 Notes.allTries 25
theorem sm_168 {Q : Int → lf_Z → Prop} {s : lf_Z} (hI : iv_A s.1 s.2.2) (hQ : ∀ (r : Int), ((-2147483648) ≤ r ∧ r ≤ 2147483647) → Q r s) : fm_168 Q s := by
  unfold fm_168
  refine sm_65c hI (fun r22 q1 => ?_)
  exact hQ r22 (show (-2147483648 : Int) ≤ r22 ∧ r22 ≤ (2147483647 : Int) from by omega)
-- fm_167 Notes.forgetTries 25
theorem sm_167 {Q : lf_Z → Prop} {s : lf_Z} (hI : iv_A s.1 s.2.2) (hQ : ∀  (s' : lf_Z), iv_A s'.1 s'.2.2 → lf_fq [29, 30] 1000000 true s.1 s.2.2 s'.1 s'.2.2 → Q  s') : fm_167 Q s := by
  unfold fm_167
  have hI1 : iv_A (lf_fl s.1 29 4 0) s.2.2 := iv_fl29 hI (by omega)
  have fr2 : lf_fq [29, 30] 1000000 true s.1 s.2.2 (lf_fl s.1 29 4 0) s.2.2 := lf_fq_fl (lf_fq_rf) rfl (by decide)
  have hI3 : iv_A (lf_fl (lf_fl s.1 29 4 0) 30 4 0) s.2.2 := iv_fl30 hI1 (by omega)
  have fr4 : lf_fq [29, 30] 1000000 true s.1 s.2.2 (lf_fl (lf_fl s.1 29 4 0) 30 4 0) s.2.2 := lf_fq_fl fr2 rfl (by decide)
  exact hQ (lf_fl (lf_fl s.1 29 4 0) 30 4 0, s.2.1, s.2.2) hI3 fr4
-- fm_166 ElevenBullocks.tried 0 i i
theorem sm_166_p70 {Q : Int → lf_Z → Prop} {y1 : Int} {y2 : Int} {y3 : Int} {s : lf_Z} (hQ : ∀ (r : Int) (s' : lf_Z), iv_A s'.1 s'.2.2 → lf_fq [29, 30] 1000000 true s.1 s.2.2 s'.1 s'.2.2 → ((-2147483648) ≤ r ∧ r ≤ 2147483647) → Q r s') (hI : iv_A s.1 s.2.2) (by1 : 0 ≤ y1 ∧ y1 ≤ 3) (by2 : (-2147483648) ≤ y2 ∧ y2 ≤ 2147483647) (by3 : 0 ≤ y3 ∧ y3 ≤ 1) : fm_166_p70 Q y1 y2 y3 s := by
  unfold fm_166_p70
  have b12 : (-2147483648) ≤ lf_w (y2 + y3) ∧ lf_w (y2 + y3) ≤ 2147483647 := lf_wB
  refine ⟨(show (0 : Int) ≤ y1 ∧ y1 < (4 : Int) from by omega), ?_⟩
  have hI13 : iv_A (lf_up s.1 30 y1 (lf_w (y2 + y3))) s.2.2 := iv_w30 hI (by omega)
  have fr14 : lf_fq [29, 30] 1000000 true s.1 s.2.2 (lf_up s.1 30 y1 (lf_w (y2 + y3))) s.2.2 := lf_fq_up (lf_fq_rf) rfl (fun h => absurd h (by decide))
  refine sm_168 hI13 (fun r31 q15 => ?_)
  exact hQ r31 (lf_up s.1 30 y1 (lf_w (y2 + y3)), s.2.1, s.2.2) hI13 fr14 (show (-2147483648 : Int) ≤ r31 ∧ r31 ≤ (2147483647 : Int) from by omega)
theorem sm_166 {a1 : Int} {a2 : Int} {Q : Int → lf_Z → Prop} {s : lf_Z} (hI : iv_A s.1 s.2.2) (ba1 : (-2147483648) ≤ a1 ∧ a1 ≤ 2147483647) (ba2 : 0 ≤ a2 ∧ a2 ≤ 1) (hQ : ∀ (r : Int) (s' : lf_Z), iv_A s'.1 s'.2.2 → lf_fq [29, 30] 1000000 true s.1 s.2.2 s'.1 s'.2.2 → ((-2147483648) ≤ r ∧ r ≤ 2147483647) → Q r s') : fm_166 a1 a2 Q s := by
  unfold fm_166
  refine ⟨(show lf_R a1 from lf_Rof (by omega)), ?_⟩
  refine ⟨fun c1 => ?_, fun c1 => ?_⟩
  · skip
    replace c1 : a1 ≠ (-1) := c1
    refine sm_15 hI (show (-2147483648 : Int) ≤ a1 ∧ a1 ≤ (2147483647 : Int) from by omega) (show (-1 : Int) ≤ 0 ∧ 0 ≤ (99 : Int) from by omega) (show (-2147483648 : Int) ≤ 3 ∧ 3 ≤ (2147483647 : Int) from by omega) (fun z23 q2 => ?_)
    refine ⟨fun c3 => ?_, fun c3 => ?_⟩
    · skip
      have dc3 := q2.2 c3
      exact hQ (-2) s hI (lf_fq_rf) (show (-2147483648 : Int) ≤ (-2) ∧ (-2) ≤ (2147483647 : Int) from by omega)
    · skip
      have dc3 := q2.1 c3
      refine sm_168 hI (fun r25 q4 => ?_)
      refine ⟨(show lf_R r25 from lf_Rof (by omega)), ?_⟩
      refine ⟨fun c5 => ?_, fun c5 => ?_⟩
      · skip
        replace c5 : r25 < 12 := c5
        refine ⟨(show (0 : Int) ≤ a1 ∧ a1 < (4 : Int) from by omega), ?_⟩
        have b6 : (-2147483648) ≤ s.1 29 a1 ∧ s.1 29 a1 ≤ 2147483647 := iv_full hI
        have b7 : (-2147483648) ≤ lf_w ((s.1 29 a1) + 1) ∧ lf_w ((s.1 29 a1) + 1) ≤ 2147483647 := lf_wB
        have hI8 : iv_A (lf_up s.1 29 a1 (lf_w ((s.1 29 a1) + 1))) s.2.2 := iv_w29 hI (by omega)
        have fr9 : lf_fq [29, 30] 1000000 true s.1 s.2.2 (lf_up s.1 29 a1 (lf_w ((s.1 29 a1) + 1))) s.2.2 := lf_fq_up (lf_fq_rf) rfl (fun h => absurd h (by decide))
        have b10 : (-2147483648) ≤ s.1 30 a1 ∧ s.1 30 a1 ≤ 2147483647 := (show (-2147483648) ≤ (lf_up s.1 29 a1 (lf_w ((s.1 29 a1) + 1))) 30 a1 ∧ (lf_up s.1 29 a1 (lf_w ((s.1 29 a1) + 1))) 30 a1 ≤ 2147483647 from iv_full hI8)
        refine ⟨(show lf_R a2 from lf_Rof (by omega)), ?_⟩
        refine ⟨fun c11 => ?_, fun c11 => ?_⟩
        · skip
          replace c11 : a2 = 0 := c11
          exact sm_166_p70 (fun r9 t9 i9 f9 => hQ r9 t9 i9 (lf_fq_tr fr9 f9)) hI8 (show (0 : Int) ≤ a1 ∧ a1 ≤ (3 : Int) from by omega) (show (-2147483648 : Int) ≤ s.1 30 a1 ∧ s.1 30 a1 ≤ (2147483647 : Int) from by omega) (show (0 : Int) ≤ 0 ∧ 0 ≤ (1 : Int) from by omega)
        · skip
          replace c11 : ¬ (a2 = 0) := c11
          exact sm_166_p70 (fun r9 t9 i9 f9 => hQ r9 t9 i9 (lf_fq_tr fr9 f9)) hI8 (show (0 : Int) ≤ a1 ∧ a1 ≤ (3 : Int) from by omega) (show (-2147483648 : Int) ≤ s.1 30 a1 ∧ s.1 30 a1 ≤ (2147483647 : Int) from by omega) (show (0 : Int) ≤ 1 ∧ 1 ≤ (1 : Int) from by omega)
      · skip
        replace c5 : ¬ (r25 < 12) := c5
        exact hQ (-2) s hI (lf_fq_rf) (show (-2147483648 : Int) ≤ (-2) ∧ (-2) ≤ (2147483647 : Int) from by omega)
  · skip
    replace c1 : ¬ (a1 ≠ (-1)) := c1
    refine sm_167 hI (fun s32 hI17 fr16 => ?_)
    have fr19 : lf_fq [29, 30] 1000000 true s.1 s.2.2 s32.1 s32.2.2 := lf_fq_tr (lf_fq_rf) (lf_fq_wk fr16 rfl (by decide) (by decide))
    exact hQ 0 s32 hI17 fr19 (show (-2147483648 : Int) ≤ 0 ∧ 0 ≤ (2147483647 : Int) from by omega)
-- fm_321 Model.tried 95 i i
theorem sm_321_p86 {Q : Int → lf_Z → Prop} {y1 : Int} {y2 : Int} {s : lf_Z} (hQ : ∀ (r : Int) (s' : lf_Z), iv_A s'.1 s'.2.2 → lf_fq [96, 1000] 11 true s.1 s.2.2 s'.1 s'.2.2 → ((-2) ≤ r ∧ r ≤ 13) → Q r s') (hI : iv_A s.1 s.2.2) (by1 : 255 ≤ y1 ∧ y1 ≤ 277) (by2 : 0 ≤ y2 ∧ y2 ≤ 1) (kv0 : s.1 96 11 < 12) : fm_321_p86 Q y1 y2 s := by
  unfold fm_321_p86
  refine ⟨(show (0 : Int) ≤ y1 ∧ y1 < (1538 : Int) from by omega), ?_⟩
  have hI11 : iv_A (lf_up s.1 96 y1 y2) s.2.2 := iv_wd96 hI (lf_le2 (iv_f84ea52dc (y1) (by omega) (by omega)) (by omega)) (fun h => absurd h (by omega))
  have fr12 : lf_fq [96, 1000] 11 true s.1 s.2.2 (lf_up s.1 96 y1 y2) s.2.2 := lf_fq_up (lf_fq_rf) rfl (fun _ => ⟨by omega, fr_o (Or.inl rfl) (Or.inr (fr_n1 (by omega))) (Or.inr (fr_n2 (by omega))) (Or.inr (fr_n3 (by omega))) (Or.inr (fr_n4 (by omega))) (Or.inr (fr_n5 (by omega))) (Or.inr (fr_n6 (by omega)))⟩)
  have b13 : 0 ≤ (lf_up s.1 96 y1 y2) 96 11 ∧ (lf_up s.1 96 y1 y2) 96 11 ≤ 12 := iv_rd96 hI11 (iv_f6cd46d53 (by omega))
  have b14 : (lf_up s.1 96 y1 y2) 96 11 = s.1 96 11 := lf_up_i (by omega)
  have hI15 : iv_A (lf_up (lf_up s.1 96 y1 y2) 96 11 (((lf_up s.1 96 y1 y2) 96 11) + 1)) s.2.2 := iv_wd96 hI11 (lf_le2 (iv_f9442898f (by omega)) (by omega)) (fun h => absurd h (by omega))
  have fr16 : lf_fq [96, 1000] 11 true s.1 s.2.2 (lf_up (lf_up s.1 96 y1 y2) 96 11 (((lf_up s.1 96 y1 y2) 96 11) + 1)) s.2.2 := lf_fq_up fr12 rfl (fun _ => ⟨by omega, fr_o (Or.inl rfl) (Or.inr (fr_n1 (by omega))) (Or.inr (fr_n2 (by omega))) (Or.inr (fr_n3 (by omega))) (Or.inr (fr_n4 (by omega))) (Or.inr (fr_n5 (by omega))) (Or.inr (fr_n6 (by omega)))⟩)
  exact hQ (((lf_up s.1 96 y1 y2) 96 11) + 1) (lf_up (lf_up s.1 96 y1 y2) 96 11 (((lf_up s.1 96 y1 y2) 96 11) + 1), s.2.1, s.2.2) hI15 fr16 (show (-2 : Int) ≤ ((lf_up s.1 96 y1 y2) 96 11) + 1 ∧ ((lf_up s.1 96 y1 y2) 96 11) + 1 ≤ (13 : Int) from by omega)
theorem sm_321 {a1 : Int} {a2 : Int} {Q : Int → lf_Z → Prop} {s : lf_Z} (hI : iv_A s.1 s.2.2) (ba1 : (-2147483648) ≤ a1 ∧ a1 ≤ 2147483647) (ba2 : 0 ≤ a2 ∧ a2 ≤ 1) (hQ : ∀ (r : Int) (s' : lf_Z), iv_A s'.1 s'.2.2 → lf_fq [96, 1000] 11 true s.1 s.2.2 s'.1 s'.2.2 → ((-2) ≤ r ∧ r ≤ 13) → Q r s') : fm_321 a1 a2 Q s := by
  unfold fm_321
  refine ⟨(show lf_R a1 from lf_Rof (by omega)), ?_⟩
  refine ⟨fun c1 => ?_, fun c1 => ?_⟩
  · skip
    replace c1 : a1 ≠ (-1) := c1
    refine sm_183 hI (show (-2147483648 : Int) ≤ a1 ∧ a1 ≤ (2147483647 : Int) from by omega) (show (-1 : Int) ≤ 0 ∧ 0 ≤ (97 : Int) from by omega) (show (-1 : Int) ≤ 3 ∧ 3 ≤ (9999 : Int) from by omega) (fun z23 q2 => ?_)
    refine ⟨fun c3 => ?_, fun c3 => ?_⟩
    · skip
      have dc3 := q2.2 c3
      exact hQ (-2) s hI (lf_fq_rf) (show (-2 : Int) ≤ (-2) ∧ (-2) ≤ (13 : Int) from by omega)
    · skip
      have dc3 := q2.1 c3
      have b4 : 0 ≤ s.1 96 11 ∧ s.1 96 11 ≤ 12 := iv_rd96 hI (iv_f6cd46d53 (by omega))
      refine ⟨(show lf_R (s.1 96 11) from lf_Rof (by omega)), ?_⟩
      refine ⟨fun c5 => ?_, fun c5 => ?_⟩
      · skip
        replace c5 : s.1 96 11 ≠ 12 := c5
        refine ⟨(show (0 : Int) ≤ 254 + (2 * (s.1 96 11)) ∧ 254 + (2 * (s.1 96 11)) < (1538 : Int) from by omega), ?_⟩
        have hI6 : iv_A (lf_up s.1 96 (254 + (2 * (s.1 96 11))) a1) s.2.2 := iv_wd96 hI (lf_le2 (iv_fd5258eed (s.1 96 11) (by omega) (by omega)) (by omega)) (fun h => absurd h (by omega))
        have fr7 : lf_fq [96, 1000] 11 true s.1 s.2.2 (lf_up s.1 96 (254 + (2 * (s.1 96 11))) a1) s.2.2 := lf_fq_up (lf_fq_rf) rfl (fun _ => ⟨by omega, fr_o (Or.inl rfl) (Or.inr (fr_n1 (by omega))) (Or.inr (fr_n2 (by omega))) (Or.inr (fr_n3 (by omega))) (Or.inr (fr_n4 (by omega))) (Or.inr (fr_n5 (by omega))) (Or.inr (fr_n6 (by omega)))⟩)
        have b8 : 0 ≤ (lf_up s.1 96 (254 + (2 * (s.1 96 11))) a1) 96 11 ∧ (lf_up s.1 96 (254 + (2 * (s.1 96 11))) a1) 96 11 ≤ 12 := iv_rd96 hI6 (iv_f6cd46d53 (by omega))
        have b9 : (lf_up s.1 96 (254 + (2 * (s.1 96 11))) a1) 96 11 = s.1 96 11 := lf_up_i (by omega)
        refine ⟨(show lf_R a2 from lf_Rof (by omega)), ?_⟩
        refine ⟨fun c10 => ?_, fun c10 => ?_⟩
        · skip
          replace c10 : a2 = 0 := c10
          exact sm_321_p86 (fun r9 t9 i9 f9 => hQ r9 t9 i9 (lf_fq_tr fr7 f9)) hI6 (show (255 : Int) ≤ (254 + (2 * ((lf_up s.1 96 (254 + (2 * (s.1 96 11))) a1) 96 11))) + 1 ∧ (254 + (2 * ((lf_up s.1 96 (254 + (2 * (s.1 96 11))) a1) 96 11))) + 1 ≤ (277 : Int) from by omega) (show (0 : Int) ≤ 0 ∧ 0 ≤ (1 : Int) from by omega) (show ((lf_up s.1 96 (254 + (2 * (s.1 96 11))) a1) 96 11) < 12 from by omega)
        · skip
          replace c10 : ¬ (a2 = 0) := c10
          exact sm_321_p86 (fun r9 t9 i9 f9 => hQ r9 t9 i9 (lf_fq_tr fr7 f9)) hI6 (show (255 : Int) ≤ (254 + (2 * ((lf_up s.1 96 (254 + (2 * (s.1 96 11))) a1) 96 11))) + 1 ∧ (254 + (2 * ((lf_up s.1 96 (254 + (2 * (s.1 96 11))) a1) 96 11))) + 1 ≤ (277 : Int) from by omega) (show (0 : Int) ≤ 1 ∧ 1 ≤ (1 : Int) from by omega) (show ((lf_up s.1 96 (254 + (2 * (s.1 96 11))) a1) 96 11) < 12 from by omega)
      · skip
        replace c5 : ¬ (s.1 96 11 ≠ 12) := c5
        exact hQ (-2) s hI (lf_fq_rf) (show (-2 : Int) ≤ (-2) ∧ (-2) ≤ (13 : Int) from by omega)
  · skip
    replace c1 : ¬ (a1 ≠ (-1)) := c1
    have hI17 : iv_A (lf_up s.1 96 11 0) s.2.2 := iv_wd96 hI (lf_le2 (iv_f9442898f (by omega)) (by omega)) (fun h => absurd h (by omega))
    have fr18 : lf_fq [96, 1000] 11 true s.1 s.2.2 (lf_up s.1 96 11 0) s.2.2 := lf_fq_up (lf_fq_rf) rfl (fun _ => ⟨by omega, fr_o (Or.inl rfl) (Or.inr (fr_n1 (by omega))) (Or.inr (fr_n2 (by omega))) (Or.inr (fr_n3 (by omega))) (Or.inr (fr_n4 (by omega))) (Or.inr (fr_n5 (by omega))) (Or.inr (fr_n6 (by omega)))⟩)
    exact hQ 0 (lf_up s.1 96 11 0, s.2.1, s.2.2) hI17 fr18 (show (-2 : Int) ≤ 0 ∧ 0 ≤ (13 : Int) from by omega)
-- fm_169 ElevenBullocks.turned 0 i i
theorem sm_169 {a1 : Int} {a2 : Int} {Q : Int → lf_Z → Prop} {s : lf_Z} (hI : iv_A s.1 s.2.2) (ba1 : (-2147483648) ≤ a1 ∧ a1 ≤ 2147483647) (ba2 : 0 ≤ a2 ∧ a2 ≤ 1) (hQ : ∀ (r : Int), ((-2147483648) ≤ r ∧ r ≤ 2147483647) → Q r s) : fm_169 a1 a2 Q s := by
  unfold fm_169
  refine sm_15 hI (show (-2147483648 : Int) ≤ a1 ∧ a1 ≤ (2147483647 : Int) from by omega) (show (-1 : Int) ≤ 0 ∧ 0 ≤ (99 : Int) from by omega) (show (-2147483648 : Int) ≤ 3 ∧ 3 ≤ (2147483647 : Int) from by omega) (fun z22 q1 => ?_)
  refine ⟨fun c2 => ?_, fun c2 => ?_⟩
  · skip
    have dc2 := q1.2 c2
    exact hQ (-1) (show (-2147483648 : Int) ≤ (-1) ∧ (-1) ≤ (2147483647 : Int) from by omega)
  · skip
    have dc2 := q1.1 c2
    refine ⟨(show (0 : Int) ≤ a1 ∧ a1 < (4 : Int) from by omega), ?_⟩
    have b3 : (-2147483648) ≤ s.1 29 a1 ∧ s.1 29 a1 ≤ 2147483647 := iv_full hI
    refine ⟨(show lf_R (s.1 29 a1) from lf_Rof (by omega)), ?_⟩
    refine ⟨fun c4 => ?_, fun c4 => ?_⟩
    · skip
      replace c4 : s.1 29 a1 ≠ 0 := c4
      have b5 : (-2147483648) ≤ s.1 30 a1 ∧ s.1 30 a1 ≤ 2147483647 := iv_full hI
      refine ⟨(show lf_R (s.1 30 a1) from lf_Rof (by omega)), ?_⟩
      refine sm_125 hI (show (0 : Int) ≤ a2 ∧ a2 ≤ (1 : Int) from by omega) (fun r27 => ?_)
      have b7 : (-2147483648) ≤ lf_w (lf_wl r27) ∧ lf_w (lf_wl r27) ≤ 2147483647 := lf_wB
      exact hQ (lf_w (lf_wl r27)) (show (-2147483648 : Int) ≤ lf_w (lf_wl r27) ∧ lf_w (lf_wl r27) ≤ (2147483647 : Int) from by omega)
    · skip
      replace c4 : ¬ (s.1 29 a1 ≠ 0) := c4
      exact hQ (-1) (show (-2147483648 : Int) ≤ (-1) ∧ (-1) ≤ (2147483647 : Int) from by omega)
-- fm_323 Model.timesOf 95 i i
theorem sm_323_p63 {X5 : Int → Int → lf_Z → Prop} {Q : Int → lf_Z → Prop} {x1 : Int} {x2 : Int} {x4 : Int} {y0 : Int} {y1 : Int} {s : lf_Z} {s0 : lf_Z} (hQ : ∀ (r : Int), (r = lf_tm (s.1 96) (x1) (x2) (s.1 96 11)) → (0 ≤ r ∧ r ≤ 12) → Q r s) {M5 : Nat} (hX5 : ∀ (x3 : Int) (x4 : Int), 0 ≤ x3 ∧ x3 ≤ 12 → 0 ≤ x4 ∧ x4 ≤ 12 → (x3 = lf_tm (s.1 96) (x1) (x2) (x4)) → (0 ≤ x3 ∧ x3 ≤ x4 ∧ x4 ≤ s.1 96 11) → (12 - x4).toNat < M5 → X5 x3 x4 s) (hM5 : (12 - x4).toNat ≤ M5) (hI : iv_A s.1 s.2.2) (bx1 : (-1) ≤ x1 ∧ x1 ≤ 3) (bx2 : 0 ≤ x2 ∧ x2 ≤ 1) (bx4 : 0 ≤ x4 ∧ x4 ≤ 11) (by0 : 0 ≤ y0 ∧ y0 ≤ 11) (by1 : 0 ≤ y1 ∧ y1 ≤ 1) (kv0 : lf_tm (s.1 96) (x1) (x2) (x4 + 1) = y0 + y1) (kv1 : 0 ≤ y0 ∧ y0 ≤ x4 ∧ x4 < s.1 96 11) : fm_323_p63 X5 Q x1 x2 x4 y0 y1 s := by
  unfold fm_323_p63
  have b10 : 0 ≤ s.1 96 11 ∧ s.1 96 11 ≤ 12 := iv_rd96 hI (iv_f6cd46d53 (by omega))
  have b11 : lf_tm ((s.1 96)) (x1) (x2) 0 = 0 := rfl
  exact hX5 (y0 + y1) (x4 + 1) (show (0 : Int) ≤ y0 + y1 ∧ y0 + y1 ≤ (12 : Int) from by omega) (show (0 : Int) ≤ x4 + 1 ∧ x4 + 1 ≤ (12 : Int) from by omega) (show (y0 + y1) = lf_tm ((s.1 96)) (x1) (x2) ((x4 + 1)) from by omega) (show 0 ≤ (y0 + y1) ∧ (y0 + y1) ≤ (x4 + 1) ∧ (x4 + 1) ≤ (s.1 96 11) from by omega) (show (12 - (x4 + 1)).toNat < M5 from by omega)
theorem sm_323_p62 {X5 : Int → Int → lf_Z → Prop} {Q : Int → lf_Z → Prop} {x1 : Int} {x2 : Int} {x4 : Int} {y0 : Int} {s : lf_Z} {s0 : lf_Z} (hQ : ∀ (r : Int), (r = lf_tm (s.1 96) (x1) (x2) (s.1 96 11)) → (0 ≤ r ∧ r ≤ 12) → Q r s) {M5 : Nat} (hX5 : ∀ (x3 : Int) (x4 : Int), 0 ≤ x3 ∧ x3 ≤ 12 → 0 ≤ x4 ∧ x4 ≤ 12 → (x3 = lf_tm (s.1 96) (x1) (x2) (x4)) → (0 ≤ x3 ∧ x3 ≤ x4 ∧ x4 ≤ s.1 96 11) → (12 - x4).toNat < M5 → X5 x3 x4 s) (hM5 : (12 - x4).toNat ≤ M5) (hI : iv_A s.1 s.2.2) (bx1 : (-1) ≤ x1 ∧ x1 ≤ 3) (bx2 : 0 ≤ x2 ∧ x2 ≤ 1) (bx4 : 0 ≤ x4 ∧ x4 ≤ 11) (by0 : 0 ≤ y0 ∧ y0 ≤ 11) (kv0 : lf_tm (s.1 96) (x1) (x2) (x4 + 1) = y0 + 0) (kv1 : 0 ≤ y0 ∧ y0 ≤ x4 ∧ x4 < s.1 96 11) : fm_323_p62 X5 Q x1 x2 x4 y0 s := by
  unfold fm_323_p62
  have b9 : 0 ≤ s.1 96 11 ∧ s.1 96 11 ≤ 12 := iv_rd96 hI (iv_f6cd46d53 (by omega))
  exact sm_323_p63 (s0 := s0) hQ hX5 (show (12 - x4).toNat ≤ M5 from by omega) hI (show (-1 : Int) ≤ x1 ∧ x1 ≤ (3 : Int) from by omega) (show (0 : Int) ≤ x2 ∧ x2 ≤ (1 : Int) from by omega) (show (0 : Int) ≤ x4 ∧ x4 ≤ (11 : Int) from by omega) (show (0 : Int) ≤ y0 ∧ y0 ≤ (11 : Int) from by omega) (show (0 : Int) ≤ 0 ∧ 0 ≤ (1 : Int) from by omega) (show lf_tm ((s.1 96)) (x1) (x2) (x4 + 1) = y0 + 0 from by omega) (show 0 ≤ y0 ∧ y0 ≤ x4 ∧ x4 < (s.1 96 11) from by omega)
theorem sm_323_p58 {X5 : Int → Int → lf_Z → Prop} {Q : Int → lf_Z → Prop} {x1 : Int} {x2 : Int} {x4 : Int} {y0 : Int} {s : lf_Z} {s0 : lf_Z} (hQ : ∀ (r : Int), (r = lf_tm (s.1 96) (x1) (x2) (s.1 96 11)) → (0 ≤ r ∧ r ≤ 12) → Q r s) {M5 : Nat} (hX5 : ∀ (x3 : Int) (x4 : Int), 0 ≤ x3 ∧ x3 ≤ 12 → 0 ≤ x4 ∧ x4 ≤ 12 → (x3 = lf_tm (s.1 96) (x1) (x2) (x4)) → (0 ≤ x3 ∧ x3 ≤ x4 ∧ x4 ≤ s.1 96 11) → (12 - x4).toNat < M5 → X5 x3 x4 s) (hM5 : (12 - x4).toNat ≤ M5) (hI : iv_A s.1 s.2.2) (bx1 : (-1) ≤ x1 ∧ x1 ≤ 3) (bx2 : 0 ≤ x2 ∧ x2 ≤ 1) (bx4 : 0 ≤ x4 ∧ x4 ≤ 11) (by0 : 0 ≤ y0 ∧ y0 ≤ 11) (kv0 : lf_tm (s.1 96) (x1) (x2) (x4 + 1) = y0 + 1) (kv1 : 0 ≤ y0 ∧ y0 ≤ x4 ∧ x4 < s.1 96 11) : fm_323_p58 X5 Q x1 x2 x4 y0 s := by
  unfold fm_323_p58
  have b14 : 0 ≤ s.1 96 11 ∧ s.1 96 11 ≤ 12 := iv_rd96 hI (iv_f6cd46d53 (by omega))
  exact sm_323_p63 (s0 := s0) hQ hX5 (show (12 - x4).toNat ≤ M5 from by omega) hI (show (-1 : Int) ≤ x1 ∧ x1 ≤ (3 : Int) from by omega) (show (0 : Int) ≤ x2 ∧ x2 ≤ (1 : Int) from by omega) (show (0 : Int) ≤ x4 ∧ x4 ≤ (11 : Int) from by omega) (show (0 : Int) ≤ y0 ∧ y0 ≤ (11 : Int) from by omega) (show (0 : Int) ≤ 1 ∧ 1 ≤ (1 : Int) from by omega) (show lf_tm ((s.1 96)) (x1) (x2) (x4 + 1) = y0 + 1 from by omega) (show 0 ≤ y0 ∧ y0 ≤ x4 ∧ x4 < (s.1 96 11) from by omega)
theorem sm_323_p5 {X5 : Int → Int → lf_Z → Prop} {Q : Int → lf_Z → Prop} {x1 : Int} {x2 : Int} {x3 : Int} {x4 : Int} {s : lf_Z} {s0 : lf_Z} (hQ : ∀ (r : Int), (r = lf_tm (s.1 96) (x1) (x2) (s.1 96 11)) → (0 ≤ r ∧ r ≤ 12) → Q r s) {M5 : Nat} (hX5 : ∀ (x3 : Int) (x4 : Int), 0 ≤ x3 ∧ x3 ≤ 12 → 0 ≤ x4 ∧ x4 ≤ 12 → (x3 = lf_tm (s.1 96) (x1) (x2) (x4)) → (0 ≤ x3 ∧ x3 ≤ x4 ∧ x4 ≤ s.1 96 11) → (12 - x4).toNat < M5 → X5 x3 x4 s) (hM5 : (12 - x4).toNat ≤ M5) (hI : iv_A s.1 s.2.2) (bx1 : (-1) ≤ x1 ∧ x1 ≤ 3) (bx2 : 0 ≤ x2 ∧ x2 ≤ 1) (bx3 : 0 ≤ x3 ∧ x3 ≤ 12) (bx4 : 0 ≤ x4 ∧ x4 ≤ 12) (kv0 : x3 = lf_tm (s.1 96) (x1) (x2) (x4)) (kv1 : 0 ≤ x3 ∧ x3 ≤ x4 ∧ x4 ≤ s.1 96 11) : fm_323_p5 Q x1 x2 X5 x3 x4 s := by
  unfold fm_323_p5
  have b3 : 0 ≤ s.1 96 11 ∧ s.1 96 11 ≤ 12 := iv_rd96 hI (iv_f6cd46d53 (by omega))
  refine ⟨(show lf_R x4 from lf_Rof (by omega)), ?_⟩
  refine ⟨(show lf_R (s.1 96 11) from lf_Rof (by omega)), ?_⟩
  refine ⟨fun c4 => ?_, fun c4 => ?_⟩
  · skip
    replace c4 : s.1 96 11 ≤ x4 := c4
    have b5 : lf_tm ((s.1 96)) (x1) (x2) (x4) = lf_tm ((s.1 96)) (x1) (x2) ((s.1 96 11)) := congrArg (lf_tm ((s.1 96)) x1 x2) (by omega)
    exact hQ x3 (show x3 = lf_tm ((s.1 96)) (x1) (x2) ((s.1 96 11)) from by omega) (show (0 : Int) ≤ x3 ∧ x3 ≤ (12 : Int) from by omega)
  · skip
    replace c4 : ¬ (s.1 96 11 ≤ x4) := c4
    refine ⟨(show (0 : Int) ≤ 254 + (2 * x4) ∧ 254 + (2 * x4) < (1538 : Int) from by omega), ?_⟩
    have b6 : (-2147483648) ≤ s.1 96 (254 + (2 * x4)) ∧ s.1 96 (254 + (2 * x4)) ≤ 2147483647 := iv_full hI
    refine ⟨(show lf_R (s.1 96 (254 + (2 * x4))) from lf_Rof (by omega)), ?_⟩
    refine ⟨(show lf_R x1 from lf_Rof (by omega)), ?_⟩
    refine ⟨fun c7 => ?_, fun c7 => ?_⟩
    · skip
      replace c7 : s.1 96 (254 + (2 * x4)) ≠ x1 := c7
      have b8 : lf_tm ((s.1 96)) (x1) (x2) (x4 + 1) = lf_tm ((s.1 96)) (x1) (x2) (x4) + 0 := lf_tm2 (by omega) (by omega)
      exact sm_323_p62 (s0 := s0) hQ hX5 (show (12 - x4).toNat ≤ M5 from by omega) hI (show (-1 : Int) ≤ x1 ∧ x1 ≤ (3 : Int) from by omega) (show (0 : Int) ≤ x2 ∧ x2 ≤ (1 : Int) from by omega) (show (0 : Int) ≤ x4 ∧ x4 ≤ (11 : Int) from by omega) (show (0 : Int) ≤ x3 ∧ x3 ≤ (11 : Int) from by omega) (show lf_tm ((s.1 96)) (x1) (x2) (x4 + 1) = x3 + 0 from by omega) (show 0 ≤ x3 ∧ x3 ≤ x4 ∧ x4 < (s.1 96 11) from by omega)
    · skip
      replace c7 : ¬ (s.1 96 (254 + (2 * x4)) ≠ x1) := c7
      refine ⟨(show lf_R x2 from lf_Rof (by omega)), ?_⟩
      refine ⟨fun c12 => ?_, fun c12 => ?_⟩
      · skip
        replace c12 : x2 = 0 := c12
        have b13 : lf_tm ((s.1 96)) (x1) (x2) (x4 + 1) = lf_tm ((s.1 96)) (x1) (x2) (x4) + 1 := lf_tm1 (by omega) (by omega)
        exact sm_323_p58 (s0 := s0) hQ hX5 (show (12 - x4).toNat ≤ M5 from by omega) hI (show (-1 : Int) ≤ x1 ∧ x1 ≤ (3 : Int) from by omega) (show (0 : Int) ≤ x2 ∧ x2 ≤ (1 : Int) from by omega) (show (0 : Int) ≤ x4 ∧ x4 ≤ (11 : Int) from by omega) (show (0 : Int) ≤ x3 ∧ x3 ≤ (11 : Int) from by omega) (show lf_tm ((s.1 96)) (x1) (x2) (x4 + 1) = x3 + 1 from by omega) (show 0 ≤ x3 ∧ x3 ≤ x4 ∧ x4 < (s.1 96 11) from by omega)
      · skip
        replace c12 : ¬ (x2 = 0) := c12
        refine ⟨(show (0 : Int) ≤ (254 + (2 * x4)) + 1 ∧ (254 + (2 * x4)) + 1 < (1538 : Int) from by omega), ?_⟩
        have b15 : (-2147483648) ≤ s.1 96 ((254 + (2 * x4)) + 1) ∧ s.1 96 ((254 + (2 * x4)) + 1) ≤ 2147483647 := iv_full hI
        refine ⟨(show lf_R (s.1 96 ((254 + (2 * x4)) + 1)) from lf_Rof (by omega)), ?_⟩
        refine ⟨fun c16 => ?_, fun c16 => ?_⟩
        · skip
          replace c16 : s.1 96 ((254 + (2 * x4)) + 1) ≠ 1 := c16
          have b17 : lf_tm ((s.1 96)) (x1) (x2) (x4 + 1) = lf_tm ((s.1 96)) (x1) (x2) (x4) + 0 := lf_tm2 (by omega) (by omega)
          exact sm_323_p62 (s0 := s0) hQ hX5 (show (12 - x4).toNat ≤ M5 from by omega) hI (show (-1 : Int) ≤ x1 ∧ x1 ≤ (3 : Int) from by omega) (show (0 : Int) ≤ x2 ∧ x2 ≤ (1 : Int) from by omega) (show (0 : Int) ≤ x4 ∧ x4 ≤ (11 : Int) from by omega) (show (0 : Int) ≤ x3 ∧ x3 ≤ (11 : Int) from by omega) (show lf_tm ((s.1 96)) (x1) (x2) (x4 + 1) = x3 + 0 from by omega) (show 0 ≤ x3 ∧ x3 ≤ x4 ∧ x4 < (s.1 96 11) from by omega)
        · skip
          replace c16 : ¬ (s.1 96 ((254 + (2 * x4)) + 1) ≠ 1) := c16
          have b18 : lf_tm ((s.1 96)) (x1) (x2) (x4 + 1) = lf_tm ((s.1 96)) (x1) (x2) (x4) + 1 := lf_tm1 (by omega) (by omega)
          exact sm_323_p58 (s0 := s0) hQ hX5 (show (12 - x4).toNat ≤ M5 from by omega) hI (show (-1 : Int) ≤ x1 ∧ x1 ≤ (3 : Int) from by omega) (show (0 : Int) ≤ x2 ∧ x2 ≤ (1 : Int) from by omega) (show (0 : Int) ≤ x4 ∧ x4 ≤ (11 : Int) from by omega) (show (0 : Int) ≤ x3 ∧ x3 ≤ (11 : Int) from by omega) (show lf_tm ((s.1 96)) (x1) (x2) (x4 + 1) = x3 + 1 from by omega) (show 0 ≤ x3 ∧ x3 ≤ x4 ∧ x4 < (s.1 96 11) from by omega)
theorem sm_323_p5L {Q : Int → lf_Z → Prop} {x1 : Int} {x2 : Int} {x3 : Int} {x4 : Int} {s : lf_Z} {s0 : lf_Z} (hQ : ∀ (r : Int), (r = lf_tm (s.1 96) (x1) (x2) (s.1 96 11)) → (0 ≤ r ∧ r ≤ 12) → Q r s) (hI : iv_A s.1 s.2.2) (bx1 : (-1) ≤ x1 ∧ x1 ≤ 3) (bx2 : 0 ≤ x2 ∧ x2 ≤ 1) (bx3 : 0 ≤ x3 ∧ x3 ≤ 12) (bx4 : 0 ≤ x4 ∧ x4 ≤ 12) (kv0 : x3 = lf_tm (s.1 96) (x1) (x2) (x4)) (kv1 : 0 ≤ x3 ∧ x3 ≤ x4 ∧ x4 ≤ s.1 96 11) : fm_323_p5L Q x1 x2 x3 x4 s := by
  intro X5 hX
  have key : ∀ (m9 : Nat) (x3 : Int) (x4 : Int), 0 ≤ x3 ∧ x3 ≤ 12 → 0 ≤ x4 ∧ x4 ≤ 12 → (x3 = lf_tm (s.1 96) (x1) (x2) (x4)) → (0 ≤ x3 ∧ x3 ≤ x4 ∧ x4 ≤ s.1 96 11) → (12 - x4).toNat < m9 → X5 x3 x4 s := by
    intro m9
    induction m9 with
    | zero => intro x3 x4 bx3 bx4 kv0 kv1 h9; exact absurd h9 (Nat.not_lt_zero _)
    | succ m9 ih => intro x3 x4 bx3 bx4 kv0 kv1 h9; exact hX _ _ _ (sm_323_p5 (s0 := s0) hQ   (fun x3' x4' bx3' bx4' kv0' kv1' h8 => ih x3' x4' bx3' bx4' kv0' kv1' (by omega)) (Nat.le_refl _)  hI  bx1 bx2 bx3 bx4  kv0 kv1)
  exact key _ _ _ bx3 bx4  kv0 kv1 (Nat.lt_succ_self _)
theorem sm_323 {a1 : Int} {a2 : Int} {Q : Int → lf_Z → Prop} {s : lf_Z} (hI : iv_A s.1 s.2.2) (ba1 : (-1) ≤ a1 ∧ a1 ≤ 3) (ba2 : 0 ≤ a2 ∧ a2 ≤ 1) (hQ : ∀ (r : Int), (r = lf_tm (s.1 96) (a1) (a2) (s.1 96 11)) → (0 ≤ r ∧ r ≤ 12) → Q r s) : fm_323 a1 a2 Q s := by
  unfold fm_323
  have b1 : 0 ≤ s.1 96 11 ∧ s.1 96 11 ≤ 12 := iv_rd96 hI (iv_f6cd46d53 (by omega))
  have b2 : lf_tm ((s.1 96)) (a1) (a2) 0 = 0 := rfl
  exact sm_323_p5L (s0 := s) hQ hI (show (-1 : Int) ≤ a1 ∧ a1 ≤ (3 : Int) from by omega) (show (0 : Int) ≤ a2 ∧ a2 ≤ (1 : Int) from by omega) (show (0 : Int) ≤ 0 ∧ 0 ≤ (12 : Int) from by omega) (show (0 : Int) ≤ 0 ∧ 0 ≤ (12 : Int) from by omega) (show 0 = lf_tm ((s.1 96)) (a1) (a2) (0) from by omega) (show 0 ≤ 0 ∧ 0 ≤ 0 ∧ 0 ≤ (s.1 96 11) from by omega)
