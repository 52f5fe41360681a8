-- fm_246 Model.doneAt 95 i
theorem sm_246 {a1 : Int} {Q : Int → lf_Z → Prop} {s : lf_Z} (hI : iv_A s.1 s.2.2) (ba1 : 0 ≤ a1 ∧ a1 ≤ 11) (hQ : ∀ (r : Int), ((-2147483648) ≤ r ∧ r ≤ 2147483647) → Q r s) : fm_246 a1 Q s := by
  unfold fm_246
  refine ⟨(show (0 : Int) ≤ (14 + (3 * a1)) + 2 ∧ (14 + (3 * a1)) + 2 < (1538 : Int) from by omega), ?_⟩
  have b1 : (-2147483648) ≤ s.1 96 ((14 + (3 * a1)) + 2) ∧ s.1 96 ((14 + (3 * a1)) + 2) ≤ 2147483647 := iv_full hI
  exact hQ (s.1 96 ((14 + (3 * a1)) + 2)) (show (-2147483648 : Int) ≤ s.1 96 ((14 + (3 * a1)) + 2) ∧ s.1 96 ((14 + (3 * a1)) + 2) ≤ (2147483647 : Int) from by omega)
-- fm_239 Model.get 95 i 3
theorem sm_239 {a1 : Int} {Q : Int → lf_Z → Prop} {s : lf_Z} (hI : iv_A s.1 s.2.2) (ba1 : 0 ≤ a1 ∧ a1 ≤ 5) (hQ : ∀ (r : Int), ((0 ≤ r ∧ r ≤ 11) ∧ (r = s.1 96 (126 + 6 * a1 + 3))) → Q r s) : fm_239 a1 Q s := by
  unfold fm_239
  refine ⟨(show (0 : Int) ≤ (126 + (6 * a1)) + 3 ∧ (126 + (6 * a1)) + 3 < (1538 : Int) from by omega), ?_⟩
  have b1 : 0 ≤ s.1 96 ((126 + (6 * a1)) + 3) ∧ s.1 96 ((126 + (6 * a1)) + 3) ≤ 11 := iv_rd96 hI (iv_fba44946a (a1) (by omega) (by omega))
  exact hQ (s.1 96 ((126 + (6 * a1)) + 3)) ⟨(show (0 : Int) ≤ s.1 96 ((126 + (6 * a1)) + 3) ∧ s.1 96 ((126 + (6 * a1)) + 3) ≤ (11 : Int) from by omega), (show s.1 96 ((126 + (6 * a1)) + 3) = s.1 96 (126 + 6 * a1 + 3) from by omega)⟩
-- fm_239b Model.get 95 i 4
theorem sm_239b {a1 : Int} {Q : Int → lf_Z → Prop} {s : lf_Z} (hI : iv_A s.1 s.2.2) (ba1 : 0 ≤ a1 ∧ a1 ≤ 5) (hQ : ∀ (r : Int), (((-1) ≤ r ∧ r ≤ 11) ∧ (r = s.1 96 (126 + 6 * a1 + 4))) → Q r s) : fm_239b a1 Q s := by
  unfold fm_239b
  refine ⟨(show (0 : Int) ≤ (126 + (6 * a1)) + 4 ∧ (126 + (6 * a1)) + 4 < (1538 : Int) from by omega), ?_⟩
  have b1 : (-1) ≤ s.1 96 ((126 + (6 * a1)) + 4) ∧ s.1 96 ((126 + (6 * a1)) + 4) ≤ 11 := iv_rd96 hI (iv_f97411019 (a1) (by omega) (by omega))
  exact hQ (s.1 96 ((126 + (6 * a1)) + 4)) ⟨(show (-1 : Int) ≤ s.1 96 ((126 + (6 * a1)) + 4) ∧ s.1 96 ((126 + (6 * a1)) + 4) ≤ (11 : Int) from by omega), (show s.1 96 ((126 + (6 * a1)) + 4) = s.1 96 (126 + 6 * a1 + 4) from by omega)⟩
-- fm_245 Model.isOpen 95 i
theorem sm_245 {a1 : Int} {Q : Bool → lf_Z → Prop} {s : lf_Z} (hI : iv_A s.1 s.2.2) (ba1 : 0 ≤ a1 ∧ a1 ≤ 15) (hQ : ∀ (z : Bool), Q z s) : fm_245 a1 Q s := by
  unfold fm_245
  refine ⟨(show (0 : Int) ≤ (50 + (4 * a1)) + 3 ∧ (50 + (4 * a1)) + 3 < (1538 : Int) from by omega), ?_⟩
  have b1 : (-2147483648) ≤ s.1 96 ((50 + (4 * a1)) + 3) ∧ s.1 96 ((50 + (4 * a1)) + 3) ≤ 2147483647 := iv_full hI
  refine ⟨(show lf_R (s.1 96 ((50 + (4 * a1)) + 3)) from lf_Rof (by omega)), ?_⟩
  refine ⟨fun c2 => ?_, fun c2 => ?_⟩
  · skip
    replace c2 : s.1 96 ((50 + (4 * a1)) + 3) ≠ 1 := c2
    exact hQ false
  · skip
    replace c2 : ¬ (s.1 96 ((50 + (4 * a1)) + 3) ≠ 1) := c2
    exact hQ true
-- fm_244 Model.keep 95
theorem sm_244_p268 {X268 : Int → lf_Z → Prop} {Q : lf_Z → Prop} {x1 : Int} {x2 : Int} {s : lf_Z} {s0 : lf_Z} (hQ : ∀  (s' : lf_Z), iv_A s'.1 s'.2.2 → lf_fq [96, 1005] 9 true s.1 s.2.2 s'.1 s'.2.2 → (kp_F (s0.1 96) (s'.1 96)) → Q  s') {M268 : Nat} (hX268 : ∀ (x2 : Int) (s' : lf_Z), iv_A s'.1 s'.2.2 → lf_fq [96, 1005] 9 true s.1 s.2.2 s'.1 s'.2.2 → 0 ≤ x2 ∧ x2 ≤ 12 → (x1 = 278 + 42 * s'.1 96 9) → (s'.1 96 9 < 30) → (kp_F (s0.1 96) (s'.1 96)) → (iv_s4 (s'.1 96) (x1 + 5)) → (12 - x2).toNat < M268 → X268 x2 s') (hM268 : (12 - x2).toNat ≤ M268) (hI : iv_A s.1 s.2.2) (bx1 : 278 ≤ x1 ∧ x1 ≤ 1496) (bx2 : 0 ≤ x2 ∧ x2 ≤ 12) (kv0 : x1 = 278 + 42 * s.1 96 9) (kv1 : s.1 96 9 < 30) (kv2 : kp_F (s0.1 96) (s.1 96)) (kv3 : iv_s4 (s.1 96) (x1 + 5)) : fm_244_p268 Q x1 X268 x2 s := by
  unfold fm_244_p268
  refine ⟨(show lf_R x2 from lf_Rof (by omega)), ?_⟩
  refine ⟨fun c47 => ?_, fun c47 => ?_⟩
  · skip
    replace c47 : 12 ≤ x2 := c47
    have b48 : 0 ≤ s.1 96 9 ∧ s.1 96 9 ≤ 30 := iv_rd96 hI (iv_fb9711825 (by omega))
    have b49 : iv_s4 (s.1 96) (278 + 42 * s.1 96 9 + 5) := iv_s4e (show iv_s4 ((s.1 96)) (x1 + 5) from by first | with_reducible assumption | assumption) (by omega)
    have hI50 : iv_A (lf_up s.1 96 9 ((s.1 96 9) + 1)) s.2.2 := iv_wd96 hI (lf_le2 (iv_f894cccb4 (by omega)) (by omega)) (fun _ => by first | exact iv_rel9 hI (by omega) | exact iv_rel9u hI (by omega) (by assumption))
    have fr51 : lf_fq [96, 1005] 9 true s.1 s.2.2 (lf_up s.1 96 9 ((s.1 96 9) + 1)) s.2.2 := lf_fq_up (lf_fq_rf) rfl (fun _ => ⟨by omega, fr_o (Or.inr (fr_n0 (by omega))) (Or.inr (fr_n1 (by omega))) (Or.inr (fr_n2 (by omega))) (Or.inr (fr_n3 (by omega))) (Or.inr (fr_n4 (by omega))) (Or.inl rfl) (Or.inr (fr_n6 (by omega)))⟩)
    have b52 : kp_F (s0.1 96) (((lf_up s.1 96 9 ((s.1 96 9) + 1)) 96)) := by first | with_reducible assumption | (repeat first | with_reducible assumption | exact kp_r | refine kp_u ?_ (fun j hj => lf_up_i hj) (by omega))
    exact hQ (lf_up s.1 96 9 ((s.1 96 9) + 1), s.2.1, s.2.2) hI50 fr51 (show kp_F (s0.1 96) (((lf_up s.1 96 9 ((s.1 96 9) + 1)) 96)) from by first | with_reducible assumption | assumption)
  · skip
    replace c47 : ¬ (12 ≤ x2) := c47
    refine sm_246 hI (show (0 : Int) ≤ x2 ∧ x2 ≤ (11 : Int) from by omega) (fun r33 q53 => ?_)
    refine ⟨(show (0 : Int) ≤ (x1 + 29) + x2 ∧ (x1 + 29) + x2 < (1538 : Int) from by omega), ?_⟩
    have hI54 : iv_A (lf_up s.1 96 ((x1 + 29) + x2) r33) s.2.2 := iv_wd96 hI (lf_le2 (iv_f6039f252 (s.1 96 9) (x2) (by omega) (by omega) (by omega)) (by omega)) (fun h => absurd h (by omega))
    have fr55 : lf_fq [96, 1005] 9 true s.1 s.2.2 (lf_up s.1 96 ((x1 + 29) + x2) r33) s.2.2 := lf_fq_up (lf_fq_rf) rfl (fun _ => ⟨by omega, fr_o (Or.inr (fr_n0 (by omega))) (Or.inr (fr_n1 (by omega))) (Or.inr (fr_n2 (by omega))) (Or.inr (fr_n3 (by omega))) (Or.inr (fr_n4 (by omega))) (Or.inl rfl) (Or.inr (fr_n6 (by omega)))⟩)
    have b56 : 0 ≤ (lf_up s.1 96 ((x1 + 29) + x2) r33) 96 9 ∧ (lf_up s.1 96 ((x1 + 29) + x2) r33) 96 9 ≤ 30 := iv_rd96 hI54 (iv_fb9711825 (by omega))
    have b57 : (lf_up s.1 96 ((x1 + 29) + x2) r33) 96 9 = s.1 96 9 := lf_up_i (by omega)
    have b58 : kp_F (s0.1 96) (((lf_up s.1 96 ((x1 + 29) + x2) r33) 96)) := by first | with_reducible assumption | (repeat first | with_reducible assumption | exact kp_r | refine kp_u ?_ (fun j hj => lf_up_i hj) (by omega))
    have b59 : iv_s4 (((lf_up s.1 96 ((x1 + 29) + x2) r33) 96)) (x1 + 5) := by first | exact kp_s4 (by first | with_reducible assumption | assumption) (by omega) (iv_szA hI54) | (repeat first | with_reducible assumption | refine iv_s4u ?_ (fun j hj => lf_up_i hj) (by omega))
    exact hX268 (x2 + 1) (lf_up s.1 96 ((x1 + 29) + x2) r33, s.2.1, s.2.2) hI54 fr55 (show (0 : Int) ≤ x2 + 1 ∧ x2 + 1 ≤ (12 : Int) from by omega) (show x1 = 278 + 42 * ((lf_up s.1 96 ((x1 + 29) + x2) r33) 96 9) from by omega) (show ((lf_up s.1 96 ((x1 + 29) + x2) r33) 96 9) < 30 from by omega) (show kp_F (s0.1 96) (((lf_up s.1 96 ((x1 + 29) + x2) r33) 96)) from by first | with_reducible assumption | assumption) (show iv_s4 (((lf_up s.1 96 ((x1 + 29) + x2) r33) 96)) (x1 + 5) from by first | with_reducible assumption | assumption) (show (12 - (x2 + 1)).toNat < M268 from by omega)
theorem sm_244_p268L {Q : lf_Z → Prop} {x1 : Int} {x2 : Int} {s : lf_Z} {s0 : lf_Z} (hQ : ∀  (s' : lf_Z), iv_A s'.1 s'.2.2 → lf_fq [96, 1005] 9 true s.1 s.2.2 s'.1 s'.2.2 → (kp_F (s0.1 96) (s'.1 96)) → Q  s') (hI : iv_A s.1 s.2.2) (bx1 : 278 ≤ x1 ∧ x1 ≤ 1496) (bx2 : 0 ≤ x2 ∧ x2 ≤ 12) (kv0 : x1 = 278 + 42 * s.1 96 9) (kv1 : s.1 96 9 < 30) (kv2 : kp_F (s0.1 96) (s.1 96)) (kv3 : iv_s4 (s.1 96) (x1 + 5)) : fm_244_p268L Q x1 x2 s := by
  intro X268 hX
  have key : ∀ (m9 : Nat) (x2 : Int) (s' : lf_Z), iv_A s'.1 s'.2.2 → lf_fq [96, 1005] 9 true s.1 s.2.2 s'.1 s'.2.2 → 0 ≤ x2 ∧ x2 ≤ 12 → (x1 = 278 + 42 * s'.1 96 9) → (s'.1 96 9 < 30) → (kp_F (s0.1 96) (s'.1 96)) → (iv_s4 (s'.1 96) (x1 + 5)) → (12 - x2).toNat < m9 → X268 x2 s' := by
    intro m9
    induction m9 with
    | zero => intro x2 s' _ _ bx2 kv0 kv1 kv2 kv3 h9; exact absurd h9 (Nat.not_lt_zero _)
    | succ m9 ih => intro x2 s' i7 f7 bx2 kv0 kv1 kv2 kv3 h9; exact hX _ _ (sm_244_p268 (s0 := s0) (fun t9 i9 f9 => hQ t9 i9 (lf_fq_tr f7 f9))   (fun x2' t8 i8 f8 bx2' kv0' kv1' kv2' kv3' h8 => ih x2' t8 i8 (lf_fq_tr f7 f8) bx2' kv0' kv1' kv2' kv3' (by omega)) (Nat.le_refl _)  i7  bx1 bx2  kv0 kv1 kv2 kv3)
  exact key _ _ s hI lf_fq_rf bx2 kv0 kv1 kv2 kv3 (Nat.lt_succ_self _)
theorem sm_244_p216 {X216 : Int → lf_Z → Prop} {Q : lf_Z → Prop} {x1 : Int} {x2 : Int} {s : lf_Z} {s0 : lf_Z} (hQ : ∀  (s' : lf_Z), iv_A s'.1 s'.2.2 → lf_fq [96, 1005] 9 true s.1 s.2.2 s'.1 s'.2.2 → (kp_F (s0.1 96) (s'.1 96)) → Q  s') {M216 : Nat} (hX216 : ∀ (x2 : Int) (s' : lf_Z), iv_A s'.1 s'.2.2 → lf_fq [96, 1005] 9 true s.1 s.2.2 s'.1 s'.2.2 → 0 ≤ x2 ∧ x2 ≤ 6 → (x1 = 278 + 42 * s'.1 96 9) → (s'.1 96 9 < 30) → (kp_F (s0.1 96) (s'.1 96)) → (iv_s4 (s'.1 96) (x1 + 5)) → (6 - x2).toNat < M216 → X216 x2 s') (hM216 : (6 - x2).toNat ≤ M216) (hI : iv_A s.1 s.2.2) (bx1 : 278 ≤ x1 ∧ x1 ≤ 1496) (bx2 : 0 ≤ x2 ∧ x2 ≤ 6) (kv0 : x1 = 278 + 42 * s.1 96 9) (kv1 : s.1 96 9 < 30) (kv2 : kp_F (s0.1 96) (s.1 96)) (kv3 : iv_s4 (s.1 96) (x1 + 5)) : fm_244_p216 Q x1 X216 x2 s := by
  unfold fm_244_p216
  refine ⟨(show lf_R x2 from lf_Rof (by omega)), ?_⟩
  refine ⟨fun c43 => ?_, fun c43 => ?_⟩
  · skip
    replace c43 : 6 ≤ x2 := c43
    have b44 : 0 ≤ s.1 96 9 ∧ s.1 96 9 ≤ 30 := iv_rd96 hI (iv_fb9711825 (by omega))
    have b45 : kp_F (s0.1 96) ((s.1 96)) := by first | with_reducible assumption | (repeat first | with_reducible assumption | exact kp_r | refine kp_u ?_ (fun j hj => lf_up_i hj) (by omega))
    have b46 : iv_s4 ((s.1 96)) (x1 + 5) := by first | exact kp_s4 (by first | with_reducible assumption | assumption) (by omega) (iv_szA hI) | (repeat first | with_reducible assumption | refine iv_s4u ?_ (fun j hj => lf_up_i hj) (by omega))
    exact sm_244_p268L (s0 := s0) hQ hI (show (278 : Int) ≤ x1 ∧ x1 ≤ (1496 : Int) from by omega) (show (0 : Int) ≤ 0 ∧ 0 ≤ (12 : Int) from by omega) (show x1 = 278 + 42 * (s.1 96 9) from by omega) (show (s.1 96 9) < 30 from by omega) (show kp_F (s0.1 96) ((s.1 96)) from by first | with_reducible assumption | assumption) (show iv_s4 ((s.1 96)) (x1 + 5) from by first | with_reducible assumption | assumption)
  · skip
    replace c43 : ¬ (6 ≤ x2) := c43
    refine sm_239 hI (show (0 : Int) ≤ x2 ∧ x2 ≤ (5 : Int) from by omega) (fun r36 q60 => ?_)
    obtain ⟨q60, q60x⟩ := q60
    replace q60x : r36 = s.1 96 (126 + 6 * x2 + 3) := q60x
    refine ⟨(show (0 : Int) ≤ (x1 + 17) + (2 * x2) ∧ (x1 + 17) + (2 * x2) < (1538 : Int) from by omega), ?_⟩
    have hI61 : iv_A (lf_up s.1 96 ((x1 + 17) + (2 * x2)) r36) s.2.2 := iv_wd96 hI (lf_le2 (iv_fd552392a (s.1 96 9) (x2) (by omega) (by omega) (by omega)) (by omega)) (fun h => absurd h (by omega))
    have fr62 : lf_fq [96, 1005] 9 true s.1 s.2.2 (lf_up s.1 96 ((x1 + 17) + (2 * x2)) r36) s.2.2 := lf_fq_up (lf_fq_rf) rfl (fun _ => ⟨by omega, fr_o (Or.inr (fr_n0 (by omega))) (Or.inr (fr_n1 (by omega))) (Or.inr (fr_n2 (by omega))) (Or.inr (fr_n3 (by omega))) (Or.inr (fr_n4 (by omega))) (Or.inl rfl) (Or.inr (fr_n6 (by omega)))⟩)
    refine sm_239b hI61 (show (0 : Int) ≤ x2 ∧ x2 ≤ (5 : Int) from by omega) (fun r39 q63 => ?_)
    obtain ⟨q63, q63x⟩ := q63
    replace q63x : r39 = ((lf_up s.1 96 ((x1 + 17) + (2 * x2)) r36) 96) (126 + 6 * x2 + 4) := q63x
    refine ⟨(show (0 : Int) ≤ (x1 + 18) + (2 * x2) ∧ (x1 + 18) + (2 * x2) < (1538 : Int) from by omega), ?_⟩
    have b64 : 0 ≤ (lf_up s.1 96 ((x1 + 17) + (2 * x2)) r36) 96 9 ∧ (lf_up s.1 96 ((x1 + 17) + (2 * x2)) r36) 96 9 ≤ 30 := iv_rd96 hI61 (iv_fb9711825 (by omega))
    have b65 : (lf_up s.1 96 ((x1 + 17) + (2 * x2)) r36) 96 9 = s.1 96 9 := lf_up_i (by omega)
    have hI66 : iv_A (lf_up (lf_up s.1 96 ((x1 + 17) + (2 * x2)) r36) 96 ((x1 + 18) + (2 * x2)) r39) s.2.2 := iv_wd96 hI61 (lf_le2 (iv_f10709e31 (s.1 96 9) (x2) (by omega) (by omega) (by omega)) (by omega)) (fun h => absurd h (by omega))
    have fr67 : lf_fq [96, 1005] 9 true s.1 s.2.2 (lf_up (lf_up s.1 96 ((x1 + 17) + (2 * x2)) r36) 96 ((x1 + 18) + (2 * x2)) r39) s.2.2 := lf_fq_up fr62 rfl (fun _ => ⟨by omega, fr_o (Or.inr (fr_n0 (by omega))) (Or.inr (fr_n1 (by omega))) (Or.inr (fr_n2 (by omega))) (Or.inr (fr_n3 (by omega))) (Or.inr (fr_n4 (by omega))) (Or.inl rfl) (Or.inr (fr_n6 (by omega)))⟩)
    have b68 : 0 ≤ (lf_up (lf_up s.1 96 ((x1 + 17) + (2 * x2)) r36) 96 ((x1 + 18) + (2 * x2)) r39) 96 9 ∧ (lf_up (lf_up s.1 96 ((x1 + 17) + (2 * x2)) r36) 96 ((x1 + 18) + (2 * x2)) r39) 96 9 ≤ 30 := iv_rd96 hI66 (iv_fb9711825 (by omega))
    have b69 : (lf_up (lf_up s.1 96 ((x1 + 17) + (2 * x2)) r36) 96 ((x1 + 18) + (2 * x2)) r39) 96 9 = (lf_up s.1 96 ((x1 + 17) + (2 * x2)) r36) 96 9 := lf_up_i (by omega)
    have b70 : kp_F (s0.1 96) (((lf_up (lf_up s.1 96 ((x1 + 17) + (2 * x2)) r36) 96 ((x1 + 18) + (2 * x2)) r39) 96)) := by first | with_reducible assumption | (repeat first | with_reducible assumption | exact kp_r | refine kp_u ?_ (fun j hj => lf_up_i hj) (by omega))
    have b71 : iv_s4 (((lf_up (lf_up s.1 96 ((x1 + 17) + (2 * x2)) r36) 96 ((x1 + 18) + (2 * x2)) r39) 96)) (x1 + 5) := by first | exact kp_s4 (by first | with_reducible assumption | assumption) (by omega) (iv_szA hI66) | (repeat first | with_reducible assumption | refine iv_s4u ?_ (fun j hj => lf_up_i hj) (by omega))
    exact hX216 (x2 + 1) (lf_up (lf_up s.1 96 ((x1 + 17) + (2 * x2)) r36) 96 ((x1 + 18) + (2 * x2)) r39, s.2.1, s.2.2) hI66 fr67 (show (0 : Int) ≤ x2 + 1 ∧ x2 + 1 ≤ (6 : Int) from by omega) (show x1 = 278 + 42 * ((lf_up (lf_up s.1 96 ((x1 + 17) + (2 * x2)) r36) 96 ((x1 + 18) + (2 * x2)) r39) 96 9) from by omega) (show ((lf_up (lf_up s.1 96 ((x1 + 17) + (2 * x2)) r36) 96 ((x1 + 18) + (2 * x2)) r39) 96 9) < 30 from by omega) (show kp_F (s0.1 96) (((lf_up (lf_up s.1 96 ((x1 + 17) + (2 * x2)) r36) 96 ((x1 + 18) + (2 * x2)) r39) 96)) from by first | with_reducible assumption | assumption) (show iv_s4 (((lf_up (lf_up s.1 96 ((x1 + 17) + (2 * x2)) r36) 96 ((x1 + 18) + (2 * x2)) r39) 96)) (x1 + 5) from by first | with_reducible assumption | assumption) (show (6 - (x2 + 1)).toNat < M216 from by omega)
theorem sm_244_p216L {Q : lf_Z → Prop} {x1 : Int} {x2 : Int} {s : lf_Z} {s0 : lf_Z} (hQ : ∀  (s' : lf_Z), iv_A s'.1 s'.2.2 → lf_fq [96, 1005] 9 true s.1 s.2.2 s'.1 s'.2.2 → (kp_F (s0.1 96) (s'.1 96)) → Q  s') (hI : iv_A s.1 s.2.2) (bx1 : 278 ≤ x1 ∧ x1 ≤ 1496) (bx2 : 0 ≤ x2 ∧ x2 ≤ 6) (kv0 : x1 = 278 + 42 * s.1 96 9) (kv1 : s.1 96 9 < 30) (kv2 : kp_F (s0.1 96) (s.1 96)) (kv3 : iv_s4 (s.1 96) (x1 + 5)) : fm_244_p216L Q x1 x2 s := by
  intro X216 hX
  have key : ∀ (m9 : Nat) (x2 : Int) (s' : lf_Z), iv_A s'.1 s'.2.2 → lf_fq [96, 1005] 9 true s.1 s.2.2 s'.1 s'.2.2 → 0 ≤ x2 ∧ x2 ≤ 6 → (x1 = 278 + 42 * s'.1 96 9) → (s'.1 96 9 < 30) → (kp_F (s0.1 96) (s'.1 96)) → (iv_s4 (s'.1 96) (x1 + 5)) → (6 - x2).toNat < m9 → X216 x2 s' := by
    intro m9
    induction m9 with
    | zero => intro x2 s' _ _ bx2 kv0 kv1 kv2 kv3 h9; exact absurd h9 (Nat.not_lt_zero _)
    | succ m9 ih => intro x2 s' i7 f7 bx2 kv0 kv1 kv2 kv3 h9; exact hX _ _ (sm_244_p216 (s0 := s0) (fun t9 i9 f9 => hQ t9 i9 (lf_fq_tr f7 f9))   (fun x2' t8 i8 f8 bx2' kv0' kv1' kv2' kv3' h8 => ih x2' t8 i8 (lf_fq_tr f7 f8) bx2' kv0' kv1' kv2' kv3' (by omega)) (Nat.le_refl _)  i7  bx1 bx2  kv0 kv1 kv2 kv3)
  exact key _ _ s hI lf_fq_rf bx2 kv0 kv1 kv2 kv3 (Nat.lt_succ_self _)
theorem sm_244_p183 {X183 : Int → lf_Z → Prop} {Q : lf_Z → Prop} {x1 : Int} {x2 : Int} {s : lf_Z} {s0 : lf_Z} (hQ : ∀  (s' : lf_Z), iv_A s'.1 s'.2.2 → lf_fq [96, 1005] 9 true s.1 s.2.2 s'.1 s'.2.2 → (kp_F (s0.1 96) (s'.1 96)) → Q  s') {M183 : Nat} (hX183 : ∀ (x2 : Int) (s' : lf_Z), iv_A s'.1 s'.2.2 → lf_fq [96, 1005] 9 true s.1 s.2.2 s'.1 s'.2.2 → 0 ≤ x2 ∧ x2 ≤ 12 → (x1 = 278 + 42 * s'.1 96 9) → (s'.1 96 9 < 30) → (kp_F (s0.1 96) (s'.1 96)) → (kp_C (s'.1 96) (x1) (x2)) → (12 - x2).toNat < M183 → X183 x2 s') (hM183 : (12 - x2).toNat ≤ M183) (hI : iv_A s.1 s.2.2) (bx1 : 278 ≤ x1 ∧ x1 ≤ 1496) (bx2 : 0 ≤ x2 ∧ x2 ≤ 12) (kv0 : x1 = 278 + 42 * s.1 96 9) (kv1 : s.1 96 9 < 30) (kv2 : kp_F (s0.1 96) (s.1 96)) (kv3 : kp_C (s.1 96) (x1) (x2)) : fm_244_p183 Q x1 X183 x2 s := by
  unfold fm_244_p183
  refine ⟨(show lf_R x2 from lf_Rof (by omega)), ?_⟩
  refine ⟨fun c39 => ?_, fun c39 => ?_⟩
  · skip
    replace c39 : 12 ≤ x2 := c39
    have b40 : 0 ≤ s.1 96 9 ∧ s.1 96 9 ≤ 30 := iv_rd96 hI (iv_fb9711825 (by omega))
    have b41 : kp_F (s0.1 96) ((s.1 96)) := by first | with_reducible assumption | (repeat first | with_reducible assumption | exact kp_r | refine kp_u ?_ (fun j hj => lf_up_i hj) (by omega))
    have b42 : iv_s4 ((s.1 96)) (x1 + 5) := by first | exact kp_s4 (by first | with_reducible assumption | assumption) (by omega) (iv_szA hI) | (repeat first | with_reducible assumption | refine iv_s4u ?_ (fun j hj => lf_up_i hj) (by omega))
    exact sm_244_p216L (s0 := s0) hQ hI (show (278 : Int) ≤ x1 ∧ x1 ≤ (1496 : Int) from by omega) (show (0 : Int) ≤ 0 ∧ 0 ≤ (6 : Int) from by omega) (show x1 = 278 + 42 * (s.1 96 9) from by omega) (show (s.1 96 9) < 30 from by omega) (show kp_F (s0.1 96) ((s.1 96)) from by first | with_reducible assumption | assumption) (show iv_s4 ((s.1 96)) (x1 + 5) from by first | with_reducible assumption | assumption)
  · skip
    replace c39 : ¬ (12 ≤ x2) := c39
    refine ⟨(show (0 : Int) ≤ 114 + x2 ∧ 114 + x2 < (1538 : Int) from by omega), ?_⟩
    have b72 : (-1) ≤ s.1 96 (114 + x2) ∧ s.1 96 (114 + x2) ≤ 24 := iv_rd96 hI (iv_f1b92e825 (x2) (by omega) (by omega))
    refine ⟨(show (0 : Int) ≤ (x1 + 5) + x2 ∧ (x1 + 5) + x2 < (1538 : Int) from by omega), ?_⟩
    have hI73 : iv_A (lf_up s.1 96 ((x1 + 5) + x2) (s.1 96 (114 + x2))) s.2.2 := iv_wp96_96 hI (iv_gf62e0eba (s.1 96 9) (x2) (by omega) (by omega) (by omega) (by omega)) (fun h => absurd h (by omega))
    have fr74 : lf_fq [96, 1005] 9 true s.1 s.2.2 (lf_up s.1 96 ((x1 + 5) + x2) (s.1 96 (114 + x2))) s.2.2 := lf_fq_up (lf_fq_rf) rfl (fun _ => ⟨by omega, fr_o (Or.inr (fr_n0 (by omega))) (Or.inr (fr_n1 (by omega))) (Or.inr (fr_n2 (by omega))) (Or.inr (fr_n3 (by omega))) (Or.inr (fr_n4 (by omega))) (Or.inl rfl) (Or.inr (fr_n6 (by omega)))⟩)
    have b75 : 0 ≤ (lf_up s.1 96 ((x1 + 5) + x2) (s.1 96 (114 + x2))) 96 9 ∧ (lf_up s.1 96 ((x1 + 5) + x2) (s.1 96 (114 + x2))) 96 9 ≤ 30 := iv_rd96 hI73 (iv_fb9711825 (by omega))
    have b76 : (lf_up s.1 96 ((x1 + 5) + x2) (s.1 96 (114 + x2))) 96 9 = s.1 96 9 := lf_up_i (by omega)
    have b77 : kp_F (s0.1 96) (((lf_up s.1 96 ((x1 + 5) + x2) (s.1 96 (114 + x2))) 96)) := by first | with_reducible assumption | (repeat first | with_reducible assumption | exact kp_r | refine kp_u ?_ (fun j hj => lf_up_i hj) (by omega))
    have b78 : kp_C (((lf_up s.1 96 ((x1 + 5) + x2) (s.1 96 (114 + x2))) 96)) (x1) ((x2 + 1)) := by first | exact kp_CS (by first | with_reducible assumption | assumption) lf_up_s (fun j hj => lf_up_i hj) (by omega) (by omega) | exact (fun j a b => by omega)
    exact hX183 (x2 + 1) (lf_up s.1 96 ((x1 + 5) + x2) (s.1 96 (114 + x2)), s.2.1, s.2.2) hI73 fr74 (show (0 : Int) ≤ x2 + 1 ∧ x2 + 1 ≤ (12 : Int) from by omega) (show x1 = 278 + 42 * ((lf_up s.1 96 ((x1 + 5) + x2) (s.1 96 (114 + x2))) 96 9) from by omega) (show ((lf_up s.1 96 ((x1 + 5) + x2) (s.1 96 (114 + x2))) 96 9) < 30 from by omega) (show kp_F (s0.1 96) (((lf_up s.1 96 ((x1 + 5) + x2) (s.1 96 (114 + x2))) 96)) from by first | with_reducible assumption | assumption) (show kp_C (((lf_up s.1 96 ((x1 + 5) + x2) (s.1 96 (114 + x2))) 96)) (x1) ((x2 + 1)) from by first | with_reducible assumption | assumption) (show (12 - (x2 + 1)).toNat < M183 from by omega)
theorem sm_244_p183L {Q : lf_Z → Prop} {x1 : Int} {x2 : Int} {s : lf_Z} {s0 : lf_Z} (hQ : ∀  (s' : lf_Z), iv_A s'.1 s'.2.2 → lf_fq [96, 1005] 9 true s.1 s.2.2 s'.1 s'.2.2 → (kp_F (s0.1 96) (s'.1 96)) → Q  s') (hI : iv_A s.1 s.2.2) (bx1 : 278 ≤ x1 ∧ x1 ≤ 1496) (bx2 : 0 ≤ x2 ∧ x2 ≤ 12) (kv0 : x1 = 278 + 42 * s.1 96 9) (kv1 : s.1 96 9 < 30) (kv2 : kp_F (s0.1 96) (s.1 96)) (kv3 : kp_C (s.1 96) (x1) (x2)) : fm_244_p183L Q x1 x2 s := by
  intro X183 hX
  have key : ∀ (m9 : Nat) (x2 : Int) (s' : lf_Z), iv_A s'.1 s'.2.2 → lf_fq [96, 1005] 9 true s.1 s.2.2 s'.1 s'.2.2 → 0 ≤ x2 ∧ x2 ≤ 12 → (x1 = 278 + 42 * s'.1 96 9) → (s'.1 96 9 < 30) → (kp_F (s0.1 96) (s'.1 96)) → (kp_C (s'.1 96) (x1) (x2)) → (12 - x2).toNat < m9 → X183 x2 s' := by
    intro m9
    induction m9 with
    | zero => intro x2 s' _ _ bx2 kv0 kv1 kv2 kv3 h9; exact absurd h9 (Nat.not_lt_zero _)
    | succ m9 ih => intro x2 s' i7 f7 bx2 kv0 kv1 kv2 kv3 h9; exact hX _ _ (sm_244_p183 (s0 := s0) (fun t9 i9 f9 => hQ t9 i9 (lf_fq_tr f7 f9))   (fun x2' t8 i8 f8 bx2' kv0' kv1' kv2' kv3' h8 => ih x2' t8 i8 (lf_fq_tr f7 f8) bx2' kv0' kv1' kv2' kv3' (by omega)) (Nat.le_refl _)  i7  bx1 bx2  kv0 kv1 kv2 kv3)
  exact key _ _ s hI lf_fq_rf bx2 kv0 kv1 kv2 kv3 (Nat.lt_succ_self _)
theorem sm_244_p144 {X110 : Int → lf_Z → Prop} {Q : lf_Z → Prop} {x1 : Int} {x2 : Int} {y1 : Int} {y2 : Int} {y3 : Int} {s : lf_Z} {s0 : lf_Z} (hQ : ∀  (s' : lf_Z), iv_A s'.1 s'.2.2 → lf_fq [96, 1005] 9 true s.1 s.2.2 s'.1 s'.2.2 → (kp_F (s0.1 96) (s'.1 96)) → Q  s') {M110 : Nat} (hX110 : ∀ (x2 : Int) (s' : lf_Z), iv_A s'.1 s'.2.2 → lf_fq [96, 1005] 9 true s.1 s.2.2 s'.1 s'.2.2 → 0 ≤ x2 ∧ x2 ≤ 16 → (x1 = 278 + 42 * s'.1 96 9) → (s'.1 96 9 < 30) → (kp_F (s0.1 96) (s'.1 96)) → (16 - x2).toNat < M110 → X110 x2 s') (hM110 : (16 - x2).toNat ≤ M110) (hI : iv_A s.1 s.2.2) (bx1 : 278 ≤ x1 ∧ x1 ≤ 1496) (bx2 : 0 ≤ x2 ∧ x2 ≤ 15) (by1 : 280 ≤ y1 ∧ y1 ≤ 1498) (by2 : (-2147483648) ≤ y2 ∧ y2 ≤ 2147483647) (by3 : 0 ≤ y3 ∧ y3 ≤ 32768) (kv0 : x1 = 278 + 42 * s.1 96 9) (kv1 : s.1 96 9 < 30) (kv2 : y1 = x1 + 2) (kv3 : kp_F (s0.1 96) (s.1 96)) : fm_244_p144 X110 Q x1 x2 y1 y2 y3 s := by
  unfold fm_244_p144
  have b84 : (-2147483648) ≤ lf_or y2 y3 ∧ lf_or y2 y3 ≤ 2147483647 := lf_orB
  refine ⟨(show (0 : Int) ≤ y1 ∧ y1 < (1538 : Int) from by omega), ?_⟩
  have hI85 : iv_A (lf_up s.1 96 y1 (lf_or y2 y3)) s.2.2 := iv_wd96 hI (lf_le2 (iv_fb7c9e2e3 (s.1 96 9) (by omega) (by omega)) (by omega)) (fun h => absurd h (by omega))
  have fr86 : lf_fq [96, 1005] 9 true s.1 s.2.2 (lf_up s.1 96 y1 (lf_or y2 y3)) s.2.2 := lf_fq_up (lf_fq_rf) rfl (fun _ => ⟨by omega, fr_o (Or.inr (fr_n0 (by omega))) (Or.inr (fr_n1 (by omega))) (Or.inr (fr_n2 (by omega))) (Or.inr (fr_n3 (by omega))) (Or.inr (fr_n4 (by omega))) (Or.inl rfl) (Or.inr (fr_n6 (by omega)))⟩)
  have b87 : 0 ≤ (lf_up s.1 96 y1 (lf_or y2 y3)) 96 9 ∧ (lf_up s.1 96 y1 (lf_or y2 y3)) 96 9 ≤ 30 := iv_rd96 hI85 (iv_fb9711825 (by omega))
  have b88 : (lf_up s.1 96 y1 (lf_or y2 y3)) 96 9 = s.1 96 9 := lf_up_i (by omega)
  have b89 : kp_F (s0.1 96) (((lf_up s.1 96 y1 (lf_or y2 y3)) 96)) := by first | with_reducible assumption | (repeat first | with_reducible assumption | exact kp_r | refine kp_u ?_ (fun j hj => lf_up_i hj) (by omega))
  exact hX110 (x2 + 1) (lf_up s.1 96 y1 (lf_or y2 y3), s.2.1, s.2.2) hI85 fr86 (show (0 : Int) ≤ x2 + 1 ∧ x2 + 1 ≤ (16 : Int) from by omega) (show x1 = 278 + 42 * ((lf_up s.1 96 y1 (lf_or y2 y3)) 96 9) from by omega) (show ((lf_up s.1 96 y1 (lf_or y2 y3)) 96 9) < 30 from by omega) (show kp_F (s0.1 96) (((lf_up s.1 96 y1 (lf_or y2 y3)) 96)) from by first | with_reducible assumption | assumption) (show (16 - (x2 + 1)).toNat < M110 from by omega)
theorem sm_244_p110 {X110 : Int → lf_Z → Prop} {Q : lf_Z → Prop} {x1 : Int} {x2 : Int} {s : lf_Z} {s0 : lf_Z} (hQ : ∀  (s' : lf_Z), iv_A s'.1 s'.2.2 → lf_fq [96, 1005] 9 true s.1 s.2.2 s'.1 s'.2.2 → (kp_F (s0.1 96) (s'.1 96)) → Q  s') {M110 : Nat} (hX110 : ∀ (x2 : Int) (s' : lf_Z), iv_A s'.1 s'.2.2 → lf_fq [96, 1005] 9 true s.1 s.2.2 s'.1 s'.2.2 → 0 ≤ x2 ∧ x2 ≤ 16 → (x1 = 278 + 42 * s'.1 96 9) → (s'.1 96 9 < 30) → (kp_F (s0.1 96) (s'.1 96)) → (16 - x2).toNat < M110 → X110 x2 s') (hM110 : (16 - x2).toNat ≤ M110) (hI : iv_A s.1 s.2.2) (bx1 : 278 ≤ x1 ∧ x1 ≤ 1496) (bx2 : 0 ≤ x2 ∧ x2 ≤ 16) (kv0 : x1 = 278 + 42 * s.1 96 9) (kv1 : s.1 96 9 < 30) (kv2 : kp_F (s0.1 96) (s.1 96)) : fm_244_p110 Q x1 X110 x2 s := by
  unfold fm_244_p110
  have b23 : 0 ≤ s.1 96 1 ∧ s.1 96 1 ≤ 16 := iv_rd96 hI (iv_fd6ad3e54 (by omega))
  have b24 : s.1 96 1 ≤ 0 ∨ 0 < s.1 96 0 := (show s.1 96 1 ≤ 0 ∨ 0 < s.1 96 0 from iv_l96_1 hI)
  refine ⟨(show lf_R x2 from lf_Rof (by omega)), ?_⟩
  refine ⟨(show lf_R (s.1 96 1) from lf_Rof (by omega)), ?_⟩
  refine ⟨fun c25 => ?_, fun c25 => ?_⟩
  · skip
    replace c25 : s.1 96 1 ≤ x2 := c25
    have b26 : (-2147483648) ≤ s.1 96 3 ∧ s.1 96 3 ≤ 2147483647 := iv_full hI
    refine ⟨(show (0 : Int) ≤ x1 + 3 ∧ x1 + 3 < (1538 : Int) from by omega), ?_⟩
    have hI27 : iv_A (lf_up s.1 96 (x1 + 3) (s.1 96 3)) s.2.2 := iv_wd96 hI (lf_le2 (iv_f2823758f (s.1 96 9) (by omega) (by omega)) (by omega)) (fun h => absurd h (by omega))
    have fr28 : lf_fq [96, 1005] 9 true s.1 s.2.2 (lf_up s.1 96 (x1 + 3) (s.1 96 3)) s.2.2 := lf_fq_up (lf_fq_rf) rfl (fun _ => ⟨by omega, fr_o (Or.inr (fr_n0 (by omega))) (Or.inr (fr_n1 (by omega))) (Or.inr (fr_n2 (by omega))) (Or.inr (fr_n3 (by omega))) (Or.inr (fr_n4 (by omega))) (Or.inl rfl) (Or.inr (fr_n6 (by omega)))⟩)
    have b29 : 0 ≤ (lf_up s.1 96 (x1 + 3) (s.1 96 3)) 96 6 ∧ (lf_up s.1 96 (x1 + 3) (s.1 96 3)) 96 6 ≤ 30202 := iv_rd96 hI27 (iv_f060f4a97 (by omega))
    have b30 : (lf_up s.1 96 (x1 + 3) (s.1 96 3)) 96 6 = s.1 96 6 := lf_up_i (by omega)
    refine ⟨(show (0 : Int) ≤ x1 + 4 ∧ x1 + 4 < (1538 : Int) from by omega), ?_⟩
    have b31 : 0 ≤ (lf_up s.1 96 (x1 + 3) (s.1 96 3)) 96 9 ∧ (lf_up s.1 96 (x1 + 3) (s.1 96 3)) 96 9 ≤ 30 := iv_rd96 hI27 (iv_fb9711825 (by omega))
    have b32 : (lf_up s.1 96 (x1 + 3) (s.1 96 3)) 96 9 = s.1 96 9 := lf_up_i (by omega)
    have hI33 : iv_A (lf_up (lf_up s.1 96 (x1 + 3) (s.1 96 3)) 96 (x1 + 4) ((lf_up s.1 96 (x1 + 3) (s.1 96 3)) 96 6)) s.2.2 := iv_wd96 hI27 (lf_le2 (iv_f7ea5c773 (s.1 96 9) (by omega) (by omega)) (by omega)) (fun h => absurd h (by omega))
    have fr34 : lf_fq [96, 1005] 9 true s.1 s.2.2 (lf_up (lf_up s.1 96 (x1 + 3) (s.1 96 3)) 96 (x1 + 4) ((lf_up s.1 96 (x1 + 3) (s.1 96 3)) 96 6)) s.2.2 := lf_fq_up fr28 rfl (fun _ => ⟨by omega, fr_o (Or.inr (fr_n0 (by omega))) (Or.inr (fr_n1 (by omega))) (Or.inr (fr_n2 (by omega))) (Or.inr (fr_n3 (by omega))) (Or.inr (fr_n4 (by omega))) (Or.inl rfl) (Or.inr (fr_n6 (by omega)))⟩)
    have b35 : 0 ≤ (lf_up (lf_up s.1 96 (x1 + 3) (s.1 96 3)) 96 (x1 + 4) ((lf_up s.1 96 (x1 + 3) (s.1 96 3)) 96 6)) 96 9 ∧ (lf_up (lf_up s.1 96 (x1 + 3) (s.1 96 3)) 96 (x1 + 4) ((lf_up s.1 96 (x1 + 3) (s.1 96 3)) 96 6)) 96 9 ≤ 30 := iv_rd96 hI33 (iv_fb9711825 (by omega))
    have b36 : (lf_up (lf_up s.1 96 (x1 + 3) (s.1 96 3)) 96 (x1 + 4) ((lf_up s.1 96 (x1 + 3) (s.1 96 3)) 96 6)) 96 9 = (lf_up s.1 96 (x1 + 3) (s.1 96 3)) 96 9 := lf_up_i (by omega)
    have b37 : kp_F (s0.1 96) (((lf_up (lf_up s.1 96 (x1 + 3) (s.1 96 3)) 96 (x1 + 4) ((lf_up s.1 96 (x1 + 3) (s.1 96 3)) 96 6)) 96)) := by first | with_reducible assumption | (repeat first | with_reducible assumption | exact kp_r | refine kp_u ?_ (fun j hj => lf_up_i hj) (by omega))
    have b38 : kp_C (((lf_up (lf_up s.1 96 (x1 + 3) (s.1 96 3)) 96 (x1 + 4) ((lf_up s.1 96 (x1 + 3) (s.1 96 3)) 96 6)) 96)) (x1) (0) := by first | exact kp_CS (by first | with_reducible assumption | assumption) lf_up_s (fun j hj => lf_up_i hj) (by omega) (by omega) | exact (fun j a b => by omega)
    exact sm_244_p183L (s0 := s0) (fun t9 i9 f9 => hQ t9 i9 (lf_fq_tr fr34 f9)) hI33 (show (278 : Int) ≤ x1 ∧ x1 ≤ (1496 : Int) from by omega) (show (0 : Int) ≤ 0 ∧ 0 ≤ (12 : Int) from by omega) (show x1 = 278 + 42 * ((lf_up (lf_up s.1 96 (x1 + 3) (s.1 96 3)) 96 (x1 + 4) ((lf_up s.1 96 (x1 + 3) (s.1 96 3)) 96 6)) 96 9) from by omega) (show ((lf_up (lf_up s.1 96 (x1 + 3) (s.1 96 3)) 96 (x1 + 4) ((lf_up s.1 96 (x1 + 3) (s.1 96 3)) 96 6)) 96 9) < 30 from by omega) (show kp_F (s0.1 96) (((lf_up (lf_up s.1 96 (x1 + 3) (s.1 96 3)) 96 (x1 + 4) ((lf_up s.1 96 (x1 + 3) (s.1 96 3)) 96 6)) 96)) from by first | with_reducible assumption | assumption) (show kp_C (((lf_up (lf_up s.1 96 (x1 + 3) (s.1 96 3)) 96 (x1 + 4) ((lf_up s.1 96 (x1 + 3) (s.1 96 3)) 96 6)) 96)) (x1) (0) from by first | with_reducible assumption | assumption)
  · skip
    replace c25 : ¬ (s.1 96 1 ≤ x2) := c25
    refine ⟨(show (0 : Int) ≤ x1 + 2 ∧ x1 + 2 < (1538 : Int) from by omega), ?_⟩
    have b79 : (-2147483648) ≤ s.1 96 (x1 + 2) ∧ s.1 96 (x1 + 2) ≤ 2147483647 := iv_full hI
    refine sm_245 hI (show (0 : Int) ≤ x2 ∧ x2 ≤ (15 : Int) from by omega) (fun z45 => ?_)
    refine ⟨fun c81 => ?_, fun c81 => ?_⟩
    · skip
      have b82 : 0 ≤ s.1 96 9 ∧ s.1 96 9 ≤ 30 := iv_rd96 hI (iv_fb9711825 (by omega))
      have b83 : kp_F (s0.1 96) ((s.1 96)) := by first | with_reducible assumption | (repeat first | with_reducible assumption | exact kp_r | refine kp_u ?_ (fun j hj => lf_up_i hj) (by omega))
      exact sm_244_p144 (s0 := s0) hQ hX110 (show (16 - x2).toNat ≤ M110 from by omega) hI (show (278 : Int) ≤ x1 ∧ x1 ≤ (1496 : Int) from by omega) (show (0 : Int) ≤ x2 ∧ x2 ≤ (15 : Int) from by omega) (show (280 : Int) ≤ x1 + 2 ∧ x1 + 2 ≤ (1498 : Int) from by omega) (show (-2147483648 : Int) ≤ s.1 96 (x1 + 2) ∧ s.1 96 (x1 + 2) ≤ (2147483647 : Int) from by omega) (show (0 : Int) ≤ 0 ∧ 0 ≤ (32768 : Int) from by omega) (show x1 = 278 + 42 * (s.1 96 9) from by omega) (show (s.1 96 9) < 30 from by omega) (show (x1 + 2) = x1 + 2 from by omega) (show kp_F (s0.1 96) ((s.1 96)) from by first | with_reducible assumption | assumption)
    · skip
      have b90 : 1 ≤ lf_shl 1 x2 ∧ lf_shl 1 x2 ≤ 32768 := lf_shl1 (m := 15) (by omega) (by omega) (by decide)
      have b91 : 0 ≤ s.1 96 9 ∧ s.1 96 9 ≤ 30 := iv_rd96 hI (iv_fb9711825 (by omega))
      have b92 : kp_F (s0.1 96) ((s.1 96)) := by first | with_reducible assumption | (repeat first | with_reducible assumption | exact kp_r | refine kp_u ?_ (fun j hj => lf_up_i hj) (by omega))
      exact sm_244_p144 (s0 := s0) hQ hX110 (show (16 - x2).toNat ≤ M110 from by omega) hI (show (278 : Int) ≤ x1 ∧ x1 ≤ (1496 : Int) from by omega) (show (0 : Int) ≤ x2 ∧ x2 ≤ (15 : Int) from by omega) (show (280 : Int) ≤ x1 + 2 ∧ x1 + 2 ≤ (1498 : Int) from by omega) (show (-2147483648 : Int) ≤ s.1 96 (x1 + 2) ∧ s.1 96 (x1 + 2) ≤ (2147483647 : Int) from by omega) (show (0 : Int) ≤ lf_shl 1 x2 ∧ lf_shl 1 x2 ≤ (32768 : Int) from by omega) (show x1 = 278 + 42 * (s.1 96 9) from by omega) (show (s.1 96 9) < 30 from by omega) (show (x1 + 2) = x1 + 2 from by omega) (show kp_F (s0.1 96) ((s.1 96)) from by first | with_reducible assumption | assumption)
theorem sm_244_p110L {Q : lf_Z → Prop} {x1 : Int} {x2 : Int} {s : lf_Z} {s0 : lf_Z} (hQ : ∀  (s' : lf_Z), iv_A s'.1 s'.2.2 → lf_fq [96, 1005] 9 true s.1 s.2.2 s'.1 s'.2.2 → (kp_F (s0.1 96) (s'.1 96)) → Q  s') (hI : iv_A s.1 s.2.2) (bx1 : 278 ≤ x1 ∧ x1 ≤ 1496) (bx2 : 0 ≤ x2 ∧ x2 ≤ 16) (kv0 : x1 = 278 + 42 * s.1 96 9) (kv1 : s.1 96 9 < 30) (kv2 : kp_F (s0.1 96) (s.1 96)) : fm_244_p110L Q x1 x2 s := by
  intro X110 hX
  have key : ∀ (m9 : Nat) (x2 : Int) (s' : lf_Z), iv_A s'.1 s'.2.2 → lf_fq [96, 1005] 9 true s.1 s.2.2 s'.1 s'.2.2 → 0 ≤ x2 ∧ x2 ≤ 16 → (x1 = 278 + 42 * s'.1 96 9) → (s'.1 96 9 < 30) → (kp_F (s0.1 96) (s'.1 96)) → (16 - x2).toNat < m9 → X110 x2 s' := by
    intro m9
    induction m9 with
    | zero => intro x2 s' _ _ bx2 kv0 kv1 kv2 h9; exact absurd h9 (Nat.not_lt_zero _)
    | succ m9 ih => intro x2 s' i7 f7 bx2 kv0 kv1 kv2 h9; exact hX _ _ (sm_244_p110 (s0 := s0) (fun t9 i9 f9 => hQ t9 i9 (lf_fq_tr f7 f9))   (fun x2' t8 i8 f8 bx2' kv0' kv1' kv2' h8 => ih x2' t8 i8 (lf_fq_tr f7 f8) bx2' kv0' kv1' kv2' (by omega)) (Nat.le_refl _)  i7  bx1 bx2  kv0 kv1 kv2)
  exact key _ _ s hI lf_fq_rf bx2 kv0 kv1 kv2 (Nat.lt_succ_self _)
theorem sm_244_p58 {Q : lf_Z → Prop} {s : lf_Z} {s0 : lf_Z} (hQ : ∀  (s' : lf_Z), iv_A s'.1 s'.2.2 → lf_fq [96, 1005] 9 true s.1 s.2.2 s'.1 s'.2.2 → (kp_F (s0.1 96) (s'.1 96)) → Q  s') (hI : iv_A s.1 s.2.2) (kv0 : s.1 96 9 < 30) (kv1 : kp_F (s0.1 96) (s.1 96)) : fm_244_p58 Q s := by
  unfold fm_244_p58
  have b4 : 0 ≤ s.1 96 9 ∧ s.1 96 9 ≤ 30 := iv_rd96 hI (iv_fb9711825 (by omega))
  have b5 : 0 ≤ s.1 96 2 ∧ s.1 96 2 ≤ 6 := iv_rd96 hI (iv_f2103129b (by omega))
  have b6 : s.1 96 2 ≤ 0 ∨ 0 < s.1 96 0 := (show s.1 96 2 ≤ 0 ∨ 0 < s.1 96 0 from iv_l96_2 hI)
  refine ⟨(show (0 : Int) ≤ 278 + (42 * (s.1 96 9)) ∧ 278 + (42 * (s.1 96 9)) < (1538 : Int) from by omega), ?_⟩
  have hI7 : iv_A (lf_up s.1 96 (278 + (42 * (s.1 96 9))) (s.1 96 2)) s.2.2 := iv_wd96 hI (lf_le2 (iv_fd7417342 (s.1 96 9) (by omega) (by omega)) (by omega)) (fun h => absurd h (by omega))
  have fr8 : lf_fq [96, 1005] 9 true s.1 s.2.2 (lf_up s.1 96 (278 + (42 * (s.1 96 9))) (s.1 96 2)) s.2.2 := lf_fq_up (lf_fq_rf) rfl (fun _ => ⟨by omega, fr_o (Or.inr (fr_n0 (by omega))) (Or.inr (fr_n1 (by omega))) (Or.inr (fr_n2 (by omega))) (Or.inr (fr_n3 (by omega))) (Or.inr (fr_n4 (by omega))) (Or.inl rfl) (Or.inr (fr_n6 (by omega)))⟩)
  have b9 : 0 ≤ (lf_up s.1 96 (278 + (42 * (s.1 96 9))) (s.1 96 2)) 96 1 ∧ (lf_up s.1 96 (278 + (42 * (s.1 96 9))) (s.1 96 2)) 96 1 ≤ 16 := iv_rd96 hI7 (iv_fd6ad3e54 (by omega))
  have b10 : (lf_up s.1 96 (278 + (42 * (s.1 96 9))) (s.1 96 2)) 96 1 = s.1 96 1 := lf_up_i (by omega)
  have b11 : (lf_up s.1 96 (278 + (42 * (s.1 96 9))) (s.1 96 2)) 96 1 ≤ 0 ∨ 0 < (lf_up s.1 96 (278 + (42 * (s.1 96 9))) (s.1 96 2)) 96 0 := (show (lf_up s.1 96 (278 + (42 * (s.1 96 9))) (s.1 96 2)) 96 1 ≤ 0 ∨ 0 < (lf_up s.1 96 (278 + (42 * (s.1 96 9))) (s.1 96 2)) 96 0 from iv_l96_1 hI7)
  refine ⟨(show (0 : Int) ≤ (278 + (42 * (s.1 96 9))) + 1 ∧ (278 + (42 * (s.1 96 9))) + 1 < (1538 : Int) from by omega), ?_⟩
  have b12 : 0 ≤ (lf_up s.1 96 (278 + (42 * (s.1 96 9))) (s.1 96 2)) 96 9 ∧ (lf_up s.1 96 (278 + (42 * (s.1 96 9))) (s.1 96 2)) 96 9 ≤ 30 := iv_rd96 hI7 (iv_fb9711825 (by omega))
  have b13 : (lf_up s.1 96 (278 + (42 * (s.1 96 9))) (s.1 96 2)) 96 9 = s.1 96 9 := lf_up_i (by omega)
  have hI14 : iv_A (lf_up (lf_up s.1 96 (278 + (42 * (s.1 96 9))) (s.1 96 2)) 96 ((278 + (42 * (s.1 96 9))) + 1) ((lf_up s.1 96 (278 + (42 * (s.1 96 9))) (s.1 96 2)) 96 1)) s.2.2 := iv_wd96 hI7 (lf_le2 (iv_fec763053 (s.1 96 9) (by omega) (by omega)) (by omega)) (fun h => absurd h (by omega))
  have fr15 : lf_fq [96, 1005] 9 true s.1 s.2.2 (lf_up (lf_up s.1 96 (278 + (42 * (s.1 96 9))) (s.1 96 2)) 96 ((278 + (42 * (s.1 96 9))) + 1) ((lf_up s.1 96 (278 + (42 * (s.1 96 9))) (s.1 96 2)) 96 1)) s.2.2 := lf_fq_up fr8 rfl (fun _ => ⟨by omega, fr_o (Or.inr (fr_n0 (by omega))) (Or.inr (fr_n1 (by omega))) (Or.inr (fr_n2 (by omega))) (Or.inr (fr_n3 (by omega))) (Or.inr (fr_n4 (by omega))) (Or.inl rfl) (Or.inr (fr_n6 (by omega)))⟩)
  refine ⟨(show (0 : Int) ≤ (278 + (42 * (s.1 96 9))) + 2 ∧ (278 + (42 * (s.1 96 9))) + 2 < (1538 : Int) from by omega), ?_⟩
  have b16 : 0 ≤ (lf_up (lf_up s.1 96 (278 + (42 * (s.1 96 9))) (s.1 96 2)) 96 ((278 + (42 * (s.1 96 9))) + 1) ((lf_up s.1 96 (278 + (42 * (s.1 96 9))) (s.1 96 2)) 96 1)) 96 9 ∧ (lf_up (lf_up s.1 96 (278 + (42 * (s.1 96 9))) (s.1 96 2)) 96 ((278 + (42 * (s.1 96 9))) + 1) ((lf_up s.1 96 (278 + (42 * (s.1 96 9))) (s.1 96 2)) 96 1)) 96 9 ≤ 30 := iv_rd96 hI14 (iv_fb9711825 (by omega))
  have b17 : (lf_up (lf_up s.1 96 (278 + (42 * (s.1 96 9))) (s.1 96 2)) 96 ((278 + (42 * (s.1 96 9))) + 1) ((lf_up s.1 96 (278 + (42 * (s.1 96 9))) (s.1 96 2)) 96 1)) 96 9 = (lf_up s.1 96 (278 + (42 * (s.1 96 9))) (s.1 96 2)) 96 9 := lf_up_i (by omega)
  have hI18 : iv_A (lf_up (lf_up (lf_up s.1 96 (278 + (42 * (s.1 96 9))) (s.1 96 2)) 96 ((278 + (42 * (s.1 96 9))) + 1) ((lf_up s.1 96 (278 + (42 * (s.1 96 9))) (s.1 96 2)) 96 1)) 96 ((278 + (42 * (s.1 96 9))) + 2) 0) s.2.2 := iv_wd96 hI14 (lf_le2 (iv_fb7c9e2e3 (s.1 96 9) (by omega) (by omega)) (by omega)) (fun h => absurd h (by omega))
  have fr19 : lf_fq [96, 1005] 9 true s.1 s.2.2 (lf_up (lf_up (lf_up s.1 96 (278 + (42 * (s.1 96 9))) (s.1 96 2)) 96 ((278 + (42 * (s.1 96 9))) + 1) ((lf_up s.1 96 (278 + (42 * (s.1 96 9))) (s.1 96 2)) 96 1)) 96 ((278 + (42 * (s.1 96 9))) + 2) 0) s.2.2 := lf_fq_up fr15 rfl (fun _ => ⟨by omega, fr_o (Or.inr (fr_n0 (by omega))) (Or.inr (fr_n1 (by omega))) (Or.inr (fr_n2 (by omega))) (Or.inr (fr_n3 (by omega))) (Or.inr (fr_n4 (by omega))) (Or.inl rfl) (Or.inr (fr_n6 (by omega)))⟩)
  have b20 : 0 ≤ (lf_up (lf_up (lf_up s.1 96 (278 + (42 * (s.1 96 9))) (s.1 96 2)) 96 ((278 + (42 * (s.1 96 9))) + 1) ((lf_up s.1 96 (278 + (42 * (s.1 96 9))) (s.1 96 2)) 96 1)) 96 ((278 + (42 * (s.1 96 9))) + 2) 0) 96 9 ∧ (lf_up (lf_up (lf_up s.1 96 (278 + (42 * (s.1 96 9))) (s.1 96 2)) 96 ((278 + (42 * (s.1 96 9))) + 1) ((lf_up s.1 96 (278 + (42 * (s.1 96 9))) (s.1 96 2)) 96 1)) 96 ((278 + (42 * (s.1 96 9))) + 2) 0) 96 9 ≤ 30 := iv_rd96 hI18 (iv_fb9711825 (by omega))
  have b21 : (lf_up (lf_up (lf_up s.1 96 (278 + (42 * (s.1 96 9))) (s.1 96 2)) 96 ((278 + (42 * (s.1 96 9))) + 1) ((lf_up s.1 96 (278 + (42 * (s.1 96 9))) (s.1 96 2)) 96 1)) 96 ((278 + (42 * (s.1 96 9))) + 2) 0) 96 9 = (lf_up (lf_up s.1 96 (278 + (42 * (s.1 96 9))) (s.1 96 2)) 96 ((278 + (42 * (s.1 96 9))) + 1) ((lf_up s.1 96 (278 + (42 * (s.1 96 9))) (s.1 96 2)) 96 1)) 96 9 := lf_up_i (by omega)
  have b22 : kp_F (s0.1 96) (((lf_up (lf_up (lf_up s.1 96 (278 + (42 * (s.1 96 9))) (s.1 96 2)) 96 ((278 + (42 * (s.1 96 9))) + 1) ((lf_up s.1 96 (278 + (42 * (s.1 96 9))) (s.1 96 2)) 96 1)) 96 ((278 + (42 * (s.1 96 9))) + 2) 0) 96)) := by first | with_reducible assumption | (repeat first | with_reducible assumption | exact kp_r | refine kp_u ?_ (fun j hj => lf_up_i hj) (by omega))
  exact sm_244_p110L (s0 := s0) (fun t9 i9 f9 => hQ t9 i9 (lf_fq_tr fr19 f9)) hI18 (show (278 : Int) ≤ 278 + (42 * (s.1 96 9)) ∧ 278 + (42 * (s.1 96 9)) ≤ (1496 : Int) from by omega) (show (0 : Int) ≤ 0 ∧ 0 ≤ (16 : Int) from by omega) (show (278 + (42 * (s.1 96 9))) = 278 + 42 * ((lf_up (lf_up (lf_up s.1 96 (278 + (42 * (s.1 96 9))) (s.1 96 2)) 96 ((278 + (42 * (s.1 96 9))) + 1) ((lf_up s.1 96 (278 + (42 * (s.1 96 9))) (s.1 96 2)) 96 1)) 96 ((278 + (42 * (s.1 96 9))) + 2) 0) 96 9) from by omega) (show ((lf_up (lf_up (lf_up s.1 96 (278 + (42 * (s.1 96 9))) (s.1 96 2)) 96 ((278 + (42 * (s.1 96 9))) + 1) ((lf_up s.1 96 (278 + (42 * (s.1 96 9))) (s.1 96 2)) 96 1)) 96 ((278 + (42 * (s.1 96 9))) + 2) 0) 96 9) < 30 from by omega) (show kp_F (s0.1 96) (((lf_up (lf_up (lf_up s.1 96 (278 + (42 * (s.1 96 9))) (s.1 96 2)) 96 ((278 + (42 * (s.1 96 9))) + 1) ((lf_up s.1 96 (278 + (42 * (s.1 96 9))) (s.1 96 2)) 96 1)) 96 ((278 + (42 * (s.1 96 9))) + 2) 0) 96)) from by first | with_reducible assumption | assumption)
theorem sm_244_p14L {Q : lf_Z → Prop} {x1 : Int} {s : lf_Z} {s0 : lf_Z} (hQ : ∀  (s' : lf_Z), iv_A s'.1 s'.2.2 → lf_fq [96, 1005] 9 true s.1 s.2.2 s'.1 s'.2.2 → (kp_F (s0.1 96) (s'.1 96)) → Q  s') (hI : iv_A s.1 s.2.2) (bx1 : 0 ≤ x1 ∧ x1 ≤ 1218) (kv0 : s.1 96 9 = 30) (kv1 : x1 = 0) (kv2 : kp_F (s0.1 96) (s.1 96)) : fm_244_p14L Q x1 s := by
  intro X14 hX
  have key : ∀ (m : Nat) (k : Int) (s' : lf_Z), 0 ≤ k → k ≤ 1218 → (1218 - k).toNat < m → s'.2 = s.2 → (∀ a, a ≠ 96 → s'.1 a = s.1 a) → (∀ j : Int, 278 ≤ j → j < 278 + k → s'.1 96 j = s.1 96 (j + 42)) → (∀ j : Int, ¬ (278 ≤ j ∧ j < 278 + k) → s'.1 96 j = s.1 96 j) → X14 k s' := by
    intro m
    induction m with
    | zero => intros; omega
    | succ m ih =>
      intro k s' h0 h1 hm hs hr hd ho
      refine hX _ _ ?_
      unfold fm_244_p14
      refine ⟨lf_Rof (by omega), fun c => ?_, fun c => ⟨by omega, by omega, ?_⟩⟩
      · have e : k = 1218 := by omega
        subst e
        have e9 : s'.1 96 9 = 30 := by rw [ho 9 (by omega)]; exact kv0
        have hA : iv_A s'.1 s'.2.2 := by
          rw [show s'.2.2 = s.2.2 from by rw [hs]]
          exact iv_sht hI kv0 hr hd ho
        have hA2 : iv_A (lf_up s'.1 96 9 ((s'.1 96 9) - 1)) s'.2.2 := iv_w96' hA (by show (0 : Int) ≤ _ ∧ _ ≤ (30 : Int); omega) (fun _ => iv_rel9 hA (by omega))
        have fr : lf_fq [96, 1005] 9 true s.1 s.2.2 (lf_up s'.1 96 9 ((s'.1 96 9) - 1)) s'.2.2 := by
          refine lf_fq_up ⟨fun a ha => hr a (fun e => by subst e; cases ha), fun i hi => ho i (by omega), fun _ => by rw [hs], fun r hr9 i hi => ho i (fun hj => fr_x5 rfl hr9 hi (by omega))⟩ rfl (fun _ => ⟨by decide, fr_o (Or.inr (fr_n0 (by omega))) (Or.inr (fr_n1 (by omega))) (Or.inr (fr_n2 (by omega))) (Or.inr (fr_n3 (by omega))) (Or.inr (fr_n4 (by omega))) (Or.inl rfl) (Or.inr (fr_n6 (by omega)))⟩)
        refine sm_244_p58 (s0 := s0) (fun t9 i9 f9 => hQ t9 i9 (lf_fq_tr fr f9)) hA2 ?_ ?_
        · show lf_up s'.1 96 9 ((s'.1 96 9) - 1) 96 9 < 30
          rw [lf_up_s]; omega
        · refine kp_u (f1 := s'.1 96) ?_ (fun j hj => show lf_up s'.1 96 9 ((s'.1 96 9) - 1) 96 j = s'.1 96 j from lf_up_i hj) (Or.inl rfl)
          intro i a b
          rw [ho i (by omega)]
          exact kv2 i a b
      · refine ih (k + 1) _ (by omega) (by omega) (by omega) hs ?_ ?_ ?_
        · intro a ha
          show lf_up s'.1 96 (278 + k) (s'.1 96 (320 + k)) a = _
          rw [lf_up_row ha]
          exact hr a ha
        · intro j j0 j1
          show lf_up s'.1 96 (278 + k) (s'.1 96 (320 + k)) 96 j = _
          by_cases hj : j = 278 + k
          · subst hj
            rw [lf_up_s, ho _ (by omega), show 320 + k = 278 + k + 42 by omega]
          · rw [lf_up_i hj]
            exact hd j j0 (by omega)
        · intro j hj
          show lf_up s'.1 96 (278 + k) (s'.1 96 (320 + k)) 96 j = _
          rw [lf_up_i (by omega)]
          exact ho j (by omega)
  have e0 : x1 = 0 := kv1
  subst e0
  exact key _ 0 s (by omega) (by omega) (Nat.lt_succ_self _) rfl (fun _ _ => rfl) (fun j a b => by omega) (fun _ _ => rfl)
theorem sm_244 {Q : lf_Z → Prop} {s : lf_Z} (hI : iv_A s.1 s.2.2) (hQ : ∀  (s' : lf_Z), iv_A s'.1 s'.2.2 → lf_fq [96, 1005] 9 true s.1 s.2.2 s'.1 s'.2.2 → (kp_F (s.1 96) (s'.1 96)) → Q  s') : fm_244 Q s := by
  unfold fm_244
  have b1 : 0 ≤ s.1 96 9 ∧ s.1 96 9 ≤ 30 := iv_rd96 hI (iv_fb9711825 (by omega))
  refine ⟨(show lf_R (s.1 96 9) from lf_Rof (by omega)), ?_⟩
  refine ⟨fun c2 => ?_, fun c2 => ?_⟩
  · skip
    replace c2 : s.1 96 9 ≠ 30 := c2
    have b3 : kp_F (s.1 96) ((s.1 96)) := by first | with_reducible assumption | (repeat first | with_reducible assumption | exact kp_r | refine kp_u ?_ (fun j hj => lf_up_i hj) (by omega))
    exact sm_244_p58 (s0 := s) hQ hI (show (s.1 96 9) < 30 from by omega) (show kp_F (s.1 96) ((s.1 96)) from by first | with_reducible assumption | assumption)
  · skip
    replace c2 : ¬ (s.1 96 9 ≠ 30) := c2
    have b93 : kp_F (s.1 96) ((s.1 96)) := kp_r
    exact sm_244_p14L (s0 := s) hQ hI (show (0 : Int) ≤ 0 ∧ 0 ≤ (1218 : Int) from by omega) (show (s.1 96 9) = 30 from by omega) (show 0 = 0 from by omega) (show kp_F (s.1 96) ((s.1 96)) from by first | with_reducible assumption | assumption)
-- fm_247 Model.layBunch 95 i i i i
theorem sm_247 {a1 : Int} {a2 : Int} {a3 : Int} {a4 : Int} {Q : lf_Z → Prop} {s : lf_Z} (hI : iv_A s.1 s.2.2) (ba1 : 0 ≤ a1 ∧ a1 ≤ 3) (ba2 : 0 ≤ a2 ∧ a2 ≤ 24) (ba3 : 0 ≤ a3 ∧ a3 ≤ 11) (ba4 : (-1) ≤ a4 ∧ a4 ≤ 11) (kp0 : s.1 96 114 + s.1 96 117 + s.1 96 120 + s.1 96 123 - s.1 96 (114 + 3 * a1) + a2 ≤ 24) (hQ : ∀  (s' : lf_Z), iv_A s'.1 s'.2.2 → lf_fq [96, 1006] 114 true s.1 s.2.2 s'.1 s'.2.2 → Q  s') : fm_247 a1 a2 a3 a4 Q s := by
  unfold fm_247
  refine ⟨(show (0 : Int) ≤ 114 + (3 * a1) ∧ 114 + (3 * a1) < (1538 : Int) from by omega), ?_⟩
  have hI1 : iv_A (lf_up s.1 96 (114 + (3 * a1)) a2) s.2.2 := iv_wd96 hI (lf_le2 (iv_fad4315e5 (a1) (by omega) (by omega)) (by omega)) (fun _ => iv_rels hI (by omega) (by omega))
  have fr2 : lf_fq [96, 1006] 114 true s.1 s.2.2 (lf_up s.1 96 (114 + (3 * a1)) a2) s.2.2 := lf_fq_up (lf_fq_rf) rfl (fun _ => ⟨by omega, fr_o (Or.inr (fr_n0 (by omega))) (Or.inr (fr_n1 (by omega))) (Or.inr (fr_n2 (by omega))) (Or.inr (fr_n3 (by omega))) (Or.inr (fr_n4 (by omega))) (Or.inr (fr_n5 (by omega))) (Or.inl rfl)⟩)
  refine ⟨(show (0 : Int) ≤ (114 + (3 * a1)) + 1 ∧ (114 + (3 * a1)) + 1 < (1538 : Int) from by omega), ?_⟩
  have hI3 : iv_A (lf_up (lf_up s.1 96 (114 + (3 * a1)) a2) 96 ((114 + (3 * a1)) + 1) a3) s.2.2 := iv_wd96 hI1 (lf_le2 (iv_fc3e20e9e (a1) (by omega) (by omega)) (by omega)) (fun h => absurd h (by omega))
  have fr4 : lf_fq [96, 1006] 114 true s.1 s.2.2 (lf_up (lf_up s.1 96 (114 + (3 * a1)) a2) 96 ((114 + (3 * a1)) + 1) a3) s.2.2 := lf_fq_up fr2 rfl (fun _ => ⟨by omega, fr_o (Or.inr (fr_n0 (by omega))) (Or.inr (fr_n1 (by omega))) (Or.inr (fr_n2 (by omega))) (Or.inr (fr_n3 (by omega))) (Or.inr (fr_n4 (by omega))) (Or.inr (fr_n5 (by omega))) (Or.inl rfl)⟩)
  refine ⟨(show (0 : Int) ≤ (114 + (3 * a1)) + 2 ∧ (114 + (3 * a1)) + 2 < (1538 : Int) from by omega), ?_⟩
  have hI5 : iv_A (lf_up (lf_up (lf_up s.1 96 (114 + (3 * a1)) a2) 96 ((114 + (3 * a1)) + 1) a3) 96 ((114 + (3 * a1)) + 2) a4) s.2.2 := iv_wd96 hI3 (lf_le2 (iv_fcb0a6ed3 (a1) (by omega) (by omega)) (by omega)) (fun h => absurd h (by omega))
  have fr6 : lf_fq [96, 1006] 114 true s.1 s.2.2 (lf_up (lf_up (lf_up s.1 96 (114 + (3 * a1)) a2) 96 ((114 + (3 * a1)) + 1) a3) 96 ((114 + (3 * a1)) + 2) a4) s.2.2 := lf_fq_up fr4 rfl (fun _ => ⟨by omega, fr_o (Or.inr (fr_n0 (by omega))) (Or.inr (fr_n1 (by omega))) (Or.inr (fr_n2 (by omega))) (Or.inr (fr_n3 (by omega))) (Or.inr (fr_n4 (by omega))) (Or.inr (fr_n5 (by omega))) (Or.inl rfl)⟩)
  exact hQ (lf_up (lf_up (lf_up s.1 96 (114 + (3 * a1)) a2) 96 ((114 + (3 * a1)) + 1) a3) 96 ((114 + (3 * a1)) + 2) a4, s.2.1, s.2.2) hI5 fr6
-- fm_240 Model.stray 95 i i
theorem sm_240 {a1 : Int} {a2 : Int} {Q : Int → lf_Z → Prop} {s : lf_Z} (hI : iv_A s.1 s.2.2) (ba1 : (-2147483648) ≤ a1 ∧ a1 ≤ 2147483647) (ba2 : (-2147483648) ≤ a2 ∧ a2 ≤ 2147483647) (hQ : ∀ (r : Int) (s' : lf_Z), iv_A s'.1 s'.2.2 → lf_fq [96, 1005, 1006] 9 true s.1 s.2.2 s'.1 s'.2.2 → ((-1) ≤ r ∧ r ≤ 3) → Q r s') : fm_240 a1 a2 Q s := by
  unfold fm_240
  refine sm_241 hI (fun r22 ps2 q1 => ?_)
  replace ps2 : r22 = -1 ∨ (s.1 96) (114 + 3 * r22) = 0 := ps2
  refine sm_183 hI (show (-2147483648 : Int) ≤ a1 ∧ a1 ≤ (2147483647 : Int) from by omega) (show (-1 : Int) ≤ 1 ∧ 1 ≤ (97 : Int) from by omega) (show (-1 : Int) ≤ 24 ∧ 24 ≤ (9999 : Int) from by omega) (fun z24 q3 => ?_)
  refine ⟨fun c4 => ?_, fun c4 => ?_⟩
  · skip
    have dc4 := q3.2 c4
    exact hQ (-1) s hI (lf_fq_rf) (show (-1 : Int) ≤ (-1) ∧ (-1) ≤ (3 : Int) from by omega)
  · skip
    have dc4 := q3.1 c4
    refine sm_185 hI (show (-2147483648 : Int) ≤ a2 ∧ a2 ≤ (2147483647 : Int) from by omega) (fun z26 q5 => ?_)
    have b6 : 0 ≤ s.1 96 0 ∧ s.1 96 0 ≤ 12 := iv_rd96 hI (iv_f3e1fa21c (by omega))
    refine ⟨fun c7 => ?_, fun c7 => ?_⟩
    · skip
      have dc7 := q5.2 c7
      exact hQ (-1) s hI (lf_fq_rf) (show (-1 : Int) ≤ (-1) ∧ (-1) ≤ (3 : Int) from by omega)
    · skip
      have dc7 := q5.1 c7
      refine sm_243 hI (fun r28 ps9 q8 => ?_)
      replace ps9 : r28 = (s.1 96 114) + (s.1 96 117) + (s.1 96 120) + (s.1 96 123) := ps9
      refine ⟨(show lf_R (r28 + a1) from lf_Rof (by omega)), ?_⟩
      refine ⟨fun c10 => ?_, fun c10 => ?_⟩
      · skip
        replace c10 : 24 < r28 + a1 := c10
        exact hQ (-1) s hI (lf_fq_rf) (show (-1 : Int) ≤ (-1) ∧ (-1) ≤ (3 : Int) from by omega)
      · skip
        replace c10 : ¬ (24 < r28 + a1) := c10
        refine ⟨(show lf_R r22 from lf_Rof (by omega)), ?_⟩
        refine ⟨fun c11 => ?_, fun c11 => ?_⟩
        · skip
          replace c11 : 0 ≤ r22 := c11
          refine sm_244 hI (fun s31 hI13 fr12 ps15 => ?_)
          replace ps15 : kp_F ((s.1 96)) (s31.1 96) := ps15
          have fr16 : lf_fq [96, 1005, 1006] 9 true s.1 s.2.2 s31.1 s31.2.2 := lf_fq_tr (lf_fq_rf) (lf_fq_wk fr12 rfl (by decide) (by decide))
          have b17 : (s31.1 96) (114) = s.1 96 (114) := ps15 _ (by omega) (by omega)
          have b18 : (s31.1 96) (117) = s.1 96 (117) := ps15 _ (by omega) (by omega)
          have b19 : (s31.1 96) (120) = s.1 96 (120) := ps15 _ (by omega) (by omega)
          have b20 : (s31.1 96) (123) = s.1 96 (123) := ps15 _ (by omega) (by omega)
          have b21 : (s31.1 96) (114 + 3 * r22) = s.1 96 (114 + 3 * r22) := ps15 _ (by omega) (by omega)
          have b24 : 0 ≤ s31.1 96 114 ∧ s31.1 96 114 ≤ 24 := iv_rd96 hI13 (iv_fda037f3c (by omega))
          have b25 : 0 ≤ s31.1 96 117 ∧ s31.1 96 117 ≤ 24 := iv_rd96 hI13 (iv_f168d6e22 (by omega))
          have b26 : 0 ≤ s31.1 96 120 ∧ s31.1 96 120 ≤ 24 := iv_rd96 hI13 (iv_f5f96ec92 (by omega))
          have b27 : 0 ≤ s31.1 96 123 ∧ s31.1 96 123 ≤ 24 := iv_rd96 hI13 (iv_fe4a5d80e (by omega))
          refine sm_247 hI13 (show (0 : Int) ≤ r22 ∧ r22 ≤ (3 : Int) from by omega) (show (0 : Int) ≤ a1 ∧ a1 ≤ (24 : Int) from by omega) (show (0 : Int) ≤ a2 ∧ a2 ≤ (11 : Int) from by omega) (show (-1 : Int) ≤ (-1) ∧ (-1) ≤ (11 : Int) from by omega) (show (s31.1 96 114) + (s31.1 96 117) + (s31.1 96 120) + (s31.1 96 123) - (s31.1 96) (114 + 3 * r22) + a1 ≤ 24 from by omega) (fun s32 hI23 fr22 => ?_)
          have fr29 : lf_fq [96, 1005, 1006] 9 true s.1 s.2.2 s32.1 s32.2.2 := lf_fq_tr fr16 (lf_fq_wk fr22 rfl (by decide) (by decide))
          exact hQ r22 s32 hI23 fr29 (show (-1 : Int) ≤ r22 ∧ r22 ≤ (3 : Int) from by omega)
        · skip
          replace c11 : ¬ (0 ≤ r22) := c11
          exact hQ (-1) s hI (lf_fq_rf) (show (-1 : Int) ≤ (-1) ∧ (-1) ≤ (3 : Int) from by omega)
-- fm_80 Stand.hasBunch 15 i
theorem sm_80 {a1 : Int} {Q : Bool → lf_Z → Prop} {s : lf_Z} (hI : iv_A s.1 s.2.2) (ba1 : (-2147483648) ≤ a1 ∧ a1 ≤ 2147483647) (hQ : ∀ (z : Bool), ((z = true → (0 ≤ a1 ∧ a1 < 4 ∧ 0 < s.1 16 a1)) ∧ (z = false → ¬ (0 ≤ a1 ∧ a1 < 4 ∧ 0 < s.1 16 a1))) → Q z s) : fm_80 a1 Q s := by
  unfold fm_80
  refine ⟨(show lf_R a1 from lf_Rof (by omega)), ?_⟩
  refine ⟨fun c1 => ?_, fun c1 => ?_⟩
  · skip
    replace c1 : a1 < 0 := c1
    exact hQ false (lf_pf (by omega))
  · skip
    replace c1 : ¬ (a1 < 0) := c1
    refine ⟨fun c2 => ?_, fun c2 => ?_⟩
    · skip
      replace c2 : 4 ≤ a1 := c2
      exact hQ false (lf_pf (by omega))
    · skip
      replace c2 : ¬ (4 ≤ a1) := c2
      refine ⟨(show (0 : Int) ≤ a1 ∧ a1 < (4 : Int) from by omega), ?_⟩
      have b3 : (-2147483648) ≤ s.1 16 a1 ∧ s.1 16 a1 ≤ 2147483647 := iv_full hI
      refine ⟨(show lf_R (s.1 16 a1) from lf_Rof (by omega)), ?_⟩
      refine ⟨fun c4 => ?_, fun c4 => ?_⟩
      · skip
        replace c4 : s.1 16 a1 ≤ 0 := c4
        exact hQ false (lf_pf (by omega))
      · skip
        replace c4 : ¬ (s.1 16 a1 ≤ 0) := c4
        exact hQ true (lf_pt (by omega))
-- fm_95 Minutes.doHarm 67
theorem sm_95_p59 {X2 : Int → lf_Z → Prop} {Q : lf_Z → Prop} {x1 : Int} {s : lf_Z} (hQ : ∀  (s' : lf_Z), iv_A s'.1 s'.2.2 → lf_fq [21] 1000000 true s.1 s.2.2 s'.1 s'.2.2 → Q  s') {M2 : Nat} (hX2 : ∀ (x1 : Int) (s' : lf_Z), iv_A s'.1 s'.2.2 → lf_fq [21] 1000000 true s.1 s.2.2 s'.1 s'.2.2 → 0 ≤ x1 ∧ x1 ≤ 4 → (4 - x1).toNat < M2 → X2 x1 s') (hM2 : (4 - x1).toNat ≤ M2) (hI : iv_A s.1 s.2.2) (bx1 : 0 ≤ x1 ∧ x1 ≤ 3) : fm_95_p59 X2 Q x1 s := by
  unfold fm_95_p59
  exact hX2 (x1 + 1) s hI (lf_fq_rf) (show (0 : Int) ≤ x1 + 1 ∧ x1 + 1 ≤ (4 : Int) from by omega) (show (4 - (x1 + 1)).toNat < M2 from by omega)
theorem sm_95_p2 {X2 : Int → lf_Z → Prop} {Q : lf_Z → Prop} {x1 : Int} {s : lf_Z} (hQ : ∀  (s' : lf_Z), iv_A s'.1 s'.2.2 → lf_fq [21] 1000000 true s.1 s.2.2 s'.1 s'.2.2 → Q  s') {M2 : Nat} (hX2 : ∀ (x1 : Int) (s' : lf_Z), iv_A s'.1 s'.2.2 → lf_fq [21] 1000000 true s.1 s.2.2 s'.1 s'.2.2 → 0 ≤ x1 ∧ x1 ≤ 4 → (4 - x1).toNat < M2 → X2 x1 s') (hM2 : (4 - x1).toNat ≤ M2) (hI : iv_A s.1 s.2.2) (bx1 : 0 ≤ x1 ∧ x1 ≤ 4) : fm_95_p2 Q X2 x1 s := by
  unfold fm_95_p2
  refine ⟨(show lf_R x1 from lf_Rof (by omega)), ?_⟩
  refine ⟨fun c1 => ?_, fun c1 => ?_⟩
  · skip
    replace c1 : 4 ≤ x1 := c1
    exact hQ s hI (lf_fq_rf)
  · skip
    replace c1 : ¬ (4 ≤ x1) := c1
    refine sm_80 hI (show (-2147483648 : Int) ≤ x1 ∧ x1 ≤ (2147483647 : Int) from by omega) (fun z23 q2 => ?_)
    have b3 : (-2147483648) ≤ s.1 16 x1 ∧ s.1 16 x1 ≤ 2147483647 := iv_full hI
    refine ⟨fun c4 => ?_, fun c4 => ?_⟩
    · skip
      have dc4 := q2.2 c4
      exact sm_95_p59 hQ hX2 (show (4 - x1).toNat ≤ M2 from by omega) hI (show (0 : Int) ≤ x1 ∧ x1 ≤ (3 : Int) from by omega)
    · skip
      have dc4 := q2.1 c4
      refine ⟨(show (0 : Int) ≤ x1 ∧ x1 < (4 : Int) from by omega), ?_⟩
      have b5 : (-1) ≤ s.1 17 x1 ∧ s.1 17 x1 ≤ 11 := iv_r17 hI _
      have b6 : s.1 16 x1 ≤ 0 ∨ 0 ≤ s.1 17 x1 := (by first | exact (show s.1 16 x1 ≤ 0 ∨ 0 ≤ s.1 17 x1 from iv_sp hI (by omega) (by omega)) | exact iv_sp hI (by omega) (by omega))
      refine ⟨(show (0 : Int) ≤ s.1 17 x1 ∧ s.1 17 x1 < (12 : Int) from by omega), ?_⟩
      have b7 : (-2147483648) ≤ s.1 21 (s.1 17 x1) ∧ s.1 21 (s.1 17 x1) ≤ 2147483647 := iv_full hI
      have b8 : 0 ≤ s.1 3 (s.1 17 x1) ∧ s.1 3 (s.1 17 x1) ≤ 99 := iv_r3 hI _
      have b9 : (-2147483648) ≤ lf_w ((s.1 16 x1) * (s.1 3 (s.1 17 x1))) ∧ lf_w ((s.1 16 x1) * (s.1 3 (s.1 17 x1))) ≤ 2147483647 := lf_wB
      have b10 : (-2147483648) ≤ lf_w ((s.1 21 (s.1 17 x1)) + (lf_w ((s.1 16 x1) * (s.1 3 (s.1 17 x1))))) ∧ lf_w ((s.1 21 (s.1 17 x1)) + (lf_w ((s.1 16 x1) * (s.1 3 (s.1 17 x1))))) ≤ 2147483647 := lf_wB
      have hI11 : iv_A (lf_up s.1 21 (s.1 17 x1) (lf_w ((s.1 21 (s.1 17 x1)) + (lf_w ((s.1 16 x1) * (s.1 3 (s.1 17 x1))))))) s.2.2 := iv_w21 hI (by omega)
      have fr12 : lf_fq [21] 1000000 true s.1 s.2.2 (lf_up s.1 21 (s.1 17 x1) (lf_w ((s.1 21 (s.1 17 x1)) + (lf_w ((s.1 16 x1) * (s.1 3 (s.1 17 x1))))))) s.2.2 := lf_fq_up (lf_fq_rf) rfl (fun h => absurd h (by decide))
      exact sm_95_p59 (fun t9 i9 f9 => hQ t9 i9 (lf_fq_tr fr12 f9)) (fun p0 t9 i9 f9 => hX2 p0 t9 i9 (lf_fq_tr fr12 f9)) (show (4 - x1).toNat ≤ M2 from by omega) hI11 (show (0 : Int) ≤ x1 ∧ x1 ≤ (3 : Int) from by omega)
theorem sm_95_p2L {Q : lf_Z → Prop} {x1 : Int} {s : lf_Z} (hQ : ∀  (s' : lf_Z), iv_A s'.1 s'.2.2 → lf_fq [21] 1000000 true s.1 s.2.2 s'.1 s'.2.2 → Q  s') (hI : iv_A s.1 s.2.2) (bx1 : 0 ≤ x1 ∧ x1 ≤ 4) : fm_95_p2L Q x1 s := by
  intro X2 hX
  have key : ∀ (m9 : Nat) (x1 : Int) (s' : lf_Z), iv_A s'.1 s'.2.2 → lf_fq [21] 1000000 true s.1 s.2.2 s'.1 s'.2.2 → 0 ≤ x1 ∧ x1 ≤ 4 → (4 - x1).toNat < m9 → X2 x1 s' := by
    intro m9
    induction m9 with
    | zero => intro x1 s' _ _ bx1 h9; exact absurd h9 (Nat.not_lt_zero _)
    | succ m9 ih => intro x1 s' i7 f7 bx1 h9; exact hX _ _ (sm_95_p2 (fun t9 i9 f9 => hQ t9 i9 (lf_fq_tr f7 f9))   (fun x1' t8 i8 f8 bx1' h8 => ih x1' t8 i8 (lf_fq_tr f7 f8) bx1' (by omega)) (Nat.le_refl _)  i7  bx1  )
  exact key _ _ s hI lf_fq_rf bx1 (Nat.lt_succ_self _)
theorem sm_95 {Q : lf_Z → Prop} {s : lf_Z} (hI : iv_A s.1 s.2.2) (hQ : ∀  (s' : lf_Z), iv_A s'.1 s'.2.2 → lf_fq [21] 1000000 true s.1 s.2.2 s'.1 s'.2.2 → Q  s') : fm_95 Q s := by
  unfold fm_95
  exact sm_95_p2L hQ hI (show (0 : Int) ≤ 0 ∧ 0 ≤ (4 : Int) from by omega)
-- fm_96 Minutes.joinBunches 67
theorem sm_96_p97 {X2 : Int → lf_Z → Prop} {Q : lf_Z → Prop} {x1 : Int} {s : lf_Z} (hQ : ∀  (s' : lf_Z), iv_A s'.1 s'.2.2 → lf_fq [16, 17, 18] 1000000 true s.1 s.2.2 s'.1 s'.2.2 → Q  s') {M2 : Nat} (hX2 : ∀ (x1 : Int) (s' : lf_Z), iv_A s'.1 s'.2.2 → lf_fq [16, 17, 18] 1000000 true s.1 s.2.2 s'.1 s'.2.2 → 0 ≤ x1 ∧ x1 ≤ 4 → (4 - x1).toNat < M2 → X2 x1 s') (hM2 : (4 - x1).toNat ≤ M2) (hI : iv_A s.1 s.2.2) (bx1 : 0 ≤ x1 ∧ x1 ≤ 3) : fm_96_p97 X2 Q x1 s := by
  unfold fm_96_p97
  exact hX2 (x1 + 1) s hI (lf_fq_rf) (show (0 : Int) ≤ x1 + 1 ∧ x1 + 1 ≤ (4 : Int) from by omega) (show (4 - (x1 + 1)).toNat < M2 from by omega)
theorem sm_96_p91 {X2 : Int → lf_Z → Prop} {X11 : Int → lf_Z → Prop} {Q : lf_Z → Prop} {x1 : Int} {x2 : Int} {s : lf_Z} (hQ : ∀  (s' : lf_Z), iv_A s'.1 s'.2.2 → lf_fq [16, 17, 18] 1000000 true s.1 s.2.2 s'.1 s'.2.2 → Q  s') {M2 : Nat} (hX2 : ∀ (x1 : Int) (s' : lf_Z), iv_A s'.1 s'.2.2 → lf_fq [16, 17, 18] 1000000 true s.1 s.2.2 s'.1 s'.2.2 → 0 ≤ x1 ∧ x1 ≤ 4 → (4 - x1).toNat < M2 → X2 x1 s') (hM2 : (4 - x1).toNat ≤ M2) {M11 : Nat} (hX11 : ∀ (x2 : Int) (s' : lf_Z), iv_A s'.1 s'.2.2 → lf_fq [16, 17, 18] 1000000 true s.1 s.2.2 s'.1 s'.2.2 → 1 ≤ x2 ∧ x2 ≤ 4 → (4 - x2).toNat < M11 → X11 x2 s') (hM11 : (4 - x2).toNat ≤ M11) (hI : iv_A s.1 s.2.2) (bx1 : 0 ≤ x1 ∧ x1 ≤ 3) (bx2 : 1 ≤ x2 ∧ x2 ≤ 3) : fm_96_p91 X2 X11 Q x1 x2 s := by
  unfold fm_96_p91
  exact hX11 (x2 + 1) s hI (lf_fq_rf) (show (1 : Int) ≤ x2 + 1 ∧ x2 + 1 ≤ (4 : Int) from by omega) (show (4 - (x2 + 1)).toNat < M11 from by omega)
theorem sm_96_p11 {X2 : Int → lf_Z → Prop} {X11 : Int → lf_Z → Prop} {Q : lf_Z → Prop} {x1 : Int} {x2 : Int} {s : lf_Z} (hQ : ∀  (s' : lf_Z), iv_A s'.1 s'.2.2 → lf_fq [16, 17, 18] 1000000 true s.1 s.2.2 s'.1 s'.2.2 → Q  s') {M2 : Nat} (hX2 : ∀ (x1 : Int) (s' : lf_Z), iv_A s'.1 s'.2.2 → lf_fq [16, 17, 18] 1000000 true s.1 s.2.2 s'.1 s'.2.2 → 0 ≤ x1 ∧ x1 ≤ 4 → (4 - x1).toNat < M2 → X2 x1 s') (hM2 : (4 - x1).toNat ≤ M2) {M11 : Nat} (hX11 : ∀ (x2 : Int) (s' : lf_Z), iv_A s'.1 s'.2.2 → lf_fq [16, 17, 18] 1000000 true s.1 s.2.2 s'.1 s'.2.2 → 1 ≤ x2 ∧ x2 ≤ 4 → (4 - x2).toNat < M11 → X11 x2 s') (hM11 : (4 - x2).toNat ≤ M11) (hI : iv_A s.1 s.2.2) (bx1 : 0 ≤ x1 ∧ x1 ≤ 3) (bx2 : 1 ≤ x2 ∧ x2 ≤ 4) : fm_96_p11 X2 Q x1 X11 x2 s := by
  unfold fm_96_p11
  refine ⟨(show lf_R x2 from lf_Rof (by omega)), ?_⟩
  refine ⟨fun c2 => ?_, fun c2 => ?_⟩
  · skip
    replace c2 : 4 ≤ x2 := c2
    exact sm_96_p97 hQ hX2 (show (4 - x1).toNat ≤ M2 from by omega) hI (show (0 : Int) ≤ x1 ∧ x1 ≤ (3 : Int) from by omega)
  · skip
    replace c2 : ¬ (4 ≤ x2) := c2
    refine sm_80 hI (show (-2147483648 : Int) ≤ x1 ∧ x1 ≤ (2147483647 : Int) from by omega) (fun z24 q3 => ?_)
    have b4 : (-2147483648) ≤ s.1 16 x1 ∧ s.1 16 x1 ≤ 2147483647 := iv_full hI
    refine ⟨fun c5 => ?_, fun c5 => ?_⟩
    · skip
      have dc5 := q3.2 c5
      exact sm_96_p97 hQ hX2 (show (4 - x1).toNat ≤ M2 from by omega) hI (show (0 : Int) ≤ x1 ∧ x1 ≤ (3 : Int) from by omega)
    · skip
      have dc5 := q3.1 c5
      refine sm_80 hI (show (-2147483648 : Int) ≤ x2 ∧ x2 ≤ (2147483647 : Int) from by omega) (fun z26 q6 => ?_)
      have b7 : (-2147483648) ≤ s.1 16 x2 ∧ s.1 16 x2 ≤ 2147483647 := iv_full hI
      refine ⟨fun c8 => ?_, fun c8 => ?_⟩
      · skip
        have dc8 := q6.2 c8
        exact sm_96_p91 hQ hX2 (show (4 - x1).toNat ≤ M2 from by omega) hX11 (show (4 - x2).toNat ≤ M11 from by omega) hI (show (0 : Int) ≤ x1 ∧ x1 ≤ (3 : Int) from by omega) (show (1 : Int) ≤ x2 ∧ x2 ≤ (3 : Int) from by omega)
      · skip
        have dc8 := q6.1 c8
        refine ⟨(show (0 : Int) ≤ x2 ∧ x2 < (4 : Int) from by omega), ?_⟩
        have b9 : (-1) ≤ s.1 17 x2 ∧ s.1 17 x2 ≤ 11 := iv_r17 hI _
        have b10 : s.1 16 x2 ≤ 0 ∨ 0 ≤ s.1 17 x2 := (by first | exact (show s.1 16 x2 ≤ 0 ∨ 0 ≤ s.1 17 x2 from iv_sp hI (by omega) (by omega)) | exact iv_sp hI (by omega) (by omega))
        refine ⟨(show (0 : Int) ≤ x1 ∧ x1 < (4 : Int) from by omega), ?_⟩
        have b11 : (-1) ≤ s.1 17 x1 ∧ s.1 17 x1 ≤ 11 := iv_r17 hI _
        have b12 : s.1 16 x1 ≤ 0 ∨ 0 ≤ s.1 17 x1 := (by first | exact (show s.1 16 x1 ≤ 0 ∨ 0 ≤ s.1 17 x1 from iv_sp hI (by omega) (by omega)) | exact iv_sp hI (by omega) (by omega))
        refine ⟨(show lf_R (s.1 17 x2) from lf_Rof (by omega)), ?_⟩
        refine ⟨(show lf_R (s.1 17 x1) from lf_Rof (by omega)), ?_⟩
        refine ⟨fun c13 => ?_, fun c13 => ?_⟩
        · skip
          replace c13 : s.1 17 x2 ≠ s.1 17 x1 := c13
          exact sm_96_p91 hQ hX2 (show (4 - x1).toNat ≤ M2 from by omega) hX11 (show (4 - x2).toNat ≤ M11 from by omega) hI (show (0 : Int) ≤ x1 ∧ x1 ≤ (3 : Int) from by omega) (show (1 : Int) ≤ x2 ∧ x2 ≤ (3 : Int) from by omega)
        · skip
          replace c13 : ¬ (s.1 17 x2 ≠ s.1 17 x1) := c13
          have b14 : (-2147483648) ≤ lf_w ((s.1 16 x1) + (s.1 16 x2)) ∧ lf_w ((s.1 16 x1) + (s.1 16 x2)) ≤ 2147483647 := lf_wB
          have hI15 : iv_A (lf_up s.1 16 x1 (lf_w ((s.1 16 x1) + (s.1 16 x2)))) s.2.2 := iv_w16 hI (by omega) (by omega)
          have fr16 : lf_fq [16, 17, 18] 1000000 true s.1 s.2.2 (lf_up s.1 16 x1 (lf_w ((s.1 16 x1) + (s.1 16 x2)))) s.2.2 := lf_fq_up (lf_fq_rf) rfl (fun h => absurd h (by decide))
          refine sm_69 hI15 (show (0 : Int) ≤ x2 ∧ x2 ≤ (3 : Int) from by omega) (show (-2147483648 : Int) ≤ 0 ∧ 0 ≤ (2147483647 : Int) from by omega) (show (-1 : Int) ≤ (-1) ∧ (-1) ≤ (11 : Int) from by omega) (show (-1 : Int) ≤ (-1) ∧ (-1) ≤ (11 : Int) from by omega) (show 0 ≤ 0 ∨ 0 ≤ (-1) from by omega) (fun s31 hI18 fr17 => ?_)
          have fr20 : lf_fq [16, 17, 18] 1000000 true s.1 s.2.2 s31.1 s31.2.2 := lf_fq_tr fr16 (lf_fq_wk fr17 rfl (by decide) (by decide))
          exact sm_96_p91 (fun t9 i9 f9 => hQ t9 i9 (lf_fq_tr fr20 f9)) (fun p0 t9 i9 f9 => hX2 p0 t9 i9 (lf_fq_tr fr20 f9)) (show (4 - x1).toNat ≤ M2 from by omega) (fun p0 t9 i9 f9 => hX11 p0 t9 i9 (lf_fq_tr fr20 f9)) (show (4 - x2).toNat ≤ M11 from by omega) hI18 (show (0 : Int) ≤ x1 ∧ x1 ≤ (3 : Int) from by omega) (show (1 : Int) ≤ x2 ∧ x2 ≤ (3 : Int) from by omega)
theorem sm_96_p11L {X2 : Int → lf_Z → Prop} {Q : lf_Z → Prop} {x1 : Int} {x2 : Int} {s : lf_Z} (hQ : ∀  (s' : lf_Z), iv_A s'.1 s'.2.2 → lf_fq [16, 17, 18] 1000000 true s.1 s.2.2 s'.1 s'.2.2 → Q  s') {M2 : Nat} (hX2 : ∀ (x1 : Int) (s' : lf_Z), iv_A s'.1 s'.2.2 → lf_fq [16, 17, 18] 1000000 true s.1 s.2.2 s'.1 s'.2.2 → 0 ≤ x1 ∧ x1 ≤ 4 → (4 - x1).toNat < M2 → X2 x1 s') (hM2 : (4 - x1).toNat ≤ M2) (hI : iv_A s.1 s.2.2) (bx1 : 0 ≤ x1 ∧ x1 ≤ 3) (bx2 : 1 ≤ x2 ∧ x2 ≤ 4) : fm_96_p11L X2 Q x1 x2 s := by
  intro X11 hX
  have key : ∀ (m9 : Nat) (x2 : Int) (s' : lf_Z), iv_A s'.1 s'.2.2 → lf_fq [16, 17, 18] 1000000 true s.1 s.2.2 s'.1 s'.2.2 → 1 ≤ x2 ∧ x2 ≤ 4 → (4 - x2).toNat < m9 → X11 x2 s' := by
    intro m9
    induction m9 with
    | zero => intro x2 s' _ _ bx2 h9; exact absurd h9 (Nat.not_lt_zero _)
    | succ m9 ih => intro x2 s' i7 f7 bx2 h9; exact hX _ _ (sm_96_p11 (fun t9 i9 f9 => hQ t9 i9 (lf_fq_tr f7 f9))  (fun p0 t9 i9 f9 => hX2 p0 t9 i9 (lf_fq_tr f7 f9)) hM2 (fun x2' t8 i8 f8 bx2' h8 => ih x2' t8 i8 (lf_fq_tr f7 f8) bx2' (by omega)) (Nat.le_refl _)  i7  bx1 bx2  )
  exact key _ _ s hI lf_fq_rf bx2 (Nat.lt_succ_self _)
theorem sm_96_p2 {X2 : Int → lf_Z → Prop} {Q : lf_Z → Prop} {x1 : Int} {s : lf_Z} (hQ : ∀  (s' : lf_Z), iv_A s'.1 s'.2.2 → lf_fq [16, 17, 18] 1000000 true s.1 s.2.2 s'.1 s'.2.2 → Q  s') {M2 : Nat} (hX2 : ∀ (x1 : Int) (s' : lf_Z), iv_A s'.1 s'.2.2 → lf_fq [16, 17, 18] 1000000 true s.1 s.2.2 s'.1 s'.2.2 → 0 ≤ x1 ∧ x1 ≤ 4 → (4 - x1).toNat < M2 → X2 x1 s') (hM2 : (4 - x1).toNat ≤ M2) (hI : iv_A s.1 s.2.2) (bx1 : 0 ≤ x1 ∧ x1 ≤ 4) : fm_96_p2 Q X2 x1 s := by
  unfold fm_96_p2
  refine ⟨(show lf_R x1 from lf_Rof (by omega)), ?_⟩
  refine ⟨fun c1 => ?_, fun c1 => ?_⟩
  · skip
    replace c1 : 4 ≤ x1 := c1
    exact hQ s hI (lf_fq_rf)
  · skip
    replace c1 : ¬ (4 ≤ x1) := c1
    exact sm_96_p11L hQ hX2 (show (4 - x1).toNat ≤ M2 from by omega) hI (show (0 : Int) ≤ x1 ∧ x1 ≤ (3 : Int) from by omega) (show (1 : Int) ≤ x1 + 1 ∧ x1 + 1 ≤ (4 : Int) from by omega)
theorem sm_96_p2L {Q : lf_Z → Prop} {x1 : Int} {s : lf_Z} (hQ : ∀  (s' : lf_Z), iv_A s'.1 s'.2.2 → lf_fq [16, 17, 18] 1000000 true s.1 s.2.2 s'.1 s'.2.2 → Q  s') (hI : iv_A s.1 s.2.2) (bx1 : 0 ≤ x1 ∧ x1 ≤ 4) : fm_96_p2L Q x1 s := by
  intro X2 hX
  have key : ∀ (m9 : Nat) (x1 : Int) (s' : lf_Z), iv_A s'.1 s'.2.2 → lf_fq [16, 17, 18] 1000000 true s.1 s.2.2 s'.1 s'.2.2 → 0 ≤ x1 ∧ x1 ≤ 4 → (4 - x1).toNat < m9 → X2 x1 s' := by
    intro m9
    induction m9 with
    | zero => intro x1 s' _ _ bx1 h9; exact absurd h9 (Nat.not_lt_zero _)
    | succ m9 ih => intro x1 s' i7 f7 bx1 h9; exact hX _ _ (sm_96_p2 (fun t9 i9 f9 => hQ t9 i9 (lf_fq_tr f7 f9))   (fun x1' t8 i8 f8 bx1' h8 => ih x1' t8 i8 (lf_fq_tr f7 f8) bx1' (by omega)) (Nat.le_refl _)  i7  bx1  )
  exact key _ _ s hI lf_fq_rf bx1 (Nat.lt_succ_self _)
theorem sm_96 {Q : lf_Z → Prop} {s : lf_Z} (hI : iv_A s.1 s.2.2) (hQ : ∀  (s' : lf_Z), iv_A s'.1 s'.2.2 → lf_fq [16, 17, 18] 1000000 true s.1 s.2.2 s'.1 s'.2.2 → Q  s') : fm_96 Q s := by
  unfold fm_96
  exact sm_96_p2L hQ hI (show (0 : Int) ≤ 0 ∧ 0 ≤ (4 : Int) from by omega)
-- fm_76 Land.countWaysAt 1 i
theorem sm_76 {a1 : Int} {Q : Int → lf_Z → Prop} {s : lf_Z} (hI : iv_A s.1 s.2.2) (ba1 : (-2147483648) ≤ a1 ∧ a1 ≤ 2147483647) (hQ : ∀ (r : Int), (0 ≤ r ∧ r ≤ 4) → Q r s) : fm_76 a1 Q s := by
  unfold fm_76
  refine sm_18 hI (show (-2147483648 : Int) ≤ a1 ∧ a1 ≤ (2147483647 : Int) from by omega) (fun z22 q1 => ?_)
  have b2 : 0 ≤ s.1 1 0 ∧ s.1 1 0 ≤ 12 := iv_r1_0 hI
  refine ⟨fun c3 => ?_, fun c3 => ?_⟩
  · skip
    have dc3 := q1.2 c3
    exact hQ 0 (show (0 : Int) ≤ 0 ∧ 0 ≤ (4 : Int) from by omega)
  · skip
    have dc3 := q1.1 c3
    refine ⟨(show (0 : Int) ≤ a1 ∧ a1 < (12 : Int) from by omega), ?_⟩
    have b4 : 0 ≤ s.1 12 a1 ∧ s.1 12 a1 ≤ 4 := iv_r12 hI _
    exact hQ (s.1 12 a1) (show (0 : Int) ≤ s.1 12 a1 ∧ s.1 12 a1 ≤ (4 : Int) from by omega)
-- fm_77 Land.wayAt 1 i i
theorem sm_77 {a1 : Int} {a2 : Int} {Q : Int → lf_Z → Prop} {s : lf_Z} (hI : iv_A s.1 s.2.2) (ba1 : (-2147483648) ≤ a1 ∧ a1 ≤ 2147483647) (ba2 : 0 ≤ a2 ∧ a2 ≤ 3) (hQ : ∀ (r : Int), ((-1) ≤ r ∧ r ≤ 15) → Q r s) : fm_77 a1 a2 Q s := by
  unfold fm_77
  refine sm_18 hI (show (-2147483648 : Int) ≤ a1 ∧ a1 ≤ (2147483647 : Int) from by omega) (fun z22 q1 => ?_)
  have b2 : 0 ≤ s.1 1 0 ∧ s.1 1 0 ≤ 12 := iv_r1_0 hI
  refine ⟨fun c3 => ?_, fun c3 => ?_⟩
  · skip
    have dc3 := q1.2 c3
    exact hQ (-1) (show (-1 : Int) ≤ (-1) ∧ (-1) ≤ (15 : Int) from by omega)
  · skip
    have dc3 := q1.1 c3
    refine ⟨(show lf_R a2 from lf_Rof (by omega)), ?_⟩
    refine ⟨fun c4 => ?_, fun c4 => ?_⟩
    · skip
      replace c4 : a2 < 0 := c4
      exfalso
      omega
    · skip
      replace c4 : ¬ (a2 < 0) := c4
      refine ⟨(show (0 : Int) ≤ a1 ∧ a1 < (12 : Int) from by omega), ?_⟩
      have b5 : 0 ≤ s.1 12 a1 ∧ s.1 12 a1 ≤ 4 := iv_r12 hI _
      refine ⟨(show lf_R (s.1 12 a1) from lf_Rof (by omega)), ?_⟩
      refine ⟨fun c6 => ?_, fun c6 => ?_⟩
      · skip
        replace c6 : a2 < s.1 12 a1 := c6
        refine ⟨(show (0 : Int) ≤ (a1 * 4) + a2 ∧ (a1 * 4) + a2 < (48 : Int) from by omega), ?_⟩
        have b7 : 0 ≤ s.1 11 ((a1 * 4) + a2) ∧ s.1 11 ((a1 * 4) + a2) ≤ 15 := iv_r11 hI _
        exact hQ (s.1 11 ((a1 * 4) + a2)) (show (-1 : Int) ≤ s.1 11 ((a1 * 4) + a2) ∧ s.1 11 ((a1 * 4) + a2) ≤ (15 : Int) from by omega)
      · skip
        replace c6 : ¬ (a2 < s.1 12 a1) := c6
        exact hQ (-1) (show (-1 : Int) ≤ (-1) ∧ (-1) ≤ (15 : Int) from by omega)
-- fm_79 Land.hasWay 1 i
theorem sm_79 {a1 : Int} {Q : Bool → lf_Z → Prop} {s : lf_Z} (hI : iv_A s.1 s.2.2) (ba1 : (-2147483648) ≤ a1 ∧ a1 ≤ 2147483647) (hQ : ∀ (z : Bool), ((z = true → (0 ≤ a1 ∧ a1 < s.1 1 1)) ∧ (z = false → ¬ (0 ≤ a1 ∧ a1 < s.1 1 1))) → Q z s) : fm_79 a1 Q s := by
  unfold fm_79
  refine ⟨(show lf_R a1 from lf_Rof (by omega)), ?_⟩
  refine ⟨fun c1 => ?_, fun c1 => ?_⟩
  · skip
    replace c1 : a1 < 0 := c1
    exact hQ false (lf_pf (by omega))
  · skip
    replace c1 : ¬ (a1 < 0) := c1
    have b2 : 0 ≤ s.1 1 1 ∧ s.1 1 1 ≤ 16 := iv_r1_1 hI
    refine ⟨(show lf_R (s.1 1 1) from lf_Rof (by omega)), ?_⟩
    refine ⟨fun c3 => ?_, fun c3 => ?_⟩
    · skip
      replace c3 : s.1 1 1 ≤ a1 := c3
      exact hQ false (lf_pf (by omega))
    · skip
      replace c3 : ¬ (s.1 1 1 ≤ a1) := c3
      exact hQ true (lf_pt (by omega))
-- fm_78 Land.otherSide 1 i i
theorem sm_78 {a1 : Int} {a2 : Int} {Q : Int → lf_Z → Prop} {s : lf_Z} (hI : iv_A s.1 s.2.2) (ba1 : (-1) ≤ a1 ∧ a1 ≤ 15) (ba2 : (-2147483648) ≤ a2 ∧ a2 ≤ 2147483647) (hQ : ∀ (r : Int), (((-1) ≤ r ∧ r ≤ 11) ∧ (r = iv_od (s.1 1 1) (s.1 4) (s.1 5) a1 a2)) → Q r s) : fm_78 a1 a2 Q s := by
  unfold fm_78
  refine sm_79 hI (show (-2147483648 : Int) ≤ a1 ∧ a1 ≤ (2147483647 : Int) from by omega) (fun z22 q1 => ?_)
  have b2 : 0 ≤ s.1 1 1 ∧ s.1 1 1 ≤ 16 := iv_r1_1 hI
  refine ⟨fun c3 => ?_, fun c3 => ?_⟩
  · skip
    have dc3 := q1.1 c3
    refine ⟨(show (0 : Int) ≤ a1 ∧ a1 < (16 : Int) from by omega), ?_⟩
    have b4 : 0 ≤ s.1 4 a1 ∧ s.1 4 a1 ≤ 11 := iv_r4 hI _
    refine ⟨(show lf_R (s.1 4 a1) from lf_Rof (by omega)), ?_⟩
    refine ⟨(show lf_R a2 from lf_Rof (by omega)), ?_⟩
    refine ⟨fun c5 => ?_, fun c5 => ?_⟩
    · skip
      replace c5 : s.1 4 a1 ≠ a2 := c5
      have b6 : 0 ≤ s.1 5 a1 ∧ s.1 5 a1 ≤ 11 := iv_r5 hI _
      refine ⟨(show lf_R (s.1 5 a1) from lf_Rof (by omega)), ?_⟩
      refine ⟨fun c7 => ?_, fun c7 => ?_⟩
      · skip
        replace c7 : s.1 5 a1 ≠ a2 := c7
        exact hQ (-1) ⟨(show (-1 : Int) ≤ (-1) ∧ (-1) ≤ (11 : Int) from by omega), (show (-1) = iv_od (s.1 1 1) (s.1 4) (s.1 5) a1 a2 from by unfold iv_od; (repeat' split) <;> first | rfl | omega | contradiction)⟩
      · skip
        replace c7 : ¬ (s.1 5 a1 ≠ a2) := c7
        exact hQ (s.1 4 a1) ⟨(show (-1 : Int) ≤ s.1 4 a1 ∧ s.1 4 a1 ≤ (11 : Int) from by omega), (show s.1 4 a1 = iv_od (s.1 1 1) (s.1 4) (s.1 5) a1 a2 from by unfold iv_od; (repeat' split) <;> first | rfl | omega | contradiction)⟩
    · skip
      replace c5 : ¬ (s.1 4 a1 ≠ a2) := c5
      have b8 : 0 ≤ s.1 5 a1 ∧ s.1 5 a1 ≤ 11 := iv_r5 hI _
      exact hQ (s.1 5 a1) ⟨(show (-1 : Int) ≤ s.1 5 a1 ∧ s.1 5 a1 ≤ (11 : Int) from by omega), (show s.1 5 a1 = iv_od (s.1 1 1) (s.1 4) (s.1 5) a1 a2 from by unfold iv_od; (repeat' split) <;> first | rfl | omega | contradiction)⟩
  · skip
    have dc3 := q1.2 c3
    exact hQ (-1) ⟨(show (-1 : Int) ≤ (-1) ∧ (-1) ≤ (11 : Int) from by omega), (show (-1) = iv_od (s.1 1 1) (s.1 4) (s.1 5) a1 a2 from by unfold iv_od; (repeat' split) <;> first | rfl | omega | contradiction)⟩
-- fm_89 Land.hasGate 1 i
theorem sm_89 {a1 : Int} {Q : Bool → lf_Z → Prop} {s : lf_Z} (hI : iv_A s.1 s.2.2) (ba1 : (-2147483648) ≤ a1 ∧ a1 ≤ 2147483647) (hQ : ∀ (z : Bool), ((z = true → (0 ≤ a1 ∧ a1 < s.1 1 1 ∧ s.1 6 a1 = 0)) ∧ (z = false → ¬ (0 ≤ a1 ∧ a1 < s.1 1 1 ∧ s.1 6 a1 = 0))) → Q z s) : fm_89 a1 Q s := by
  unfold fm_89
  refine ⟨(show lf_R a1 from lf_Rof (by omega)), ?_⟩
  refine ⟨fun c1 => ?_, fun c1 => ?_⟩
  · skip
    replace c1 : a1 < 0 := c1
    exact hQ false (lf_pf (by omega))
  · skip
    replace c1 : ¬ (a1 < 0) := c1
    have b2 : 0 ≤ s.1 1 1 ∧ s.1 1 1 ≤ 16 := iv_r1_1 hI
    refine ⟨(show lf_R (s.1 1 1) from lf_Rof (by omega)), ?_⟩
    refine ⟨fun c3 => ?_, fun c3 => ?_⟩
    · skip
      replace c3 : s.1 1 1 ≤ a1 := c3
      exact hQ false (lf_pf (by omega))
    · skip
      replace c3 : ¬ (s.1 1 1 ≤ a1) := c3
      refine ⟨(show (0 : Int) ≤ a1 ∧ a1 < (16 : Int) from by omega), ?_⟩
      have b4 : 0 ≤ s.1 6 a1 ∧ s.1 6 a1 ≤ 1 := iv_r6 hI _
      refine ⟨(show lf_R (s.1 6 a1) from lf_Rof (by omega)), ?_⟩
      refine ⟨fun c5 => ?_, fun c5 => ?_⟩
      · skip
        replace c5 : s.1 6 a1 ≠ 0 := c5
        exact hQ false (lf_pf (by omega))
      · skip
        replace c5 : ¬ (s.1 6 a1 ≠ 0) := c5
        exact hQ true (lf_pt (by omega))
