-- fm_303 Model.areUnlike 95 i
theorem sm_303_p4 {X4 : Int → Int → lf_Z → Prop} {Q : Bool → lf_Z → Prop} {x1 : Int} {x2 : Int} {x3 : Int} {s : lf_Z} {s0 : lf_Z} (hQ : ∀ (z : Bool), (z = false → ¬ od_D (s.1 116) (x1)) → Q z s) {M4 : Nat} (hX4 : ∀ (x2 : Int) (x3 : Int), (-2147483648) ≤ x2 ∧ x2 ≤ 2147483647 → 0 ≤ x3 ∧ x3 ≤ 6 → (od_D (s.1 116) (x1) → x2 = au_t (x3)) → (6 - x3).toNat < M4 → X4 x2 x3 s) (hM4 : (6 - x3).toNat ≤ M4) (hI : iv_A s.1 s.2.2) (bx1 : 0 ≤ x1 ∧ x1 ≤ 6) (bx2 : (-2147483648) ≤ x2 ∧ x2 ≤ 2147483647) (bx3 : 0 ≤ x3 ∧ x3 ≤ 6) (kv0 : od_D (s.1 116) (x1) → x2 = au_t (x3)) : fm_303_p4 Q x1 X4 x2 x3 s := by
  unfold fm_303_p4
  refine ⟨(show lf_R x3 from lf_Rof (by omega)), ?_⟩
  refine ⟨(show lf_R x1 from lf_Rof (by omega)), ?_⟩
  refine ⟨fun c2 => ?_, fun c2 => ?_⟩
  · skip
    replace c2 : x1 ≤ x3 := c2
    exact hQ true (show true = false → ¬ od_D ((s.1 116)) (x1) from fun h => by cases h)
  · skip
    replace c2 : ¬ (x1 ≤ x3) := c2
    refine ⟨(show (0 : Int) ≤ x3 ∧ x3 < (6 : Int) from by omega), ?_⟩
    have b3 : 0 ≤ s.1 116 x3 ∧ s.1 116 x3 ≤ 5 := iv_r116 hI _
    refine sm_210 hI (show (-2147483648 : Int) ≤ x2 ∧ x2 ≤ (2147483647 : Int) from by omega) (show (-1 : Int) ≤ s.1 116 x3 ∧ s.1 116 x3 ≤ (15 : Int) from by omega) (fun z25 q4 => ?_)
    refine ⟨fun c5 => ?_, fun c5 => ?_⟩
    · skip
      have dc5 := q4.2 c5
      have b6 : 1 ≤ lf_shl 1 (s.1 116 x3) ∧ lf_shl 1 (s.1 116 x3) ≤ 32 := lf_shl1 (m := 5) (by omega) (by omega) (by decide)
      have b7 : (-2147483648) ≤ lf_or x2 (lf_shl 1 (s.1 116 x3)) ∧ lf_or x2 (lf_shl 1 (s.1 116 x3)) ≤ 2147483647 := lf_orB
      have b8 : od_D ((s.1 116)) (x1) → (lf_or x2 (lf_shl 1 (s.1 116 x3))) = au_t ((x3 + 1)) := by first | exact (fun hD => au_s hD (kv0 hD) (by omega)) | exact (fun _ => rfl)
      exact hX4 (lf_or x2 (lf_shl 1 (s.1 116 x3))) (x3 + 1) (show (-2147483648 : Int) ≤ lf_or x2 (lf_shl 1 (s.1 116 x3)) ∧ lf_or x2 (lf_shl 1 (s.1 116 x3)) ≤ (2147483647 : Int) from by omega) (show (0 : Int) ≤ x3 + 1 ∧ x3 + 1 ≤ (6 : Int) from by omega) (show od_D ((s.1 116)) (x1) → (lf_or x2 (lf_shl 1 (s.1 116 x3))) = au_t ((x3 + 1)) from by first | with_reducible assumption | assumption) (show (6 - (x3 + 1)).toNat < M4 from by omega)
    · skip
      have dc5 := q4.1 c5
      have b9 : ¬ od_D ((s.1 116)) (x1) := fun hD => au_no hD (kv0 hD) (by omega) (by omega)
      exact hQ false (show false = false → ¬ od_D ((s.1 116)) (x1) from fun _ => by first | with_reducible assumption | assumption)
theorem sm_303_p4L {Q : Bool → lf_Z → Prop} {x1 : Int} {x2 : Int} {x3 : Int} {s : lf_Z} {s0 : lf_Z} (hQ : ∀ (z : Bool), (z = false → ¬ od_D (s.1 116) (x1)) → Q z s) (hI : iv_A s.1 s.2.2) (bx1 : 0 ≤ x1 ∧ x1 ≤ 6) (bx2 : (-2147483648) ≤ x2 ∧ x2 ≤ 2147483647) (bx3 : 0 ≤ x3 ∧ x3 ≤ 6) (kv0 : od_D (s.1 116) (x1) → x2 = au_t (x3)) : fm_303_p4L Q x1 x2 x3 s := by
  intro X4 hX
  have key : ∀ (m9 : Nat) (x2 : Int) (x3 : Int), (-2147483648) ≤ x2 ∧ x2 ≤ 2147483647 → 0 ≤ x3 ∧ x3 ≤ 6 → (od_D (s.1 116) (x1) → x2 = au_t (x3)) → (6 - x3).toNat < m9 → X4 x2 x3 s := by
    intro m9
    induction m9 with
    | zero => intro x2 x3 bx2 bx3 kv0 h9; exact absurd h9 (Nat.not_lt_zero _)
    | succ m9 ih => intro x2 x3 bx2 bx3 kv0 h9; exact hX _ _ _ (sm_303_p4 (s0 := s0) hQ   (fun x2' x3' bx2' bx3' kv0' h8 => ih x2' x3' bx2' bx3' kv0' (by omega)) (Nat.le_refl _)  hI  bx1 bx2 bx3  kv0)
  exact key _ _ _ bx2 bx3  kv0 (Nat.lt_succ_self _)
theorem sm_303 {a1 : Int} {Q : Bool → lf_Z → Prop} {s : lf_Z} (hI : iv_A s.1 s.2.2) (ba1 : 0 ≤ a1 ∧ a1 ≤ 6) (hQ : ∀ (z : Bool), (z = false → ¬ od_D (s.1 116) (a1)) → Q z s) : fm_303 a1 Q s := by
  unfold fm_303
  have b1 : od_D ((s.1 116)) (a1) → 0 = au_t (0) := by first | exact (fun hD => au_s hD (kv0 hD) (by omega)) | exact (fun _ => rfl)
  exact sm_303_p4L (s0 := s) hQ hI (show (0 : Int) ≤ a1 ∧ a1 ≤ (6 : Int) from by omega) (show (-2147483648 : Int) ≤ 0 ∧ 0 ≤ (2147483647 : Int) from by omega) (show (0 : Int) ≤ 0 ∧ 0 ≤ (6 : Int) from by omega) (show od_D ((s.1 116)) (a1) → 0 = au_t (0) from by first | with_reducible assumption | assumption)
-- fm_304 Model.nextRow 95 i i
theorem sm_304_p33 {Q : Bool → lf_Z → Prop} {x3 : Int} {s : lf_Z} {s0 : lf_Z} {g1 : Int} {g2 : Int} (hQ : ∀ (z : Bool) (s' : lf_Z), iv_A s'.1 s'.2.2 → lf_fq [116] 1000000 true s.1 s.2.2 s'.1 s'.2.2 → (z = true → od (s'.1 116) (g2) (g1) = od (s0.1 116) (g2) (g1) + 1) → (od_B (s'.1 116) (g1) (g2)) → (z = false → ∀ j : Int, 0 ≤ j → j < g1 → s0.1 116 j = g2 - 1) → Q z s') (hI : iv_A s.1 s.2.2) (bx3 : (-1) ≤ x3 ∧ x3 ≤ 5) (kv0 : od_I (s0.1 116) (s.1 116) (g2) (g1) (x3)) (kv1 : od_B (s.1 116) (g1) (g2)) (kv2 : od_A (s0.1 116) (s.1 116) (g1) (g2) (x3)) (kv3 : (x3 < 0 ∨ s.1 116 x3 ≠ g2 - 1) ∧ x3 < g1 ∧ 1 ≤ g2 ∧ g2 ≤ 6) : fm_304_p33 Q x3 s := by
  unfold fm_304_p33
  refine ⟨(show lf_R x3 from lf_Rof (by omega)), ?_⟩
  refine ⟨fun c6 => ?_, fun c6 => ?_⟩
  · skip
    replace c6 : 0 ≤ x3 := c6
    have b7 : 0 ≤ (s.1 116 x3) ∧ (s.1 116 x3) < g2 := kv1 _ (by omega) (by omega)
    refine ⟨(show (0 : Int) ≤ x3 ∧ x3 < (6 : Int) from by omega), ?_⟩
    have b8 : 0 ≤ s.1 116 x3 ∧ s.1 116 x3 ≤ 5 := iv_r116 hI _
    have hI9 : iv_A (lf_up s.1 116 x3 ((s.1 116 x3) + 1)) s.2.2 := iv_w116 hI (by omega)
    have fr10 : lf_fq [116] 1000000 true s.1 s.2.2 (lf_up s.1 116 x3 ((s.1 116 x3) + 1)) s.2.2 := lf_fq_up (lf_fq_rf) rfl (fun h => absurd h (by decide))
    have b11 : od (((lf_up s.1 116 x3 ((s.1 116 x3) + 1)) 116)) (g2) (g1) = od (s0.1 116) (g2) (g1) + 1 := kv0 (by omega) _ lf_up_s (fun j hj => lf_up_i hj)
    have b12 : od_B (((lf_up s.1 116 x3 ((s.1 116 x3) + 1)) 116)) (g1) (g2) := by first | exact kv1 | exact od_Bu kv1 (by omega) lf_up_s (fun j hj => lf_up_i hj)
    exact hQ true (lf_up s.1 116 x3 ((s.1 116 x3) + 1), s.2.1, s.2.2) hI9 fr10 (show true = true → od (((lf_up s.1 116 x3 ((s.1 116 x3) + 1)) 116)) (g2) (g1) = od (s0.1 116) (g2) (g1) + 1 from fun _ => by omega) (show od_B (((lf_up s.1 116 x3 ((s.1 116 x3) + 1)) 116)) (g1) (g2) from by first | with_reducible assumption | assumption) (show true = false → ∀ j : Int, 0 ≤ j → j < g1 → s0.1 116 j = g2 - 1 from fun h => by cases h)
  · skip
    replace c6 : ¬ (0 ≤ x3) := c6
    have b13 : ∀ j : Int, 0 ≤ j → j < g1 → s0.1 116 j = g2 - 1 := fun j a b => kv2.1 j (by omega) b
    have b14 : od_B ((s.1 116)) (g1) (g2) := by first | exact kv1 | exact od_Bu kv1 (by omega) lf_up_s (fun j hj => lf_up_i hj)
    exact hQ false s hI (lf_fq_rf) (show false = true → od ((s.1 116)) (g2) (g1) = od (s0.1 116) (g2) (g1) + 1 from fun h => by cases h) (show od_B ((s.1 116)) (g1) (g2) from by first | with_reducible assumption | assumption) (show false = false → ∀ j : Int, 0 ≤ j → j < g1 → s0.1 116 j = g2 - 1 from fun _ => by first | with_reducible assumption | assumption)
theorem sm_304_p4 {X4 : Int → lf_Z → Prop} {Q : Bool → lf_Z → Prop} {x2 : Int} {x3 : Int} {s : lf_Z} {s0 : lf_Z} {g1 : Int} {g2 : Int} (hQ : ∀ (z : Bool) (s' : lf_Z), iv_A s'.1 s'.2.2 → lf_fq [116] 1000000 true s.1 s.2.2 s'.1 s'.2.2 → (z = true → od (s'.1 116) (g2) (g1) = od (s0.1 116) (g2) (g1) + 1) → (od_B (s'.1 116) (g1) (g2)) → (z = false → ∀ j : Int, 0 ≤ j → j < g1 → s0.1 116 j = g2 - 1) → Q z s') {M4 : Nat} (hX4 : ∀ (x3 : Int) (s' : lf_Z), iv_A s'.1 s'.2.2 → lf_fq [116] 1000000 true s.1 s.2.2 s'.1 s'.2.2 → (-1) ≤ x3 ∧ x3 ≤ 5 → (od_I (s0.1 116) (s'.1 116) (g2) (g1) (x3)) → (od_B (s'.1 116) (g1) (g2)) → (od_A (s0.1 116) (s'.1 116) (g1) (g2) (x3)) → (x2 = g2 ∧ x3 < g1 ∧ 1 ≤ g2 ∧ g2 ≤ 6) → (x3 - (-1)).toNat < M4 → X4 x3 s') (hM4 : (x3 - (-1)).toNat ≤ M4) (hI : iv_A s.1 s.2.2) (bx2 : 0 ≤ x2 ∧ x2 ≤ 6) (bx3 : (-1) ≤ x3 ∧ x3 ≤ 5) (kv0 : od_I (s0.1 116) (s.1 116) (g2) (g1) (x3)) (kv1 : od_B (s.1 116) (g1) (g2)) (kv2 : od_A (s0.1 116) (s.1 116) (g1) (g2) (x3)) (kv3 : x2 = g2 ∧ x3 < g1 ∧ 1 ≤ g2 ∧ g2 ≤ 6) : fm_304_p4 Q x2 X4 x3 s := by
  unfold fm_304_p4
  refine ⟨(show lf_R x3 from lf_Rof (by omega)), ?_⟩
  refine ⟨fun c4 => ?_, fun c4 => ?_⟩
  · skip
    replace c4 : x3 < 0 := c4
    have b5 : 0 ≤ s.1 116 x3 ∧ s.1 116 x3 ≤ 5 := iv_r116 hI _
    exact sm_304_p33 (s0 := s0) (g1 := g1) (g2 := g2) hQ hI (show (-1 : Int) ≤ x3 ∧ x3 ≤ (5 : Int) from by omega) (show od_I (s0.1 116) ((s.1 116)) (g2) (g1) (x3) from by first | with_reducible assumption | assumption) (show od_B ((s.1 116)) (g1) (g2) from by first | with_reducible assumption | assumption) (show od_A (s0.1 116) ((s.1 116)) (g1) (g2) (x3) from by first | with_reducible assumption | assumption) (show (x3 < 0 ∨ (s.1 116 x3) ≠ g2 - 1) ∧ x3 < g1 ∧ 1 ≤ g2 ∧ g2 ≤ 6 from by omega)
  · skip
    replace c4 : ¬ (x3 < 0) := c4
    refine ⟨(show (0 : Int) ≤ x3 ∧ x3 < (6 : Int) from by omega), ?_⟩
    have b15 : 0 ≤ s.1 116 x3 ∧ s.1 116 x3 ≤ 5 := iv_r116 hI _
    refine ⟨(show lf_R (s.1 116 x3) from lf_Rof (by omega)), ?_⟩
    refine ⟨(show lf_R (x2 - 1) from lf_Rof (by omega)), ?_⟩
    refine ⟨fun c16 => ?_, fun c16 => ?_⟩
    · skip
      replace c16 : s.1 116 x3 ≠ x2 - 1 := c16
      exact sm_304_p33 (s0 := s0) (g1 := g1) (g2 := g2) hQ hI (show (-1 : Int) ≤ x3 ∧ x3 ≤ (5 : Int) from by omega) (show od_I (s0.1 116) ((s.1 116)) (g2) (g1) (x3) from by first | with_reducible assumption | assumption) (show od_B ((s.1 116)) (g1) (g2) from by first | with_reducible assumption | assumption) (show od_A (s0.1 116) ((s.1 116)) (g1) (g2) (x3) from by first | with_reducible assumption | assumption) (show (x3 < 0 ∨ (s.1 116 x3) ≠ g2 - 1) ∧ x3 < g1 ∧ 1 ≤ g2 ∧ g2 ≤ 6 from by omega)
    · skip
      replace c16 : ¬ (s.1 116 x3 ≠ x2 - 1) := c16
      have hI17 : iv_A (lf_up s.1 116 x3 0) s.2.2 := iv_w116 hI (by omega)
      have fr18 : lf_fq [116] 1000000 true s.1 s.2.2 (lf_up s.1 116 x3 0) s.2.2 := lf_fq_up (lf_fq_rf) rfl (fun h => absurd h (by decide))
      have b19 : od_I (s0.1 116) (((lf_up s.1 116 x3 0) 116)) (g2) (g1) ((x3 + (-1))) := by first | exact od_I0 | exact od_Is kv0 (by omega) (by omega) lf_up_s (fun j hj => lf_up_i hj)
      have b20 : od_B (((lf_up s.1 116 x3 0) 116)) (g1) (g2) := by first | with_reducible assumption | exact od_Bu kv1 (by omega) lf_up_s (fun j hj => lf_up_i hj)
      have b21 : od_A (s0.1 116) (((lf_up s.1 116 x3 0) 116)) (g1) (g2) ((x3 + (-1))) := by first | exact od_A0 | exact od_As kv2 (by omega) (fun j hj => lf_up_i hj)
      exact hX4 (x3 + (-1)) (lf_up s.1 116 x3 0, s.2.1, s.2.2) hI17 fr18 (show (-1 : Int) ≤ x3 + (-1) ∧ x3 + (-1) ≤ (5 : Int) from by omega) (show od_I (s0.1 116) (((lf_up s.1 116 x3 0) 116)) (g2) (g1) ((x3 + (-1))) from by first | with_reducible assumption | assumption) (show od_B (((lf_up s.1 116 x3 0) 116)) (g1) (g2) from by first | with_reducible assumption | assumption) (show od_A (s0.1 116) (((lf_up s.1 116 x3 0) 116)) (g1) (g2) ((x3 + (-1))) from by first | with_reducible assumption | assumption) (show x2 = g2 ∧ (x3 + (-1)) < g1 ∧ 1 ≤ g2 ∧ g2 ≤ 6 from by omega) (show ((x3 + (-1)) - (-1)).toNat < M4 from by omega)
theorem sm_304_p4L {Q : Bool → lf_Z → Prop} {x2 : Int} {x3 : Int} {s : lf_Z} {s0 : lf_Z} {g1 : Int} {g2 : Int} (hQ : ∀ (z : Bool) (s' : lf_Z), iv_A s'.1 s'.2.2 → lf_fq [116] 1000000 true s.1 s.2.2 s'.1 s'.2.2 → (z = true → od (s'.1 116) (g2) (g1) = od (s0.1 116) (g2) (g1) + 1) → (od_B (s'.1 116) (g1) (g2)) → (z = false → ∀ j : Int, 0 ≤ j → j < g1 → s0.1 116 j = g2 - 1) → Q z s') (hI : iv_A s.1 s.2.2) (bx2 : 0 ≤ x2 ∧ x2 ≤ 6) (bx3 : (-1) ≤ x3 ∧ x3 ≤ 5) (kv0 : od_I (s0.1 116) (s.1 116) (g2) (g1) (x3)) (kv1 : od_B (s.1 116) (g1) (g2)) (kv2 : od_A (s0.1 116) (s.1 116) (g1) (g2) (x3)) (kv3 : x2 = g2 ∧ x3 < g1 ∧ 1 ≤ g2 ∧ g2 ≤ 6) : fm_304_p4L Q x2 x3 s := by
  intro X4 hX
  have key : ∀ (m9 : Nat) (x3 : Int) (s' : lf_Z), iv_A s'.1 s'.2.2 → lf_fq [116] 1000000 true s.1 s.2.2 s'.1 s'.2.2 → (-1) ≤ x3 ∧ x3 ≤ 5 → (od_I (s0.1 116) (s'.1 116) (g2) (g1) (x3)) → (od_B (s'.1 116) (g1) (g2)) → (od_A (s0.1 116) (s'.1 116) (g1) (g2) (x3)) → (x2 = g2 ∧ x3 < g1 ∧ 1 ≤ g2 ∧ g2 ≤ 6) → (x3 - (-1)).toNat < m9 → X4 x3 s' := by
    intro m9
    induction m9 with
    | zero => intro x3 s' _ _ bx3 kv0 kv1 kv2 kv3 h9; exact absurd h9 (Nat.not_lt_zero _)
    | succ m9 ih => intro x3 s' i7 f7 bx3 kv0 kv1 kv2 kv3 h9; exact hX _ _ (sm_304_p4 (s0 := s0) (g1 := g1) (g2 := g2) (fun r9 t9 i9 f9 => hQ r9 t9 i9 (lf_fq_tr f7 f9))   (fun x3' t8 i8 f8 bx3' kv0' kv1' kv2' kv3' h8 => ih x3' t8 i8 (lf_fq_tr f7 f8) bx3' kv0' kv1' kv2' kv3' (by omega)) (Nat.le_refl _)  i7  bx2 bx3  kv0 kv1 kv2 kv3)
  exact key _ _ s hI lf_fq_rf bx3 kv0 kv1 kv2 kv3 (Nat.lt_succ_self _)
theorem sm_304 {a1 : Int} {a2 : Int} {Q : Bool → lf_Z → Prop} {s : lf_Z} (hI : iv_A s.1 s.2.2) (ba1 : 0 ≤ a1 ∧ a1 ≤ 6) (ba2 : 0 ≤ a2 ∧ a2 ≤ 6) (kp0 : od_B (s.1 116) (a1) (a2)) (kp1 : 1 ≤ a2 ∧ a2 ≤ 6 ∧ 0 ≤ a1 ∧ a1 ≤ 6) (hQ : ∀ (z : Bool) (s' : lf_Z), iv_A s'.1 s'.2.2 → lf_fq [116] 1000000 true s.1 s.2.2 s'.1 s'.2.2 → (z = true → od (s'.1 116) (a2) (a1) = od (s.1 116) (a2) (a1) + 1) → (od_B (s'.1 116) (a1) (a2)) → (z = false → ∀ j : Int, 0 ≤ j → j < a1 → s.1 116 j = a2 - 1) → Q z s') : fm_304 a1 a2 Q s := by
  unfold fm_304
  have b1 : od_I (s.1 116) ((s.1 116)) (a2) (a1) ((a1 - 1)) := by first | exact od_I0 | exact od_Is kv0 (by omega) (by omega) lf_up_s (fun j hj => lf_up_i hj)
  have b2 : od_B ((s.1 116)) (a1) (a2) := by first | with_reducible assumption | exact od_Bu kv1 (by omega) lf_up_s (fun j hj => lf_up_i hj)
  have b3 : od_A (s.1 116) ((s.1 116)) (a1) (a2) ((a1 - 1)) := by first | exact od_A0 | exact od_As kv2 (by omega) (fun j hj => lf_up_i hj)
  exact sm_304_p4L (s0 := s) (g1 := a1) (g2 := a2) hQ hI (show (0 : Int) ≤ a2 ∧ a2 ≤ (6 : Int) from by omega) (show (-1 : Int) ≤ a1 - 1 ∧ a1 - 1 ≤ (5 : Int) from by omega) (show od_I (s.1 116) ((s.1 116)) (a2) (a1) ((a1 - 1)) from by first | with_reducible assumption | assumption) (show od_B ((s.1 116)) (a1) (a2) from by first | with_reducible assumption | assumption) (show od_A (s.1 116) ((s.1 116)) (a1) (a2) ((a1 - 1)) from by first | with_reducible assumption | assumption) (show a2 = a2 ∧ (a1 - 1) < a1 ∧ 1 ≤ a2 ∧ a2 ≤ 6 from by omega)
-- fm_302 Model.bestSending 95 i i
theorem sm_302_p162 {X30 : Int → Int → lf_Z → Prop} {Q : Int → lf_Z → Prop} {x1 : Int} {x2 : Int} {y0 : Int} {s : lf_Z} (hQ : ∀ (r : Int) (s' : lf_Z), iv_A s'.1 s'.2.2 → lf_fq [116, 117] 1000000 true s.1 s.2.2 s'.1 s'.2.2 → (0 ≤ r ∧ r ≤ 1000) → Q r s') {M30 : Nat} (hX30 : ∀ (x3 : Int) (x4 : Int) (s' : lf_Z), iv_A s'.1 s'.2.2 → lf_fq [116, 117] 1000000 true s.1 s.2.2 s'.1 s'.2.2 → 0 ≤ x3 ∧ x3 ≤ 1000 → 0 ≤ x4 ∧ x4 ≤ 1 → (od_B (s'.1 116) (x1) (x2)) → (x1 ≤ 6 ∧ 1 ≤ x2 ∧ x2 ≤ 6) → (od_m (x4) (46657 - od (s'.1 116) (x2) (x1))).toNat < M30 → X30 x3 x4 s') (hM30 : (46657 - od (s.1 116) (x2) (x1)).toNat ≤ M30) (hI : iv_A s.1 s.2.2) (bx1 : 0 ≤ x1 ∧ x1 ≤ 6) (bx2 : 0 ≤ x2 ∧ x2 ≤ 6) (by0 : 0 ≤ y0 ∧ y0 ≤ 1000) (kv0 : od_B (s.1 116) (x1) (x2)) (kv1 : x1 ≤ 6 ∧ 1 ≤ x2 ∧ x2 ≤ 6) : fm_302_p162 X30 Q x1 x2 y0 s := by
  unfold fm_302_p162
  have b12 : 0 ≤ od ((s.1 116)) (x2) (x1) ∧ od ((s.1 116)) (x2) (x1) ≤ 46655 := od_le kv0 (by omega) (by omega)
  refine sm_304 hI (show (0 : Int) ≤ x1 ∧ x1 ≤ (6 : Int) from by omega) (show (0 : Int) ≤ x2 ∧ x2 ≤ (6 : Int) from by omega) (show od_B ((s.1 116)) (x1) (x2) from by first | with_reducible assumption | assumption) (show 1 ≤ x2 ∧ x2 ≤ 6 ∧ 0 ≤ x1 ∧ x1 ≤ 6 from by omega) (fun z33 s32 hI14 fr13 ps16 ps17 ps18 => ?_)
  replace ps16 : z33 = true → od (s32.1 116) (x2) (x1) = od ((s.1 116)) (x2) (x1) + 1 := ps16
  replace ps17 : od_B (s32.1 116) (x1) (x2) := ps17
  replace ps18 : z33 = false → ∀ j : Int, 0 ≤ j → j < x1 → (s.1 116) j = x2 - 1 := ps18
  have fr19 : lf_fq [116, 117] 1000000 true s.1 s.2.2 s32.1 s32.2.2 := lf_fq_tr (lf_fq_rf) (lf_fq_wk fr13 rfl (by decide) (by decide))
  have b20 : (lf_b z33) = 0 ∨ od ((s32.1 116)) (x2) (x1) = od (s.1 116) (x2) (x1) + 1 := lf_bz ps16
  have b21 : ((lf_b z33) = 0 ∧ od_m (lf_b z33) (46657 - od ((s32.1 116)) (x2) (x1)) = 0) ∨ ((lf_b z33) ≠ 0 ∧ od_m (lf_b z33) (46657 - od ((s32.1 116)) (x2) (x1)) = 46657 - od ((s32.1 116)) (x2) (x1)) := od_mE _ _
  have b22 : 0 ≤ od ((s32.1 116)) (x2) (x1) ∧ od ((s32.1 116)) (x2) (x1) ≤ 46655 := od_le ps17 (by omega) (by omega)
  have b23 : od_B ((s32.1 116)) (x1) (x2) := by first | with_reducible assumption | exact od_Bz kv0 (by omega) (by omega)
  have zzz33 : 0 ≤ lf_b z33 ∧ lf_b z33 ≤ 1 := lf_b01
  exact hX30 (y0) (lf_b z33) s32 hI14 fr19 (show (0 : Int) ≤ y0 ∧ y0 ≤ (1000 : Int) from by omega) (show (0 : Int) ≤ lf_b z33 ∧ lf_b z33 ≤ (1 : Int) from by omega) (show od_B ((s32.1 116)) (x1) (x2) from by first | with_reducible assumption | assumption) (show x1 ≤ 6 ∧ 1 ≤ x2 ∧ x2 ≤ 6 from by omega) (show (od_m ((lf_b z33)) (46657 - od ((s32.1 116)) (x2) (x1))).toNat < M30 from by omega)
theorem sm_302_p150 {X30 : Int → Int → lf_Z → Prop} {Q : Int → lf_Z → Prop} {x1 : Int} {x2 : Int} {x3 : Int} {x5 : Int} {s : lf_Z} (hQ : ∀ (r : Int) (s' : lf_Z), iv_A s'.1 s'.2.2 → lf_fq [116, 117] 1000000 true s.1 s.2.2 s'.1 s'.2.2 → (0 ≤ r ∧ r ≤ 1000) → Q r s') {M30 : Nat} (hX30 : ∀ (x3 : Int) (x4 : Int) (s' : lf_Z), iv_A s'.1 s'.2.2 → lf_fq [116, 117] 1000000 true s.1 s.2.2 s'.1 s'.2.2 → 0 ≤ x3 ∧ x3 ≤ 1000 → 0 ≤ x4 ∧ x4 ≤ 1 → (od_B (s'.1 116) (x1) (x2)) → (x1 ≤ 6 ∧ 1 ≤ x2 ∧ x2 ≤ 6) → (od_m (x4) (46657 - od (s'.1 116) (x2) (x1))).toNat < M30 → X30 x3 x4 s') (hM30 : (46657 - od (s.1 116) (x2) (x1)).toNat ≤ M30) (hI : iv_A s.1 s.2.2) (bx1 : 0 ≤ x1 ∧ x1 ≤ 6) (bx2 : 0 ≤ x2 ∧ x2 ≤ 6) (bx3 : 0 ≤ x3 ∧ x3 ≤ 1000) (bx5 : 0 ≤ x5 ∧ x5 ≤ 1000) (kv0 : od_B (s.1 116) (x1) (x2)) (kv1 : x1 ≤ 6 ∧ 1 ≤ x2 ∧ x2 ≤ 6) : fm_302_p150 X30 Q x1 x2 x3 x5 s := by
  unfold fm_302_p150
  refine ⟨(show lf_R x5 from lf_Rof (by omega)), ?_⟩
  refine ⟨(show lf_R x3 from lf_Rof (by omega)), ?_⟩
  refine ⟨fun c11 => ?_, fun c11 => ?_⟩
  · skip
    replace c11 : x3 ≤ x5 := c11
    exact sm_302_p162 hQ hX30 (show (46657 - od ((s.1 116)) (x2) (x1)).toNat ≤ M30 from by omega) hI (show (0 : Int) ≤ x1 ∧ x1 ≤ (6 : Int) from by omega) (show (0 : Int) ≤ x2 ∧ x2 ≤ (6 : Int) from by omega) (show (0 : Int) ≤ x3 ∧ x3 ≤ (1000 : Int) from by omega) (show od_B ((s.1 116)) (x1) (x2) from by first | with_reducible assumption | assumption) (show x1 ≤ 6 ∧ 1 ≤ x2 ∧ x2 ≤ 6 from by omega)
  · skip
    replace c11 : ¬ (x3 ≤ x5) := c11
    exact sm_302_p162 hQ hX30 (show (46657 - od ((s.1 116)) (x2) (x1)).toNat ≤ M30 from by omega) hI (show (0 : Int) ≤ x1 ∧ x1 ≤ (6 : Int) from by omega) (show (0 : Int) ≤ x2 ∧ x2 ≤ (6 : Int) from by omega) (show (0 : Int) ≤ x5 ∧ x5 ≤ (1000 : Int) from by omega) (show od_B ((s.1 116)) (x1) (x2) from by first | with_reducible assumption | assumption) (show x1 ≤ 6 ∧ 1 ≤ x2 ∧ x2 ≤ 6 from by omega)
theorem sm_302_p118 {X30 : Int → Int → lf_Z → Prop} {X118 : Int → lf_Z → Prop} {Q : Int → lf_Z → Prop} {x1 : Int} {x2 : Int} {x3 : Int} {x5 : Int} {x6 : Int} {s : lf_Z} (hQ : ∀ (r : Int) (s' : lf_Z), iv_A s'.1 s'.2.2 → lf_fq [116, 117] 1000000 true s.1 s.2.2 s'.1 s'.2.2 → (0 ≤ r ∧ r ≤ 1000) → Q r s') {M30 : Nat} (hX30 : ∀ (x3 : Int) (x4 : Int) (s' : lf_Z), iv_A s'.1 s'.2.2 → lf_fq [116, 117] 1000000 true s.1 s.2.2 s'.1 s'.2.2 → 0 ≤ x3 ∧ x3 ≤ 1000 → 0 ≤ x4 ∧ x4 ≤ 1 → (od_B (s'.1 116) (x1) (x2)) → (x1 ≤ 6 ∧ 1 ≤ x2 ∧ x2 ≤ 6) → (od_m (x4) (46657 - od (s'.1 116) (x2) (x1))).toNat < M30 → X30 x3 x4 s') (hM30 : (46657 - od (s.1 116) (x2) (x1)).toNat ≤ M30) {M118 : Nat} (hX118 : ∀ (x6 : Int) (s' : lf_Z), iv_A s'.1 s'.2.2 → lf_fq [116, 117] 1000000 true s.1 s.2.2 s'.1 s'.2.2 → 0 ≤ x6 ∧ x6 ≤ 6 → (od_B (s'.1 116) (x1) (x2)) → (x1 ≤ 6 ∧ 1 ≤ x2 ∧ x2 ≤ 6) → ((46657 - od (s'.1 116) (x2) (x1)).toNat ≤ M30) → (6 - x6).toNat < M118 → X118 x6 s') (hM118 : (6 - x6).toNat ≤ M118) (hI : iv_A s.1 s.2.2) (bx1 : 0 ≤ x1 ∧ x1 ≤ 6) (bx2 : 0 ≤ x2 ∧ x2 ≤ 6) (bx3 : 0 ≤ x3 ∧ x3 ≤ 1000) (bx5 : 0 ≤ x5 ∧ x5 ≤ 1000) (bx6 : 0 ≤ x6 ∧ x6 ≤ 6) (kv0 : od_B (s.1 116) (x1) (x2)) (kv1 : x1 ≤ 6 ∧ 1 ≤ x2 ∧ x2 ≤ 6) (kv2 : (46657 - od (s.1 116) (x2) (x1)).toNat ≤ M30) : fm_302_p118 X30 Q x1 x2 x3 x5 X118 x6 s := by
  unfold fm_302_p118
  refine ⟨(show lf_R x6 from lf_Rof (by omega)), ?_⟩
  refine ⟨(show lf_R x1 from lf_Rof (by omega)), ?_⟩
  refine ⟨fun c10 => ?_, fun c10 => ?_⟩
  · skip
    replace c10 : x1 ≤ x6 := c10
    exact sm_302_p150 hQ hX30 (show (46657 - od ((s.1 116)) (x2) (x1)).toNat ≤ M30 from by omega) hI (show (0 : Int) ≤ x1 ∧ x1 ≤ (6 : Int) from by omega) (show (0 : Int) ≤ x2 ∧ x2 ≤ (6 : Int) from by omega) (show (0 : Int) ≤ x3 ∧ x3 ≤ (1000 : Int) from by omega) (show (0 : Int) ≤ x5 ∧ x5 ≤ (1000 : Int) from by omega) (show od_B ((s.1 116)) (x1) (x2) from by first | with_reducible assumption | assumption) (show x1 ≤ 6 ∧ 1 ≤ x2 ∧ x2 ≤ 6 from by omega)
  · skip
    replace c10 : ¬ (x1 ≤ x6) := c10
    refine ⟨(show lf_R x5 from lf_Rof (by omega)), ?_⟩
    refine ⟨(show lf_R x3 from lf_Rof (by omega)), ?_⟩
    refine ⟨fun c24 => ?_, fun c24 => ?_⟩
    · skip
      replace c24 : x3 ≤ x5 := c24
      exact sm_302_p150 hQ hX30 (show (46657 - od ((s.1 116)) (x2) (x1)).toNat ≤ M30 from by omega) hI (show (0 : Int) ≤ x1 ∧ x1 ≤ (6 : Int) from by omega) (show (0 : Int) ≤ x2 ∧ x2 ≤ (6 : Int) from by omega) (show (0 : Int) ≤ x3 ∧ x3 ≤ (1000 : Int) from by omega) (show (0 : Int) ≤ x5 ∧ x5 ≤ (1000 : Int) from by omega) (show od_B ((s.1 116)) (x1) (x2) from by first | with_reducible assumption | assumption) (show x1 ≤ 6 ∧ 1 ≤ x2 ∧ x2 ≤ 6 from by omega)
    · skip
      replace c24 : ¬ (x3 ≤ x5) := c24
      refine ⟨(show (0 : Int) ≤ x6 ∧ x6 < (6 : Int) from by omega), ?_⟩
      have b25 : 0 ≤ s.1 116 x6 ∧ s.1 116 x6 ≤ 5 := iv_r116 hI _
      have hI26 : iv_A (lf_up s.1 117 x6 (s.1 116 x6)) s.2.2 := iv_w117 hI (by omega)
      have fr27 : lf_fq [116, 117] 1000000 true s.1 s.2.2 (lf_up s.1 117 x6 (s.1 116 x6)) s.2.2 := lf_fq_up (lf_fq_rf) rfl (fun h => absurd h (by decide))
      exact hX118 (x6 + 1) (lf_up s.1 117 x6 (s.1 116 x6), s.2.1, s.2.2) hI26 fr27 (show (0 : Int) ≤ x6 + 1 ∧ x6 + 1 ≤ (6 : Int) from by omega) (show od_B ((s.1 116)) (x1) (x2) from by first | with_reducible assumption | assumption) (show x1 ≤ 6 ∧ 1 ≤ x2 ∧ x2 ≤ 6 from by omega) (show (46657 - od ((s.1 116)) (x2) (x1)).toNat ≤ M30 from by omega) (show (6 - (x6 + 1)).toNat < M118 from by omega)
theorem sm_302_p118L {X30 : Int → Int → lf_Z → Prop} {Q : Int → lf_Z → Prop} {x1 : Int} {x2 : Int} {x3 : Int} {x5 : Int} {x6 : Int} {s : lf_Z} (hQ : ∀ (r : Int) (s' : lf_Z), iv_A s'.1 s'.2.2 → lf_fq [116, 117] 1000000 true s.1 s.2.2 s'.1 s'.2.2 → (0 ≤ r ∧ r ≤ 1000) → Q r s') {M30 : Nat} (hX30 : ∀ (x3 : Int) (x4 : Int) (s' : lf_Z), iv_A s'.1 s'.2.2 → lf_fq [116, 117] 1000000 true s.1 s.2.2 s'.1 s'.2.2 → 0 ≤ x3 ∧ x3 ≤ 1000 → 0 ≤ x4 ∧ x4 ≤ 1 → (od_B (s'.1 116) (x1) (x2)) → (x1 ≤ 6 ∧ 1 ≤ x2 ∧ x2 ≤ 6) → (od_m (x4) (46657 - od (s'.1 116) (x2) (x1))).toNat < M30 → X30 x3 x4 s') (hM30 : (46657 - od (s.1 116) (x2) (x1)).toNat ≤ M30) (hI : iv_A s.1 s.2.2) (bx1 : 0 ≤ x1 ∧ x1 ≤ 6) (bx2 : 0 ≤ x2 ∧ x2 ≤ 6) (bx3 : 0 ≤ x3 ∧ x3 ≤ 1000) (bx5 : 0 ≤ x5 ∧ x5 ≤ 1000) (bx6 : 0 ≤ x6 ∧ x6 ≤ 6) (kv0 : od_B (s.1 116) (x1) (x2)) (kv1 : x1 ≤ 6 ∧ 1 ≤ x2 ∧ x2 ≤ 6) (kv2 : (46657 - od (s.1 116) (x2) (x1)).toNat ≤ M30) : fm_302_p118L X30 Q x1 x2 x3 x5 x6 s := by
  intro X118 hX
  have key : ∀ (m9 : Nat) (x6 : Int) (s' : lf_Z), iv_A s'.1 s'.2.2 → lf_fq [116, 117] 1000000 true s.1 s.2.2 s'.1 s'.2.2 → 0 ≤ x6 ∧ x6 ≤ 6 → (od_B (s'.1 116) (x1) (x2)) → (x1 ≤ 6 ∧ 1 ≤ x2 ∧ x2 ≤ 6) → ((46657 - od (s'.1 116) (x2) (x1)).toNat ≤ M30) → (6 - x6).toNat < m9 → X118 x6 s' := by
    intro m9
    induction m9 with
    | zero => intro x6 s' _ _ bx6 kv0 kv1 kv2 h9; exact absurd h9 (Nat.not_lt_zero _)
    | succ m9 ih => intro x6 s' i7 f7 bx6 kv0 kv1 kv2 h9; exact hX _ _ (sm_302_p118 (fun r9 t9 i9 f9 => hQ r9 t9 i9 (lf_fq_tr f7 f9))  (fun p0 p1 t9 i9 f9 => hX30 p0 p1 t9 i9 (lf_fq_tr f7 f9)) kv2 (fun x6' t8 i8 f8 bx6' kv0' kv1' kv2' h8 => ih x6' t8 i8 (lf_fq_tr f7 f8) bx6' kv0' kv1' kv2' (by omega)) (Nat.le_refl _)  i7  bx1 bx2 bx3 bx5 bx6  kv0 kv1 kv2)
  exact key _ _ s hI lf_fq_rf bx6 kv0 kv1 kv2 (Nat.lt_succ_self _)
theorem sm_302_p107 {X30 : Int → Int → lf_Z → Prop} {X55 : Int → Int → lf_Z → Prop} {Q : Int → lf_Z → Prop} {x1 : Int} {x2 : Int} {x3 : Int} {x6 : Int} {y0 : Int} {s : lf_Z} (hQ : ∀ (r : Int) (s' : lf_Z), iv_A s'.1 s'.2.2 → lf_fq [116, 117] 1000000 true s.1 s.2.2 s'.1 s'.2.2 → (0 ≤ r ∧ r ≤ 1000) → Q r s') {M30 : Nat} (hX30 : ∀ (x3 : Int) (x4 : Int) (s' : lf_Z), iv_A s'.1 s'.2.2 → lf_fq [116, 117] 1000000 true s.1 s.2.2 s'.1 s'.2.2 → 0 ≤ x3 ∧ x3 ≤ 1000 → 0 ≤ x4 ∧ x4 ≤ 1 → (od_B (s'.1 116) (x1) (x2)) → (x1 ≤ 6 ∧ 1 ≤ x2 ∧ x2 ≤ 6) → (od_m (x4) (46657 - od (s'.1 116) (x2) (x1))).toNat < M30 → X30 x3 x4 s') (hM30 : (46657 - od (s.1 116) (x2) (x1)).toNat ≤ M30) {M55 : Nat} (hX55 : ∀ (x5 : Int) (x6 : Int) (s' : lf_Z), iv_A s'.1 s'.2.2 → lf_fq [116, 117] 1000000 true s.1 s.2.2 s'.1 s'.2.2 → 0 ≤ x5 ∧ x5 ≤ 1000 → 0 ≤ x6 ∧ x6 ≤ 6 → (od_B (s'.1 116) (x1) (x2)) → (x1 ≤ 6 ∧ 1 ≤ x2 ∧ x2 ≤ 6) → ((46657 - od (s'.1 116) (x2) (x1)).toNat ≤ M30) → (6 - x6).toNat < M55 → X55 x5 x6 s') (hM55 : (6 - x6).toNat ≤ M55) (hI : iv_A s.1 s.2.2) (bx1 : 1 ≤ x1 ∧ x1 ≤ 6) (bx2 : 0 ≤ x2 ∧ x2 ≤ 6) (bx3 : 0 ≤ x3 ∧ x3 ≤ 1000) (bx6 : 0 ≤ x6 ∧ x6 ≤ 5) (by0 : 0 ≤ y0 ∧ y0 ≤ 1000) (kv0 : od_B (s.1 116) (x1) (x2)) (kv1 : x1 ≤ 6 ∧ 1 ≤ x2 ∧ x2 ≤ 6) : fm_302_p107 X30 X55 Q x1 x2 x3 x6 y0 s := by
  unfold fm_302_p107
  exact hX55 (y0) (x6 + 1) s hI (lf_fq_rf) (show (0 : Int) ≤ y0 ∧ y0 ≤ (1000 : Int) from by omega) (show (0 : Int) ≤ x6 + 1 ∧ x6 + 1 ≤ (6 : Int) from by omega) (show od_B ((s.1 116)) (x1) (x2) from by first | with_reducible assumption | assumption) (show x1 ≤ 6 ∧ 1 ≤ x2 ∧ x2 ≤ 6 from by omega) (show (46657 - od ((s.1 116)) (x2) (x1)).toNat ≤ M30 from by omega) (show (6 - (x6 + 1)).toNat < M55 from by omega)
theorem sm_302_p55 {X30 : Int → Int → lf_Z → Prop} {X55 : Int → Int → lf_Z → Prop} {Q : Int → lf_Z → Prop} {x1 : Int} {x2 : Int} {x3 : Int} {x5 : Int} {x6 : Int} {s : lf_Z} (hQ : ∀ (r : Int) (s' : lf_Z), iv_A s'.1 s'.2.2 → lf_fq [116, 117] 1000000 true s.1 s.2.2 s'.1 s'.2.2 → (0 ≤ r ∧ r ≤ 1000) → Q r s') {M30 : Nat} (hX30 : ∀ (x3 : Int) (x4 : Int) (s' : lf_Z), iv_A s'.1 s'.2.2 → lf_fq [116, 117] 1000000 true s.1 s.2.2 s'.1 s'.2.2 → 0 ≤ x3 ∧ x3 ≤ 1000 → 0 ≤ x4 ∧ x4 ≤ 1 → (od_B (s'.1 116) (x1) (x2)) → (x1 ≤ 6 ∧ 1 ≤ x2 ∧ x2 ≤ 6) → (od_m (x4) (46657 - od (s'.1 116) (x2) (x1))).toNat < M30 → X30 x3 x4 s') (hM30 : (46657 - od (s.1 116) (x2) (x1)).toNat ≤ M30) {M55 : Nat} (hX55 : ∀ (x5 : Int) (x6 : Int) (s' : lf_Z), iv_A s'.1 s'.2.2 → lf_fq [116, 117] 1000000 true s.1 s.2.2 s'.1 s'.2.2 → 0 ≤ x5 ∧ x5 ≤ 1000 → 0 ≤ x6 ∧ x6 ≤ 6 → (od_B (s'.1 116) (x1) (x2)) → (x1 ≤ 6 ∧ 1 ≤ x2 ∧ x2 ≤ 6) → ((46657 - od (s'.1 116) (x2) (x1)).toNat ≤ M30) → (6 - x6).toNat < M55 → X55 x5 x6 s') (hM55 : (6 - x6).toNat ≤ M55) (hI : iv_A s.1 s.2.2) (bx1 : 0 ≤ x1 ∧ x1 ≤ 6) (bx2 : 0 ≤ x2 ∧ x2 ≤ 6) (bx3 : 0 ≤ x3 ∧ x3 ≤ 1000) (bx5 : 0 ≤ x5 ∧ x5 ≤ 1000) (bx6 : 0 ≤ x6 ∧ x6 ≤ 6) (kv0 : od_B (s.1 116) (x1) (x2)) (kv1 : x1 ≤ 6 ∧ 1 ≤ x2 ∧ x2 ≤ 6) (kv2 : (46657 - od (s.1 116) (x2) (x1)).toNat ≤ M30) : fm_302_p55 X30 Q x1 x2 x3 X55 x5 x6 s := by
  unfold fm_302_p55
  refine ⟨(show lf_R x6 from lf_Rof (by omega)), ?_⟩
  refine ⟨(show lf_R x1 from lf_Rof (by omega)), ?_⟩
  refine ⟨fun c9 => ?_, fun c9 => ?_⟩
  · skip
    replace c9 : x1 ≤ x6 := c9
    exact sm_302_p118L hQ hX30 (show (46657 - od ((s.1 116)) (x2) (x1)).toNat ≤ M30 from by omega) hI (show (0 : Int) ≤ x1 ∧ x1 ≤ (6 : Int) from by omega) (show (0 : Int) ≤ x2 ∧ x2 ≤ (6 : Int) from by omega) (show (0 : Int) ≤ x3 ∧ x3 ≤ (1000 : Int) from by omega) (show (0 : Int) ≤ x5 ∧ x5 ≤ (1000 : Int) from by omega) (show (0 : Int) ≤ 0 ∧ 0 ≤ (6 : Int) from by omega) (show od_B ((s.1 116)) (x1) (x2) from by first | with_reducible assumption | assumption) (show x1 ≤ 6 ∧ 1 ≤ x2 ∧ x2 ≤ 6 from by omega) (show (46657 - od ((s.1 116)) (x2) (x1)).toNat ≤ M30 from by omega)
  · skip
    replace c9 : ¬ (x1 ≤ x6) := c9
    refine ⟨(show (0 : Int) ≤ x6 ∧ x6 < (6 : Int) from by omega), ?_⟩
    have b28 : 0 ≤ s.1 116 x6 ∧ s.1 116 x6 ≤ 5 := iv_r116 hI _
    refine ⟨(show (0 : Int) ≤ (12 * (s.1 116 x6)) + x6 ∧ (12 * (s.1 116 x6)) + x6 < (72 : Int) from by omega), ?_⟩
    have b29 : 0 ≤ s.1 115 ((12 * (s.1 116 x6)) + x6) ∧ s.1 115 ((12 * (s.1 116 x6)) + x6) ≤ 1000 := iv_r115 hI _
    refine ⟨(show lf_R (s.1 115 ((12 * (s.1 116 x6)) + x6)) from lf_Rof (by omega)), ?_⟩
    refine ⟨(show lf_R x5 from lf_Rof (by omega)), ?_⟩
    refine ⟨fun c30 => ?_, fun c30 => ?_⟩
    · skip
      replace c30 : s.1 115 ((12 * (s.1 116 x6)) + x6) ≤ x5 := c30
      exact sm_302_p107 hQ hX30 (show (46657 - od ((s.1 116)) (x2) (x1)).toNat ≤ M30 from by omega) hX55 (show (6 - x6).toNat ≤ M55 from by omega) hI (show (1 : Int) ≤ x1 ∧ x1 ≤ (6 : Int) from by omega) (show (0 : Int) ≤ x2 ∧ x2 ≤ (6 : Int) from by omega) (show (0 : Int) ≤ x3 ∧ x3 ≤ (1000 : Int) from by omega) (show (0 : Int) ≤ x6 ∧ x6 ≤ (5 : Int) from by omega) (show (0 : Int) ≤ x5 ∧ x5 ≤ (1000 : Int) from by omega) (show od_B ((s.1 116)) (x1) (x2) from by first | with_reducible assumption | assumption) (show x1 ≤ 6 ∧ 1 ≤ x2 ∧ x2 ≤ 6 from by omega)
    · skip
      replace c30 : ¬ (s.1 115 ((12 * (s.1 116 x6)) + x6) ≤ x5) := c30
      exact sm_302_p107 hQ hX30 (show (46657 - od ((s.1 116)) (x2) (x1)).toNat ≤ M30 from by omega) hX55 (show (6 - x6).toNat ≤ M55 from by omega) hI (show (1 : Int) ≤ x1 ∧ x1 ≤ (6 : Int) from by omega) (show (0 : Int) ≤ x2 ∧ x2 ≤ (6 : Int) from by omega) (show (0 : Int) ≤ x3 ∧ x3 ≤ (1000 : Int) from by omega) (show (0 : Int) ≤ x6 ∧ x6 ≤ (5 : Int) from by omega) (show (0 : Int) ≤ s.1 115 ((12 * (s.1 116 x6)) + x6) ∧ s.1 115 ((12 * (s.1 116 x6)) + x6) ≤ (1000 : Int) from by omega) (show od_B ((s.1 116)) (x1) (x2) from by first | with_reducible assumption | assumption) (show x1 ≤ 6 ∧ 1 ≤ x2 ∧ x2 ≤ 6 from by omega)
theorem sm_302_p55L {X30 : Int → Int → lf_Z → Prop} {Q : Int → lf_Z → Prop} {x1 : Int} {x2 : Int} {x3 : Int} {x5 : Int} {x6 : Int} {s : lf_Z} (hQ : ∀ (r : Int) (s' : lf_Z), iv_A s'.1 s'.2.2 → lf_fq [116, 117] 1000000 true s.1 s.2.2 s'.1 s'.2.2 → (0 ≤ r ∧ r ≤ 1000) → Q r s') {M30 : Nat} (hX30 : ∀ (x3 : Int) (x4 : Int) (s' : lf_Z), iv_A s'.1 s'.2.2 → lf_fq [116, 117] 1000000 true s.1 s.2.2 s'.1 s'.2.2 → 0 ≤ x3 ∧ x3 ≤ 1000 → 0 ≤ x4 ∧ x4 ≤ 1 → (od_B (s'.1 116) (x1) (x2)) → (x1 ≤ 6 ∧ 1 ≤ x2 ∧ x2 ≤ 6) → (od_m (x4) (46657 - od (s'.1 116) (x2) (x1))).toNat < M30 → X30 x3 x4 s') (hM30 : (46657 - od (s.1 116) (x2) (x1)).toNat ≤ M30) (hI : iv_A s.1 s.2.2) (bx1 : 0 ≤ x1 ∧ x1 ≤ 6) (bx2 : 0 ≤ x2 ∧ x2 ≤ 6) (bx3 : 0 ≤ x3 ∧ x3 ≤ 1000) (bx5 : 0 ≤ x5 ∧ x5 ≤ 1000) (bx6 : 0 ≤ x6 ∧ x6 ≤ 6) (kv0 : od_B (s.1 116) (x1) (x2)) (kv1 : x1 ≤ 6 ∧ 1 ≤ x2 ∧ x2 ≤ 6) (kv2 : (46657 - od (s.1 116) (x2) (x1)).toNat ≤ M30) : fm_302_p55L X30 Q x1 x2 x3 x5 x6 s := by
  intro X55 hX
  have key : ∀ (m9 : Nat) (x5 : Int) (x6 : Int) (s' : lf_Z), iv_A s'.1 s'.2.2 → lf_fq [116, 117] 1000000 true s.1 s.2.2 s'.1 s'.2.2 → 0 ≤ x5 ∧ x5 ≤ 1000 → 0 ≤ x6 ∧ x6 ≤ 6 → (od_B (s'.1 116) (x1) (x2)) → (x1 ≤ 6 ∧ 1 ≤ x2 ∧ x2 ≤ 6) → ((46657 - od (s'.1 116) (x2) (x1)).toNat ≤ M30) → (6 - x6).toNat < m9 → X55 x5 x6 s' := by
    intro m9
    induction m9 with
    | zero => intro x5 x6 s' _ _ bx5 bx6 kv0 kv1 kv2 h9; exact absurd h9 (Nat.not_lt_zero _)
    | succ m9 ih => intro x5 x6 s' i7 f7 bx5 bx6 kv0 kv1 kv2 h9; exact hX _ _ _ (sm_302_p55 (fun r9 t9 i9 f9 => hQ r9 t9 i9 (lf_fq_tr f7 f9))  (fun p0 p1 t9 i9 f9 => hX30 p0 p1 t9 i9 (lf_fq_tr f7 f9)) kv2 (fun x5' x6' t8 i8 f8 bx5' bx6' kv0' kv1' kv2' h8 => ih x5' x6' t8 i8 (lf_fq_tr f7 f8) bx5' bx6' kv0' kv1' kv2' (by omega)) (Nat.le_refl _)  i7  bx1 bx2 bx3 bx5 bx6  kv0 kv1 kv2)
  exact key _ _ _ s hI lf_fq_rf bx5 bx6 kv0 kv1 kv2 (Nat.lt_succ_self _)
theorem sm_302_p50 {X30 : Int → Int → lf_Z → Prop} {Q : Int → lf_Z → Prop} {x1 : Int} {x2 : Int} {x3 : Int} {y0 : Int} {s : lf_Z} (hQ : ∀ (r : Int) (s' : lf_Z), iv_A s'.1 s'.2.2 → lf_fq [116, 117] 1000000 true s.1 s.2.2 s'.1 s'.2.2 → (0 ≤ r ∧ r ≤ 1000) → Q r s') {M30 : Nat} (hX30 : ∀ (x3 : Int) (x4 : Int) (s' : lf_Z), iv_A s'.1 s'.2.2 → lf_fq [116, 117] 1000000 true s.1 s.2.2 s'.1 s'.2.2 → 0 ≤ x3 ∧ x3 ≤ 1000 → 0 ≤ x4 ∧ x4 ≤ 1 → (od_B (s'.1 116) (x1) (x2)) → (x1 ≤ 6 ∧ 1 ≤ x2 ∧ x2 ≤ 6) → (od_m (x4) (46657 - od (s'.1 116) (x2) (x1))).toNat < M30 → X30 x3 x4 s') (hM30 : (46657 - od (s.1 116) (x2) (x1)).toNat ≤ M30) (hI : iv_A s.1 s.2.2) (bx1 : 0 ≤ x1 ∧ x1 ≤ 6) (bx2 : 0 ≤ x2 ∧ x2 ≤ 6) (bx3 : 0 ≤ x3 ∧ x3 ≤ 1000) (by0 : 0 ≤ y0 ∧ y0 ≤ 1000) (kv0 : od_B (s.1 116) (x1) (x2)) (kv1 : x1 ≤ 6 ∧ 1 ≤ x2 ∧ x2 ≤ 6) : fm_302_p50 X30 Q x1 x2 x3 y0 s := by
  unfold fm_302_p50
  exact sm_302_p55L hQ hX30 (show (46657 - od ((s.1 116)) (x2) (x1)).toNat ≤ M30 from by omega) hI (show (0 : Int) ≤ x1 ∧ x1 ≤ (6 : Int) from by omega) (show (0 : Int) ≤ x2 ∧ x2 ≤ (6 : Int) from by omega) (show (0 : Int) ≤ x3 ∧ x3 ≤ (1000 : Int) from by omega) (show (0 : Int) ≤ y0 ∧ y0 ≤ (1000 : Int) from by omega) (show (0 : Int) ≤ 0 ∧ 0 ≤ (6 : Int) from by omega) (show od_B ((s.1 116)) (x1) (x2) from by first | with_reducible assumption | assumption) (show x1 ≤ 6 ∧ 1 ≤ x2 ∧ x2 ≤ 6 from by omega) (show (46657 - od ((s.1 116)) (x2) (x1)).toNat ≤ M30 from by omega)
theorem sm_302_p30 {X30 : Int → Int → lf_Z → Prop} {Q : Int → lf_Z → Prop} {x1 : Int} {x2 : Int} {x3 : Int} {x4 : Int} {s : lf_Z} (hQ : ∀ (r : Int) (s' : lf_Z), iv_A s'.1 s'.2.2 → lf_fq [116, 117] 1000000 true s.1 s.2.2 s'.1 s'.2.2 → (0 ≤ r ∧ r ≤ 1000) → Q r s') {M30 : Nat} (hX30 : ∀ (x3 : Int) (x4 : Int) (s' : lf_Z), iv_A s'.1 s'.2.2 → lf_fq [116, 117] 1000000 true s.1 s.2.2 s'.1 s'.2.2 → 0 ≤ x3 ∧ x3 ≤ 1000 → 0 ≤ x4 ∧ x4 ≤ 1 → (od_B (s'.1 116) (x1) (x2)) → (x1 ≤ 6 ∧ 1 ≤ x2 ∧ x2 ≤ 6) → (od_m (x4) (46657 - od (s'.1 116) (x2) (x1))).toNat < M30 → X30 x3 x4 s') (hM30 : (od_m (x4) (46657 - od (s.1 116) (x2) (x1))).toNat ≤ M30) (hI : iv_A s.1 s.2.2) (bx1 : 0 ≤ x1 ∧ x1 ≤ 6) (bx2 : 0 ≤ x2 ∧ x2 ≤ 6) (bx3 : 0 ≤ x3 ∧ x3 ≤ 1000) (bx4 : 0 ≤ x4 ∧ x4 ≤ 1) (kv0 : od_B (s.1 116) (x1) (x2)) (kv1 : x1 ≤ 6 ∧ 1 ≤ x2 ∧ x2 ≤ 6) : fm_302_p30 Q x1 x2 X30 x3 x4 s := by
  unfold fm_302_p30
  have b4 : (x4 = 0 ∧ od_m (x4) (46657 - od ((s.1 116)) (x2) (x1)) = 0) ∨ (x4 ≠ 0 ∧ od_m (x4) (46657 - od ((s.1 116)) (x2) (x1)) = 46657 - od ((s.1 116)) (x2) (x1)) := od_mE _ _
  refine ⟨(show lf_R x4 from lf_Rof (by omega)), ?_⟩
  refine ⟨fun c5 => ?_, fun c5 => ?_⟩
  · skip
    replace c5 : x4 = 0 := c5
    exact hQ x3 s hI (lf_fq_rf) (show (0 : Int) ≤ x3 ∧ x3 ≤ (1000 : Int) from by omega)
  · skip
    replace c5 : ¬ (x4 = 0) := c5
    refine sm_303 hI (show (0 : Int) ≤ x1 ∧ x1 ≤ (6 : Int) from by omega) (fun z25 ps7 => ?_)
    replace ps7 : z25 = false → ¬ od_D ((s.1 116)) (x1) := ps7
    refine ⟨fun c8 => ?_, fun c8 => ?_⟩
    · skip
      have dps7 := ps7 c8
      exact sm_302_p50 hQ hX30 (show (46657 - od ((s.1 116)) (x2) (x1)).toNat ≤ M30 from by omega) hI (show (0 : Int) ≤ x1 ∧ x1 ≤ (6 : Int) from by omega) (show (0 : Int) ≤ x2 ∧ x2 ≤ (6 : Int) from by omega) (show (0 : Int) ≤ x3 ∧ x3 ≤ (1000 : Int) from by omega) (show (0 : Int) ≤ 1000 ∧ 1000 ≤ (1000 : Int) from by omega) (show od_B ((s.1 116)) (x1) (x2) from by first | with_reducible assumption | assumption) (show x1 ≤ 6 ∧ 1 ≤ x2 ∧ x2 ≤ 6 from by omega)
    · skip
      exact sm_302_p50 hQ hX30 (show (46657 - od ((s.1 116)) (x2) (x1)).toNat ≤ M30 from by omega) hI (show (0 : Int) ≤ x1 ∧ x1 ≤ (6 : Int) from by omega) (show (0 : Int) ≤ x2 ∧ x2 ≤ (6 : Int) from by omega) (show (0 : Int) ≤ x3 ∧ x3 ≤ (1000 : Int) from by omega) (show (0 : Int) ≤ 0 ∧ 0 ≤ (1000 : Int) from by omega) (show od_B ((s.1 116)) (x1) (x2) from by first | with_reducible assumption | assumption) (show x1 ≤ 6 ∧ 1 ≤ x2 ∧ x2 ≤ 6 from by omega)
theorem sm_302_p30L {Q : Int → lf_Z → Prop} {x1 : Int} {x2 : Int} {x3 : Int} {x4 : Int} {s : lf_Z} (hQ : ∀ (r : Int) (s' : lf_Z), iv_A s'.1 s'.2.2 → lf_fq [116, 117] 1000000 true s.1 s.2.2 s'.1 s'.2.2 → (0 ≤ r ∧ r ≤ 1000) → Q r s') (hI : iv_A s.1 s.2.2) (bx1 : 0 ≤ x1 ∧ x1 ≤ 6) (bx2 : 0 ≤ x2 ∧ x2 ≤ 6) (bx3 : 0 ≤ x3 ∧ x3 ≤ 1000) (bx4 : 0 ≤ x4 ∧ x4 ≤ 1) (kv0 : od_B (s.1 116) (x1) (x2)) (kv1 : x1 ≤ 6 ∧ 1 ≤ x2 ∧ x2 ≤ 6) : fm_302_p30L Q x1 x2 x3 x4 s := by
  intro X30 hX
  have key : ∀ (m9 : Nat) (x3 : Int) (x4 : Int) (s' : lf_Z), iv_A s'.1 s'.2.2 → lf_fq [116, 117] 1000000 true s.1 s.2.2 s'.1 s'.2.2 → 0 ≤ x3 ∧ x3 ≤ 1000 → 0 ≤ x4 ∧ x4 ≤ 1 → (od_B (s'.1 116) (x1) (x2)) → (x1 ≤ 6 ∧ 1 ≤ x2 ∧ x2 ≤ 6) → (od_m (x4) (46657 - od (s'.1 116) (x2) (x1))).toNat < m9 → X30 x3 x4 s' := by
    intro m9
    induction m9 with
    | zero => intro x3 x4 s' _ _ bx3 bx4 kv0 kv1 h9; exact absurd h9 (Nat.not_lt_zero _)
    | succ m9 ih => intro x3 x4 s' i7 f7 bx3 bx4 kv0 kv1 h9; exact hX _ _ _ (sm_302_p30 (fun r9 t9 i9 f9 => hQ r9 t9 i9 (lf_fq_tr f7 f9))   (fun x3' x4' t8 i8 f8 bx3' bx4' kv0' kv1' h8 => ih x3' x4' t8 i8 (lf_fq_tr f7 f8) bx3' bx4' kv0' kv1' (by omega)) (Nat.le_refl _)  i7  bx1 bx2 bx3 bx4  kv0 kv1)
  exact key _ _ _ s hI lf_fq_rf bx3 bx4 kv0 kv1 (Nat.lt_succ_self _)
theorem sm_302_p7 {X7 : Int → lf_Z → Prop} {Q : Int → lf_Z → Prop} {x1 : Int} {x2 : Int} {x3 : Int} {x4 : Int} {s : lf_Z} (hQ : ∀ (r : Int) (s' : lf_Z), iv_A s'.1 s'.2.2 → lf_fq [116, 117] 1000000 true s.1 s.2.2 s'.1 s'.2.2 → (0 ≤ r ∧ r ≤ 1000) → Q r s') {M7 : Nat} (hX7 : ∀ (x4 : Int) (s' : lf_Z), iv_A s'.1 s'.2.2 → lf_fq [116, 117] 1000000 true s.1 s.2.2 s'.1 s'.2.2 → 0 ≤ x4 ∧ x4 ≤ 6 → (lf_zr (s'.1 116) (x4)) → (x1 ≤ 6 ∧ 1 ≤ x2 ∧ x2 ≤ 6) → (6 - x4).toNat < M7 → X7 x4 s') (hM7 : (6 - x4).toNat ≤ M7) (hI : iv_A s.1 s.2.2) (bx1 : 0 ≤ x1 ∧ x1 ≤ 12) (bx2 : 0 ≤ x2 ∧ x2 ≤ 6) (bx3 : 1000 ≤ x3 ∧ x3 ≤ 1000) (bx4 : 0 ≤ x4 ∧ x4 ≤ 6) (kv0 : lf_zr (s.1 116) (x4)) (kv1 : x1 ≤ 6 ∧ 1 ≤ x2 ∧ x2 ≤ 6) : fm_302_p7 Q x1 x2 x3 X7 x4 s := by
  unfold fm_302_p7
  refine ⟨(show lf_R x4 from lf_Rof (by omega)), ?_⟩
  refine ⟨(show lf_R x1 from lf_Rof (by omega)), ?_⟩
  refine ⟨fun c2 => ?_, fun c2 => ?_⟩
  · skip
    replace c2 : x1 ≤ x4 := c2
    have b3 : od_B ((s.1 116)) (x1) (x2) := by first | with_reducible assumption | exact od_Bz kv0 (by omega) (by omega)
    exact sm_302_p30L hQ hI (show (0 : Int) ≤ x1 ∧ x1 ≤ (6 : Int) from by omega) (show (0 : Int) ≤ x2 ∧ x2 ≤ (6 : Int) from by omega) (show (0 : Int) ≤ x3 ∧ x3 ≤ (1000 : Int) from by omega) (show (0 : Int) ≤ 1 ∧ 1 ≤ (1 : Int) from by omega) (show od_B ((s.1 116)) (x1) (x2) from by first | with_reducible assumption | assumption) (show x1 ≤ 6 ∧ 1 ≤ x2 ∧ x2 ≤ 6 from by omega)
  · skip
    replace c2 : ¬ (x1 ≤ x4) := c2
    refine ⟨(show (0 : Int) ≤ x4 ∧ x4 < (6 : Int) from by omega), ?_⟩
    have hI31 : iv_A (lf_up s.1 116 x4 0) s.2.2 := iv_w116 hI (by omega)
    have fr32 : lf_fq [116, 117] 1000000 true s.1 s.2.2 (lf_up s.1 116 x4 0) s.2.2 := lf_fq_up (lf_fq_rf) rfl (fun h => absurd h (by decide))
    have b33 : lf_zr (((lf_up s.1 116 x4 0) 116)) ((x4 + 1)) := by first | exact lf_zrS kv0 lf_up_s (fun j hj => lf_up_i hj) | exact (fun j a b => by omega)
    exact hX7 (x4 + 1) (lf_up s.1 116 x4 0, s.2.1, s.2.2) hI31 fr32 (show (0 : Int) ≤ x4 + 1 ∧ x4 + 1 ≤ (6 : Int) from by omega) (show lf_zr (((lf_up s.1 116 x4 0) 116)) ((x4 + 1)) from by first | with_reducible assumption | assumption) (show x1 ≤ 6 ∧ 1 ≤ x2 ∧ x2 ≤ 6 from by omega) (show (6 - (x4 + 1)).toNat < M7 from by omega)
theorem sm_302_p7L {Q : Int → lf_Z → Prop} {x1 : Int} {x2 : Int} {x3 : Int} {x4 : Int} {s : lf_Z} (hQ : ∀ (r : Int) (s' : lf_Z), iv_A s'.1 s'.2.2 → lf_fq [116, 117] 1000000 true s.1 s.2.2 s'.1 s'.2.2 → (0 ≤ r ∧ r ≤ 1000) → Q r s') (hI : iv_A s.1 s.2.2) (bx1 : 0 ≤ x1 ∧ x1 ≤ 12) (bx2 : 0 ≤ x2 ∧ x2 ≤ 6) (bx3 : 1000 ≤ x3 ∧ x3 ≤ 1000) (bx4 : 0 ≤ x4 ∧ x4 ≤ 6) (kv0 : lf_zr (s.1 116) (x4)) (kv1 : x1 ≤ 6 ∧ 1 ≤ x2 ∧ x2 ≤ 6) : fm_302_p7L Q x1 x2 x3 x4 s := by
  intro X7 hX
  have key : ∀ (m9 : Nat) (x4 : Int) (s' : lf_Z), iv_A s'.1 s'.2.2 → lf_fq [116, 117] 1000000 true s.1 s.2.2 s'.1 s'.2.2 → 0 ≤ x4 ∧ x4 ≤ 6 → (lf_zr (s'.1 116) (x4)) → (x1 ≤ 6 ∧ 1 ≤ x2 ∧ x2 ≤ 6) → (6 - x4).toNat < m9 → X7 x4 s' := by
    intro m9
    induction m9 with
    | zero => intro x4 s' _ _ bx4 kv0 kv1 h9; exact absurd h9 (Nat.not_lt_zero _)
    | succ m9 ih => intro x4 s' i7 f7 bx4 kv0 kv1 h9; exact hX _ _ (sm_302_p7 (fun r9 t9 i9 f9 => hQ r9 t9 i9 (lf_fq_tr f7 f9))   (fun x4' t8 i8 f8 bx4' kv0' kv1' h8 => ih x4' t8 i8 (lf_fq_tr f7 f8) bx4' kv0' kv1' (by omega)) (Nat.le_refl _)  i7  bx1 bx2 bx3 bx4  kv0 kv1)
  exact key _ _ s hI lf_fq_rf bx4 kv0 kv1 (Nat.lt_succ_self _)
theorem sm_302 {a1 : Int} {a2 : Int} {Q : Int → lf_Z → Prop} {s : lf_Z} (hI : iv_A s.1 s.2.2) (ba1 : 0 ≤ a1 ∧ a1 ≤ 12) (ba2 : 0 ≤ a2 ∧ a2 ≤ 6) (kp0 : a1 ≤ 6) (kp1 : 1 ≤ a2 ∧ a2 ≤ 6) (hQ : ∀ (r : Int) (s' : lf_Z), iv_A s'.1 s'.2.2 → lf_fq [116, 117] 1000000 true s.1 s.2.2 s'.1 s'.2.2 → (0 ≤ r ∧ r ≤ 1000) → Q r s') : fm_302 a1 a2 Q s := by
  unfold fm_302
  have b1 : lf_zr ((s.1 116)) (0) := by first | exact lf_zrS kv0 lf_up_s (fun j hj => lf_up_i hj) | exact (fun j a b => by omega)
  exact sm_302_p7L hQ hI (show (0 : Int) ≤ a1 ∧ a1 ≤ (12 : Int) from by omega) (show (0 : Int) ≤ a2 ∧ a2 ≤ (6 : Int) from by omega) (show (1000 : Int) ≤ 1000 ∧ 1000 ≤ (1000 : Int) from by omega) (show (0 : Int) ≤ 0 ∧ 0 ≤ (6 : Int) from by omega) (show lf_zr ((s.1 116)) (0) from by first | with_reducible assumption | assumption) (show a1 ≤ 6 ∧ 1 ≤ a2 ∧ a2 ≤ 6 from by omega)
-- fm_300 Model.whom 95 i i i
theorem sm_300_p203 {X203 : Int → lf_Z → Prop} {Q : Int → lf_Z → Prop} {x3 : Int} {x7 : Int} {s : lf_Z} (hQ : ∀ (r : Int) (s' : lf_Z), iv_A s'.1 s'.2.2 → lf_fq [108, 113, 114, 115, 116, 117] 1000000 true s.1 s.2.2 s'.1 s'.2.2 → ((-1) ≤ r ∧ r ≤ 999) → Q r s') {M203 : Nat} (hX203 : ∀ (x7 : Int) (s' : lf_Z), iv_A s'.1 s'.2.2 → lf_fq [108, 113, 114, 115, 116, 117] 1000000 true s.1 s.2.2 s'.1 s'.2.2 → 0 ≤ x7 ∧ x7 ≤ 6 → (wh_E (s'.1 114) (x3) (x7)) → (6 - x7).toNat < M203 → X203 x7 s') (hM203 : (6 - x7).toNat ≤ M203) (hI : iv_A s.1 s.2.2) (bx3 : 0 ≤ x3 ∧ x3 ≤ 11) (bx7 : 0 ≤ x7 ∧ x7 ≤ 6) (kv0 : wh_E (s.1 114) (x3) (x7)) : fm_300_p203 Q x3 X203 x7 s := by
  unfold fm_300_p203
  have b39 : x7 < 6 := wh_lt kv0
  refine ⟨(show (0 : Int) ≤ x7 ∧ x7 < (12 : Int) from by omega), ?_⟩
  have b40 : 0 ≤ s.1 114 x7 ∧ s.1 114 x7 ≤ 11 := iv_r114 hI _
  refine ⟨(show lf_R (s.1 114 x7) from lf_Rof (by omega)), ?_⟩
  refine ⟨(show lf_R x3 from lf_Rof (by omega)), ?_⟩
  refine ⟨fun c41 => ?_, fun c41 => ?_⟩
  · skip
    replace c41 : s.1 114 x7 = x3 := c41
    refine ⟨(show (0 : Int) ≤ x7 ∧ x7 < (6 : Int) from by omega), ?_⟩
    have b42 : 0 ≤ s.1 117 x7 ∧ s.1 117 x7 ≤ 5 := iv_r117 hI _
    refine ⟨(show (0 : Int) ≤ s.1 117 x7 ∧ s.1 117 x7 < (6 : Int) from by omega), ?_⟩
    have b43 : 0 ≤ s.1 113 (s.1 117 x7) ∧ s.1 113 (s.1 117 x7) ≤ 5 := iv_r113 hI _
    exact hQ (s.1 113 (s.1 117 x7)) s hI (lf_fq_rf) (show (-1 : Int) ≤ s.1 113 (s.1 117 x7) ∧ s.1 113 (s.1 117 x7) ≤ (999 : Int) from by omega)
  · skip
    replace c41 : ¬ (s.1 114 x7 = x3) := c41
    have b44 : wh_E ((s.1 114)) (x3) ((x7 + 1)) := by first | exact wh_s (hI.1 114 rfl) kv1 (by omega) (by omega) | exact wh_S kv0 (by omega)
    exact hX203 (x7 + 1) s hI (lf_fq_rf) (show (0 : Int) ≤ x7 + 1 ∧ x7 + 1 ≤ (6 : Int) from by omega) (show wh_E ((s.1 114)) (x3) ((x7 + 1)) from by first | with_reducible assumption | assumption) (show (6 - (x7 + 1)).toNat < M203 from by omega)
theorem sm_300_p203L {Q : Int → lf_Z → Prop} {x3 : Int} {x7 : Int} {s : lf_Z} (hQ : ∀ (r : Int) (s' : lf_Z), iv_A s'.1 s'.2.2 → lf_fq [108, 113, 114, 115, 116, 117] 1000000 true s.1 s.2.2 s'.1 s'.2.2 → ((-1) ≤ r ∧ r ≤ 999) → Q r s') (hI : iv_A s.1 s.2.2) (bx3 : 0 ≤ x3 ∧ x3 ≤ 11) (bx7 : 0 ≤ x7 ∧ x7 ≤ 6) (kv0 : wh_E (s.1 114) (x3) (x7)) : fm_300_p203L Q x3 x7 s := by
  intro X203 hX
  have key : ∀ (m9 : Nat) (x7 : Int) (s' : lf_Z), iv_A s'.1 s'.2.2 → lf_fq [108, 113, 114, 115, 116, 117] 1000000 true s.1 s.2.2 s'.1 s'.2.2 → 0 ≤ x7 ∧ x7 ≤ 6 → (wh_E (s'.1 114) (x3) (x7)) → (6 - x7).toNat < m9 → X203 x7 s' := by
    intro m9
    induction m9 with
    | zero => intro x7 s' _ _ bx7 kv0 h9; exact absurd h9 (Nat.not_lt_zero _)
    | succ m9 ih => intro x7 s' i7 f7 bx7 kv0 h9; exact hX _ _ (sm_300_p203 (fun r9 t9 i9 f9 => hQ r9 t9 i9 (lf_fq_tr f7 f9))   (fun x7' t8 i8 f8 bx7' kv0' h8 => ih x7' t8 i8 (lf_fq_tr f7 f8) bx7' kv0' (by omega)) (Nat.le_refl _)  i7  bx3 bx7  kv0)
  exact key _ _ s hI lf_fq_rf bx7 kv0 (Nat.lt_succ_self _)
theorem sm_300_p117 {X95 : Int → lf_Z → Prop} {X117 : Int → lf_Z → Prop} {Q : Int → lf_Z → Prop} {x3 : Int} {x4 : Int} {x5 : Int} {x6 : Int} {x7 : Int} {s : lf_Z} (hQ : ∀ (r : Int) (s' : lf_Z), iv_A s'.1 s'.2.2 → lf_fq [108, 113, 114, 115, 116, 117] 1000000 true s.1 s.2.2 s'.1 s'.2.2 → ((-1) ≤ r ∧ r ≤ 999) → Q r s') {M95 : Nat} (hX95 : ∀ (x6 : Int) (s' : lf_Z), iv_A s'.1 s'.2.2 → lf_fq [108, 113, 114, 115, 116, 117] 1000000 true s.1 s.2.2 s'.1 s'.2.2 → 0 ≤ x6 ∧ x6 ≤ 12 → (x5 ≤ 6 ∧ 1 ≤ x4) → (wh_H (s'.1 114) (x5) (x3)) → (12 - x6).toNat < M95 → X95 x6 s') (hM95 : (12 - x6).toNat ≤ M95) {M117 : Nat} (hX117 : ∀ (x7 : Int) (s' : lf_Z), iv_A s'.1 s'.2.2 → lf_fq [108, 113, 114, 115, 116, 117] 1000000 true s.1 s.2.2 s'.1 s'.2.2 → 0 ≤ x7 ∧ x7 ≤ 6 → (x5 ≤ 6 ∧ 1 ≤ x4) → (wh_H (s'.1 114) (x5) (x3)) → (6 - x7).toNat < M117 → X117 x7 s') (hM117 : (6 - x7).toNat ≤ M117) (hI : iv_A s.1 s.2.2) (bx3 : (-1) ≤ x3 ∧ x3 ≤ 11) (bx4 : 0 ≤ x4 ∧ x4 ≤ 6) (bx5 : 1 ≤ x5 ∧ x5 ≤ 12) (bx6 : 0 ≤ x6 ∧ x6 ≤ 11) (bx7 : 0 ≤ x7 ∧ x7 ≤ 6) (kv0 : x5 ≤ 6 ∧ 1 ≤ x4) (kv1 : wh_H (s.1 114) (x5) (x3)) : fm_300_p117 X95 Q x3 x4 x5 x6 X117 x7 s := by
  unfold fm_300_p117
  refine ⟨(show lf_R x7 from lf_Rof (by omega)), ?_⟩
  refine ⟨(show lf_R x4 from lf_Rof (by omega)), ?_⟩
  refine ⟨fun c52 => ?_, fun c52 => ?_⟩
  · skip
    replace c52 : x4 ≤ x7 := c52
    have b53 : wh_H ((s.1 114)) (x5) (x3) := by first | with_reducible assumption | exact wh_i hI (by omega)
    exact hX95 (x6 + 1) s hI (lf_fq_rf) (show (0 : Int) ≤ x6 + 1 ∧ x6 + 1 ≤ (12 : Int) from by omega) (show x5 ≤ 6 ∧ 1 ≤ x4 from by omega) (show wh_H ((s.1 114)) (x5) (x3) from by first | with_reducible assumption | assumption) (show (12 - (x6 + 1)).toNat < M95 from by omega)
  · skip
    replace c52 : ¬ (x4 ≤ x7) := c52
    refine ⟨(show (0 : Int) ≤ x7 ∧ x7 < (6 : Int) from by omega), ?_⟩
    have b54 : 0 ≤ s.1 113 x7 ∧ s.1 113 x7 ≤ 5 := iv_r113 hI _
    refine sm_239 hI (show (0 : Int) ≤ s.1 113 x7 ∧ s.1 113 x7 ≤ (5 : Int) from by omega) (fun r53 q55 => ?_)
    obtain ⟨q55, q55x⟩ := q55
    replace q55x : r53 = s.1 96 (126 + 6 * (s.1 113 x7) + 3) := q55x
    refine sm_299 hI (show (0 : Int) ≤ s.1 113 x7 ∧ s.1 113 x7 ≤ (5 : Int) from by omega) (show (0 : Int) ≤ r53 ∧ r53 ≤ (11 : Int) from by omega) (fun r55 q56 => ?_)
    refine ⟨(show (0 : Int) ≤ (12 * x7) + x6 ∧ (12 * x7) + x6 < (72 : Int) from by omega), ?_⟩
    have hI57 : iv_A (lf_up s.1 115 ((12 * x7) + x6) r55) s.2.2 := iv_w115 hI (by omega)
    have fr58 : lf_fq [108, 113, 114, 115, 116, 117] 1000000 true s.1 s.2.2 (lf_up s.1 115 ((12 * x7) + x6) r55) s.2.2 := lf_fq_up (lf_fq_rf) rfl (fun h => absurd h (by decide))
    have b59 : wh_H ((s.1 114)) (x5) (x3) := by first | with_reducible assumption | exact wh_c (hI.1 114 rfl) kv1
    exact hX117 (x7 + 1) (lf_up s.1 115 ((12 * x7) + x6) r55, s.2.1, s.2.2) hI57 fr58 (show (0 : Int) ≤ x7 + 1 ∧ x7 + 1 ≤ (6 : Int) from by omega) (show x5 ≤ 6 ∧ 1 ≤ x4 from by omega) (show wh_H ((s.1 114)) (x5) (x3) from by first | with_reducible assumption | assumption) (show (6 - (x7 + 1)).toNat < M117 from by omega)
theorem sm_300_p117L {X95 : Int → lf_Z → Prop} {Q : Int → lf_Z → Prop} {x3 : Int} {x4 : Int} {x5 : Int} {x6 : Int} {x7 : Int} {s : lf_Z} (hQ : ∀ (r : Int) (s' : lf_Z), iv_A s'.1 s'.2.2 → lf_fq [108, 113, 114, 115, 116, 117] 1000000 true s.1 s.2.2 s'.1 s'.2.2 → ((-1) ≤ r ∧ r ≤ 999) → Q r s') {M95 : Nat} (hX95 : ∀ (x6 : Int) (s' : lf_Z), iv_A s'.1 s'.2.2 → lf_fq [108, 113, 114, 115, 116, 117] 1000000 true s.1 s.2.2 s'.1 s'.2.2 → 0 ≤ x6 ∧ x6 ≤ 12 → (x5 ≤ 6 ∧ 1 ≤ x4) → (wh_H (s'.1 114) (x5) (x3)) → (12 - x6).toNat < M95 → X95 x6 s') (hM95 : (12 - x6).toNat ≤ M95) (hI : iv_A s.1 s.2.2) (bx3 : (-1) ≤ x3 ∧ x3 ≤ 11) (bx4 : 0 ≤ x4 ∧ x4 ≤ 6) (bx5 : 1 ≤ x5 ∧ x5 ≤ 12) (bx6 : 0 ≤ x6 ∧ x6 ≤ 11) (bx7 : 0 ≤ x7 ∧ x7 ≤ 6) (kv0 : x5 ≤ 6 ∧ 1 ≤ x4) (kv1 : wh_H (s.1 114) (x5) (x3)) : fm_300_p117L X95 Q x3 x4 x5 x6 x7 s := by
  intro X117 hX
  have key : ∀ (m9 : Nat) (x7 : Int) (s' : lf_Z), iv_A s'.1 s'.2.2 → lf_fq [108, 113, 114, 115, 116, 117] 1000000 true s.1 s.2.2 s'.1 s'.2.2 → 0 ≤ x7 ∧ x7 ≤ 6 → (x5 ≤ 6 ∧ 1 ≤ x4) → (wh_H (s'.1 114) (x5) (x3)) → (6 - x7).toNat < m9 → X117 x7 s' := by
    intro m9
    induction m9 with
    | zero => intro x7 s' _ _ bx7 kv0 kv1 h9; exact absurd h9 (Nat.not_lt_zero _)
    | succ m9 ih => intro x7 s' i7 f7 bx7 kv0 kv1 h9; exact hX _ _ (sm_300_p117 (fun r9 t9 i9 f9 => hQ r9 t9 i9 (lf_fq_tr f7 f9))  (fun p0 t9 i9 f9 => hX95 p0 t9 i9 (lf_fq_tr f7 f9)) hM95 (fun x7' t8 i8 f8 bx7' kv0' kv1' h8 => ih x7' t8 i8 (lf_fq_tr f7 f8) bx7' kv0' kv1' (by omega)) (Nat.le_refl _)  i7  bx3 bx4 bx5 bx6 bx7  kv0 kv1)
  exact key _ _ s hI lf_fq_rf bx7 kv0 kv1 (Nat.lt_succ_self _)
theorem sm_300_p95 {X95 : Int → lf_Z → Prop} {Q : Int → lf_Z → Prop} {x3 : Int} {x4 : Int} {x5 : Int} {x6 : Int} {s : lf_Z} (hQ : ∀ (r : Int) (s' : lf_Z), iv_A s'.1 s'.2.2 → lf_fq [108, 113, 114, 115, 116, 117] 1000000 true s.1 s.2.2 s'.1 s'.2.2 → ((-1) ≤ r ∧ r ≤ 999) → Q r s') {M95 : Nat} (hX95 : ∀ (x6 : Int) (s' : lf_Z), iv_A s'.1 s'.2.2 → lf_fq [108, 113, 114, 115, 116, 117] 1000000 true s.1 s.2.2 s'.1 s'.2.2 → 0 ≤ x6 ∧ x6 ≤ 12 → (x5 ≤ 6 ∧ 1 ≤ x4) → (wh_H (s'.1 114) (x5) (x3)) → (12 - x6).toNat < M95 → X95 x6 s') (hM95 : (12 - x6).toNat ≤ M95) (hI : iv_A s.1 s.2.2) (bx3 : (-1) ≤ x3 ∧ x3 ≤ 11) (bx4 : 0 ≤ x4 ∧ x4 ≤ 6) (bx5 : 0 ≤ x5 ∧ x5 ≤ 12) (bx6 : 0 ≤ x6 ∧ x6 ≤ 12) (kv0 : x5 ≤ 6 ∧ 1 ≤ x4) (kv1 : wh_H (s.1 114) (x5) (x3)) : fm_300_p95 Q x3 x4 x5 X95 x6 s := by
  unfold fm_300_p95
  refine ⟨(show lf_R x6 from lf_Rof (by omega)), ?_⟩
  refine ⟨(show lf_R x5 from lf_Rof (by omega)), ?_⟩
  refine ⟨fun c31 => ?_, fun c31 => ?_⟩
  · skip
    replace c31 : x5 ≤ x6 := c31
    refine sm_302 hI (show (0 : Int) ≤ x5 ∧ x5 ≤ (12 : Int) from by omega) (show (0 : Int) ≤ x4 ∧ x4 ≤ (6 : Int) from by omega) (show x5 ≤ 6 from by omega) (show 1 ≤ x4 ∧ x4 ≤ 6 from by omega) (fun r39 s38 hI33 fr32 q34 => ?_)
    have fr35 : lf_fq [108, 113, 114, 115, 116, 117] 1000000 true s.1 s.2.2 s38.1 s38.2.2 := lf_fq_tr (lf_fq_rf) (lf_fq_wk fr32 rfl (by decide) (by decide))
    refine ⟨(show lf_R r39 from lf_Rof (by omega)), ?_⟩
    refine ⟨fun c36 => ?_, fun c36 => ?_⟩
    · skip
      replace c36 : r39 < 1000 := c36
      refine ⟨(show lf_R x3 from lf_Rof (by omega)), ?_⟩
      refine ⟨fun c37 => ?_, fun c37 => ?_⟩
      · skip
        replace c37 : x3 ≠ (-1) := c37
        have b38 : wh_E ((s38.1 114)) (x3) (0) := by first | exact wh_s (fr32.1 114 rfl) kv1 (by omega) (by omega) | exact wh_S kv0 (by omega)
        exact sm_300_p203L (fun r9 t9 i9 f9 => hQ r9 t9 i9 (lf_fq_tr fr35 f9)) hI33 (show (0 : Int) ≤ x3 ∧ x3 ≤ (11 : Int) from by omega) (show (0 : Int) ≤ 0 ∧ 0 ≤ (6 : Int) from by omega) (show wh_E ((s38.1 114)) (x3) (0) from by first | with_reducible assumption | assumption)
      · skip
        replace c37 : ¬ (x3 ≠ (-1)) := c37
        exact hQ r39 s38 hI33 fr35 (show (-1 : Int) ≤ r39 ∧ r39 ≤ (999 : Int) from by omega)
    · skip
      replace c36 : ¬ (r39 < 1000) := c36
      exact hQ (-1) s38 hI33 fr35 (show (-1 : Int) ≤ (-1) ∧ (-1) ≤ (999 : Int) from by omega)
  · skip
    replace c31 : ¬ (x5 ≤ x6) := c31
    refine ⟨(show (0 : Int) ≤ x6 ∧ x6 < (12 : Int) from by omega), ?_⟩
    have b45 : 0 ≤ s.1 114 x6 ∧ s.1 114 x6 ≤ 11 := iv_r114 hI _
    refine sm_261 hI (show (-1 : Int) ≤ s.1 114 x6 ∧ s.1 114 x6 ≤ (11 : Int) from by omega) (show (0 : Int) ≤ 1 ∧ 1 ≤ (1 : Int) from by omega) (fun s48 hI47 fr46 ps49 => ?_)
    replace ps49 : (1 : Int) = 1 → bf_G (s48.1 96) (s48.1 108) ((s.1 114 x6)) := ps49
    have fr50 : lf_fq [108, 113, 114, 115, 116, 117] 1000000 true s.1 s.2.2 s48.1 s48.2.2 := lf_fq_tr (lf_fq_rf) (lf_fq_wk fr46 rfl (by decide) (by decide))
    have b51 : wh_H ((s48.1 114)) (x5) (x3) := by first | with_reducible assumption | exact wh_c (fr46.1 114 rfl) kv1
    exact sm_300_p117L (fun r9 t9 i9 f9 => hQ r9 t9 i9 (lf_fq_tr fr50 f9)) (fun p0 t9 i9 f9 => hX95 p0 t9 i9 (lf_fq_tr fr50 f9)) (show (12 - x6).toNat ≤ M95 from by omega) hI47 (show (-1 : Int) ≤ x3 ∧ x3 ≤ (11 : Int) from by omega) (show (0 : Int) ≤ x4 ∧ x4 ≤ (6 : Int) from by omega) (show (1 : Int) ≤ x5 ∧ x5 ≤ (12 : Int) from by omega) (show (0 : Int) ≤ x6 ∧ x6 ≤ (11 : Int) from by omega) (show (0 : Int) ≤ 0 ∧ 0 ≤ (6 : Int) from by omega) (show x5 ≤ 6 ∧ 1 ≤ x4 from by omega) (show wh_H ((s48.1 114)) (x5) (x3) from by first | with_reducible assumption | assumption)
theorem sm_300_p95L {Q : Int → lf_Z → Prop} {x3 : Int} {x4 : Int} {x5 : Int} {x6 : Int} {s : lf_Z} (hQ : ∀ (r : Int) (s' : lf_Z), iv_A s'.1 s'.2.2 → lf_fq [108, 113, 114, 115, 116, 117] 1000000 true s.1 s.2.2 s'.1 s'.2.2 → ((-1) ≤ r ∧ r ≤ 999) → Q r s') (hI : iv_A s.1 s.2.2) (bx3 : (-1) ≤ x3 ∧ x3 ≤ 11) (bx4 : 0 ≤ x4 ∧ x4 ≤ 6) (bx5 : 0 ≤ x5 ∧ x5 ≤ 12) (bx6 : 0 ≤ x6 ∧ x6 ≤ 12) (kv0 : x5 ≤ 6 ∧ 1 ≤ x4) (kv1 : wh_H (s.1 114) (x5) (x3)) : fm_300_p95L Q x3 x4 x5 x6 s := by
  intro X95 hX
  have key : ∀ (m9 : Nat) (x6 : Int) (s' : lf_Z), iv_A s'.1 s'.2.2 → lf_fq [108, 113, 114, 115, 116, 117] 1000000 true s.1 s.2.2 s'.1 s'.2.2 → 0 ≤ x6 ∧ x6 ≤ 12 → (x5 ≤ 6 ∧ 1 ≤ x4) → (wh_H (s'.1 114) (x5) (x3)) → (12 - x6).toNat < m9 → X95 x6 s' := by
    intro m9
    induction m9 with
    | zero => intro x6 s' _ _ bx6 kv0 kv1 h9; exact absurd h9 (Nat.not_lt_zero _)
    | succ m9 ih => intro x6 s' i7 f7 bx6 kv0 kv1 h9; exact hX _ _ (sm_300_p95 (fun r9 t9 i9 f9 => hQ r9 t9 i9 (lf_fq_tr f7 f9))   (fun x6' t8 i8 f8 bx6' kv0' kv1' h8 => ih x6' t8 i8 (lf_fq_tr f7 f8) bx6' kv0' kv1' (by omega)) (Nat.le_refl _)  i7  bx3 bx4 bx5 bx6  kv0 kv1)
  exact key _ _ s hI lf_fq_rf bx6 kv0 kv1 (Nat.lt_succ_self _)
theorem sm_300_p72 {Q : Int → lf_Z → Prop} {x1 : Int} {x2 : Int} {x3 : Int} {s : lf_Z} (hQ : ∀ (r : Int) (s' : lf_Z), iv_A s'.1 s'.2.2 → lf_fq [108, 113, 114, 115, 116, 117] 1000000 true s.1 s.2.2 s'.1 s'.2.2 → ((-1) ≤ r ∧ r ≤ 999) → Q r s') (hI : iv_A s.1 s.2.2) (bx1 : 1 ≤ x1 ∧ x1 ≤ 63) (bx2 : 1 ≤ x2 ∧ x2 ≤ 4095) (bx3 : (-1) ≤ x3 ∧ x3 ≤ 11) (kv0 : lf_bt (x2) 16 ≤ lf_bt (x1) 16) (kv1 : x3 = -1 ∨ (0 ≤ x3 ∧ x3 < 12 ∧ lf_and (lf_shr (x2) (x3)) 1 = 1)) : fm_300_p72 Q x1 x2 x3 s := by
  unfold fm_300_p72
  refine sm_301 hI (show (0 : Int) ≤ x1 ∧ x1 ≤ (63 : Int) from by omega) (fun r33 s32 hI17 fr16 ps19 ps20 q18 => ?_)
  replace ps19 : r33 = lf_bt (x1) 12 := ps19
  replace ps20 : lo_C (s32.1 113) (x1) (r33) 12 := ps20
  have fr21 : lf_fq [108, 113, 114, 115, 116, 117] 1000000 true s.1 s.2.2 s32.1 s32.2.2 := lf_fq_tr (lf_fq_rf) (lf_fq_wk fr16 rfl (by decide) (by decide))
  refine sm_301b hI17 (show (0 : Int) ≤ x2 ∧ x2 ≤ (4095 : Int) from by omega) (fun r35 s34 hI23 fr22 ps25 ps26 q24 => ?_)
  replace ps25 : r35 = lf_bt (x2) 12 := ps25
  replace ps26 : lo_C (s34.1 114) (x2) (r35) 12 := ps26
  have fr27 : lf_fq [108, 113, 114, 115, 116, 117] 1000000 true s.1 s.2.2 s34.1 s34.2.2 := lf_fq_tr fr21 (lf_fq_wk fr22 rfl (by decide) (by decide))
  have b28 : lf_bt (x2) 12 ≤ lf_bt (x2) 16 := lf_bt12 _
  have b29 : lf_bt (x1) 12 = lf_bt (x1) 16 ∧ lf_bt (x1) 16 ≤ 6 ∧ 1 ≤ lf_bt (x1) 16 := lf_bt6 (by omega)
  have b30 : wh_H ((s34.1 114)) (r35) (x3) := by first | with_reducible assumption | exact wh_i ps26 (by omega)
  exact sm_300_p95L (fun r9 t9 i9 f9 => hQ r9 t9 i9 (lf_fq_tr fr27 f9)) hI23 (show (-1 : Int) ≤ x3 ∧ x3 ≤ (11 : Int) from by omega) (show (0 : Int) ≤ r33 ∧ r33 ≤ (6 : Int) from by omega) (show (0 : Int) ≤ r35 ∧ r35 ≤ (12 : Int) from by omega) (show (0 : Int) ≤ 0 ∧ 0 ≤ (12 : Int) from by omega) (show r35 ≤ 6 ∧ 1 ≤ r33 from by omega) (show wh_H ((s34.1 114)) (r35) (x3) from by first | with_reducible assumption | assumption)
theorem sm_300 {a1 : Int} {a2 : Int} {a3 : Int} {Q : Int → lf_Z → Prop} {s : lf_Z} (hI : iv_A s.1 s.2.2) (ba1 : (-2147483648) ≤ a1 ∧ a1 ≤ 2147483647) (ba2 : (-2147483648) ≤ a2 ∧ a2 ≤ 2147483647) (ba3 : (-2147483648) ≤ a3 ∧ a3 ≤ 2147483647) (hQ : ∀ (r : Int) (s' : lf_Z), iv_A s'.1 s'.2.2 → lf_fq [108, 113, 114, 115, 116, 117] 1000000 true s.1 s.2.2 s'.1 s'.2.2 → ((-1) ≤ r ∧ r ≤ 999) → Q r s') : fm_300 a1 a2 a3 Q s := by
  unfold fm_300
  have b1 : 0 ≤ s.1 96 2 ∧ s.1 96 2 ≤ 6 := iv_rd96 hI (iv_f2103129b (by omega))
  have b2 : s.1 96 2 ≤ 0 ∨ 0 < s.1 96 0 := (show s.1 96 2 ≤ 0 ∨ 0 < s.1 96 0 from iv_l96_2 hI)
  have b3 : 1 ≤ lf_shl 1 (s.1 96 2) ∧ lf_shl 1 (s.1 96 2) ≤ 64 := lf_shl1 (m := 6) (by omega) (by omega) (by decide)
  refine sm_183 hI (show (-2147483648 : Int) ≤ a1 ∧ a1 ≤ (2147483647 : Int) from by omega) (show (-1 : Int) ≤ 1 ∧ 1 ≤ (97 : Int) from by omega) (show (-1 : Int) ≤ (lf_shl 1 (s.1 96 2)) - 1 ∧ (lf_shl 1 (s.1 96 2)) - 1 ≤ (9999 : Int) from by omega) (fun z22 q4 => ?_)
  refine ⟨fun c5 => ?_, fun c5 => ?_⟩
  · skip
    have dc5 := q4.2 c5
    exact hQ (-1) s hI (lf_fq_rf) (show (-1 : Int) ≤ (-1) ∧ (-1) ≤ (999 : Int) from by omega)
  · skip
    have dc5 := q4.1 c5
    have b6 : 0 ≤ s.1 96 0 ∧ s.1 96 0 ≤ 12 := iv_rd96 hI (iv_f3e1fa21c (by omega))
    have b7 : 1 ≤ lf_shl 1 (s.1 96 0) ∧ lf_shl 1 (s.1 96 0) ≤ 4096 := lf_shl1 (m := 12) (by omega) (by omega) (by decide)
    refine sm_183 hI (show (-2147483648 : Int) ≤ a2 ∧ a2 ≤ (2147483647 : Int) from by omega) (show (-1 : Int) ≤ 1 ∧ 1 ≤ (97 : Int) from by omega) (show (-1 : Int) ≤ (lf_shl 1 (s.1 96 0)) - 1 ∧ (lf_shl 1 (s.1 96 0)) - 1 ≤ (9999 : Int) from by omega) (fun z24 q8 => ?_)
    refine ⟨fun c9 => ?_, fun c9 => ?_⟩
    · skip
      have dc9 := q8.2 c9
      exact hQ (-1) s hI (lf_fq_rf) (show (-1 : Int) ≤ (-1) ∧ (-1) ≤ (999 : Int) from by omega)
    · skip
      have dc9 := q8.1 c9
      refine sm_188 hI (show (-2147483648 : Int) ≤ a2 ∧ a2 ≤ (2147483647 : Int) from by omega) (fun r26 ps11 q10 => ?_)
      replace ps11 : r26 = lf_bt (a2) 16 := ps11
      refine sm_188 hI (show (-2147483648 : Int) ≤ a1 ∧ a1 ≤ (2147483647 : Int) from by omega) (fun r28 ps13 q12 => ?_)
      replace ps13 : r28 = lf_bt (a1) 16 := ps13
      refine ⟨(show lf_R r26 from lf_Rof (by omega)), ?_⟩
      refine ⟨(show lf_R r28 from lf_Rof (by omega)), ?_⟩
      refine ⟨fun c14 => ?_, fun c14 => ?_⟩
      · skip
        replace c14 : r26 ≤ r28 := c14
        refine ⟨(show lf_R a3 from lf_Rof (by omega)), ?_⟩
        refine ⟨fun c15 => ?_, fun c15 => ?_⟩
        · skip
          replace c15 : a3 = (-1) := c15
          exact sm_300_p72 hQ hI (show (1 : Int) ≤ a1 ∧ a1 ≤ (63 : Int) from by omega) (show (1 : Int) ≤ a2 ∧ a2 ≤ (4095 : Int) from by omega) (show (-1 : Int) ≤ a3 ∧ a3 ≤ (11 : Int) from by omega) (show lf_bt (a2) 16 ≤ lf_bt (a1) 16 from by omega) (show a3 = -1 ∨ (0 ≤ a3 ∧ a3 < 12 ∧ lf_and (lf_shr (a2) (a3)) 1 = 1) from by omega)
        · skip
          replace c15 : ¬ (a3 = (-1)) := c15
          refine sm_185 hI (show (-2147483648 : Int) ≤ a3 ∧ a3 ≤ (2147483647 : Int) from by omega) (fun z58 q60 => ?_)
          refine ⟨fun c61 => ?_, fun c61 => ?_⟩
          · skip
            have dc61 := q60.2 c61
            exact hQ (-1) s hI (lf_fq_rf) (show (-1 : Int) ≤ (-1) ∧ (-1) ≤ (999 : Int) from by omega)
          · skip
            have dc61 := q60.1 c61
            refine sm_210 hI (show (-2147483648 : Int) ≤ a2 ∧ a2 ≤ (2147483647 : Int) from by omega) (show (-1 : Int) ≤ a3 ∧ a3 ≤ (15 : Int) from by omega) (fun z60 q62 => ?_)
            refine ⟨fun c63 => ?_, fun c63 => ?_⟩
            · skip
              have dc63 := q62.1 c63
              exact sm_300_p72 hQ hI (show (1 : Int) ≤ a1 ∧ a1 ≤ (63 : Int) from by omega) (show (1 : Int) ≤ a2 ∧ a2 ≤ (4095 : Int) from by omega) (show (-1 : Int) ≤ a3 ∧ a3 ≤ (11 : Int) from by omega) (show lf_bt (a2) 16 ≤ lf_bt (a1) 16 from by omega) (show a3 = -1 ∨ (0 ≤ a3 ∧ a3 < 12 ∧ lf_and (lf_shr (a2) (a3)) 1 = 1) from by omega)
            · skip
              have dc63 := q62.2 c63
              exact hQ (-1) s hI (lf_fq_rf) (show (-1 : Int) ≤ (-1) ∧ (-1) ≤ (999 : Int) from by omega)
      · skip
        replace c14 : ¬ (r26 ≤ r28) := c14
        exact hQ (-1) s hI (lf_fq_rf) (show (-1 : Int) ≤ (-1) ∧ (-1) ≤ (999 : Int) from by omega)
-- fm_144 Walk.openGates 68
theorem sm_144_p43 {X4 : Int → Int → lf_Z → Prop} {Q : Int → lf_Z → Prop} {x1 : Int} {x2 : Int} {s : lf_Z} (hQ : ∀ (r : Int), ((-2147483648) ≤ r ∧ r ≤ 2147483647) → Q r s) {M4 : Nat} (hX4 : ∀ (x1 : Int) (x2 : Int), (-2147483648) ≤ x1 ∧ x1 ≤ 2147483647 → 0 ≤ x2 ∧ x2 ≤ 16 → (16 - x2).toNat < M4 → X4 x1 x2 s) (hM4 : (16 - x2).toNat ≤ M4) (hI : iv_A s.1 s.2.2) (bx1 : (-2147483648) ≤ x1 ∧ x1 ≤ 2147483647) (bx2 : 0 ≤ x2 ∧ x2 ≤ 15) : fm_144_p43 X4 Q x1 x2 s := by
  unfold fm_144_p43
  exact hX4 (x1) (x2 + 1) (show (-2147483648 : Int) ≤ x1 ∧ x1 ≤ (2147483647 : Int) from by omega) (show (0 : Int) ≤ x2 + 1 ∧ x2 + 1 ≤ (16 : Int) from by omega) (show (16 - (x2 + 1)).toNat < M4 from by omega)
theorem sm_144_p4 {X4 : Int → Int → lf_Z → Prop} {Q : Int → lf_Z → Prop} {x1 : Int} {x2 : Int} {s : lf_Z} (hQ : ∀ (r : Int), ((-2147483648) ≤ r ∧ r ≤ 2147483647) → Q r s) {M4 : Nat} (hX4 : ∀ (x1 : Int) (x2 : Int), (-2147483648) ≤ x1 ∧ x1 ≤ 2147483647 → 0 ≤ x2 ∧ x2 ≤ 16 → (16 - x2).toNat < M4 → X4 x1 x2 s) (hM4 : (16 - x2).toNat ≤ M4) (hI : iv_A s.1 s.2.2) (bx1 : (-2147483648) ≤ x1 ∧ x1 ≤ 2147483647) (bx2 : 0 ≤ x2 ∧ x2 ≤ 16) : fm_144_p4 Q X4 x1 x2 s := by
  unfold fm_144_p4
  have b1 : 0 ≤ s.1 1 1 ∧ s.1 1 1 ≤ 16 := iv_r1_1 hI
  refine ⟨(show lf_R x2 from lf_Rof (by omega)), ?_⟩
  refine ⟨(show lf_R (s.1 1 1) from lf_Rof (by omega)), ?_⟩
  refine ⟨fun c2 => ?_, fun c2 => ?_⟩
  · skip
    replace c2 : s.1 1 1 ≤ x2 := c2
    exact hQ x1 (show (-2147483648 : Int) ≤ x1 ∧ x1 ≤ (2147483647 : Int) from by omega)
  · skip
    replace c2 : ¬ (s.1 1 1 ≤ x2) := c2
    refine sm_89 hI (show (-2147483648 : Int) ≤ x2 ∧ x2 ≤ (2147483647 : Int) from by omega) (fun z24 q3 => ?_)
    have b4 : 0 ≤ s.1 6 x2 ∧ s.1 6 x2 ≤ 1 := iv_r6 hI _
    refine ⟨fun c5 => ?_, fun c5 => ?_⟩
    · skip
      have dc5 := q3.2 c5
      exact sm_144_p43 hQ hX4 (show (16 - x2).toNat ≤ M4 from by omega) hI (show (-2147483648 : Int) ≤ x1 ∧ x1 ≤ (2147483647 : Int) from by omega) (show (0 : Int) ≤ x2 ∧ x2 ≤ (15 : Int) from by omega)
    · skip
      have dc5 := q3.1 c5
      refine sm_90 hI (show (0 : Int) ≤ x2 ∧ x2 ≤ (15 : Int) from by omega) (fun z26 => ?_)
      refine ⟨fun c7 => ?_, fun c7 => ?_⟩
      · skip
        exact sm_144_p43 hQ hX4 (show (16 - x2).toNat ≤ M4 from by omega) hI (show (-2147483648 : Int) ≤ x1 ∧ x1 ≤ (2147483647 : Int) from by omega) (show (0 : Int) ≤ x2 ∧ x2 ≤ (15 : Int) from by omega)
      · skip
        have b8 : 1 ≤ lf_shl 1 x2 ∧ lf_shl 1 x2 ≤ 32768 := lf_shl1 (m := 15) (by omega) (by omega) (by decide)
        have b9 : (-2147483648) ≤ lf_or x1 (lf_shl 1 x2) ∧ lf_or x1 (lf_shl 1 x2) ≤ 2147483647 := lf_orB
        exact sm_144_p43 hQ hX4 (show (16 - x2).toNat ≤ M4 from by omega) hI (show (-2147483648 : Int) ≤ lf_or x1 (lf_shl 1 x2) ∧ lf_or x1 (lf_shl 1 x2) ≤ (2147483647 : Int) from by omega) (show (0 : Int) ≤ x2 ∧ x2 ≤ (15 : Int) from by omega)
theorem sm_144_p4L {Q : Int → lf_Z → Prop} {x1 : Int} {x2 : Int} {s : lf_Z} (hQ : ∀ (r : Int), ((-2147483648) ≤ r ∧ r ≤ 2147483647) → Q r s) (hI : iv_A s.1 s.2.2) (bx1 : (-2147483648) ≤ x1 ∧ x1 ≤ 2147483647) (bx2 : 0 ≤ x2 ∧ x2 ≤ 16) : fm_144_p4L Q x1 x2 s := by
  intro X4 hX
  have key : ∀ (m9 : Nat) (x1 : Int) (x2 : Int), (-2147483648) ≤ x1 ∧ x1 ≤ 2147483647 → 0 ≤ x2 ∧ x2 ≤ 16 → (16 - x2).toNat < m9 → X4 x1 x2 s := by
    intro m9
    induction m9 with
    | zero => intro x1 x2 bx1 bx2 h9; exact absurd h9 (Nat.not_lt_zero _)
    | succ m9 ih => intro x1 x2 bx1 bx2 h9; exact hX _ _ _ (sm_144_p4 hQ   (fun x1' x2' bx1' bx2' h8 => ih x1' x2' bx1' bx2' (by omega)) (Nat.le_refl _)  hI  bx1 bx2  )
  exact key _ _ _ bx1 bx2   (Nat.lt_succ_self _)
theorem sm_144 {Q : Int → lf_Z → Prop} {s : lf_Z} (hI : iv_A s.1 s.2.2) (hQ : ∀ (r : Int), ((-2147483648) ≤ r ∧ r ≤ 2147483647) → Q r s) : fm_144 Q s := by
  unfold fm_144
  exact sm_144_p4L hQ hI (show (-2147483648 : Int) ≤ 0 ∧ 0 ≤ (2147483647 : Int) from by omega) (show (0 : Int) ≤ 0 ∧ 0 ≤ (16 : Int) from by omega)
-- fm_143 Walk.fewestToShut 68 i
theorem sm_143_p152 {X53 : Int → lf_Z → Prop} {Q : Int → lf_Z → Prop} {x1 : Int} {x2 : Int} {x3 : Int} {x4 : Int} {x5 : Int} {x6 : Int} {s : lf_Z} (hQ : ∀ (r : Int) (s' : lf_Z), iv_A s'.1 s'.2.2 → lf_fq [63, 64, 65, 66, 68, 69, 70, 71] 1000000 true s.1 s.2.2 s'.1 s'.2.2 → ((-2147483648) ≤ r ∧ r ≤ 65535) → Q r s') {M53 : Nat} (hX53 : ∀ (x6 : Int) (s' : lf_Z), iv_A s'.1 s'.2.2 → lf_fq [63, 64, 65, 66, 68, 69, 70, 71] 1000000 true s.1 s.2.2 s'.1 s'.2.2 → 0 ≤ x6 ∧ x6 ≤ 4 → (0 < s'.1 16 x1) → (4 - x6).toNat < M53 → X53 x6 s') (hM53 : (4 - x6).toNat ≤ M53) (hI : iv_A s.1 s.2.2) (bx1 : 0 ≤ x1 ∧ x1 ≤ 3) (bx2 : (-2147483648) ≤ x2 ∧ x2 ≤ 2147483647) (bx3 : (-2147483648) ≤ x3 ∧ x3 ≤ 2147483647) (bx4 : (-2147483648) ≤ x4 ∧ x4 ≤ 2147483647) (bx5 : 1 ≤ x5 ∧ x5 ≤ 65536) (bx6 : 0 ≤ x6 ∧ x6 ≤ 3) (kv0 : 0 < s.1 16 x1) : fm_143_p152 X53 Q x1 x2 x3 x4 x5 x6 s := by
  unfold fm_143_p152
  have b20 : (-2147483648) ≤ s.1 16 x1 ∧ s.1 16 x1 ≤ 2147483647 := iv_full hI
  exact hX53 (x6 + 1) s hI (lf_fq_rf) (show (0 : Int) ≤ x6 + 1 ∧ x6 + 1 ≤ (4 : Int) from by omega) (show 0 < (s.1 16 x1) from by omega) (show (4 - (x6 + 1)).toNat < M53 from by omega)
theorem sm_143_p144 {X53 : Int → lf_Z → Prop} {X70 : Int → Int → lf_Z → Prop} {Q : Int → lf_Z → Prop} {x1 : Int} {x2 : Int} {x3 : Int} {x4 : Int} {x5 : Int} {x6 : Int} {x8 : Int} {y0 : Int} {s : lf_Z} (hQ : ∀ (r : Int) (s' : lf_Z), iv_A s'.1 s'.2.2 → lf_fq [63, 64, 65, 66, 68, 69, 70, 71] 1000000 true s.1 s.2.2 s'.1 s'.2.2 → ((-2147483648) ≤ r ∧ r ≤ 65535) → Q r s') {M53 : Nat} (hX53 : ∀ (x6 : Int) (s' : lf_Z), iv_A s'.1 s'.2.2 → lf_fq [63, 64, 65, 66, 68, 69, 70, 71] 1000000 true s.1 s.2.2 s'.1 s'.2.2 → 0 ≤ x6 ∧ x6 ≤ 4 → (0 < s'.1 16 x1) → (4 - x6).toNat < M53 → X53 x6 s') (hM53 : (4 - x6).toNat ≤ M53) {M70 : Nat} (hX70 : ∀ (x7 : Int) (x8 : Int) (s' : lf_Z), iv_A s'.1 s'.2.2 → lf_fq [63, 64, 65, 66, 68, 69, 70, 71] 1000000 true s.1 s.2.2 s'.1 s'.2.2 → (-2147483648) ≤ x7 ∧ x7 ≤ 2147483647 → 0 ≤ x8 ∧ x8 ≤ 1000 → (0 < s'.1 16 x1) → (1000 - x8).toNat < M70 → X70 x7 x8 s') (hM70 : (1000 - x8).toNat ≤ M70) (hI : iv_A s.1 s.2.2) (bx1 : 0 ≤ x1 ∧ x1 ≤ 3) (bx2 : (-2147483648) ≤ x2 ∧ x2 ≤ 2147483647) (bx3 : (-2147483648) ≤ x3 ∧ x3 ≤ 2147483647) (bx4 : (-2147483648) ≤ x4 ∧ x4 ≤ 2147483647) (bx5 : 1 ≤ x5 ∧ x5 ≤ 65536) (bx6 : 0 ≤ x6 ∧ x6 ≤ 3) (bx8 : 0 ≤ x8 ∧ x8 ≤ 999) (by0 : (-2147483648) ≤ y0 ∧ y0 ≤ 2147483647) (kv0 : 0 < s.1 16 x1) : fm_143_p144 X53 X70 Q x1 x2 x3 x4 x5 x6 x8 y0 s := by
  unfold fm_143_p144
  have b35 : (-2147483648) ≤ s.1 16 x1 ∧ s.1 16 x1 ≤ 2147483647 := iv_full hI
  exact hX70 (y0) (x8 + 1) s hI (lf_fq_rf) (show (-2147483648 : Int) ≤ y0 ∧ y0 ≤ (2147483647 : Int) from by omega) (show (0 : Int) ≤ x8 + 1 ∧ x8 + 1 ≤ (1000 : Int) from by omega) (show 0 < (s.1 16 x1) from by omega) (show (1000 - (x8 + 1)).toNat < M70 from by omega)
theorem sm_143_p129 {X53 : Int → lf_Z → Prop} {X70 : Int → Int → lf_Z → Prop} {Q : Int → lf_Z → Prop} {x1 : Int} {x2 : Int} {x3 : Int} {x4 : Int} {x5 : Int} {x6 : Int} {x7 : Int} {x8 : Int} {s : lf_Z} (hQ : ∀ (r : Int) (s' : lf_Z), iv_A s'.1 s'.2.2 → lf_fq [63, 64, 65, 66, 68, 69, 70, 71] 1000000 true s.1 s.2.2 s'.1 s'.2.2 → ((-2147483648) ≤ r ∧ r ≤ 65535) → Q r s') {M53 : Nat} (hX53 : ∀ (x6 : Int) (s' : lf_Z), iv_A s'.1 s'.2.2 → lf_fq [63, 64, 65, 66, 68, 69, 70, 71] 1000000 true s.1 s.2.2 s'.1 s'.2.2 → 0 ≤ x6 ∧ x6 ≤ 4 → (0 < s'.1 16 x1) → (4 - x6).toNat < M53 → X53 x6 s') (hM53 : (4 - x6).toNat ≤ M53) {M70 : Nat} (hX70 : ∀ (x7 : Int) (x8 : Int) (s' : lf_Z), iv_A s'.1 s'.2.2 → lf_fq [63, 64, 65, 66, 68, 69, 70, 71] 1000000 true s.1 s.2.2 s'.1 s'.2.2 → (-2147483648) ≤ x7 ∧ x7 ≤ 2147483647 → 0 ≤ x8 ∧ x8 ≤ 1000 → (0 < s'.1 16 x1) → (1000 - x8).toNat < M70 → X70 x7 x8 s') (hM70 : (1000 - x8).toNat ≤ M70) (hI : iv_A s.1 s.2.2) (bx1 : 0 ≤ x1 ∧ x1 ≤ 3) (bx2 : (-2147483648) ≤ x2 ∧ x2 ≤ 2147483647) (bx3 : (-2147483648) ≤ x3 ∧ x3 ≤ 2147483647) (bx4 : (-2147483648) ≤ x4 ∧ x4 ≤ 2147483647) (bx5 : 1 ≤ x5 ∧ x5 ≤ 65536) (bx6 : 0 ≤ x6 ∧ x6 ≤ 3) (bx7 : (-2147483648) ≤ x7 ∧ x7 ≤ 65535) (bx8 : 0 ≤ x8 ∧ x8 ≤ 999) (kv0 : 0 < s.1 16 x1) : fm_143_p129 X53 X70 Q x1 x2 x3 x4 x5 x6 x7 x8 s := by
  unfold fm_143_p129
  refine ⟨(show lf_R x6 from lf_Rof (by omega)), ?_⟩
  refine ⟨fun c32 => ?_, fun c32 => ?_⟩
  · skip
    replace c32 : x6 ≠ 0 := c32
    refine sm_133 hI (show (-2147483648 : Int) ≤ x7 ∧ x7 ≤ (65535 : Int) from by omega) (fun r36 q33 => ?_)
    have b34 : (-2147483648) ≤ s.1 16 x1 ∧ s.1 16 x1 ≤ 2147483647 := iv_full hI
    exact sm_143_p144 hQ hX53 (show (4 - x6).toNat ≤ M53 from by omega) hX70 (show (1000 - x8).toNat ≤ M70 from by omega) hI (show (0 : Int) ≤ x1 ∧ x1 ≤ (3 : Int) from by omega) (show (-2147483648 : Int) ≤ x2 ∧ x2 ≤ (2147483647 : Int) from by omega) (show (-2147483648 : Int) ≤ x3 ∧ x3 ≤ (2147483647 : Int) from by omega) (show (-2147483648 : Int) ≤ x4 ∧ x4 ≤ (2147483647 : Int) from by omega) (show (1 : Int) ≤ x5 ∧ x5 ≤ (65536 : Int) from by omega) (show (0 : Int) ≤ x6 ∧ x6 ≤ (3 : Int) from by omega) (show (0 : Int) ≤ x8 ∧ x8 ≤ (999 : Int) from by omega) (show (-2147483648 : Int) ≤ r36 ∧ r36 ≤ (2147483647 : Int) from by omega) (show 0 < (s.1 16 x1) from by omega)
  · skip
    replace c32 : ¬ (x6 ≠ 0) := c32
    have b36 : (-2147483648) ≤ s.1 16 x1 ∧ s.1 16 x1 ≤ 2147483647 := iv_full hI
    exact sm_143_p144 hQ hX53 (show (4 - x6).toNat ≤ M53 from by omega) hX70 (show (1000 - x8).toNat ≤ M70 from by omega) hI (show (0 : Int) ≤ x1 ∧ x1 ≤ (3 : Int) from by omega) (show (-2147483648 : Int) ≤ x2 ∧ x2 ≤ (2147483647 : Int) from by omega) (show (-2147483648 : Int) ≤ x3 ∧ x3 ≤ (2147483647 : Int) from by omega) (show (-2147483648 : Int) ≤ x4 ∧ x4 ≤ (2147483647 : Int) from by omega) (show (1 : Int) ≤ x5 ∧ x5 ≤ (65536 : Int) from by omega) (show (0 : Int) ≤ x6 ∧ x6 ≤ (3 : Int) from by omega) (show (0 : Int) ≤ x8 ∧ x8 ≤ (999 : Int) from by omega) (show (-2147483648 : Int) ≤ x5 ∧ x5 ≤ (2147483647 : Int) from by omega) (show 0 < (s.1 16 x1) from by omega)
theorem sm_143_p110 {X53 : Int → lf_Z → Prop} {X70 : Int → Int → lf_Z → Prop} {Q : Int → lf_Z → Prop} {x1 : Int} {x2 : Int} {x3 : Int} {x4 : Int} {x5 : Int} {x6 : Int} {x7 : Int} {x8 : Int} {y0 : Int} {s : lf_Z} (hQ : ∀ (r : Int) (s' : lf_Z), iv_A s'.1 s'.2.2 → lf_fq [63, 64, 65, 66, 68, 69, 70, 71] 1000000 true s.1 s.2.2 s'.1 s'.2.2 → ((-2147483648) ≤ r ∧ r ≤ 65535) → Q r s') {M53 : Nat} (hX53 : ∀ (x6 : Int) (s' : lf_Z), iv_A s'.1 s'.2.2 → lf_fq [63, 64, 65, 66, 68, 69, 70, 71] 1000000 true s.1 s.2.2 s'.1 s'.2.2 → 0 ≤ x6 ∧ x6 ≤ 4 → (0 < s'.1 16 x1) → (4 - x6).toNat < M53 → X53 x6 s') (hM53 : (4 - x6).toNat ≤ M53) {M70 : Nat} (hX70 : ∀ (x7 : Int) (x8 : Int) (s' : lf_Z), iv_A s'.1 s'.2.2 → lf_fq [63, 64, 65, 66, 68, 69, 70, 71] 1000000 true s.1 s.2.2 s'.1 s'.2.2 → (-2147483648) ≤ x7 ∧ x7 ≤ 2147483647 → 0 ≤ x8 ∧ x8 ≤ 1000 → (0 < s'.1 16 x1) → (1000 - x8).toNat < M70 → X70 x7 x8 s') (hM70 : (1000 - x8).toNat ≤ M70) (hI : iv_A s.1 s.2.2) (bx1 : 0 ≤ x1 ∧ x1 ≤ 3) (bx2 : (-2147483648) ≤ x2 ∧ x2 ≤ 2147483647) (bx3 : (-2147483648) ≤ x3 ∧ x3 ≤ 2147483647) (bx4 : (-2147483648) ≤ x4 ∧ x4 ≤ 2147483647) (bx5 : 1 ≤ x5 ∧ x5 ≤ 65536) (bx6 : 0 ≤ x6 ∧ x6 ≤ 3) (bx7 : (-2147483648) ≤ x7 ∧ x7 ≤ 65535) (bx8 : 0 ≤ x8 ∧ x8 ≤ 999) (by0 : (-2147483648) ≤ y0 ∧ y0 ≤ 2147483647) (kv0 : 0 < s.1 16 x1) : fm_143_p110 X53 X70 Q x1 x2 x3 x4 x5 x6 x7 x8 y0 s := by
  unfold fm_143_p110
  have b29 : (-2147483648) ≤ lf_and y0 x3 ∧ lf_and y0 x3 ≤ 2147483647 := lf_andF
  refine ⟨fun c30 => ?_, fun c30 => ?_⟩
  · skip
    replace c30 : lf_and y0 x3 ≠ 0 := c30
    have b31 : (-2147483648) ≤ s.1 16 x1 ∧ s.1 16 x1 ≤ 2147483647 := iv_full hI
    exact sm_143_p129 hQ hX53 (show (4 - x6).toNat ≤ M53 from by omega) hX70 (show (1000 - x8).toNat ≤ M70 from by omega) hI (show (0 : Int) ≤ x1 ∧ x1 ≤ (3 : Int) from by omega) (show (-2147483648 : Int) ≤ x2 ∧ x2 ≤ (2147483647 : Int) from by omega) (show (-2147483648 : Int) ≤ x3 ∧ x3 ≤ (2147483647 : Int) from by omega) (show (-2147483648 : Int) ≤ x4 ∧ x4 ≤ (2147483647 : Int) from by omega) (show (1 : Int) ≤ x5 ∧ x5 ≤ (65536 : Int) from by omega) (show (0 : Int) ≤ x6 ∧ x6 ≤ (3 : Int) from by omega) (show (-2147483648 : Int) ≤ x7 ∧ x7 ≤ (65535 : Int) from by omega) (show (0 : Int) ≤ x8 ∧ x8 ≤ (999 : Int) from by omega) (show 0 < (s.1 16 x1) from by omega)
  · skip
    replace c30 : ¬ (lf_and y0 x3 ≠ 0) := c30
    have b37 : (-2147483648) ≤ lf_and y0 x2 ∧ lf_and y0 x2 ≤ 2147483647 := lf_andF
    refine ⟨fun c38 => ?_, fun c38 => ?_⟩
    · skip
      replace c38 : lf_and y0 x2 = 0 := c38
      have b39 : (-2147483648) ≤ s.1 16 x1 ∧ s.1 16 x1 ≤ 2147483647 := iv_full hI
      exact sm_143_p129 hQ hX53 (show (4 - x6).toNat ≤ M53 from by omega) hX70 (show (1000 - x8).toNat ≤ M70 from by omega) hI (show (0 : Int) ≤ x1 ∧ x1 ≤ (3 : Int) from by omega) (show (-2147483648 : Int) ≤ x2 ∧ x2 ≤ (2147483647 : Int) from by omega) (show (-2147483648 : Int) ≤ x3 ∧ x3 ≤ (2147483647 : Int) from by omega) (show (-2147483648 : Int) ≤ x4 ∧ x4 ≤ (2147483647 : Int) from by omega) (show (1 : Int) ≤ x5 ∧ x5 ≤ (65536 : Int) from by omega) (show (0 : Int) ≤ x6 ∧ x6 ≤ (3 : Int) from by omega) (show (-2147483648 : Int) ≤ x7 ∧ x7 ≤ (65535 : Int) from by omega) (show (0 : Int) ≤ x8 ∧ x8 ≤ (999 : Int) from by omega) (show 0 < (s.1 16 x1) from by omega)
    · skip
      replace c38 : ¬ (lf_and y0 x2 = 0) := c38
      exact hQ x7 s hI (lf_fq_rf) (show (-2147483648 : Int) ≤ x7 ∧ x7 ≤ (65535 : Int) from by omega)
theorem sm_143_p70 {X53 : Int → lf_Z → Prop} {X70 : Int → Int → lf_Z → Prop} {Q : Int → lf_Z → Prop} {x1 : Int} {x2 : Int} {x3 : Int} {x4 : Int} {x5 : Int} {x6 : Int} {x7 : Int} {x8 : Int} {s : lf_Z} (hQ : ∀ (r : Int) (s' : lf_Z), iv_A s'.1 s'.2.2 → lf_fq [63, 64, 65, 66, 68, 69, 70, 71] 1000000 true s.1 s.2.2 s'.1 s'.2.2 → ((-2147483648) ≤ r ∧ r ≤ 65535) → Q r s') {M53 : Nat} (hX53 : ∀ (x6 : Int) (s' : lf_Z), iv_A s'.1 s'.2.2 → lf_fq [63, 64, 65, 66, 68, 69, 70, 71] 1000000 true s.1 s.2.2 s'.1 s'.2.2 → 0 ≤ x6 ∧ x6 ≤ 4 → (0 < s'.1 16 x1) → (4 - x6).toNat < M53 → X53 x6 s') (hM53 : (4 - x6).toNat ≤ M53) {M70 : Nat} (hX70 : ∀ (x7 : Int) (x8 : Int) (s' : lf_Z), iv_A s'.1 s'.2.2 → lf_fq [63, 64, 65, 66, 68, 69, 70, 71] 1000000 true s.1 s.2.2 s'.1 s'.2.2 → (-2147483648) ≤ x7 ∧ x7 ≤ 2147483647 → 0 ≤ x8 ∧ x8 ≤ 1000 → (0 < s'.1 16 x1) → (1000 - x8).toNat < M70 → X70 x7 x8 s') (hM70 : (1000 - x8).toNat ≤ M70) (hI : iv_A s.1 s.2.2) (bx1 : 0 ≤ x1 ∧ x1 ≤ 3) (bx2 : (-2147483648) ≤ x2 ∧ x2 ≤ 2147483647) (bx3 : (-2147483648) ≤ x3 ∧ x3 ≤ 2147483647) (bx4 : (-2147483648) ≤ x4 ∧ x4 ≤ 2147483647) (bx5 : 1 ≤ x5 ∧ x5 ≤ 65536) (bx6 : 0 ≤ x6 ∧ x6 ≤ 3) (bx7 : (-2147483648) ≤ x7 ∧ x7 ≤ 2147483647) (bx8 : 0 ≤ x8 ∧ x8 ≤ 1000) (kv0 : 0 < s.1 16 x1) : fm_143_p70 X53 Q x1 x2 x3 x4 x5 x6 X70 x7 x8 s := by
  unfold fm_143_p70
  refine ⟨(show lf_R x8 from lf_Rof (by omega)), ?_⟩
  refine ⟨fun c18 => ?_, fun c18 => ?_⟩
  · skip
    replace c18 : 1000 ≤ x8 := c18
    have b19 : (-2147483648) ≤ s.1 16 x1 ∧ s.1 16 x1 ≤ 2147483647 := iv_full hI
    exact sm_143_p152 hQ hX53 (show (4 - x6).toNat ≤ M53 from by omega) hI (show (0 : Int) ≤ x1 ∧ x1 ≤ (3 : Int) from by omega) (show (-2147483648 : Int) ≤ x2 ∧ x2 ≤ (2147483647 : Int) from by omega) (show (-2147483648 : Int) ≤ x3 ∧ x3 ≤ (2147483647 : Int) from by omega) (show (-2147483648 : Int) ≤ x4 ∧ x4 ≤ (2147483647 : Int) from by omega) (show (1 : Int) ≤ x5 ∧ x5 ≤ (65536 : Int) from by omega) (show (0 : Int) ≤ x6 ∧ x6 ≤ (3 : Int) from by omega) (show 0 < (s.1 16 x1) from by omega)
  · skip
    replace c18 : ¬ (1000 ≤ x8) := c18
    refine ⟨(show lf_R x7 from lf_Rof (by omega)), ?_⟩
    refine ⟨(show lf_R x5 from lf_Rof (by omega)), ?_⟩
    refine ⟨fun c21 => ?_, fun c21 => ?_⟩
    · skip
      replace c21 : x5 ≤ x7 := c21
      have b22 : (-2147483648) ≤ s.1 16 x1 ∧ s.1 16 x1 ≤ 2147483647 := iv_full hI
      exact sm_143_p152 hQ hX53 (show (4 - x6).toNat ≤ M53 from by omega) hI (show (0 : Int) ≤ x1 ∧ x1 ≤ (3 : Int) from by omega) (show (-2147483648 : Int) ≤ x2 ∧ x2 ≤ (2147483647 : Int) from by omega) (show (-2147483648 : Int) ≤ x3 ∧ x3 ≤ (2147483647 : Int) from by omega) (show (-2147483648 : Int) ≤ x4 ∧ x4 ≤ (2147483647 : Int) from by omega) (show (1 : Int) ≤ x5 ∧ x5 ≤ (65536 : Int) from by omega) (show (0 : Int) ≤ x6 ∧ x6 ≤ (3 : Int) from by omega) (show 0 < (s.1 16 x1) from by omega)
    · skip
      replace c21 : ¬ (x5 ≤ x7) := c21
      have hI23 : iv_A (lf_up s.1 68 9 x7) s.2.2 := iv_w68_9 hI (by omega)
      have fr24 : lf_fq [63, 64, 65, 66, 68, 69, 70, 71] 1000000 true s.1 s.2.2 (lf_up s.1 68 9 x7) s.2.2 := lf_fq_up (lf_fq_rf) rfl (fun h => absurd h (by decide))
      have b25 : (-2147483648) ≤ lf_xor x4 (-1) ∧ lf_xor x4 (-1) ≤ 2147483647 := lf_xorB
      have b26 : (-2147483648) ≤ lf_and x7 (lf_xor x4 (-1)) ∧ lf_and x7 (lf_xor x4 (-1)) ≤ 2147483647 := lf_andF
      refine ⟨fun c27 => ?_, fun c27 => ?_⟩
      · skip
        replace c27 : lf_and x7 (lf_xor x4 (-1)) ≠ 0 := c27
        have b28 : (-2147483648) ≤ s.1 16 x1 ∧ s.1 16 x1 ≤ 2147483647 := (show (-2147483648) ≤ (lf_up s.1 68 9 x7) 16 x1 ∧ (lf_up s.1 68 9 x7) 16 x1 ≤ 2147483647 from iv_full hI23)
        exact sm_143_p110 (fun r9 t9 i9 f9 => hQ r9 t9 i9 (lf_fq_tr fr24 f9)) (fun p0 t9 i9 f9 => hX53 p0 t9 i9 (lf_fq_tr fr24 f9)) (show (4 - x6).toNat ≤ M53 from by omega) (fun p0 p1 t9 i9 f9 => hX70 p0 p1 t9 i9 (lf_fq_tr fr24 f9)) (show (1000 - x8).toNat ≤ M70 from by omega) hI23 (show (0 : Int) ≤ x1 ∧ x1 ≤ (3 : Int) from by omega) (show (-2147483648 : Int) ≤ x2 ∧ x2 ≤ (2147483647 : Int) from by omega) (show (-2147483648 : Int) ≤ x3 ∧ x3 ≤ (2147483647 : Int) from by omega) (show (-2147483648 : Int) ≤ x4 ∧ x4 ≤ (2147483647 : Int) from by omega) (show (1 : Int) ≤ x5 ∧ x5 ≤ (65536 : Int) from by omega) (show (0 : Int) ≤ x6 ∧ x6 ≤ (3 : Int) from by omega) (show (-2147483648 : Int) ≤ x7 ∧ x7 ≤ (65535 : Int) from by omega) (show (0 : Int) ≤ x8 ∧ x8 ≤ (999 : Int) from by omega) (show (-2147483648 : Int) ≤ x3 ∧ x3 ≤ (2147483647 : Int) from by omega) (show 0 < (s.1 16 x1) from by omega)
      · skip
        replace c27 : ¬ (lf_and x7 (lf_xor x4 (-1)) ≠ 0) := c27
        have b42 : (-2147483648) ≤ s.1 16 x1 ∧ s.1 16 x1 ≤ 2147483647 := (show (-2147483648) ≤ (lf_up s.1 68 9 x7) 16 x1 ∧ (lf_up s.1 68 9 x7) 16 x1 ≤ 2147483647 from iv_full hI23)
        refine sm_128 hI23 (show (0 : Int) ≤ x1 ∧ x1 ≤ (3 : Int) from by omega) (show 0 < (s.1 16 x1) from by omega) (fun r38 s37 hI41 fr40 q43 => ?_)
        have fr44 : lf_fq [63, 64, 65, 66, 68, 69, 70, 71] 1000000 true s.1 s.2.2 s37.1 s37.2.2 := lf_fq_tr fr24 (lf_fq_wk fr40 rfl (by decide) (by decide))
        have b45 : (-2147483648) ≤ s37.1 16 x1 ∧ s37.1 16 x1 ≤ 2147483647 := iv_full hI41
        have b46 : s37.1 16 x1 = s.1 16 x1 := congrFun (fr40.1 16 rfl) _
        exact sm_143_p110 (fun r9 t9 i9 f9 => hQ r9 t9 i9 (lf_fq_tr fr44 f9)) (fun p0 t9 i9 f9 => hX53 p0 t9 i9 (lf_fq_tr fr44 f9)) (show (4 - x6).toNat ≤ M53 from by omega) (fun p0 p1 t9 i9 f9 => hX70 p0 p1 t9 i9 (lf_fq_tr fr44 f9)) (show (1000 - x8).toNat ≤ M70 from by omega) hI41 (show (0 : Int) ≤ x1 ∧ x1 ≤ (3 : Int) from by omega) (show (-2147483648 : Int) ≤ x2 ∧ x2 ≤ (2147483647 : Int) from by omega) (show (-2147483648 : Int) ≤ x3 ∧ x3 ≤ (2147483647 : Int) from by omega) (show (-2147483648 : Int) ≤ x4 ∧ x4 ≤ (2147483647 : Int) from by omega) (show (1 : Int) ≤ x5 ∧ x5 ≤ (65536 : Int) from by omega) (show (0 : Int) ≤ x6 ∧ x6 ≤ (3 : Int) from by omega) (show (-2147483648 : Int) ≤ x7 ∧ x7 ≤ (65535 : Int) from by omega) (show (0 : Int) ≤ x8 ∧ x8 ≤ (999 : Int) from by omega) (show (-2147483648 : Int) ≤ r38 ∧ r38 ≤ (2147483647 : Int) from by omega) (show 0 < (s37.1 16 x1) from by omega)
theorem sm_143_p70L {X53 : Int → lf_Z → Prop} {Q : Int → lf_Z → Prop} {x1 : Int} {x2 : Int} {x3 : Int} {x4 : Int} {x5 : Int} {x6 : Int} {x7 : Int} {x8 : Int} {s : lf_Z} (hQ : ∀ (r : Int) (s' : lf_Z), iv_A s'.1 s'.2.2 → lf_fq [63, 64, 65, 66, 68, 69, 70, 71] 1000000 true s.1 s.2.2 s'.1 s'.2.2 → ((-2147483648) ≤ r ∧ r ≤ 65535) → Q r s') {M53 : Nat} (hX53 : ∀ (x6 : Int) (s' : lf_Z), iv_A s'.1 s'.2.2 → lf_fq [63, 64, 65, 66, 68, 69, 70, 71] 1000000 true s.1 s.2.2 s'.1 s'.2.2 → 0 ≤ x6 ∧ x6 ≤ 4 → (0 < s'.1 16 x1) → (4 - x6).toNat < M53 → X53 x6 s') (hM53 : (4 - x6).toNat ≤ M53) (hI : iv_A s.1 s.2.2) (bx1 : 0 ≤ x1 ∧ x1 ≤ 3) (bx2 : (-2147483648) ≤ x2 ∧ x2 ≤ 2147483647) (bx3 : (-2147483648) ≤ x3 ∧ x3 ≤ 2147483647) (bx4 : (-2147483648) ≤ x4 ∧ x4 ≤ 2147483647) (bx5 : 1 ≤ x5 ∧ x5 ≤ 65536) (bx6 : 0 ≤ x6 ∧ x6 ≤ 3) (bx7 : (-2147483648) ≤ x7 ∧ x7 ≤ 2147483647) (bx8 : 0 ≤ x8 ∧ x8 ≤ 1000) (kv0 : 0 < s.1 16 x1) : fm_143_p70L X53 Q x1 x2 x3 x4 x5 x6 x7 x8 s := by
  intro X70 hX
  have key : ∀ (m9 : Nat) (x7 : Int) (x8 : Int) (s' : lf_Z), iv_A s'.1 s'.2.2 → lf_fq [63, 64, 65, 66, 68, 69, 70, 71] 1000000 true s.1 s.2.2 s'.1 s'.2.2 → (-2147483648) ≤ x7 ∧ x7 ≤ 2147483647 → 0 ≤ x8 ∧ x8 ≤ 1000 → (0 < s'.1 16 x1) → (1000 - x8).toNat < m9 → X70 x7 x8 s' := by
    intro m9
    induction m9 with
    | zero => intro x7 x8 s' _ _ bx7 bx8 kv0 h9; exact absurd h9 (Nat.not_lt_zero _)
    | succ m9 ih => intro x7 x8 s' i7 f7 bx7 bx8 kv0 h9; exact hX _ _ _ (sm_143_p70 (fun r9 t9 i9 f9 => hQ r9 t9 i9 (lf_fq_tr f7 f9))  (fun p0 t9 i9 f9 => hX53 p0 t9 i9 (lf_fq_tr f7 f9)) hM53 (fun x7' x8' t8 i8 f8 bx7' bx8' kv0' h8 => ih x7' x8' t8 i8 (lf_fq_tr f7 f8) bx7' bx8' kv0' (by omega)) (Nat.le_refl _)  i7  bx1 bx2 bx3 bx4 bx5 bx6 bx7 bx8  kv0)
  exact key _ _ _ s hI lf_fq_rf bx7 bx8 kv0 (Nat.lt_succ_self _)
theorem sm_143_p53 {X53 : Int → lf_Z → Prop} {Q : Int → lf_Z → Prop} {x1 : Int} {x2 : Int} {x3 : Int} {x4 : Int} {x5 : Int} {x6 : Int} {s : lf_Z} (hQ : ∀ (r : Int) (s' : lf_Z), iv_A s'.1 s'.2.2 → lf_fq [63, 64, 65, 66, 68, 69, 70, 71] 1000000 true s.1 s.2.2 s'.1 s'.2.2 → ((-2147483648) ≤ r ∧ r ≤ 65535) → Q r s') {M53 : Nat} (hX53 : ∀ (x6 : Int) (s' : lf_Z), iv_A s'.1 s'.2.2 → lf_fq [63, 64, 65, 66, 68, 69, 70, 71] 1000000 true s.1 s.2.2 s'.1 s'.2.2 → 0 ≤ x6 ∧ x6 ≤ 4 → (0 < s'.1 16 x1) → (4 - x6).toNat < M53 → X53 x6 s') (hM53 : (4 - x6).toNat ≤ M53) (hI : iv_A s.1 s.2.2) (bx1 : 0 ≤ x1 ∧ x1 ≤ 3) (bx2 : (-2147483648) ≤ x2 ∧ x2 ≤ 2147483647) (bx3 : (-2147483648) ≤ x3 ∧ x3 ≤ 2147483647) (bx4 : (-2147483648) ≤ x4 ∧ x4 ≤ 2147483647) (bx5 : 1 ≤ x5 ∧ x5 ≤ 65536) (bx6 : 0 ≤ x6 ∧ x6 ≤ 4) (kv0 : 0 < s.1 16 x1) : fm_143_p53 Q x1 x2 x3 x4 x5 X53 x6 s := by
  unfold fm_143_p53
  refine ⟨(show lf_R x6 from lf_Rof (by omega)), ?_⟩
  refine ⟨fun c15 => ?_, fun c15 => ?_⟩
  · skip
    replace c15 : 3 < x6 := c15
    exact hQ (-1) s hI (lf_fq_rf) (show (-2147483648 : Int) ≤ (-1) ∧ (-1) ≤ (65535 : Int) from by omega)
  · skip
    replace c15 : ¬ (3 < x6) := c15
    have b16 : 1 ≤ lf_shl 1 x6 ∧ lf_shl 1 x6 ≤ 8 := lf_shl1 (m := 3) (by omega) (by omega) (by decide)
    have b17 : (-2147483648) ≤ s.1 16 x1 ∧ s.1 16 x1 ≤ 2147483647 := iv_full hI
    exact sm_143_p70L hQ hX53 (show (4 - x6).toNat ≤ M53 from by omega) hI (show (0 : Int) ≤ x1 ∧ x1 ≤ (3 : Int) from by omega) (show (-2147483648 : Int) ≤ x2 ∧ x2 ≤ (2147483647 : Int) from by omega) (show (-2147483648 : Int) ≤ x3 ∧ x3 ≤ (2147483647 : Int) from by omega) (show (-2147483648 : Int) ≤ x4 ∧ x4 ≤ (2147483647 : Int) from by omega) (show (1 : Int) ≤ x5 ∧ x5 ≤ (65536 : Int) from by omega) (show (0 : Int) ≤ x6 ∧ x6 ≤ (3 : Int) from by omega) (show (-2147483648 : Int) ≤ (lf_shl 1 x6) - 1 ∧ (lf_shl 1 x6) - 1 ≤ (2147483647 : Int) from by omega) (show (0 : Int) ≤ 0 ∧ 0 ≤ (1000 : Int) from by omega) (show 0 < (s.1 16 x1) from by omega)
theorem sm_143_p53L {Q : Int → lf_Z → Prop} {x1 : Int} {x2 : Int} {x3 : Int} {x4 : Int} {x5 : Int} {x6 : Int} {s : lf_Z} (hQ : ∀ (r : Int) (s' : lf_Z), iv_A s'.1 s'.2.2 → lf_fq [63, 64, 65, 66, 68, 69, 70, 71] 1000000 true s.1 s.2.2 s'.1 s'.2.2 → ((-2147483648) ≤ r ∧ r ≤ 65535) → Q r s') (hI : iv_A s.1 s.2.2) (bx1 : 0 ≤ x1 ∧ x1 ≤ 3) (bx2 : (-2147483648) ≤ x2 ∧ x2 ≤ 2147483647) (bx3 : (-2147483648) ≤ x3 ∧ x3 ≤ 2147483647) (bx4 : (-2147483648) ≤ x4 ∧ x4 ≤ 2147483647) (bx5 : 1 ≤ x5 ∧ x5 ≤ 65536) (bx6 : 0 ≤ x6 ∧ x6 ≤ 4) (kv0 : 0 < s.1 16 x1) : fm_143_p53L Q x1 x2 x3 x4 x5 x6 s := by
  intro X53 hX
  have key : ∀ (m9 : Nat) (x6 : Int) (s' : lf_Z), iv_A s'.1 s'.2.2 → lf_fq [63, 64, 65, 66, 68, 69, 70, 71] 1000000 true s.1 s.2.2 s'.1 s'.2.2 → 0 ≤ x6 ∧ x6 ≤ 4 → (0 < s'.1 16 x1) → (4 - x6).toNat < m9 → X53 x6 s' := by
    intro m9
    induction m9 with
    | zero => intro x6 s' _ _ bx6 kv0 h9; exact absurd h9 (Nat.not_lt_zero _)
    | succ m9 ih => intro x6 s' i7 f7 bx6 kv0 h9; exact hX _ _ (sm_143_p53 (fun r9 t9 i9 f9 => hQ r9 t9 i9 (lf_fq_tr f7 f9))   (fun x6' t8 i8 f8 bx6' kv0' h8 => ih x6' t8 i8 (lf_fq_tr f7 f8) bx6' kv0' (by omega)) (Nat.le_refl _)  i7  bx1 bx2 bx3 bx4 bx5 bx6  kv0)
  exact key _ _ s hI lf_fq_rf bx6 kv0 (Nat.lt_succ_self _)
theorem sm_143 {a1 : Int} {Q : Int → lf_Z → Prop} {s : lf_Z} (hI : iv_A s.1 s.2.2) (ba1 : 0 ≤ a1 ∧ a1 ≤ 3) (kp0 : 0 < s.1 16 a1) (hQ : ∀ (r : Int) (s' : lf_Z), iv_A s'.1 s'.2.2 → lf_fq [63, 64, 65, 66, 68, 69, 70, 71] 1000000 true s.1 s.2.2 s'.1 s'.2.2 → ((-2147483648) ≤ r ∧ r ≤ 65535) → Q r s') : fm_143 a1 Q s := by
  unfold fm_143
  refine sm_118 hI (show (0 : Int) ≤ a1 ∧ a1 ≤ (3 : Int) from by omega) (show (0 : Int) ≤ 0 ∧ 0 ≤ (9 : Int) from by omega) (fun s21 hI2 fr1 => ?_)
  have fr4 : lf_fq [63, 64, 65, 66, 68, 69, 70, 71] 1000000 true s.1 s.2.2 s21.1 s21.2.2 := lf_fq_tr (lf_fq_rf) (lf_fq_wk fr1 rfl (by decide) (by decide))
  refine sm_132 hI2 (show (1 : Int) ≤ 3 ∧ 3 ≤ (3 : Int) from by omega) (fun r23 q5 => ?_)
  refine sm_132 hI2 (show (1 : Int) ≤ 1 ∧ 1 ≤ (3 : Int) from by omega) (fun r25 q6 => ?_)
  refine sm_132 hI2 (show (1 : Int) ≤ 2 ∧ 2 ≤ (3 : Int) from by omega) (fun r27 q7 => ?_)
  have b8 : (-2147483648) ≤ lf_or r25 r27 ∧ lf_or r25 r27 ≤ 2147483647 := lf_orB
  refine sm_144 hI2 (fun r29 q9 => ?_)
  have b10 : 0 ≤ s21.1 1 1 ∧ s21.1 1 1 ≤ 16 := iv_r1_1 hI2
  have b11 : s21.1 1 1 = s.1 1 1 := congrFun (fr1.1 1 rfl) _
  have b12 : 1 ≤ lf_shl 1 (s21.1 1 1) ∧ lf_shl 1 (s21.1 1 1) ≤ 65536 := lf_shl1 (m := 16) (by omega) (by omega) (by decide)
  have b13 : (-2147483648) ≤ s21.1 16 a1 ∧ s21.1 16 a1 ≤ 2147483647 := iv_full hI2
  have b14 : s21.1 16 a1 = s.1 16 a1 := congrFun (fr1.1 16 rfl) _
  exact sm_143_p53L (fun r9 t9 i9 f9 => hQ r9 t9 i9 (lf_fq_tr fr4 f9)) hI2 (show (0 : Int) ≤ a1 ∧ a1 ≤ (3 : Int) from by omega) (show (-2147483648 : Int) ≤ r23 ∧ r23 ≤ (2147483647 : Int) from by omega) (show (-2147483648 : Int) ≤ lf_or r25 r27 ∧ lf_or r25 r27 ≤ (2147483647 : Int) from by omega) (show (-2147483648 : Int) ≤ r29 ∧ r29 ≤ (2147483647 : Int) from by omega) (show (1 : Int) ≤ lf_shl 1 (s21.1 1 1) ∧ lf_shl 1 (s21.1 1 1) ≤ (65536 : Int) from by omega) (show (0 : Int) ≤ 0 ∧ 0 ≤ (4 : Int) from by omega) (show 0 < (s21.1 16 a1) from by omega)
