-- fm_293 Model.canCome 95 i
theorem sm_293 {a1 : Int} {Q : Int → lf_Z → Prop} {s : lf_Z} (hI : iv_A s.1 s.2.2) (ba1 : (-2147483648) ≤ a1 ∧ a1 ≤ 2147483647) (hQ : ∀ (r : Int) (s' : lf_Z), iv_A s'.1 s'.2.2 → lf_fq [104, 107, 111, 112] 1000000 true s.1 s.2.2 s'.1 s'.2.2 → ((-2147483648) ≤ r ∧ r ≤ 2147483647) → Q r s') : fm_293 a1 Q s := by
  unfold fm_293
  refine sm_254 hI (show (-2147483648 : Int) ≤ a1 ∧ a1 ≤ (2147483647 : Int) from by omega) (fun z22 q1 => ?_)
  refine ⟨fun c2 => ?_, fun c2 => ?_⟩
  · skip
    have dc2 := q1.2 c2
    exact hQ (-1) s hI (lf_fq_rf) (show (-2147483648 : Int) ≤ (-1) ∧ (-1) ≤ (2147483647 : Int) from by omega)
  · skip
    have dc2 := q1.1 c2
    refine sm_294 hI (show (0 : Int) ≤ a1 ∧ a1 ≤ (3 : Int) from by omega) (fun r24 s23 hI4 fr3 q5 => ?_)
    have fr6 : lf_fq [104, 107, 111, 112] 1000000 true s.1 s.2.2 s23.1 s23.2.2 := lf_fq_tr (lf_fq_rf) (lf_fq_wk fr3 rfl (by decide) (by decide))
    exact hQ r24 s23 hI4 fr6 (show (-2147483648 : Int) ≤ r24 ∧ r24 ≤ (2147483647 : Int) from by omega)
-- fm_132 Land.bitsOfKind 1 i
theorem sm_132_p28 {X4 : Int → Int → lf_Z → Prop} {Q : Int → lf_Z → Prop} {x1 : Int} {x2 : Int} {x3 : Int} {s : lf_Z} (hQ : ∀ (r : Int), ((-2147483648) ≤ r ∧ r ≤ 2147483647) → Q r s) {M4 : Nat} (hX4 : ∀ (x2 : Int) (x3 : Int), (-2147483648) ≤ x2 ∧ x2 ≤ 2147483647 → 0 ≤ x3 ∧ x3 ≤ 12 → (12 - x3).toNat < M4 → X4 x2 x3 s) (hM4 : (12 - x3).toNat ≤ M4) (hI : iv_A s.1 s.2.2) (bx1 : 1 ≤ x1 ∧ x1 ≤ 3) (bx2 : (-2147483648) ≤ x2 ∧ x2 ≤ 2147483647) (bx3 : 0 ≤ x3 ∧ x3 ≤ 11) : fm_132_p28 X4 Q x1 x2 x3 s := by
  unfold fm_132_p28
  exact hX4 (x2) (x3 + 1) (show (-2147483648 : Int) ≤ x2 ∧ x2 ≤ (2147483647 : Int) from by omega) (show (0 : Int) ≤ x3 + 1 ∧ x3 + 1 ≤ (12 : Int) from by omega) (show (12 - (x3 + 1)).toNat < M4 from by omega)
theorem sm_132_p4 {X4 : Int → Int → lf_Z → Prop} {Q : Int → lf_Z → Prop} {x1 : Int} {x2 : Int} {x3 : Int} {s : lf_Z} (hQ : ∀ (r : Int), ((-2147483648) ≤ r ∧ r ≤ 2147483647) → Q r s) {M4 : Nat} (hX4 : ∀ (x2 : Int) (x3 : Int), (-2147483648) ≤ x2 ∧ x2 ≤ 2147483647 → 0 ≤ x3 ∧ x3 ≤ 12 → (12 - x3).toNat < M4 → X4 x2 x3 s) (hM4 : (12 - x3).toNat ≤ M4) (hI : iv_A s.1 s.2.2) (bx1 : 1 ≤ x1 ∧ x1 ≤ 3) (bx2 : (-2147483648) ≤ x2 ∧ x2 ≤ 2147483647) (bx3 : 0 ≤ x3 ∧ x3 ≤ 12) : fm_132_p4 Q x1 X4 x2 x3 s := by
  unfold fm_132_p4
  have b1 : 0 ≤ s.1 1 0 ∧ s.1 1 0 ≤ 12 := iv_r1_0 hI
  refine ⟨(show lf_R x3 from lf_Rof (by omega)), ?_⟩
  refine ⟨(show lf_R (s.1 1 0) from lf_Rof (by omega)), ?_⟩
  refine ⟨fun c2 => ?_, fun c2 => ?_⟩
  · skip
    replace c2 : s.1 1 0 ≤ x3 := c2
    exact hQ x2 (show (-2147483648 : Int) ≤ x2 ∧ x2 ≤ (2147483647 : Int) from by omega)
  · skip
    replace c2 : ¬ (s.1 1 0 ≤ x3) := c2
    refine ⟨(show (0 : Int) ≤ x3 ∧ x3 < (12 : Int) from by omega), ?_⟩
    have b3 : 0 ≤ s.1 2 x3 ∧ s.1 2 x3 ≤ 3 := iv_r2 hI _
    refine ⟨(show lf_R (s.1 2 x3) from lf_Rof (by omega)), ?_⟩
    refine ⟨(show lf_R x1 from lf_Rof (by omega)), ?_⟩
    refine ⟨fun c4 => ?_, fun c4 => ?_⟩
    · skip
      replace c4 : s.1 2 x3 ≠ x1 := c4
      exact sm_132_p28 hQ hX4 (show (12 - x3).toNat ≤ M4 from by omega) hI (show (1 : Int) ≤ x1 ∧ x1 ≤ (3 : Int) from by omega) (show (-2147483648 : Int) ≤ x2 ∧ x2 ≤ (2147483647 : Int) from by omega) (show (0 : Int) ≤ x3 ∧ x3 ≤ (11 : Int) from by omega)
    · skip
      replace c4 : ¬ (s.1 2 x3 ≠ x1) := c4
      have b5 : 1 ≤ lf_shl 1 x3 ∧ lf_shl 1 x3 ≤ 2048 := lf_shl1 (m := 11) (by omega) (by omega) (by decide)
      have b6 : (-2147483648) ≤ lf_or x2 (lf_shl 1 x3) ∧ lf_or x2 (lf_shl 1 x3) ≤ 2147483647 := lf_orB
      exact sm_132_p28 hQ hX4 (show (12 - x3).toNat ≤ M4 from by omega) hI (show (1 : Int) ≤ x1 ∧ x1 ≤ (3 : Int) from by omega) (show (-2147483648 : Int) ≤ lf_or x2 (lf_shl 1 x3) ∧ lf_or x2 (lf_shl 1 x3) ≤ (2147483647 : Int) from by omega) (show (0 : Int) ≤ x3 ∧ x3 ≤ (11 : Int) from by omega)
theorem sm_132_p4L {Q : Int → lf_Z → Prop} {x1 : Int} {x2 : Int} {x3 : Int} {s : lf_Z} (hQ : ∀ (r : Int), ((-2147483648) ≤ r ∧ r ≤ 2147483647) → Q r s) (hI : iv_A s.1 s.2.2) (bx1 : 1 ≤ x1 ∧ x1 ≤ 3) (bx2 : (-2147483648) ≤ x2 ∧ x2 ≤ 2147483647) (bx3 : 0 ≤ x3 ∧ x3 ≤ 12) : fm_132_p4L Q x1 x2 x3 s := by
  intro X4 hX
  have key : ∀ (m9 : Nat) (x2 : Int) (x3 : Int), (-2147483648) ≤ x2 ∧ x2 ≤ 2147483647 → 0 ≤ x3 ∧ x3 ≤ 12 → (12 - x3).toNat < m9 → X4 x2 x3 s := by
    intro m9
    induction m9 with
    | zero => intro x2 x3 bx2 bx3 h9; exact absurd h9 (Nat.not_lt_zero _)
    | succ m9 ih => intro x2 x3 bx2 bx3 h9; exact hX _ _ _ (sm_132_p4 hQ   (fun x2' x3' bx2' bx3' h8 => ih x2' x3' bx2' bx3' (by omega)) (Nat.le_refl _)  hI  bx1 bx2 bx3  )
  exact key _ _ _ bx2 bx3   (Nat.lt_succ_self _)
theorem sm_132 {a1 : Int} {Q : Int → lf_Z → Prop} {s : lf_Z} (hI : iv_A s.1 s.2.2) (ba1 : 1 ≤ a1 ∧ a1 ≤ 3) (hQ : ∀ (r : Int), ((-2147483648) ≤ r ∧ r ≤ 2147483647) → Q r s) : fm_132 a1 Q s := by
  unfold fm_132
  exact sm_132_p4L hQ hI (show (1 : Int) ≤ a1 ∧ a1 ≤ (3 : Int) from by omega) (show (-2147483648 : Int) ≤ 0 ∧ 0 ≤ (2147483647 : Int) from by omega) (show (0 : Int) ≤ 0 ∧ 0 ≤ (12 : Int) from by omega)
-- fm_133 ElevenBullocks.nextSet i
theorem sm_133 {a0 : Int} {Q : Int → lf_Z → Prop} {s : lf_Z} (hI : iv_A s.1 s.2.2) (ba0 : (-2147483648) ≤ a0 ∧ a0 ≤ 65535) (hQ : ∀ (r : Int), ((-2147483648) ≤ r ∧ r ≤ 2147483647) → Q r s) : fm_133 a0 Q s := by
  unfold fm_133
  have b1 : (-2147483648) ≤ lf_w (-a0) ∧ lf_w (-a0) ≤ 2147483647 := lf_wB
  have b2 : (-2147483648) ≤ lf_and a0 (lf_w (-a0)) ∧ lf_and a0 (lf_w (-a0)) ≤ 2147483647 := lf_andF
  have b3 : (-2147483648) ≤ lf_w (a0 + (lf_and a0 (lf_w (-a0)))) ∧ lf_w (a0 + (lf_and a0 (lf_w (-a0)))) ≤ 2147483647 := lf_wB
  refine ⟨fun c4 => ?_, fun c4 => ?_⟩
  · skip
    replace c4 : lf_and a0 (lf_w (-a0)) ≠ 0 := c4
    have b5 : (-2147483648) ≤ lf_xor a0 (lf_w (a0 + (lf_and a0 (lf_w (-a0))))) ∧ lf_xor a0 (lf_w (a0 + (lf_and a0 (lf_w (-a0))))) ≤ 2147483647 := lf_xorB
    refine ⟨(show (lf_and a0 (lf_w (-a0))) ≠ 0 from by omega), ?_⟩
    have b6 : (-2147483648) ≤ lf_w ((lf_xor a0 (lf_w (a0 + (lf_and a0 (lf_w (-a0)))))).tdiv (lf_and a0 (lf_w (-a0)))) ∧ lf_w ((lf_xor a0 (lf_w (a0 + (lf_and a0 (lf_w (-a0)))))).tdiv (lf_and a0 (lf_w (-a0)))) ≤ 2147483647 := lf_wB
    have b7 : (-2147483648) ≤ lf_ushr (lf_w ((lf_xor a0 (lf_w (a0 + (lf_and a0 (lf_w (-a0)))))).tdiv (lf_and a0 (lf_w (-a0))))) 2 ∧ lf_ushr (lf_w ((lf_xor a0 (lf_w (a0 + (lf_and a0 (lf_w (-a0)))))).tdiv (lf_and a0 (lf_w (-a0))))) 2 ≤ 2147483647 := lf_ushrB
    have b8 : (-2147483648) ≤ lf_or (lf_w (a0 + (lf_and a0 (lf_w (-a0))))) (lf_ushr (lf_w ((lf_xor a0 (lf_w (a0 + (lf_and a0 (lf_w (-a0)))))).tdiv (lf_and a0 (lf_w (-a0))))) 2) ∧ lf_or (lf_w (a0 + (lf_and a0 (lf_w (-a0))))) (lf_ushr (lf_w ((lf_xor a0 (lf_w (a0 + (lf_and a0 (lf_w (-a0)))))).tdiv (lf_and a0 (lf_w (-a0))))) 2) ≤ 2147483647 := lf_orB
    exact hQ (lf_or (lf_w (a0 + (lf_and a0 (lf_w (-a0))))) (lf_ushr (lf_w ((lf_xor a0 (lf_w (a0 + (lf_and a0 (lf_w (-a0)))))).tdiv (lf_and a0 (lf_w (-a0))))) 2)) (show (-2147483648 : Int) ≤ lf_or (lf_w (a0 + (lf_and a0 (lf_w (-a0))))) (lf_ushr (lf_w ((lf_xor a0 (lf_w (a0 + (lf_and a0 (lf_w (-a0)))))).tdiv (lf_and a0 (lf_w (-a0))))) 2) ∧ lf_or (lf_w (a0 + (lf_and a0 (lf_w (-a0))))) (lf_ushr (lf_w ((lf_xor a0 (lf_w (a0 + (lf_and a0 (lf_w (-a0)))))).tdiv (lf_and a0 (lf_w (-a0))))) 2) ≤ (2147483647 : Int) from by omega)
  · skip
    replace c4 : ¬ (lf_and a0 (lf_w (-a0)) ≠ 0) := c4
    exact hQ 65536 (show (-2147483648 : Int) ≤ 65536 ∧ 65536 ≤ (2147483647 : Int) from by omega)
-- fm_131 Walk.fewestWhoStop 68 i i
theorem sm_131_p120 {X29 : Int → lf_Z → Prop} {Q : Int → lf_Z → Prop} {x1 : Int} {x3 : Int} {x4 : Int} {x5 : Int} {s : lf_Z} (hQ : ∀ (r : Int) (s' : lf_Z), iv_A s'.1 s'.2.2 → lf_fq [63, 64, 65, 66, 68, 69, 70, 71] 1000000 true s.1 s.2.2 s'.1 s'.2.2 → ((-2147483648) ≤ r ∧ r ≤ 4095) → Q r s') {M29 : Nat} (hX29 : ∀ (x5 : Int) (s' : lf_Z), iv_A s'.1 s'.2.2 → lf_fq [63, 64, 65, 66, 68, 69, 70, 71] 1000000 true s.1 s.2.2 s'.1 s'.2.2 → 0 ≤ x5 ∧ x5 ≤ 4 → (0 < s'.1 16 x1) → (4 - x5).toNat < M29 → X29 x5 s') (hM29 : (4 - x5).toNat ≤ M29) (hI : iv_A s.1 s.2.2) (bx1 : 0 ≤ x1 ∧ x1 ≤ 3) (bx3 : (-2147483648) ≤ x3 ∧ x3 ≤ 2147483647) (bx4 : 1 ≤ x4 ∧ x4 ≤ 4096) (bx5 : 0 ≤ x5 ∧ x5 ≤ 3) (kv0 : 0 < s.1 16 x1) : fm_131_p120 X29 Q x1 x3 x4 x5 s := by
  unfold fm_131_p120
  have b16 : (-2147483648) ≤ s.1 16 x1 ∧ s.1 16 x1 ≤ 2147483647 := iv_full hI
  exact hX29 (x5 + 1) s hI (lf_fq_rf) (show (0 : Int) ≤ x5 + 1 ∧ x5 + 1 ≤ (4 : Int) from by omega) (show 0 < (s.1 16 x1) from by omega) (show (4 - (x5 + 1)).toNat < M29 from by omega)
theorem sm_131_p112 {X29 : Int → lf_Z → Prop} {X46 : Int → Int → lf_Z → Prop} {Q : Int → lf_Z → Prop} {x1 : Int} {x3 : Int} {x4 : Int} {x5 : Int} {x7 : Int} {y0 : Int} {s : lf_Z} (hQ : ∀ (r : Int) (s' : lf_Z), iv_A s'.1 s'.2.2 → lf_fq [63, 64, 65, 66, 68, 69, 70, 71] 1000000 true s.1 s.2.2 s'.1 s'.2.2 → ((-2147483648) ≤ r ∧ r ≤ 4095) → Q r s') {M29 : Nat} (hX29 : ∀ (x5 : Int) (s' : lf_Z), iv_A s'.1 s'.2.2 → lf_fq [63, 64, 65, 66, 68, 69, 70, 71] 1000000 true s.1 s.2.2 s'.1 s'.2.2 → 0 ≤ x5 ∧ x5 ≤ 4 → (0 < s'.1 16 x1) → (4 - x5).toNat < M29 → X29 x5 s') (hM29 : (4 - x5).toNat ≤ M29) {M46 : Nat} (hX46 : ∀ (x6 : Int) (x7 : Int) (s' : lf_Z), iv_A s'.1 s'.2.2 → lf_fq [63, 64, 65, 66, 68, 69, 70, 71] 1000000 true s.1 s.2.2 s'.1 s'.2.2 → (-2147483648) ≤ x6 ∧ x6 ≤ 2147483647 → 0 ≤ x7 ∧ x7 ≤ 1000 → (0 < s'.1 16 x1) → (1000 - x7).toNat < M46 → X46 x6 x7 s') (hM46 : (1000 - x7).toNat ≤ M46) (hI : iv_A s.1 s.2.2) (bx1 : 0 ≤ x1 ∧ x1 ≤ 3) (bx3 : (-2147483648) ≤ x3 ∧ x3 ≤ 2147483647) (bx4 : 1 ≤ x4 ∧ x4 ≤ 4096) (bx5 : 0 ≤ x5 ∧ x5 ≤ 3) (bx7 : 0 ≤ x7 ∧ x7 ≤ 999) (by0 : (-2147483648) ≤ y0 ∧ y0 ≤ 2147483647) (kv0 : 0 < s.1 16 x1) : fm_131_p112 X29 X46 Q x1 x3 x4 x5 x7 y0 s := by
  unfold fm_131_p112
  have b30 : (-2147483648) ≤ s.1 16 x1 ∧ s.1 16 x1 ≤ 2147483647 := iv_full hI
  exact hX46 (y0) (x7 + 1) s hI (lf_fq_rf) (show (-2147483648 : Int) ≤ y0 ∧ y0 ≤ (2147483647 : Int) from by omega) (show (0 : Int) ≤ x7 + 1 ∧ x7 + 1 ≤ (1000 : Int) from by omega) (show 0 < (s.1 16 x1) from by omega) (show (1000 - (x7 + 1)).toNat < M46 from by omega)
theorem sm_131_p97 {X29 : Int → lf_Z → Prop} {X46 : Int → Int → lf_Z → Prop} {Q : Int → lf_Z → Prop} {x1 : Int} {x3 : Int} {x4 : Int} {x5 : Int} {x6 : Int} {x7 : Int} {s : lf_Z} (hQ : ∀ (r : Int) (s' : lf_Z), iv_A s'.1 s'.2.2 → lf_fq [63, 64, 65, 66, 68, 69, 70, 71] 1000000 true s.1 s.2.2 s'.1 s'.2.2 → ((-2147483648) ≤ r ∧ r ≤ 4095) → Q r s') {M29 : Nat} (hX29 : ∀ (x5 : Int) (s' : lf_Z), iv_A s'.1 s'.2.2 → lf_fq [63, 64, 65, 66, 68, 69, 70, 71] 1000000 true s.1 s.2.2 s'.1 s'.2.2 → 0 ≤ x5 ∧ x5 ≤ 4 → (0 < s'.1 16 x1) → (4 - x5).toNat < M29 → X29 x5 s') (hM29 : (4 - x5).toNat ≤ M29) {M46 : Nat} (hX46 : ∀ (x6 : Int) (x7 : Int) (s' : lf_Z), iv_A s'.1 s'.2.2 → lf_fq [63, 64, 65, 66, 68, 69, 70, 71] 1000000 true s.1 s.2.2 s'.1 s'.2.2 → (-2147483648) ≤ x6 ∧ x6 ≤ 2147483647 → 0 ≤ x7 ∧ x7 ≤ 1000 → (0 < s'.1 16 x1) → (1000 - x7).toNat < M46 → X46 x6 x7 s') (hM46 : (1000 - x7).toNat ≤ M46) (hI : iv_A s.1 s.2.2) (bx1 : 0 ≤ x1 ∧ x1 ≤ 3) (bx3 : (-2147483648) ≤ x3 ∧ x3 ≤ 2147483647) (bx4 : 1 ≤ x4 ∧ x4 ≤ 4096) (bx5 : 0 ≤ x5 ∧ x5 ≤ 3) (bx6 : (-2147483648) ≤ x6 ∧ x6 ≤ 4095) (bx7 : 0 ≤ x7 ∧ x7 ≤ 999) (kv0 : 0 < s.1 16 x1) : fm_131_p97 X29 X46 Q x1 x3 x4 x5 x6 x7 s := by
  unfold fm_131_p97
  refine ⟨(show lf_R x5 from lf_Rof (by omega)), ?_⟩
  refine ⟨fun c27 => ?_, fun c27 => ?_⟩
  · skip
    replace c27 : x5 ≠ 0 := c27
    refine sm_133 hI (show (-2147483648 : Int) ≤ x6 ∧ x6 ≤ (65535 : Int) from by omega) (fun r31 q28 => ?_)
    have b29 : (-2147483648) ≤ s.1 16 x1 ∧ s.1 16 x1 ≤ 2147483647 := iv_full hI
    exact sm_131_p112 hQ hX29 (show (4 - x5).toNat ≤ M29 from by omega) hX46 (show (1000 - x7).toNat ≤ M46 from by omega) hI (show (0 : Int) ≤ x1 ∧ x1 ≤ (3 : Int) from by omega) (show (-2147483648 : Int) ≤ x3 ∧ x3 ≤ (2147483647 : Int) from by omega) (show (1 : Int) ≤ x4 ∧ x4 ≤ (4096 : Int) from by omega) (show (0 : Int) ≤ x5 ∧ x5 ≤ (3 : Int) from by omega) (show (0 : Int) ≤ x7 ∧ x7 ≤ (999 : Int) from by omega) (show (-2147483648 : Int) ≤ r31 ∧ r31 ≤ (2147483647 : Int) from by omega) (show 0 < (s.1 16 x1) from by omega)
  · skip
    replace c27 : ¬ (x5 ≠ 0) := c27
    have b31 : (-2147483648) ≤ s.1 16 x1 ∧ s.1 16 x1 ≤ 2147483647 := iv_full hI
    exact sm_131_p112 hQ hX29 (show (4 - x5).toNat ≤ M29 from by omega) hX46 (show (1000 - x7).toNat ≤ M46 from by omega) hI (show (0 : Int) ≤ x1 ∧ x1 ≤ (3 : Int) from by omega) (show (-2147483648 : Int) ≤ x3 ∧ x3 ≤ (2147483647 : Int) from by omega) (show (1 : Int) ≤ x4 ∧ x4 ≤ (4096 : Int) from by omega) (show (0 : Int) ≤ x5 ∧ x5 ≤ (3 : Int) from by omega) (show (0 : Int) ≤ x7 ∧ x7 ≤ (999 : Int) from by omega) (show (-2147483648 : Int) ≤ x4 ∧ x4 ≤ (2147483647 : Int) from by omega) (show 0 < (s.1 16 x1) from by omega)
theorem sm_131_p46 {X29 : Int → lf_Z → Prop} {X46 : Int → Int → lf_Z → Prop} {Q : Int → lf_Z → Prop} {x1 : Int} {x3 : Int} {x4 : Int} {x5 : Int} {x6 : Int} {x7 : Int} {s : lf_Z} (hQ : ∀ (r : Int) (s' : lf_Z), iv_A s'.1 s'.2.2 → lf_fq [63, 64, 65, 66, 68, 69, 70, 71] 1000000 true s.1 s.2.2 s'.1 s'.2.2 → ((-2147483648) ≤ r ∧ r ≤ 4095) → Q r s') {M29 : Nat} (hX29 : ∀ (x5 : Int) (s' : lf_Z), iv_A s'.1 s'.2.2 → lf_fq [63, 64, 65, 66, 68, 69, 70, 71] 1000000 true s.1 s.2.2 s'.1 s'.2.2 → 0 ≤ x5 ∧ x5 ≤ 4 → (0 < s'.1 16 x1) → (4 - x5).toNat < M29 → X29 x5 s') (hM29 : (4 - x5).toNat ≤ M29) {M46 : Nat} (hX46 : ∀ (x6 : Int) (x7 : Int) (s' : lf_Z), iv_A s'.1 s'.2.2 → lf_fq [63, 64, 65, 66, 68, 69, 70, 71] 1000000 true s.1 s.2.2 s'.1 s'.2.2 → (-2147483648) ≤ x6 ∧ x6 ≤ 2147483647 → 0 ≤ x7 ∧ x7 ≤ 1000 → (0 < s'.1 16 x1) → (1000 - x7).toNat < M46 → X46 x6 x7 s') (hM46 : (1000 - x7).toNat ≤ M46) (hI : iv_A s.1 s.2.2) (bx1 : 0 ≤ x1 ∧ x1 ≤ 3) (bx3 : (-2147483648) ≤ x3 ∧ x3 ≤ 2147483647) (bx4 : 1 ≤ x4 ∧ x4 ≤ 4096) (bx5 : 0 ≤ x5 ∧ x5 ≤ 3) (bx6 : (-2147483648) ≤ x6 ∧ x6 ≤ 2147483647) (bx7 : 0 ≤ x7 ∧ x7 ≤ 1000) (kv0 : 0 < s.1 16 x1) : fm_131_p46 X29 Q x1 x3 x4 x5 X46 x6 x7 s := by
  unfold fm_131_p46
  refine ⟨(show lf_R x7 from lf_Rof (by omega)), ?_⟩
  refine ⟨fun c14 => ?_, fun c14 => ?_⟩
  · skip
    replace c14 : 1000 ≤ x7 := c14
    have b15 : (-2147483648) ≤ s.1 16 x1 ∧ s.1 16 x1 ≤ 2147483647 := iv_full hI
    exact sm_131_p120 hQ hX29 (show (4 - x5).toNat ≤ M29 from by omega) hI (show (0 : Int) ≤ x1 ∧ x1 ≤ (3 : Int) from by omega) (show (-2147483648 : Int) ≤ x3 ∧ x3 ≤ (2147483647 : Int) from by omega) (show (1 : Int) ≤ x4 ∧ x4 ≤ (4096 : Int) from by omega) (show (0 : Int) ≤ x5 ∧ x5 ≤ (3 : Int) from by omega) (show 0 < (s.1 16 x1) from by omega)
  · skip
    replace c14 : ¬ (1000 ≤ x7) := c14
    refine ⟨(show lf_R x6 from lf_Rof (by omega)), ?_⟩
    refine ⟨(show lf_R x4 from lf_Rof (by omega)), ?_⟩
    refine ⟨fun c17 => ?_, fun c17 => ?_⟩
    · skip
      replace c17 : x4 ≤ x6 := c17
      have b18 : (-2147483648) ≤ s.1 16 x1 ∧ s.1 16 x1 ≤ 2147483647 := iv_full hI
      exact sm_131_p120 hQ hX29 (show (4 - x5).toNat ≤ M29 from by omega) hI (show (0 : Int) ≤ x1 ∧ x1 ≤ (3 : Int) from by omega) (show (-2147483648 : Int) ≤ x3 ∧ x3 ≤ (2147483647 : Int) from by omega) (show (1 : Int) ≤ x4 ∧ x4 ≤ (4096 : Int) from by omega) (show (0 : Int) ≤ x5 ∧ x5 ≤ (3 : Int) from by omega) (show 0 < (s.1 16 x1) from by omega)
    · skip
      replace c17 : ¬ (x4 ≤ x6) := c17
      have hI19 : iv_A (lf_up s.1 68 10 x6) s.2.2 := iv_w68_10 hI (by omega)
      have fr20 : lf_fq [63, 64, 65, 66, 68, 69, 70, 71] 1000000 true s.1 s.2.2 (lf_up s.1 68 10 x6) s.2.2 := lf_fq_up (lf_fq_rf) rfl (fun h => absurd h (by decide))
      refine ⟨(show (0 : Int) ≤ x1 ∧ x1 < (4 : Int) from by omega), ?_⟩
      have b21 : (-1) ≤ s.1 17 x1 ∧ s.1 17 x1 ≤ 11 := (show (-1) ≤ (lf_up s.1 68 10 x6) 17 x1 ∧ (lf_up s.1 68 10 x6) 17 x1 ≤ 11 from iv_r17 hI19 _)
      have b22 : s.1 16 x1 ≤ 0 ∨ 0 ≤ s.1 17 x1 := (by first | exact (show (lf_up s.1 68 10 x6) 16 x1 ≤ 0 ∨ 0 ≤ (lf_up s.1 68 10 x6) 17 x1 from iv_sp hI19 (by omega) (by omega)) | exact iv_sp hI19 (by omega) (by omega))
      have b23 : (-2147483648) ≤ lf_shr x6 (s.1 17 x1) ∧ lf_shr x6 (s.1 17 x1) ≤ 2147483647 := lf_shrB
      have b24 : 0 ≤ lf_and (lf_shr x6 (s.1 17 x1)) 1 ∧ lf_and (lf_shr x6 (s.1 17 x1)) 1 ≤ 1 := lf_andB (by omega) (by omega)
      refine ⟨fun c25 => ?_, fun c25 => ?_⟩
      · skip
        replace c25 : lf_and (lf_shr x6 (s.1 17 x1)) 1 ≠ 0 := c25
        have b26 : (-2147483648) ≤ s.1 16 x1 ∧ s.1 16 x1 ≤ 2147483647 := (show (-2147483648) ≤ (lf_up s.1 68 10 x6) 16 x1 ∧ (lf_up s.1 68 10 x6) 16 x1 ≤ 2147483647 from iv_full hI19)
        exact sm_131_p97 (fun r9 t9 i9 f9 => hQ r9 t9 i9 (lf_fq_tr fr20 f9)) (fun p0 t9 i9 f9 => hX29 p0 t9 i9 (lf_fq_tr fr20 f9)) (show (4 - x5).toNat ≤ M29 from by omega) (fun p0 p1 t9 i9 f9 => hX46 p0 p1 t9 i9 (lf_fq_tr fr20 f9)) (show (1000 - x7).toNat ≤ M46 from by omega) hI19 (show (0 : Int) ≤ x1 ∧ x1 ≤ (3 : Int) from by omega) (show (-2147483648 : Int) ≤ x3 ∧ x3 ≤ (2147483647 : Int) from by omega) (show (1 : Int) ≤ x4 ∧ x4 ≤ (4096 : Int) from by omega) (show (0 : Int) ≤ x5 ∧ x5 ≤ (3 : Int) from by omega) (show (-2147483648 : Int) ≤ x6 ∧ x6 ≤ (4095 : Int) from by omega) (show (0 : Int) ≤ x7 ∧ x7 ≤ (999 : Int) from by omega) (show 0 < (s.1 16 x1) from by omega)
      · skip
        replace c25 : ¬ (lf_and (lf_shr x6 (s.1 17 x1)) 1 ≠ 0) := c25
        have b34 : (-2147483648) ≤ s.1 16 x1 ∧ s.1 16 x1 ≤ 2147483647 := (show (-2147483648) ≤ (lf_up s.1 68 10 x6) 16 x1 ∧ (lf_up s.1 68 10 x6) 16 x1 ≤ 2147483647 from iv_full hI19)
        refine sm_128 hI19 (show (0 : Int) ≤ x1 ∧ x1 ≤ (3 : Int) from by omega) (show 0 < (s.1 16 x1) from by omega) (fun r33 s32 hI33 fr32 q35 => ?_)
        have fr36 : lf_fq [63, 64, 65, 66, 68, 69, 70, 71] 1000000 true s.1 s.2.2 s32.1 s32.2.2 := lf_fq_tr fr20 (lf_fq_wk fr32 rfl (by decide) (by decide))
        have b37 : (-2147483648) ≤ lf_and r33 x3 ∧ lf_and r33 x3 ≤ 2147483647 := lf_andF
        refine ⟨fun c38 => ?_, fun c38 => ?_⟩
        · skip
          replace c38 : lf_and r33 x3 ≠ 0 := c38
          have b39 : (-2147483648) ≤ s32.1 16 x1 ∧ s32.1 16 x1 ≤ 2147483647 := iv_full hI33
          have b40 : s32.1 16 x1 = s.1 16 x1 := congrFun (fr32.1 16 rfl) _
          exact sm_131_p97 (fun r9 t9 i9 f9 => hQ r9 t9 i9 (lf_fq_tr fr36 f9)) (fun p0 t9 i9 f9 => hX29 p0 t9 i9 (lf_fq_tr fr36 f9)) (show (4 - x5).toNat ≤ M29 from by omega) (fun p0 p1 t9 i9 f9 => hX46 p0 p1 t9 i9 (lf_fq_tr fr36 f9)) (show (1000 - x7).toNat ≤ M46 from by omega) hI33 (show (0 : Int) ≤ x1 ∧ x1 ≤ (3 : Int) from by omega) (show (-2147483648 : Int) ≤ x3 ∧ x3 ≤ (2147483647 : Int) from by omega) (show (1 : Int) ≤ x4 ∧ x4 ≤ (4096 : Int) from by omega) (show (0 : Int) ≤ x5 ∧ x5 ≤ (3 : Int) from by omega) (show (-2147483648 : Int) ≤ x6 ∧ x6 ≤ (4095 : Int) from by omega) (show (0 : Int) ≤ x7 ∧ x7 ≤ (999 : Int) from by omega) (show 0 < (s32.1 16 x1) from by omega)
        · skip
          replace c38 : ¬ (lf_and r33 x3 ≠ 0) := c38
          exact hQ x6 s32 hI33 fr36 (show (-2147483648 : Int) ≤ x6 ∧ x6 ≤ (4095 : Int) from by omega)
theorem sm_131_p46L {X29 : Int → lf_Z → Prop} {Q : Int → lf_Z → Prop} {x1 : Int} {x3 : Int} {x4 : Int} {x5 : Int} {x6 : Int} {x7 : Int} {s : lf_Z} (hQ : ∀ (r : Int) (s' : lf_Z), iv_A s'.1 s'.2.2 → lf_fq [63, 64, 65, 66, 68, 69, 70, 71] 1000000 true s.1 s.2.2 s'.1 s'.2.2 → ((-2147483648) ≤ r ∧ r ≤ 4095) → Q r s') {M29 : Nat} (hX29 : ∀ (x5 : Int) (s' : lf_Z), iv_A s'.1 s'.2.2 → lf_fq [63, 64, 65, 66, 68, 69, 70, 71] 1000000 true s.1 s.2.2 s'.1 s'.2.2 → 0 ≤ x5 ∧ x5 ≤ 4 → (0 < s'.1 16 x1) → (4 - x5).toNat < M29 → X29 x5 s') (hM29 : (4 - x5).toNat ≤ M29) (hI : iv_A s.1 s.2.2) (bx1 : 0 ≤ x1 ∧ x1 ≤ 3) (bx3 : (-2147483648) ≤ x3 ∧ x3 ≤ 2147483647) (bx4 : 1 ≤ x4 ∧ x4 ≤ 4096) (bx5 : 0 ≤ x5 ∧ x5 ≤ 3) (bx6 : (-2147483648) ≤ x6 ∧ x6 ≤ 2147483647) (bx7 : 0 ≤ x7 ∧ x7 ≤ 1000) (kv0 : 0 < s.1 16 x1) : fm_131_p46L X29 Q x1 x3 x4 x5 x6 x7 s := by
  intro X46 hX
  have key : ∀ (m9 : Nat) (x6 : Int) (x7 : Int) (s' : lf_Z), iv_A s'.1 s'.2.2 → lf_fq [63, 64, 65, 66, 68, 69, 70, 71] 1000000 true s.1 s.2.2 s'.1 s'.2.2 → (-2147483648) ≤ x6 ∧ x6 ≤ 2147483647 → 0 ≤ x7 ∧ x7 ≤ 1000 → (0 < s'.1 16 x1) → (1000 - x7).toNat < m9 → X46 x6 x7 s' := by
    intro m9
    induction m9 with
    | zero => intro x6 x7 s' _ _ bx6 bx7 kv0 h9; exact absurd h9 (Nat.not_lt_zero _)
    | succ m9 ih => intro x6 x7 s' i7 f7 bx6 bx7 kv0 h9; exact hX _ _ _ (sm_131_p46 (fun r9 t9 i9 f9 => hQ r9 t9 i9 (lf_fq_tr f7 f9))  (fun p0 t9 i9 f9 => hX29 p0 t9 i9 (lf_fq_tr f7 f9)) hM29 (fun x6' x7' t8 i8 f8 bx6' bx7' kv0' h8 => ih x6' x7' t8 i8 (lf_fq_tr f7 f8) bx6' bx7' kv0' (by omega)) (Nat.le_refl _)  i7  bx1 bx3 bx4 bx5 bx6 bx7  kv0)
  exact key _ _ _ s hI lf_fq_rf bx6 bx7 kv0 (Nat.lt_succ_self _)
theorem sm_131_p29 {X29 : Int → lf_Z → Prop} {Q : Int → lf_Z → Prop} {x1 : Int} {x3 : Int} {x4 : Int} {x5 : Int} {s : lf_Z} (hQ : ∀ (r : Int) (s' : lf_Z), iv_A s'.1 s'.2.2 → lf_fq [63, 64, 65, 66, 68, 69, 70, 71] 1000000 true s.1 s.2.2 s'.1 s'.2.2 → ((-2147483648) ≤ r ∧ r ≤ 4095) → Q r s') {M29 : Nat} (hX29 : ∀ (x5 : Int) (s' : lf_Z), iv_A s'.1 s'.2.2 → lf_fq [63, 64, 65, 66, 68, 69, 70, 71] 1000000 true s.1 s.2.2 s'.1 s'.2.2 → 0 ≤ x5 ∧ x5 ≤ 4 → (0 < s'.1 16 x1) → (4 - x5).toNat < M29 → X29 x5 s') (hM29 : (4 - x5).toNat ≤ M29) (hI : iv_A s.1 s.2.2) (bx1 : 0 ≤ x1 ∧ x1 ≤ 3) (bx3 : (-2147483648) ≤ x3 ∧ x3 ≤ 2147483647) (bx4 : 1 ≤ x4 ∧ x4 ≤ 4096) (bx5 : 0 ≤ x5 ∧ x5 ≤ 4) (kv0 : 0 < s.1 16 x1) : fm_131_p29 Q x1 x3 x4 X29 x5 s := by
  unfold fm_131_p29
  refine ⟨(show lf_R x5 from lf_Rof (by omega)), ?_⟩
  refine ⟨fun c11 => ?_, fun c11 => ?_⟩
  · skip
    replace c11 : 3 < x5 := c11
    exact hQ (-1) s hI (lf_fq_rf) (show (-2147483648 : Int) ≤ (-1) ∧ (-1) ≤ (4095 : Int) from by omega)
  · skip
    replace c11 : ¬ (3 < x5) := c11
    have b12 : 1 ≤ lf_shl 1 x5 ∧ lf_shl 1 x5 ≤ 8 := lf_shl1 (m := 3) (by omega) (by omega) (by decide)
    have b13 : (-2147483648) ≤ s.1 16 x1 ∧ s.1 16 x1 ≤ 2147483647 := iv_full hI
    exact sm_131_p46L hQ hX29 (show (4 - x5).toNat ≤ M29 from by omega) hI (show (0 : Int) ≤ x1 ∧ x1 ≤ (3 : Int) from by omega) (show (-2147483648 : Int) ≤ x3 ∧ x3 ≤ (2147483647 : Int) from by omega) (show (1 : Int) ≤ x4 ∧ x4 ≤ (4096 : Int) from by omega) (show (0 : Int) ≤ x5 ∧ x5 ≤ (3 : Int) from by omega) (show (-2147483648 : Int) ≤ (lf_shl 1 x5) - 1 ∧ (lf_shl 1 x5) - 1 ≤ (2147483647 : Int) from by omega) (show (0 : Int) ≤ 0 ∧ 0 ≤ (1000 : Int) from by omega) (show 0 < (s.1 16 x1) from by omega)
theorem sm_131_p29L {Q : Int → lf_Z → Prop} {x1 : Int} {x3 : Int} {x4 : Int} {x5 : Int} {s : lf_Z} (hQ : ∀ (r : Int) (s' : lf_Z), iv_A s'.1 s'.2.2 → lf_fq [63, 64, 65, 66, 68, 69, 70, 71] 1000000 true s.1 s.2.2 s'.1 s'.2.2 → ((-2147483648) ≤ r ∧ r ≤ 4095) → Q r s') (hI : iv_A s.1 s.2.2) (bx1 : 0 ≤ x1 ∧ x1 ≤ 3) (bx3 : (-2147483648) ≤ x3 ∧ x3 ≤ 2147483647) (bx4 : 1 ≤ x4 ∧ x4 ≤ 4096) (bx5 : 0 ≤ x5 ∧ x5 ≤ 4) (kv0 : 0 < s.1 16 x1) : fm_131_p29L Q x1 x3 x4 x5 s := by
  intro X29 hX
  have key : ∀ (m9 : Nat) (x5 : Int) (s' : lf_Z), iv_A s'.1 s'.2.2 → lf_fq [63, 64, 65, 66, 68, 69, 70, 71] 1000000 true s.1 s.2.2 s'.1 s'.2.2 → 0 ≤ x5 ∧ x5 ≤ 4 → (0 < s'.1 16 x1) → (4 - x5).toNat < m9 → X29 x5 s' := by
    intro m9
    induction m9 with
    | zero => intro x5 s' _ _ bx5 kv0 h9; exact absurd h9 (Nat.not_lt_zero _)
    | succ m9 ih => intro x5 s' i7 f7 bx5 kv0 h9; exact hX _ _ (sm_131_p29 (fun r9 t9 i9 f9 => hQ r9 t9 i9 (lf_fq_tr f7 f9))   (fun x5' t8 i8 f8 bx5' kv0' h8 => ih x5' t8 i8 (lf_fq_tr f7 f8) bx5' kv0' (by omega)) (Nat.le_refl _)  i7  bx1 bx3 bx4 bx5  kv0)
  exact key _ _ s hI lf_fq_rf bx5 kv0 (Nat.lt_succ_self _)
theorem sm_131 {a1 : Int} {a2 : Int} {Q : Int → lf_Z → Prop} {s : lf_Z} (hI : iv_A s.1 s.2.2) (ba1 : 0 ≤ a1 ∧ a1 ≤ 3) (ba2 : 0 ≤ a2 ∧ a2 ≤ 9) (kp0 : 0 < s.1 16 a1) (hQ : ∀ (r : Int) (s' : lf_Z), iv_A s'.1 s'.2.2 → lf_fq [63, 64, 65, 66, 68, 69, 70, 71] 1000000 true s.1 s.2.2 s'.1 s'.2.2 → ((-2147483648) ≤ r ∧ r ≤ 4095) → Q r s') : fm_131 a1 a2 Q s := by
  unfold fm_131
  refine sm_118 hI (show (0 : Int) ≤ a1 ∧ a1 ≤ (3 : Int) from by omega) (show (0 : Int) ≤ a2 ∧ a2 ≤ (9 : Int) from by omega) (fun s21 hI2 fr1 => ?_)
  have fr4 : lf_fq [63, 64, 65, 66, 68, 69, 70, 71] 1000000 true s.1 s.2.2 s21.1 s21.2.2 := lf_fq_tr (lf_fq_rf) (lf_fq_wk fr1 rfl (by decide) (by decide))
  refine sm_132 hI2 (show (1 : Int) ≤ 2 ∧ 2 ≤ (3 : Int) from by omega) (fun r23 q5 => ?_)
  have b6 : 0 ≤ s21.1 1 0 ∧ s21.1 1 0 ≤ 12 := iv_r1_0 hI2
  have b7 : s21.1 1 0 = s.1 1 0 := congrFun (fr1.1 1 rfl) _
  have b8 : 1 ≤ lf_shl 1 (s21.1 1 0) ∧ lf_shl 1 (s21.1 1 0) ≤ 4096 := lf_shl1 (m := 12) (by omega) (by omega) (by decide)
  have b9 : (-2147483648) ≤ s21.1 16 a1 ∧ s21.1 16 a1 ≤ 2147483647 := iv_full hI2
  have b10 : s21.1 16 a1 = s.1 16 a1 := congrFun (fr1.1 16 rfl) _
  exact sm_131_p29L (fun r9 t9 i9 f9 => hQ r9 t9 i9 (lf_fq_tr fr4 f9)) hI2 (show (0 : Int) ≤ a1 ∧ a1 ≤ (3 : Int) from by omega) (show (-2147483648 : Int) ≤ r23 ∧ r23 ≤ (2147483647 : Int) from by omega) (show (1 : Int) ≤ lf_shl 1 (s21.1 1 0) ∧ lf_shl 1 (s21.1 1 0) ≤ (4096 : Int) from by omega) (show (0 : Int) ≤ 0 ∧ 0 ≤ (4 : Int) from by omega) (show 0 < (s21.1 16 a1) from by omega)
-- fm_130 ElevenBullocks.stopped 0 i i
theorem sm_130 {a1 : Int} {a2 : Int} {Q : Int → lf_Z → Prop} {s : lf_Z} (hI : iv_A s.1 s.2.2) (ba1 : (-2147483648) ≤ a1 ∧ a1 ≤ 2147483647) (ba2 : (-2147483648) ≤ a2 ∧ a2 ≤ 2147483647) (hQ : ∀ (r : Int) (s' : lf_Z), iv_A s'.1 s'.2.2 → lf_fq [63, 64, 65, 66, 68, 69, 70, 71] 1000000 true s.1 s.2.2 s'.1 s'.2.2 → ((-2147483648) ≤ r ∧ r ≤ 4095) → Q r s') : fm_130 a1 a2 Q s := by
  unfold fm_130
  refine sm_80 hI (show (-2147483648 : Int) ≤ a1 ∧ a1 ≤ (2147483647 : Int) from by omega) (fun z22 q1 => ?_)
  have b2 : (-2147483648) ≤ s.1 16 a1 ∧ s.1 16 a1 ≤ 2147483647 := iv_full hI
  refine ⟨fun c3 => ?_, fun c3 => ?_⟩
  · skip
    have dc3 := q1.2 c3
    exact hQ (-1) s hI (lf_fq_rf) (show (-2147483648 : Int) ≤ (-1) ∧ (-1) ≤ (4095 : Int) from by omega)
  · skip
    have dc3 := q1.1 c3
    refine sm_15 hI (show (-2147483648 : Int) ≤ a2 ∧ a2 ≤ (2147483647 : Int) from by omega) (show (-1 : Int) ≤ 0 ∧ 0 ≤ (99 : Int) from by omega) (show (-2147483648 : Int) ≤ 9 ∧ 9 ≤ (2147483647 : Int) from by omega) (fun z24 q4 => ?_)
    refine ⟨fun c5 => ?_, fun c5 => ?_⟩
    · skip
      have dc5 := q4.1 c5
      refine sm_131 hI (show (0 : Int) ≤ a1 ∧ a1 ≤ (3 : Int) from by omega) (show (0 : Int) ≤ a2 ∧ a2 ≤ (9 : Int) from by omega) (show 0 < (s.1 16 a1) from by omega) (fun r26 s25 hI7 fr6 q8 => ?_)
      have fr9 : lf_fq [63, 64, 65, 66, 68, 69, 70, 71] 1000000 true s.1 s.2.2 s25.1 s25.2.2 := lf_fq_tr (lf_fq_rf) (lf_fq_wk fr6 rfl (by decide) (by decide))
      exact hQ r26 s25 hI7 fr9 (show (-2147483648 : Int) ≤ r26 ∧ r26 ≤ (4095 : Int) from by omega)
    · skip
      have dc5 := q4.2 c5
      exact hQ (-1) s hI (lf_fq_rf) (show (-2147483648 : Int) ≤ (-1) ∧ (-1) ≤ (4095 : Int) from by omega)
-- fm_296 Model.ofKind 95 i i
theorem sm_296_p44 {X5 : Int → Int → lf_Z → Prop} {Q : Int → lf_Z → Prop} {x1 : Int} {x2 : Int} {x4 : Int} {y0 : Int} {y1 : Int} {s : lf_Z} (hQ : ∀ (r : Int), ((-2147483648) ≤ r ∧ r ≤ 2147483647) → Q r s) {M5 : Nat} (hX5 : ∀ (x3 : Int) (x4 : Int), (-2147483648) ≤ x3 ∧ x3 ≤ 2147483647 → 0 ≤ x4 ∧ x4 ≤ 12 → (12 - x4).toNat < M5 → X5 x3 x4 s) (hM5 : (12 - x4).toNat ≤ M5) (hI : iv_A s.1 s.2.2) (bx1 : (-2147483648) ≤ x1 ∧ x1 ≤ 2147483647) (bx2 : 0 ≤ x2 ∧ x2 ≤ 3) (bx4 : 0 ≤ x4 ∧ x4 ≤ 11) (by0 : (-2147483648) ≤ y0 ∧ y0 ≤ 2147483647) (by1 : 0 ≤ y1 ∧ y1 ≤ 2048) : fm_296_p44 X5 Q x1 x2 x4 y0 y1 s := by
  unfold fm_296_p44
  have b5 : (-2147483648) ≤ lf_or y0 y1 ∧ lf_or y0 y1 ≤ 2147483647 := lf_orB
  exact hX5 (lf_or y0 y1) (x4 + 1) (show (-2147483648 : Int) ≤ lf_or y0 y1 ∧ lf_or y0 y1 ≤ (2147483647 : Int) from by omega) (show (0 : Int) ≤ x4 + 1 ∧ x4 + 1 ≤ (12 : Int) from by omega) (show (12 - (x4 + 1)).toNat < M5 from by omega)
theorem sm_296_p43 {X5 : Int → Int → lf_Z → Prop} {Q : Int → lf_Z → Prop} {x1 : Int} {x2 : Int} {x4 : Int} {y0 : Int} {s : lf_Z} (hQ : ∀ (r : Int), ((-2147483648) ≤ r ∧ r ≤ 2147483647) → Q r s) {M5 : Nat} (hX5 : ∀ (x3 : Int) (x4 : Int), (-2147483648) ≤ x3 ∧ x3 ≤ 2147483647 → 0 ≤ x4 ∧ x4 ≤ 12 → (12 - x4).toNat < M5 → X5 x3 x4 s) (hM5 : (12 - x4).toNat ≤ M5) (hI : iv_A s.1 s.2.2) (bx1 : (-2147483648) ≤ x1 ∧ x1 ≤ 2147483647) (bx2 : 0 ≤ x2 ∧ x2 ≤ 3) (bx4 : 0 ≤ x4 ∧ x4 ≤ 11) (by0 : (-2147483648) ≤ y0 ∧ y0 ≤ 2147483647) : fm_296_p43 X5 Q x1 x2 x4 y0 s := by
  unfold fm_296_p43
  exact sm_296_p44 hQ hX5 (show (12 - x4).toNat ≤ M5 from by omega) hI (show (-2147483648 : Int) ≤ x1 ∧ x1 ≤ (2147483647 : Int) from by omega) (show (0 : Int) ≤ x2 ∧ x2 ≤ (3 : Int) from by omega) (show (0 : Int) ≤ x4 ∧ x4 ≤ (11 : Int) from by omega) (show (-2147483648 : Int) ≤ y0 ∧ y0 ≤ (2147483647 : Int) from by omega) (show (0 : Int) ≤ 0 ∧ 0 ≤ (2048 : Int) from by omega)
theorem sm_296_p5 {X5 : Int → Int → lf_Z → Prop} {Q : Int → lf_Z → Prop} {x1 : Int} {x2 : Int} {x3 : Int} {x4 : Int} {s : lf_Z} (hQ : ∀ (r : Int), ((-2147483648) ≤ r ∧ r ≤ 2147483647) → Q r s) {M5 : Nat} (hX5 : ∀ (x3 : Int) (x4 : Int), (-2147483648) ≤ x3 ∧ x3 ≤ 2147483647 → 0 ≤ x4 ∧ x4 ≤ 12 → (12 - x4).toNat < M5 → X5 x3 x4 s) (hM5 : (12 - x4).toNat ≤ M5) (hI : iv_A s.1 s.2.2) (bx1 : (-2147483648) ≤ x1 ∧ x1 ≤ 2147483647) (bx2 : 0 ≤ x2 ∧ x2 ≤ 3) (bx3 : (-2147483648) ≤ x3 ∧ x3 ≤ 2147483647) (bx4 : 0 ≤ x4 ∧ x4 ≤ 12) : fm_296_p5 Q x1 x2 X5 x3 x4 s := by
  unfold fm_296_p5
  have b1 : 0 ≤ s.1 96 0 ∧ s.1 96 0 ≤ 12 := iv_rd96 hI (iv_f3e1fa21c (by omega))
  refine ⟨(show lf_R x4 from lf_Rof (by omega)), ?_⟩
  refine ⟨(show lf_R (s.1 96 0) from lf_Rof (by omega)), ?_⟩
  refine ⟨fun c2 => ?_, fun c2 => ?_⟩
  · skip
    replace c2 : s.1 96 0 ≤ x4 := c2
    exact hQ x3 (show (-2147483648 : Int) ≤ x3 ∧ x3 ≤ (2147483647 : Int) from by omega)
  · skip
    replace c2 : ¬ (s.1 96 0 ≤ x4) := c2
    refine sm_210 hI (show (-2147483648 : Int) ≤ x1 ∧ x1 ≤ (2147483647 : Int) from by omega) (show (-1 : Int) ≤ x4 ∧ x4 ≤ (15 : Int) from by omega) (fun z24 q3 => ?_)
    refine ⟨fun c4 => ?_, fun c4 => ?_⟩
    · skip
      have dc4 := q3.2 c4
      exact sm_296_p43 hQ hX5 (show (12 - x4).toNat ≤ M5 from by omega) hI (show (-2147483648 : Int) ≤ x1 ∧ x1 ≤ (2147483647 : Int) from by omega) (show (0 : Int) ≤ x2 ∧ x2 ≤ (3 : Int) from by omega) (show (0 : Int) ≤ x4 ∧ x4 ≤ (11 : Int) from by omega) (show (-2147483648 : Int) ≤ x3 ∧ x3 ≤ (2147483647 : Int) from by omega)
    · skip
      have dc4 := q3.1 c4
      refine sm_265 hI (show (0 : Int) ≤ x4 ∧ x4 ≤ (11 : Int) from by omega) (fun r26 q6 => ?_)
      refine ⟨(show lf_R r26 from lf_Rof (by omega)), ?_⟩
      refine ⟨(show lf_R x2 from lf_Rof (by omega)), ?_⟩
      refine ⟨fun c7 => ?_, fun c7 => ?_⟩
      · skip
        replace c7 : r26 ≠ x2 := c7
        exact sm_296_p43 hQ hX5 (show (12 - x4).toNat ≤ M5 from by omega) hI (show (-2147483648 : Int) ≤ x1 ∧ x1 ≤ (2147483647 : Int) from by omega) (show (0 : Int) ≤ x2 ∧ x2 ≤ (3 : Int) from by omega) (show (0 : Int) ≤ x4 ∧ x4 ≤ (11 : Int) from by omega) (show (-2147483648 : Int) ≤ x3 ∧ x3 ≤ (2147483647 : Int) from by omega)
      · skip
        replace c7 : ¬ (r26 ≠ x2) := c7
        have b8 : 1 ≤ lf_shl 1 x4 ∧ lf_shl 1 x4 ≤ 2048 := lf_shl1 (m := 11) (by omega) (by omega) (by decide)
        exact sm_296_p44 hQ hX5 (show (12 - x4).toNat ≤ M5 from by omega) hI (show (-2147483648 : Int) ≤ x1 ∧ x1 ≤ (2147483647 : Int) from by omega) (show (0 : Int) ≤ x2 ∧ x2 ≤ (3 : Int) from by omega) (show (0 : Int) ≤ x4 ∧ x4 ≤ (11 : Int) from by omega) (show (-2147483648 : Int) ≤ x3 ∧ x3 ≤ (2147483647 : Int) from by omega) (show (0 : Int) ≤ lf_shl 1 x4 ∧ lf_shl 1 x4 ≤ (2048 : Int) from by omega)
theorem sm_296_p5L {Q : Int → lf_Z → Prop} {x1 : Int} {x2 : Int} {x3 : Int} {x4 : Int} {s : lf_Z} (hQ : ∀ (r : Int), ((-2147483648) ≤ r ∧ r ≤ 2147483647) → Q r s) (hI : iv_A s.1 s.2.2) (bx1 : (-2147483648) ≤ x1 ∧ x1 ≤ 2147483647) (bx2 : 0 ≤ x2 ∧ x2 ≤ 3) (bx3 : (-2147483648) ≤ x3 ∧ x3 ≤ 2147483647) (bx4 : 0 ≤ x4 ∧ x4 ≤ 12) : fm_296_p5L Q x1 x2 x3 x4 s := by
  intro X5 hX
  have key : ∀ (m9 : Nat) (x3 : Int) (x4 : Int), (-2147483648) ≤ x3 ∧ x3 ≤ 2147483647 → 0 ≤ x4 ∧ x4 ≤ 12 → (12 - x4).toNat < m9 → X5 x3 x4 s := by
    intro m9
    induction m9 with
    | zero => intro x3 x4 bx3 bx4 h9; exact absurd h9 (Nat.not_lt_zero _)
    | succ m9 ih => intro x3 x4 bx3 bx4 h9; exact hX _ _ _ (sm_296_p5 hQ   (fun x3' x4' bx3' bx4' h8 => ih x3' x4' bx3' bx4' (by omega)) (Nat.le_refl _)  hI  bx1 bx2 bx3 bx4  )
  exact key _ _ _ bx3 bx4   (Nat.lt_succ_self _)
theorem sm_296 {a1 : Int} {a2 : Int} {Q : Int → lf_Z → Prop} {s : lf_Z} (hI : iv_A s.1 s.2.2) (ba1 : (-2147483648) ≤ a1 ∧ a1 ≤ 2147483647) (ba2 : 0 ≤ a2 ∧ a2 ≤ 3) (hQ : ∀ (r : Int), ((-2147483648) ≤ r ∧ r ≤ 2147483647) → Q r s) : fm_296 a1 a2 Q s := by
  unfold fm_296
  exact sm_296_p5L hQ hI (show (-2147483648 : Int) ≤ a1 ∧ a1 ≤ (2147483647 : Int) from by omega) (show (0 : Int) ≤ a2 ∧ a2 ≤ (3 : Int) from by omega) (show (-2147483648 : Int) ≤ 0 ∧ 0 ≤ (2147483647 : Int) from by omega) (show (0 : Int) ≤ 0 ∧ 0 ≤ (12 : Int) from by omega)
-- fm_295 Model.stopped 95 i i
theorem sm_295_p120 {Q : Int → lf_Z → Prop} {x3 : Int} {s : lf_Z} (hQ : ∀ (r : Int) (s' : lf_Z), iv_A s'.1 s'.2.2 → lf_fq [95, 104, 107, 111, 112] 1000000 true s.1 s.2.2 s'.1 s'.2.2 → ((-1) ≤ r ∧ r ≤ 4095) → Q r s') (hI : iv_A s.1 s.2.2) (bx3 : (-1) ≤ x3 ∧ x3 ≤ 4095) : fm_295_p120 Q x3 s := by
  unfold fm_295_p120
  have hI8 : iv_A (lf_up s.1 95 29 0) s.2.2 := iv_w95_29 hI (by omega)
  have fr9 : lf_fq [95, 104, 107, 111, 112] 1000000 true s.1 s.2.2 (lf_up s.1 95 29 0) s.2.2 := lf_fq_up (lf_fq_rf) rfl (fun h => absurd h (by decide))
  exact hQ x3 (lf_up s.1 95 29 0, s.2.1, s.2.2) hI8 fr9 (show (-1 : Int) ≤ x3 ∧ x3 ≤ (4095 : Int) from by omega)
theorem sm_295_p114 {X30 : Int → Int → lf_Z → Prop} {Q : Int → lf_Z → Prop} {x1 : Int} {x3 : Int} {x4 : Int} {s : lf_Z} (hQ : ∀ (r : Int) (s' : lf_Z), iv_A s'.1 s'.2.2 → lf_fq [95, 104, 107, 111, 112] 1000000 true s.1 s.2.2 s'.1 s'.2.2 → ((-1) ≤ r ∧ r ≤ 4095) → Q r s') {M30 : Nat} (hX30 : ∀ (x3 : Int) (x4 : Int) (s' : lf_Z), iv_A s'.1 s'.2.2 → lf_fq [95, 104, 107, 111, 112] 1000000 true s.1 s.2.2 s'.1 s'.2.2 → (-1) ≤ x3 ∧ x3 ≤ 4095 → 0 ≤ x4 ∧ x4 ≤ 4 → (4 - x4).toNat < M30 → X30 x3 x4 s') (hM30 : (4 - x4).toNat ≤ M30) (hI : iv_A s.1 s.2.2) (bx1 : 0 ≤ x1 ∧ x1 ≤ 3) (bx3 : (-1) ≤ x3 ∧ x3 ≤ 4095) (bx4 : 0 ≤ x4 ∧ x4 ≤ 3) : fm_295_p114 X30 Q x1 x3 x4 s := by
  unfold fm_295_p114
  exact hX30 (x3) (x4 + 1) s hI (lf_fq_rf) (show (-1 : Int) ≤ x3 ∧ x3 ≤ (4095 : Int) from by omega) (show (0 : Int) ≤ x4 + 1 ∧ x4 + 1 ≤ (4 : Int) from by omega) (show (4 - (x4 + 1)).toNat < M30 from by omega)
theorem sm_295_p108 {X30 : Int → Int → lf_Z → Prop} {X43 : Int → Int → lf_Z → Prop} {Q : Int → lf_Z → Prop} {x1 : Int} {x3 : Int} {x4 : Int} {x5 : Int} {s : lf_Z} (hQ : ∀ (r : Int) (s' : lf_Z), iv_A s'.1 s'.2.2 → lf_fq [95, 104, 107, 111, 112] 1000000 true s.1 s.2.2 s'.1 s'.2.2 → ((-1) ≤ r ∧ r ≤ 4095) → Q r s') {M30 : Nat} (hX30 : ∀ (x3 : Int) (x4 : Int) (s' : lf_Z), iv_A s'.1 s'.2.2 → lf_fq [95, 104, 107, 111, 112] 1000000 true s.1 s.2.2 s'.1 s'.2.2 → (-1) ≤ x3 ∧ x3 ≤ 4095 → 0 ≤ x4 ∧ x4 ≤ 4 → (4 - x4).toNat < M30 → X30 x3 x4 s') (hM30 : (4 - x4).toNat ≤ M30) {M43 : Nat} (hX43 : ∀ (x3 : Int) (x5 : Int) (s' : lf_Z), iv_A s'.1 s'.2.2 → lf_fq [95, 104, 107, 111, 112] 1000000 true s.1 s.2.2 s'.1 s'.2.2 → (-1) ≤ x3 ∧ x3 ≤ 4095 → 0 ≤ x5 ∧ x5 ≤ 2147483647 → (2147483647 - x5).toNat < M43 → X43 x3 x5 s') (hM43 : (2147483647 - x5).toNat ≤ M43) (hI : iv_A s.1 s.2.2) (bx1 : 0 ≤ x1 ∧ x1 ≤ 3) (bx3 : (-1) ≤ x3 ∧ x3 ≤ 4095) (bx4 : 0 ≤ x4 ∧ x4 ≤ 3) (bx5 : 0 ≤ x5 ∧ x5 ≤ 2147483646) : fm_295_p108 X30 X43 Q x1 x3 x4 x5 s := by
  unfold fm_295_p108
  exact hX43 (x3) (x5 + 1) s hI (lf_fq_rf) (show (-1 : Int) ≤ x3 ∧ x3 ≤ (4095 : Int) from by omega) (show (0 : Int) ≤ x5 + 1 ∧ x5 + 1 ≤ (2147483647 : Int) from by omega) (show (2147483647 - (x5 + 1)).toNat < M43 from by omega)
theorem sm_295_p43 {X30 : Int → Int → lf_Z → Prop} {X43 : Int → Int → lf_Z → Prop} {Q : Int → lf_Z → Prop} {x1 : Int} {x3 : Int} {x4 : Int} {x5 : Int} {s : lf_Z} (hQ : ∀ (r : Int) (s' : lf_Z), iv_A s'.1 s'.2.2 → lf_fq [95, 104, 107, 111, 112] 1000000 true s.1 s.2.2 s'.1 s'.2.2 → ((-1) ≤ r ∧ r ≤ 4095) → Q r s') {M30 : Nat} (hX30 : ∀ (x3 : Int) (x4 : Int) (s' : lf_Z), iv_A s'.1 s'.2.2 → lf_fq [95, 104, 107, 111, 112] 1000000 true s.1 s.2.2 s'.1 s'.2.2 → (-1) ≤ x3 ∧ x3 ≤ 4095 → 0 ≤ x4 ∧ x4 ≤ 4 → (4 - x4).toNat < M30 → X30 x3 x4 s') (hM30 : (4 - x4).toNat ≤ M30) {M43 : Nat} (hX43 : ∀ (x3 : Int) (x5 : Int) (s' : lf_Z), iv_A s'.1 s'.2.2 → lf_fq [95, 104, 107, 111, 112] 1000000 true s.1 s.2.2 s'.1 s'.2.2 → (-1) ≤ x3 ∧ x3 ≤ 4095 → 0 ≤ x5 ∧ x5 ≤ 2147483647 → (2147483647 - x5).toNat < M43 → X43 x3 x5 s') (hM43 : (2147483647 - x5).toNat ≤ M43) (hI : iv_A s.1 s.2.2) (bx1 : 0 ≤ x1 ∧ x1 ≤ 3) (bx3 : (-1) ≤ x3 ∧ x3 ≤ 4095) (bx4 : 0 ≤ x4 ∧ x4 ≤ 3) (bx5 : 0 ≤ x5 ∧ x5 ≤ 2147483647) : fm_295_p43 X30 Q x1 x4 X43 x3 x5 s := by
  unfold fm_295_p43
  have b11 : 0 ≤ s.1 96 0 ∧ s.1 96 0 ≤ 12 := iv_rd96 hI (iv_f3e1fa21c (by omega))
  have b12 : 1 ≤ lf_shl 1 (s.1 96 0) ∧ lf_shl 1 (s.1 96 0) ≤ 4096 := lf_shl1 (m := 12) (by omega) (by omega) (by decide)
  refine ⟨(show lf_R x5 from lf_Rof (by omega)), ?_⟩
  refine ⟨fun c13 => ?_, fun c13 => ?_⟩
  · skip
    replace c13 : lf_shl 1 (s.1 96 0) ≤ x5 := c13
    exact sm_295_p114 hQ hX30 (show (4 - x4).toNat ≤ M30 from by omega) hI (show (0 : Int) ≤ x1 ∧ x1 ≤ (3 : Int) from by omega) (show (-1 : Int) ≤ x3 ∧ x3 ≤ (4095 : Int) from by omega) (show (0 : Int) ≤ x4 ∧ x4 ≤ (3 : Int) from by omega)
  · skip
    replace c13 : ¬ (lf_shl 1 (s.1 96 0) ≤ x5) := c13
    refine ⟨(show lf_R x3 from lf_Rof (by omega)), ?_⟩
    refine ⟨fun c14 => ?_, fun c14 => ?_⟩
    · skip
      replace c14 : 0 ≤ x3 := c14
      exact sm_295_p114 hQ hX30 (show (4 - x4).toNat ≤ M30 from by omega) hI (show (0 : Int) ≤ x1 ∧ x1 ≤ (3 : Int) from by omega) (show (-1 : Int) ≤ x3 ∧ x3 ≤ (4095 : Int) from by omega) (show (0 : Int) ≤ x4 ∧ x4 ≤ (3 : Int) from by omega)
    · skip
      replace c14 : ¬ (0 ≤ x3) := c14
      refine sm_188 hI (show (-2147483648 : Int) ≤ x5 ∧ x5 ≤ (2147483647 : Int) from by omega) (fun r30 ps16 q15 => ?_)
      replace ps16 : r30 = lf_bt (x5) 16 := ps16
      refine ⟨(show lf_R r30 from lf_Rof (by omega)), ?_⟩
      refine ⟨(show lf_R x4 from lf_Rof (by omega)), ?_⟩
      refine ⟨fun c17 => ?_, fun c17 => ?_⟩
      · skip
        replace c17 : r30 ≠ x4 := c17
        exact sm_295_p108 hQ hX30 (show (4 - x4).toNat ≤ M30 from by omega) hX43 (show (2147483647 - x5).toNat ≤ M43 from by omega) hI (show (0 : Int) ≤ x1 ∧ x1 ≤ (3 : Int) from by omega) (show (-1 : Int) ≤ x3 ∧ x3 ≤ (4095 : Int) from by omega) (show (0 : Int) ≤ x4 ∧ x4 ≤ (3 : Int) from by omega) (show (0 : Int) ≤ x5 ∧ x5 ≤ (2147483646 : Int) from by omega)
      · skip
        replace c17 : ¬ (r30 ≠ x4) := c17
        refine sm_255 hI (show (0 : Int) ≤ x1 ∧ x1 ≤ (3 : Int) from by omega) (fun r34 q18 => ?_)
        refine sm_210 hI (show (-2147483648 : Int) ≤ x5 ∧ x5 ≤ (2147483647 : Int) from by omega) (show (-1 : Int) ≤ r34 ∧ r34 ≤ (15 : Int) from by omega) (fun z36 q19 => ?_)
        refine ⟨fun c20 => ?_, fun c20 => ?_⟩
        · skip
          have dc20 := q19.2 c20
          have hI21 : iv_A (lf_up s.1 95 29 x5) s.2.2 := iv_w95_29 hI (by omega)
          have fr22 : lf_fq [95, 104, 107, 111, 112] 1000000 true s.1 s.2.2 (lf_up s.1 95 29 x5) s.2.2 := lf_fq_up (lf_fq_rf) rfl (fun h => absurd h (by decide))
          refine sm_294 hI21 (show (0 : Int) ≤ x1 ∧ x1 ≤ (3 : Int) from by omega) (fun r38 s37 hI24 fr23 q25 => ?_)
          have fr26 : lf_fq [95, 104, 107, 111, 112] 1000000 true s.1 s.2.2 s37.1 s37.2.2 := lf_fq_tr fr22 (lf_fq_wk fr23 rfl (by decide) (by decide))
          refine sm_296 hI24 (show (-2147483648 : Int) ≤ r38 ∧ r38 ≤ (2147483647 : Int) from by omega) (show (0 : Int) ≤ 2 ∧ 2 ≤ (3 : Int) from by omega) (fun r40 q27 => ?_)
          refine ⟨(show lf_R r40 from lf_Rof (by omega)), ?_⟩
          refine ⟨fun c28 => ?_, fun c28 => ?_⟩
          · skip
            replace c28 : r40 ≠ 0 := c28
            exact sm_295_p108 (fun r9 t9 i9 f9 => hQ r9 t9 i9 (lf_fq_tr fr26 f9)) (fun p0 p1 t9 i9 f9 => hX30 p0 p1 t9 i9 (lf_fq_tr fr26 f9)) (show (4 - x4).toNat ≤ M30 from by omega) (fun p0 p1 t9 i9 f9 => hX43 p0 p1 t9 i9 (lf_fq_tr fr26 f9)) (show (2147483647 - x5).toNat ≤ M43 from by omega) hI24 (show (0 : Int) ≤ x1 ∧ x1 ≤ (3 : Int) from by omega) (show (-1 : Int) ≤ x3 ∧ x3 ≤ (4095 : Int) from by omega) (show (0 : Int) ≤ x4 ∧ x4 ≤ (3 : Int) from by omega) (show (0 : Int) ≤ x5 ∧ x5 ≤ (2147483646 : Int) from by omega)
          · skip
            replace c28 : ¬ (r40 ≠ 0) := c28
            exact sm_295_p108 (fun r9 t9 i9 f9 => hQ r9 t9 i9 (lf_fq_tr fr26 f9)) (fun p0 p1 t9 i9 f9 => hX30 p0 p1 t9 i9 (lf_fq_tr fr26 f9)) (show (4 - x4).toNat ≤ M30 from by omega) (fun p0 p1 t9 i9 f9 => hX43 p0 p1 t9 i9 (lf_fq_tr fr26 f9)) (show (2147483647 - x5).toNat ≤ M43 from by omega) hI24 (show (0 : Int) ≤ x1 ∧ x1 ≤ (3 : Int) from by omega) (show (-1 : Int) ≤ x5 ∧ x5 ≤ (4095 : Int) from by omega) (show (0 : Int) ≤ x4 ∧ x4 ≤ (3 : Int) from by omega) (show (0 : Int) ≤ x5 ∧ x5 ≤ (2147483646 : Int) from by omega)
        · skip
          have dc20 := q19.1 c20
          exact sm_295_p108 hQ hX30 (show (4 - x4).toNat ≤ M30 from by omega) hX43 (show (2147483647 - x5).toNat ≤ M43 from by omega) hI (show (0 : Int) ≤ x1 ∧ x1 ≤ (3 : Int) from by omega) (show (-1 : Int) ≤ x3 ∧ x3 ≤ (4095 : Int) from by omega) (show (0 : Int) ≤ x4 ∧ x4 ≤ (3 : Int) from by omega) (show (0 : Int) ≤ x5 ∧ x5 ≤ (2147483646 : Int) from by omega)
theorem sm_295_p43L {X30 : Int → Int → lf_Z → Prop} {Q : Int → lf_Z → Prop} {x1 : Int} {x3 : Int} {x4 : Int} {x5 : Int} {s : lf_Z} (hQ : ∀ (r : Int) (s' : lf_Z), iv_A s'.1 s'.2.2 → lf_fq [95, 104, 107, 111, 112] 1000000 true s.1 s.2.2 s'.1 s'.2.2 → ((-1) ≤ r ∧ r ≤ 4095) → Q r s') {M30 : Nat} (hX30 : ∀ (x3 : Int) (x4 : Int) (s' : lf_Z), iv_A s'.1 s'.2.2 → lf_fq [95, 104, 107, 111, 112] 1000000 true s.1 s.2.2 s'.1 s'.2.2 → (-1) ≤ x3 ∧ x3 ≤ 4095 → 0 ≤ x4 ∧ x4 ≤ 4 → (4 - x4).toNat < M30 → X30 x3 x4 s') (hM30 : (4 - x4).toNat ≤ M30) (hI : iv_A s.1 s.2.2) (bx1 : 0 ≤ x1 ∧ x1 ≤ 3) (bx3 : (-1) ≤ x3 ∧ x3 ≤ 4095) (bx4 : 0 ≤ x4 ∧ x4 ≤ 3) (bx5 : 0 ≤ x5 ∧ x5 ≤ 2147483647) : fm_295_p43L X30 Q x1 x3 x4 x5 s := by
  intro X43 hX
  have key : ∀ (m9 : Nat) (x3 : Int) (x5 : Int) (s' : lf_Z), iv_A s'.1 s'.2.2 → lf_fq [95, 104, 107, 111, 112] 1000000 true s.1 s.2.2 s'.1 s'.2.2 → (-1) ≤ x3 ∧ x3 ≤ 4095 → 0 ≤ x5 ∧ x5 ≤ 2147483647 → (2147483647 - x5).toNat < m9 → X43 x3 x5 s' := by
    intro m9
    induction m9 with
    | zero => intro x3 x5 s' _ _ bx3 bx5 h9; exact absurd h9 (Nat.not_lt_zero _)
    | succ m9 ih => intro x3 x5 s' i7 f7 bx3 bx5 h9; exact hX _ _ _ (sm_295_p43 (fun r9 t9 i9 f9 => hQ r9 t9 i9 (lf_fq_tr f7 f9))  (fun p0 p1 t9 i9 f9 => hX30 p0 p1 t9 i9 (lf_fq_tr f7 f9)) hM30 (fun x3' x5' t8 i8 f8 bx3' bx5' h8 => ih x3' x5' t8 i8 (lf_fq_tr f7 f8) bx3' bx5' (by omega)) (Nat.le_refl _)  i7  bx1 bx3 bx4 bx5  )
  exact key _ _ _ s hI lf_fq_rf bx3 bx5 (Nat.lt_succ_self _)
theorem sm_295_p30 {X30 : Int → Int → lf_Z → Prop} {Q : Int → lf_Z → Prop} {x1 : Int} {x3 : Int} {x4 : Int} {s : lf_Z} (hQ : ∀ (r : Int) (s' : lf_Z), iv_A s'.1 s'.2.2 → lf_fq [95, 104, 107, 111, 112] 1000000 true s.1 s.2.2 s'.1 s'.2.2 → ((-1) ≤ r ∧ r ≤ 4095) → Q r s') {M30 : Nat} (hX30 : ∀ (x3 : Int) (x4 : Int) (s' : lf_Z), iv_A s'.1 s'.2.2 → lf_fq [95, 104, 107, 111, 112] 1000000 true s.1 s.2.2 s'.1 s'.2.2 → (-1) ≤ x3 ∧ x3 ≤ 4095 → 0 ≤ x4 ∧ x4 ≤ 4 → (4 - x4).toNat < M30 → X30 x3 x4 s') (hM30 : (4 - x4).toNat ≤ M30) (hI : iv_A s.1 s.2.2) (bx1 : 0 ≤ x1 ∧ x1 ≤ 3) (bx3 : (-1) ≤ x3 ∧ x3 ≤ 4095) (bx4 : 0 ≤ x4 ∧ x4 ≤ 4) : fm_295_p30 Q x1 X30 x3 x4 s := by
  unfold fm_295_p30
  refine ⟨(show lf_R x4 from lf_Rof (by omega)), ?_⟩
  refine ⟨fun c7 => ?_, fun c7 => ?_⟩
  · skip
    replace c7 : 3 < x4 := c7
    exact sm_295_p120 hQ hI (show (-1 : Int) ≤ x3 ∧ x3 ≤ (4095 : Int) from by omega)
  · skip
    replace c7 : ¬ (3 < x4) := c7
    refine ⟨(show lf_R x3 from lf_Rof (by omega)), ?_⟩
    refine ⟨fun c10 => ?_, fun c10 => ?_⟩
    · skip
      replace c10 : 0 ≤ x3 := c10
      exact sm_295_p120 hQ hI (show (-1 : Int) ≤ x3 ∧ x3 ≤ (4095 : Int) from by omega)
    · skip
      replace c10 : ¬ (0 ≤ x3) := c10
      exact sm_295_p43L hQ hX30 (show (4 - x4).toNat ≤ M30 from by omega) hI (show (0 : Int) ≤ x1 ∧ x1 ≤ (3 : Int) from by omega) (show (-1 : Int) ≤ x3 ∧ x3 ≤ (4095 : Int) from by omega) (show (0 : Int) ≤ x4 ∧ x4 ≤ (3 : Int) from by omega) (show (0 : Int) ≤ 0 ∧ 0 ≤ (2147483647 : Int) from by omega)
theorem sm_295_p30L {Q : Int → lf_Z → Prop} {x1 : Int} {x3 : Int} {x4 : Int} {s : lf_Z} (hQ : ∀ (r : Int) (s' : lf_Z), iv_A s'.1 s'.2.2 → lf_fq [95, 104, 107, 111, 112] 1000000 true s.1 s.2.2 s'.1 s'.2.2 → ((-1) ≤ r ∧ r ≤ 4095) → Q r s') (hI : iv_A s.1 s.2.2) (bx1 : 0 ≤ x1 ∧ x1 ≤ 3) (bx3 : (-1) ≤ x3 ∧ x3 ≤ 4095) (bx4 : 0 ≤ x4 ∧ x4 ≤ 4) : fm_295_p30L Q x1 x3 x4 s := by
  intro X30 hX
  have key : ∀ (m9 : Nat) (x3 : Int) (x4 : Int) (s' : lf_Z), iv_A s'.1 s'.2.2 → lf_fq [95, 104, 107, 111, 112] 1000000 true s.1 s.2.2 s'.1 s'.2.2 → (-1) ≤ x3 ∧ x3 ≤ 4095 → 0 ≤ x4 ∧ x4 ≤ 4 → (4 - x4).toNat < m9 → X30 x3 x4 s' := by
    intro m9
    induction m9 with
    | zero => intro x3 x4 s' _ _ bx3 bx4 h9; exact absurd h9 (Nat.not_lt_zero _)
    | succ m9 ih => intro x3 x4 s' i7 f7 bx3 bx4 h9; exact hX _ _ _ (sm_295_p30 (fun r9 t9 i9 f9 => hQ r9 t9 i9 (lf_fq_tr f7 f9))   (fun x3' x4' t8 i8 f8 bx3' bx4' h8 => ih x3' x4' t8 i8 (lf_fq_tr f7 f8) bx3' bx4' (by omega)) (Nat.le_refl _)  i7  bx1 bx3 bx4  )
  exact key _ _ _ s hI lf_fq_rf bx3 bx4 (Nat.lt_succ_self _)
theorem sm_295 {a1 : Int} {a2 : Int} {Q : Int → lf_Z → Prop} {s : lf_Z} (hI : iv_A s.1 s.2.2) (ba1 : (-2147483648) ≤ a1 ∧ a1 ≤ 2147483647) (ba2 : (-2147483648) ≤ a2 ∧ a2 ≤ 2147483647) (hQ : ∀ (r : Int) (s' : lf_Z), iv_A s'.1 s'.2.2 → lf_fq [95, 104, 107, 111, 112] 1000000 true s.1 s.2.2 s'.1 s'.2.2 → ((-1) ≤ r ∧ r ≤ 4095) → Q r s') : fm_295 a1 a2 Q s := by
  unfold fm_295
  refine sm_254 hI (show (-2147483648 : Int) ≤ a1 ∧ a1 ≤ (2147483647 : Int) from by omega) (fun z22 q1 => ?_)
  refine ⟨fun c2 => ?_, fun c2 => ?_⟩
  · skip
    have dc2 := q1.2 c2
    exact hQ (-1) s hI (lf_fq_rf) (show (-1 : Int) ≤ (-1) ∧ (-1) ≤ (4095 : Int) from by omega)
  · skip
    have dc2 := q1.1 c2
    refine sm_183 hI (show (-2147483648 : Int) ≤ a2 ∧ a2 ≤ (2147483647 : Int) from by omega) (show (-1 : Int) ≤ 0 ∧ 0 ≤ (97 : Int) from by omega) (show (-1 : Int) ≤ 9 ∧ 9 ≤ (9999 : Int) from by omega) (fun z24 q3 => ?_)
    refine ⟨fun c4 => ?_, fun c4 => ?_⟩
    · skip
      have dc4 := q3.1 c4
      have hI5 : iv_A (lf_up s.1 95 30 a2) s.2.2 := iv_w95_30 hI (by omega)
      have fr6 : lf_fq [95, 104, 107, 111, 112] 1000000 true s.1 s.2.2 (lf_up s.1 95 30 a2) s.2.2 := lf_fq_up (lf_fq_rf) rfl (fun h => absurd h (by decide))
      exact sm_295_p30L (fun r9 t9 i9 f9 => hQ r9 t9 i9 (lf_fq_tr fr6 f9)) hI5 (show (0 : Int) ≤ a1 ∧ a1 ≤ (3 : Int) from by omega) (show (-1 : Int) ≤ (-1) ∧ (-1) ≤ (4095 : Int) from by omega) (show (0 : Int) ≤ 0 ∧ 0 ≤ (4 : Int) from by omega)
    · skip
      have dc4 := q3.2 c4
      exact hQ (-1) s hI (lf_fq_rf) (show (-1 : Int) ≤ (-1) ∧ (-1) ≤ (4095 : Int) from by omega)
-- fm_135 Land.minutesBetween 1 i i i
theorem sm_135 {a1 : Int} {a2 : Int} {a3 : Int} {Q : Int → lf_Z → Prop} {s : lf_Z} (hI : iv_A s.1 s.2.2) (ba1 : (-2147483648) ≤ a1 ∧ a1 ≤ 2147483647) (ba2 : (-2147483648) ≤ a2 ∧ a2 ≤ 2147483647) (ba3 : (-2147483648) ≤ a3 ∧ a3 ≤ 2147483647) (hQ : ∀ (r : Int), (((-1) ≤ r ∧ r ≤ 999) ∧ (r = -1 ∨ (0 ≤ a2 ∧ a2 < s.1 1 0 ∧ 0 ≤ a3 ∧ a3 < s.1 1 0))) → Q r s) : fm_135 a1 a2 a3 Q s := by
  unfold fm_135
  refine sm_75 hI (show (-2147483648 : Int) ≤ a2 ∧ a2 ≤ (2147483647 : Int) from by omega) (show (-2147483648 : Int) ≤ a3 ∧ a3 ≤ (2147483647 : Int) from by omega) (fun r22 q1 => ?_)
  obtain ⟨q1, q1x⟩ := q1
  have b2 : 0 ≤ s.1 1 0 ∧ s.1 1 0 ≤ 12 := iv_r1_0 hI
  replace q1x : 1000 ≤ r22 ∨ (0 ≤ a2 ∧ a2 < s.1 1 0 ∧ 0 ≤ a3 ∧ a3 < s.1 1 0) := q1x
  refine ⟨(show lf_R r22 from lf_Rof (by omega)), ?_⟩
  refine ⟨fun c3 => ?_, fun c3 => ?_⟩
  · skip
    replace c3 : 1000 ≤ r22 := c3
    exact hQ (-1) ⟨(show (-1 : Int) ≤ (-1) ∧ (-1) ≤ (999 : Int) from by omega), (show (-1) = -1 ∨ (0 ≤ a2 ∧ a2 < s.1 1 0 ∧ 0 ≤ a3 ∧ a3 < s.1 1 0) from by omega)⟩
  · skip
    replace c3 : ¬ (1000 ≤ r22) := c3
    refine sm_99 hI (show (-2147483648 : Int) ≤ a1 ∧ a1 ≤ (2147483647 : Int) from by omega) (fun z25 q4 => ?_)
    have b5 : 0 ≤ s.1 1 2 ∧ s.1 1 2 ≤ 6 := iv_r1_2 hI
    refine ⟨fun c6 => ?_, fun c6 => ?_⟩
    · skip
      have dc6 := q4.1 c6
      refine ⟨(show (0 : Int) ≤ a1 ∧ a1 < (6 : Int) from by omega), ?_⟩
      have b7 : 0 ≤ s.1 8 a1 ∧ s.1 8 a1 ≤ 1 := iv_r8 hI _
      refine ⟨(show lf_R (s.1 8 a1) from lf_Rof (by omega)), ?_⟩
      refine ⟨fun c8 => ?_, fun c8 => ?_⟩
      · skip
        replace c8 : s.1 8 a1 = 0 := c8
        exact hQ r22 ⟨(show (-1 : Int) ≤ r22 ∧ r22 ≤ (999 : Int) from by omega), (show r22 = -1 ∨ (0 ≤ a2 ∧ a2 < s.1 1 0 ∧ 0 ≤ a3 ∧ a3 < s.1 1 0) from by omega)⟩
      · skip
        replace c8 : ¬ (s.1 8 a1 = 0) := c8
        refine ⟨(show lf_R (r22 + 1) from lf_Rof (by omega)), ?_⟩
        have b9 : 0 ≤ (r22 + 1).tdiv 2 ∧ (r22 + 1).tdiv 2 ≤ 500 := lf_tdivB (p := 1) (q := 1000) (by omega) (by omega) (by decide) (by decide) (by decide)
        exact hQ ((r22 + 1).tdiv 2) ⟨(show (-1 : Int) ≤ (r22 + 1).tdiv 2 ∧ (r22 + 1).tdiv 2 ≤ (999 : Int) from by omega), (show (r22 + 1).tdiv 2 = -1 ∨ (0 ≤ a2 ∧ a2 < s.1 1 0 ∧ 0 ≤ a3 ∧ a3 < s.1 1 0) from by omega)⟩
    · skip
      have dc6 := q4.2 c6
      exact hQ (-1) ⟨(show (-1 : Int) ≤ (-1) ∧ (-1) ≤ (999 : Int) from by omega), (show (-1) = -1 ∨ (0 ≤ a2 ∧ a2 < s.1 1 0 ∧ 0 ≤ a3 ∧ a3 < s.1 1 0) from by omega)⟩
-- fm_134 ElevenBullocks.soon 0 i i
theorem sm_134 {a1 : Int} {a2 : Int} {Q : Int → lf_Z → Prop} {s : lf_Z} (hI : iv_A s.1 s.2.2) (ba1 : (-2147483648) ≤ a1 ∧ a1 ≤ 2147483647) (ba2 : (-2147483648) ≤ a2 ∧ a2 ≤ 2147483647) (hQ : ∀ (r : Int), ((-1) ≤ r ∧ r ≤ 999) → Q r s) : fm_134 a1 a2 Q s := by
  unfold fm_134
  refine sm_99 hI (show (-2147483648 : Int) ≤ a1 ∧ a1 ≤ (2147483647 : Int) from by omega) (fun z22 q1 => ?_)
  have b2 : 0 ≤ s.1 1 2 ∧ s.1 1 2 ≤ 6 := iv_r1_2 hI
  refine ⟨fun c3 => ?_, fun c3 => ?_⟩
  · skip
    have dc3 := q1.2 c3
    exact hQ (-1) (show (-1 : Int) ≤ (-1) ∧ (-1) ≤ (999 : Int) from by omega)
  · skip
    have dc3 := q1.1 c3
    refine sm_18 hI (show (-2147483648 : Int) ≤ a2 ∧ a2 ≤ (2147483647 : Int) from by omega) (fun z24 q4 => ?_)
    have b5 : 0 ≤ s.1 1 0 ∧ s.1 1 0 ≤ 12 := iv_r1_0 hI
    refine ⟨fun c6 => ?_, fun c6 => ?_⟩
    · skip
      have dc6 := q4.1 c6
      refine ⟨(show (0 : Int) ≤ a1 ∧ a1 < (6 : Int) from by omega), ?_⟩
      have b7 : (-2147483648) ≤ s.1 19 a1 ∧ s.1 19 a1 ≤ 2147483647 := iv_full hI
      refine sm_135 hI (show (-2147483648 : Int) ≤ a1 ∧ a1 ≤ (2147483647 : Int) from by omega) (show (-2147483648 : Int) ≤ s.1 19 a1 ∧ s.1 19 a1 ≤ (2147483647 : Int) from by omega) (show (-2147483648 : Int) ≤ a2 ∧ a2 ≤ (2147483647 : Int) from by omega) (fun r27 q8 => ?_)
      obtain ⟨q8, q8x⟩ := q8
      replace q8x : r27 = -1 ∨ (0 ≤ (s.1 19 a1) ∧ (s.1 19 a1) < s.1 1 0 ∧ 0 ≤ a2 ∧ a2 < s.1 1 0) := q8x
      exact hQ r27 (show (-1 : Int) ≤ r27 ∧ r27 ≤ (999 : Int) from by omega)
    · skip
      have dc6 := q4.2 c6
      exact hQ (-1) (show (-1 : Int) ≤ (-1) ∧ (-1) ≤ (999 : Int) from by omega)
-- fm_299 Model.minutesOf 95 i i
theorem sm_299 {a1 : Int} {a2 : Int} {Q : Int → lf_Z → Prop} {s : lf_Z} (hI : iv_A s.1 s.2.2) (ba1 : 0 ≤ a1 ∧ a1 ≤ 5) (ba2 : 0 ≤ a2 ∧ a2 ≤ 11) (hQ : ∀ (r : Int), (0 ≤ r ∧ r ≤ 1000) → Q r s) : fm_299 a1 a2 Q s := by
  unfold fm_299
  refine ⟨(show (0 : Int) ≤ a2 ∧ a2 < (12 : Int) from by omega), ?_⟩
  have b1 : 0 ≤ s.1 108 a2 ∧ s.1 108 a2 ≤ 1000 := iv_r108 hI _
  refine ⟨(show lf_R (s.1 108 a2) from lf_Rof (by omega)), ?_⟩
  refine ⟨fun c2 => ?_, fun c2 => ?_⟩
  · skip
    replace c2 : s.1 108 a2 < 1000 := c2
    refine sm_239d hI (show (0 : Int) ≤ a1 ∧ a1 ≤ (5 : Int) from by omega) (fun r24 q3 => ?_)
    obtain ⟨q3, q3x⟩ := q3
    replace q3x : r24 = s.1 96 (126 + 6 * a1 + 1) := q3x
    refine ⟨(show lf_R r24 from lf_Rof (by omega)), ?_⟩
    refine ⟨fun c4 => ?_, fun c4 => ?_⟩
    · skip
      replace c4 : r24 ≠ 1 := c4
      exact hQ (s.1 108 a2) (show (0 : Int) ≤ s.1 108 a2 ∧ s.1 108 a2 ≤ (1000 : Int) from by omega)
    · skip
      replace c4 : ¬ (r24 ≠ 1) := c4
      refine ⟨(show lf_R ((s.1 108 a2) + 1) from lf_Rof (by omega)), ?_⟩
      have b5 : 0 ≤ ((s.1 108 a2) + 1).tdiv 2 ∧ ((s.1 108 a2) + 1).tdiv 2 ≤ 500 := lf_tdivB (p := 1) (q := 1000) (by omega) (by omega) (by decide) (by decide) (by decide)
      exact hQ (((s.1 108 a2) + 1).tdiv 2) (show (0 : Int) ≤ ((s.1 108 a2) + 1).tdiv 2 ∧ ((s.1 108 a2) + 1).tdiv 2 ≤ (1000 : Int) from by omega)
  · skip
    replace c2 : ¬ (s.1 108 a2 < 1000) := c2
    exact hQ 1000 (show (0 : Int) ≤ 1000 ∧ 1000 ≤ (1000 : Int) from by omega)
-- fm_298 Model.soon 95 i i
theorem sm_298 {a1 : Int} {a2 : Int} {Q : Int → lf_Z → Prop} {s : lf_Z} (hI : iv_A s.1 s.2.2) (ba1 : (-2147483648) ≤ a1 ∧ a1 ≤ 2147483647) (ba2 : (-2147483648) ≤ a2 ∧ a2 ≤ 2147483647) (hQ : ∀ (r : Int) (s' : lf_Z), iv_A s'.1 s'.2.2 → lf_fq [108] 1000000 true s.1 s.2.2 s'.1 s'.2.2 → ((-1) ≤ r ∧ r ≤ 999) → Q r s') : fm_298 a1 a2 Q s := by
  unfold fm_298
  refine sm_249 hI (show (-2147483648 : Int) ≤ a1 ∧ a1 ≤ (2147483647 : Int) from by omega) (fun z22 q1 => ?_)
  have b2 : 0 ≤ s.1 96 2 ∧ s.1 96 2 ≤ 6 := iv_rd96 hI (iv_f2103129b (by omega))
  have b3 : s.1 96 2 ≤ 0 ∨ 0 < s.1 96 0 := (show s.1 96 2 ≤ 0 ∨ 0 < s.1 96 0 from iv_l96_2 hI)
  refine ⟨fun c4 => ?_, fun c4 => ?_⟩
  · skip
    have dc4 := q1.2 c4
    exact hQ (-1) s hI (lf_fq_rf) (show (-1 : Int) ≤ (-1) ∧ (-1) ≤ (999 : Int) from by omega)
  · skip
    have dc4 := q1.1 c4
    refine sm_185 hI (show (-2147483648 : Int) ≤ a2 ∧ a2 ≤ (2147483647 : Int) from by omega) (fun z24 q5 => ?_)
    have b6 : 0 ≤ s.1 96 0 ∧ s.1 96 0 ≤ 12 := iv_rd96 hI (iv_f3e1fa21c (by omega))
    refine ⟨fun c7 => ?_, fun c7 => ?_⟩
    · skip
      have dc7 := q5.1 c7
      refine sm_261 hI (show (-1 : Int) ≤ a2 ∧ a2 ≤ (11 : Int) from by omega) (show (0 : Int) ≤ 1 ∧ 1 ≤ (1 : Int) from by omega) (fun s25 hI9 fr8 ps11 => ?_)
      replace ps11 : (1 : Int) = 1 → bf_G (s25.1 96) (s25.1 108) (a2) := ps11
      have fr12 : lf_fq [108] 1000000 true s.1 s.2.2 s25.1 s25.2.2 := lf_fq_tr (lf_fq_rf) (lf_fq_wk fr8 rfl (by decide) (by decide))
      refine sm_239 hI9 (show (0 : Int) ≤ a1 ∧ a1 ≤ (5 : Int) from by omega) (fun r27 q13 => ?_)
      obtain ⟨q13, q13x⟩ := q13
      replace q13x : r27 = s25.1 96 (126 + 6 * a1 + 3) := q13x
      refine sm_299 hI9 (show (0 : Int) ≤ a1 ∧ a1 ≤ (5 : Int) from by omega) (show (0 : Int) ≤ r27 ∧ r27 ≤ (11 : Int) from by omega) (fun r29 q14 => ?_)
      refine ⟨(show lf_R r29 from lf_Rof (by omega)), ?_⟩
      refine ⟨fun c15 => ?_, fun c15 => ?_⟩
      · skip
        replace c15 : r29 < 1000 := c15
        exact hQ r29 s25 hI9 fr12 (show (-1 : Int) ≤ r29 ∧ r29 ≤ (999 : Int) from by omega)
      · skip
        replace c15 : ¬ (r29 < 1000) := c15
        exact hQ (-1) s25 hI9 fr12 (show (-1 : Int) ≤ (-1) ∧ (-1) ≤ (999 : Int) from by omega)
    · skip
      have dc7 := q5.2 c7
      exact hQ (-1) s hI (lf_fq_rf) (show (-1 : Int) ≤ (-1) ∧ (-1) ≤ (999 : Int) from by omega)
-- fm_138 java/lang/Integer.bitCount i
theorem sm_138 {a0 : Int} {Q : Int → lf_Z → Prop} {s : lf_Z} (hI : iv_A s.1 s.2.2) (ba0 : 0 ≤ a0 ∧ a0 ≤ 4095) (hQ : ∀ (r : Int), (0 ≤ r ∧ r ≤ 63) → Q r s) : fm_138 a0 Q s := by
  unfold fm_138
  have b1 : 0 ≤ lf_ushr a0 1 ∧ lf_ushr a0 1 ≤ 4095 := lf_ushrP (by omega) (by omega)
  have b2 : 0 ≤ lf_and (lf_ushr a0 1) 1431655765 ∧ lf_and (lf_ushr a0 1) 1431655765 ≤ 1431655765 := lf_andB (by omega) (by omega)
  have b3 : 0 ≤ lf_and (a0 - (lf_and (lf_ushr a0 1) 1431655765)) 858993459 ∧ lf_and (a0 - (lf_and (lf_ushr a0 1) 1431655765)) 858993459 ≤ 858993459 := lf_andB (by omega) (by omega)
  have b4 : (-2147483648) ≤ lf_ushr (a0 - (lf_and (lf_ushr a0 1) 1431655765)) 2 ∧ lf_ushr (a0 - (lf_and (lf_ushr a0 1) 1431655765)) 2 ≤ 2147483647 := lf_ushrB
  have b5 : 0 ≤ lf_and (lf_ushr (a0 - (lf_and (lf_ushr a0 1) 1431655765)) 2) 858993459 ∧ lf_and (lf_ushr (a0 - (lf_and (lf_ushr a0 1) 1431655765)) 2) 858993459 ≤ 858993459 := lf_andB (by omega) (by omega)
  have b6 : 0 ≤ lf_ushr ((lf_and (a0 - (lf_and (lf_ushr a0 1) 1431655765)) 858993459) + (lf_and (lf_ushr (a0 - (lf_and (lf_ushr a0 1) 1431655765)) 2) 858993459)) 4 ∧ lf_ushr ((lf_and (a0 - (lf_and (lf_ushr a0 1) 1431655765)) 858993459) + (lf_and (lf_ushr (a0 - (lf_and (lf_ushr a0 1) 1431655765)) 2) 858993459)) 4 ≤ 1717986918 := lf_ushrP (by omega) (by omega)
  have b7 : (-2147483648) ≤ lf_w (((lf_and (a0 - (lf_and (lf_ushr a0 1) 1431655765)) 858993459) + (lf_and (lf_ushr (a0 - (lf_and (lf_ushr a0 1) 1431655765)) 2) 858993459)) + (lf_ushr ((lf_and (a0 - (lf_and (lf_ushr a0 1) 1431655765)) 858993459) + (lf_and (lf_ushr (a0 - (lf_and (lf_ushr a0 1) 1431655765)) 2) 858993459)) 4)) ∧ lf_w (((lf_and (a0 - (lf_and (lf_ushr a0 1) 1431655765)) 858993459) + (lf_and (lf_ushr (a0 - (lf_and (lf_ushr a0 1) 1431655765)) 2) 858993459)) + (lf_ushr ((lf_and (a0 - (lf_and (lf_ushr a0 1) 1431655765)) 858993459) + (lf_and (lf_ushr (a0 - (lf_and (lf_ushr a0 1) 1431655765)) 2) 858993459)) 4)) ≤ 2147483647 := lf_wB
  have b8 : 0 ≤ lf_and (lf_w (((lf_and (a0 - (lf_and (lf_ushr a0 1) 1431655765)) 858993459) + (lf_and (lf_ushr (a0 - (lf_and (lf_ushr a0 1) 1431655765)) 2) 858993459)) + (lf_ushr ((lf_and (a0 - (lf_and (lf_ushr a0 1) 1431655765)) 858993459) + (lf_and (lf_ushr (a0 - (lf_and (lf_ushr a0 1) 1431655765)) 2) 858993459)) 4))) 252645135 ∧ lf_and (lf_w (((lf_and (a0 - (lf_and (lf_ushr a0 1) 1431655765)) 858993459) + (lf_and (lf_ushr (a0 - (lf_and (lf_ushr a0 1) 1431655765)) 2) 858993459)) + (lf_ushr ((lf_and (a0 - (lf_and (lf_ushr a0 1) 1431655765)) 858993459) + (lf_and (lf_ushr (a0 - (lf_and (lf_ushr a0 1) 1431655765)) 2) 858993459)) 4))) 252645135 ≤ 252645135 := lf_andB (by omega) (by omega)
  have b9 : 0 ≤ lf_ushr (lf_and (lf_w (((lf_and (a0 - (lf_and (lf_ushr a0 1) 1431655765)) 858993459) + (lf_and (lf_ushr (a0 - (lf_and (lf_ushr a0 1) 1431655765)) 2) 858993459)) + (lf_ushr ((lf_and (a0 - (lf_and (lf_ushr a0 1) 1431655765)) 858993459) + (lf_and (lf_ushr (a0 - (lf_and (lf_ushr a0 1) 1431655765)) 2) 858993459)) 4))) 252645135) 8 ∧ lf_ushr (lf_and (lf_w (((lf_and (a0 - (lf_and (lf_ushr a0 1) 1431655765)) 858993459) + (lf_and (lf_ushr (a0 - (lf_and (lf_ushr a0 1) 1431655765)) 2) 858993459)) + (lf_ushr ((lf_and (a0 - (lf_and (lf_ushr a0 1) 1431655765)) 858993459) + (lf_and (lf_ushr (a0 - (lf_and (lf_ushr a0 1) 1431655765)) 2) 858993459)) 4))) 252645135) 8 ≤ 252645135 := lf_ushrP (by omega) (by omega)
  have b10 : 0 ≤ lf_ushr ((lf_and (lf_w (((lf_and (a0 - (lf_and (lf_ushr a0 1) 1431655765)) 858993459) + (lf_and (lf_ushr (a0 - (lf_and (lf_ushr a0 1) 1431655765)) 2) 858993459)) + (lf_ushr ((lf_and (a0 - (lf_and (lf_ushr a0 1) 1431655765)) 858993459) + (lf_and (lf_ushr (a0 - (lf_and (lf_ushr a0 1) 1431655765)) 2) 858993459)) 4))) 252645135) + (lf_ushr (lf_and (lf_w (((lf_and (a0 - (lf_and (lf_ushr a0 1) 1431655765)) 858993459) + (lf_and (lf_ushr (a0 - (lf_and (lf_ushr a0 1) 1431655765)) 2) 858993459)) + (lf_ushr ((lf_and (a0 - (lf_and (lf_ushr a0 1) 1431655765)) 858993459) + (lf_and (lf_ushr (a0 - (lf_and (lf_ushr a0 1) 1431655765)) 2) 858993459)) 4))) 252645135) 8)) 16 ∧ lf_ushr ((lf_and (lf_w (((lf_and (a0 - (lf_and (lf_ushr a0 1) 1431655765)) 858993459) + (lf_and (lf_ushr (a0 - (lf_and (lf_ushr a0 1) 1431655765)) 2) 858993459)) + (lf_ushr ((lf_and (a0 - (lf_and (lf_ushr a0 1) 1431655765)) 858993459) + (lf_and (lf_ushr (a0 - (lf_and (lf_ushr a0 1) 1431655765)) 2) 858993459)) 4))) 252645135) + (lf_ushr (lf_and (lf_w (((lf_and (a0 - (lf_and (lf_ushr a0 1) 1431655765)) 858993459) + (lf_and (lf_ushr (a0 - (lf_and (lf_ushr a0 1) 1431655765)) 2) 858993459)) + (lf_ushr ((lf_and (a0 - (lf_and (lf_ushr a0 1) 1431655765)) 858993459) + (lf_and (lf_ushr (a0 - (lf_and (lf_ushr a0 1) 1431655765)) 2) 858993459)) 4))) 252645135) 8)) 16 ≤ 505290270 := lf_ushrP (by omega) (by omega)
  have b11 : 0 ≤ lf_and (((lf_and (lf_w (((lf_and (a0 - (lf_and (lf_ushr a0 1) 1431655765)) 858993459) + (lf_and (lf_ushr (a0 - (lf_and (lf_ushr a0 1) 1431655765)) 2) 858993459)) + (lf_ushr ((lf_and (a0 - (lf_and (lf_ushr a0 1) 1431655765)) 858993459) + (lf_and (lf_ushr (a0 - (lf_and (lf_ushr a0 1) 1431655765)) 2) 858993459)) 4))) 252645135) + (lf_ushr (lf_and (lf_w (((lf_and (a0 - (lf_and (lf_ushr a0 1) 1431655765)) 858993459) + (lf_and (lf_ushr (a0 - (lf_and (lf_ushr a0 1) 1431655765)) 2) 858993459)) + (lf_ushr ((lf_and (a0 - (lf_and (lf_ushr a0 1) 1431655765)) 858993459) + (lf_and (lf_ushr (a0 - (lf_and (lf_ushr a0 1) 1431655765)) 2) 858993459)) 4))) 252645135) 8)) + (lf_ushr ((lf_and (lf_w (((lf_and (a0 - (lf_and (lf_ushr a0 1) 1431655765)) 858993459) + (lf_and (lf_ushr (a0 - (lf_and (lf_ushr a0 1) 1431655765)) 2) 858993459)) + (lf_ushr ((lf_and (a0 - (lf_and (lf_ushr a0 1) 1431655765)) 858993459) + (lf_and (lf_ushr (a0 - (lf_and (lf_ushr a0 1) 1431655765)) 2) 858993459)) 4))) 252645135) + (lf_ushr (lf_and (lf_w (((lf_and (a0 - (lf_and (lf_ushr a0 1) 1431655765)) 858993459) + (lf_and (lf_ushr (a0 - (lf_and (lf_ushr a0 1) 1431655765)) 2) 858993459)) + (lf_ushr ((lf_and (a0 - (lf_and (lf_ushr a0 1) 1431655765)) 858993459) + (lf_and (lf_ushr (a0 - (lf_and (lf_ushr a0 1) 1431655765)) 2) 858993459)) 4))) 252645135) 8)) 16)) 63 ∧ lf_and (((lf_and (lf_w (((lf_and (a0 - (lf_and (lf_ushr a0 1) 1431655765)) 858993459) + (lf_and (lf_ushr (a0 - (lf_and (lf_ushr a0 1) 1431655765)) 2) 858993459)) + (lf_ushr ((lf_and (a0 - (lf_and (lf_ushr a0 1) 1431655765)) 858993459) + (lf_and (lf_ushr (a0 - (lf_and (lf_ushr a0 1) 1431655765)) 2) 858993459)) 4))) 252645135) + (lf_ushr (lf_and (lf_w (((lf_and (a0 - (lf_and (lf_ushr a0 1) 1431655765)) 858993459) + (lf_and (lf_ushr (a0 - (lf_and (lf_ushr a0 1) 1431655765)) 2) 858993459)) + (lf_ushr ((lf_and (a0 - (lf_and (lf_ushr a0 1) 1431655765)) 858993459) + (lf_and (lf_ushr (a0 - (lf_and (lf_ushr a0 1) 1431655765)) 2) 858993459)) 4))) 252645135) 8)) + (lf_ushr ((lf_and (lf_w (((lf_and (a0 - (lf_and (lf_ushr a0 1) 1431655765)) 858993459) + (lf_and (lf_ushr (a0 - (lf_and (lf_ushr a0 1) 1431655765)) 2) 858993459)) + (lf_ushr ((lf_and (a0 - (lf_and (lf_ushr a0 1) 1431655765)) 858993459) + (lf_and (lf_ushr (a0 - (lf_and (lf_ushr a0 1) 1431655765)) 2) 858993459)) 4))) 252645135) + (lf_ushr (lf_and (lf_w (((lf_and (a0 - (lf_and (lf_ushr a0 1) 1431655765)) 858993459) + (lf_and (lf_ushr (a0 - (lf_and (lf_ushr a0 1) 1431655765)) 2) 858993459)) + (lf_ushr ((lf_and (a0 - (lf_and (lf_ushr a0 1) 1431655765)) 858993459) + (lf_and (lf_ushr (a0 - (lf_and (lf_ushr a0 1) 1431655765)) 2) 858993459)) 4))) 252645135) 8)) 16)) 63 ≤ 63 := lf_andB (by omega) (by omega)
  exact hQ (lf_and (((lf_and (lf_w (((lf_and (a0 - (lf_and (lf_ushr a0 1) 1431655765)) 858993459) + (lf_and (lf_ushr (a0 - (lf_and (lf_ushr a0 1) 1431655765)) 2) 858993459)) + (lf_ushr ((lf_and (a0 - (lf_and (lf_ushr a0 1) 1431655765)) 858993459) + (lf_and (lf_ushr (a0 - (lf_and (lf_ushr a0 1) 1431655765)) 2) 858993459)) 4))) 252645135) + (lf_ushr (lf_and (lf_w (((lf_and (a0 - (lf_and (lf_ushr a0 1) 1431655765)) 858993459) + (lf_and (lf_ushr (a0 - (lf_and (lf_ushr a0 1) 1431655765)) 2) 858993459)) + (lf_ushr ((lf_and (a0 - (lf_and (lf_ushr a0 1) 1431655765)) 858993459) + (lf_and (lf_ushr (a0 - (lf_and (lf_ushr a0 1) 1431655765)) 2) 858993459)) 4))) 252645135) 8)) + (lf_ushr ((lf_and (lf_w (((lf_and (a0 - (lf_and (lf_ushr a0 1) 1431655765)) 858993459) + (lf_and (lf_ushr (a0 - (lf_and (lf_ushr a0 1) 1431655765)) 2) 858993459)) + (lf_ushr ((lf_and (a0 - (lf_and (lf_ushr a0 1) 1431655765)) 858993459) + (lf_and (lf_ushr (a0 - (lf_and (lf_ushr a0 1) 1431655765)) 2) 858993459)) 4))) 252645135) + (lf_ushr (lf_and (lf_w (((lf_and (a0 - (lf_and (lf_ushr a0 1) 1431655765)) 858993459) + (lf_and (lf_ushr (a0 - (lf_and (lf_ushr a0 1) 1431655765)) 2) 858993459)) + (lf_ushr ((lf_and (a0 - (lf_and (lf_ushr a0 1) 1431655765)) 858993459) + (lf_and (lf_ushr (a0 - (lf_and (lf_ushr a0 1) 1431655765)) 2) 858993459)) 4))) 252645135) 8)) 16)) 63) (show (0 : Int) ≤ lf_and (((lf_and (lf_w (((lf_and (a0 - (lf_and (lf_ushr a0 1) 1431655765)) 858993459) + (lf_and (lf_ushr (a0 - (lf_and (lf_ushr a0 1) 1431655765)) 2) 858993459)) + (lf_ushr ((lf_and (a0 - (lf_and (lf_ushr a0 1) 1431655765)) 858993459) + (lf_and (lf_ushr (a0 - (lf_and (lf_ushr a0 1) 1431655765)) 2) 858993459)) 4))) 252645135) + (lf_ushr (lf_and (lf_w (((lf_and (a0 - (lf_and (lf_ushr a0 1) 1431655765)) 858993459) + (lf_and (lf_ushr (a0 - (lf_and (lf_ushr a0 1) 1431655765)) 2) 858993459)) + (lf_ushr ((lf_and (a0 - (lf_and (lf_ushr a0 1) 1431655765)) 858993459) + (lf_and (lf_ushr (a0 - (lf_and (lf_ushr a0 1) 1431655765)) 2) 858993459)) 4))) 252645135) 8)) + (lf_ushr ((lf_and (lf_w (((lf_and (a0 - (lf_and (lf_ushr a0 1) 1431655765)) 858993459) + (lf_and (lf_ushr (a0 - (lf_and (lf_ushr a0 1) 1431655765)) 2) 858993459)) + (lf_ushr ((lf_and (a0 - (lf_and (lf_ushr a0 1) 1431655765)) 858993459) + (lf_and (lf_ushr (a0 - (lf_and (lf_ushr a0 1) 1431655765)) 2) 858993459)) 4))) 252645135) + (lf_ushr (lf_and (lf_w (((lf_and (a0 - (lf_and (lf_ushr a0 1) 1431655765)) 858993459) + (lf_and (lf_ushr (a0 - (lf_and (lf_ushr a0 1) 1431655765)) 2) 858993459)) + (lf_ushr ((lf_and (a0 - (lf_and (lf_ushr a0 1) 1431655765)) 858993459) + (lf_and (lf_ushr (a0 - (lf_and (lf_ushr a0 1) 1431655765)) 2) 858993459)) 4))) 252645135) 8)) 16)) 63 ∧ lf_and (((lf_and (lf_w (((lf_and (a0 - (lf_and (lf_ushr a0 1) 1431655765)) 858993459) + (lf_and (lf_ushr (a0 - (lf_and (lf_ushr a0 1) 1431655765)) 2) 858993459)) + (lf_ushr ((lf_and (a0 - (lf_and (lf_ushr a0 1) 1431655765)) 858993459) + (lf_and (lf_ushr (a0 - (lf_and (lf_ushr a0 1) 1431655765)) 2) 858993459)) 4))) 252645135) + (lf_ushr (lf_and (lf_w (((lf_and (a0 - (lf_and (lf_ushr a0 1) 1431655765)) 858993459) + (lf_and (lf_ushr (a0 - (lf_and (lf_ushr a0 1) 1431655765)) 2) 858993459)) + (lf_ushr ((lf_and (a0 - (lf_and (lf_ushr a0 1) 1431655765)) 858993459) + (lf_and (lf_ushr (a0 - (lf_and (lf_ushr a0 1) 1431655765)) 2) 858993459)) 4))) 252645135) 8)) + (lf_ushr ((lf_and (lf_w (((lf_and (a0 - (lf_and (lf_ushr a0 1) 1431655765)) 858993459) + (lf_and (lf_ushr (a0 - (lf_and (lf_ushr a0 1) 1431655765)) 2) 858993459)) + (lf_ushr ((lf_and (a0 - (lf_and (lf_ushr a0 1) 1431655765)) 858993459) + (lf_and (lf_ushr (a0 - (lf_and (lf_ushr a0 1) 1431655765)) 2) 858993459)) 4))) 252645135) + (lf_ushr (lf_and (lf_w (((lf_and (a0 - (lf_and (lf_ushr a0 1) 1431655765)) 858993459) + (lf_and (lf_ushr (a0 - (lf_and (lf_ushr a0 1) 1431655765)) 2) 858993459)) + (lf_ushr ((lf_and (a0 - (lf_and (lf_ushr a0 1) 1431655765)) 858993459) + (lf_and (lf_ushr (a0 - (lf_and (lf_ushr a0 1) 1431655765)) 2) 858993459)) 4))) 252645135) 8)) 16)) 63 ≤ (63 : Int) from by omega)
-- fm_140 Errands.keepChoice 74 i
theorem sm_140 {a1 : Int} {Q : lf_Z → Prop} {s : lf_Z} (hI : iv_A s.1 s.2.2) (ba1 : (-2147483648) ≤ a1 ∧ a1 ≤ 2147483647) (hQ : ∀  (s' : lf_Z), iv_A s'.1 s'.2.2 → lf_fq [74, 77] 1000000 true s.1 s.2.2 s'.1 s'.2.2 → Q  s') : fm_140 a1 Q s := by
  unfold fm_140
  have hI1 : iv_A (lf_up s.1 74 6 a1) s.2.2 := iv_w74_6 hI (by omega)
  have fr2 : lf_fq [74, 77] 1000000 true s.1 s.2.2 (lf_up s.1 74 6 a1) s.2.2 := lf_fq_up (lf_fq_rf) rfl (fun h => absurd h (by decide))
  have hI3 : iv_A (lf_cp (lf_up s.1 74 6 a1) 76 77 0 0 6) s.2.2 := iv_cp76_77 hI1
  have fr4 : lf_fq [74, 77] 1000000 true s.1 s.2.2 (lf_cp (lf_up s.1 74 6 a1) 76 77 0 0 6) s.2.2 := lf_fq_cp fr2 rfl (by decide)
  exact hQ (lf_cp (lf_up s.1 74 6 a1) 76 77 0 0 6, s.2.1, s.2.2) hI3 fr4
-- fm_139 Errands.choosePerson 74 i i i
theorem sm_139_p122 {R139 : Int → Int → Int → (lf_Z → Prop) → lf_Z → Prop} {X34 : Int → lf_Z → Prop} {Q : lf_Z → Prop} {x1 : Int} {x2 : Int} {x3 : Int} {x4 : Int} {s : lf_Z} {MR : Nat} (hQ : ∀  (s' : lf_Z), iv_A s'.1 s'.2.2 → lf_fq [74, 76, 77] 1000000 true s.1 s.2.2 s'.1 s'.2.2 → Q  s') (hR139 : ∀ {a1 a2 a3 : Int} {Q : lf_Z → Prop} {s : lf_Z}, (7 - a1).toNat < MR → iv_A s.1 s.2.2 → 0 ≤ a1 ∧ a1 ≤ 6 → 0 ≤ a2 ∧ a2 ≤ 63 → 0 ≤ a3 ∧ a3 ≤ 999 → (∀  (s' : lf_Z), iv_A s'.1 s'.2.2 → lf_fq [74, 76, 77] 1000000 true s.1 s.2.2 s'.1 s'.2.2 → Q  s') → R139 a1 a2 a3 Q s) {M34 : Nat} (hX34 : ∀ (x4 : Int) (s' : lf_Z), iv_A s'.1 s'.2.2 → lf_fq [74, 76, 77] 1000000 true s.1 s.2.2 s'.1 s'.2.2 → 0 ≤ x4 ∧ x4 ≤ 6 → (6 - x4).toNat < M34 → X34 x4 s') (hM34 : (6 - x4).toNat ≤ M34) (hMR : (7 - x1).toNat ≤ MR) (hI : iv_A s.1 s.2.2) (bx1 : 0 ≤ x1 ∧ x1 ≤ 5) (bx2 : 0 ≤ x2 ∧ x2 ≤ 63) (bx3 : 0 ≤ x3 ∧ x3 ≤ 999) (bx4 : 0 ≤ x4 ∧ x4 ≤ 5) : fm_139_p122 R139 X34 Q x1 x2 x3 x4 s := by
  unfold fm_139_p122
  exact hX34 (x4 + 1) s hI (lf_fq_rf) (show (0 : Int) ≤ x4 + 1 ∧ x4 + 1 ≤ (6 : Int) from by omega) (show (6 - (x4 + 1)).toNat < M34 from by omega)
theorem sm_139_p85 {R139 : Int → Int → Int → (lf_Z → Prop) → lf_Z → Prop} {X34 : Int → lf_Z → Prop} {Q : lf_Z → Prop} {x1 : Int} {x2 : Int} {x3 : Int} {x4 : Int} {y0 : Int} {s : lf_Z} {MR : Nat} (hQ : ∀  (s' : lf_Z), iv_A s'.1 s'.2.2 → lf_fq [74, 76, 77] 1000000 true s.1 s.2.2 s'.1 s'.2.2 → Q  s') (hR139 : ∀ {a1 a2 a3 : Int} {Q : lf_Z → Prop} {s : lf_Z}, (7 - a1).toNat < MR → iv_A s.1 s.2.2 → 0 ≤ a1 ∧ a1 ≤ 6 → 0 ≤ a2 ∧ a2 ≤ 63 → 0 ≤ a3 ∧ a3 ≤ 999 → (∀  (s' : lf_Z), iv_A s'.1 s'.2.2 → lf_fq [74, 76, 77] 1000000 true s.1 s.2.2 s'.1 s'.2.2 → Q  s') → R139 a1 a2 a3 Q s) {M34 : Nat} (hX34 : ∀ (x4 : Int) (s' : lf_Z), iv_A s'.1 s'.2.2 → lf_fq [74, 76, 77] 1000000 true s.1 s.2.2 s'.1 s'.2.2 → 0 ≤ x4 ∧ x4 ≤ 6 → (6 - x4).toNat < M34 → X34 x4 s') (hM34 : (6 - x4).toNat ≤ M34) (hMR : (7 - x1).toNat ≤ MR) (hI : iv_A s.1 s.2.2) (bx1 : 0 ≤ x1 ∧ x1 ≤ 5) (bx2 : 0 ≤ x2 ∧ x2 ≤ 63) (bx3 : 0 ≤ x3 ∧ x3 ≤ 999) (bx4 : 0 ≤ x4 ∧ x4 ≤ 5) (by0 : (-1) ≤ y0 ∧ y0 ≤ 999) : fm_139_p85 R139 X34 Q x1 x2 x3 x4 y0 s := by
  unfold fm_139_p85
  refine ⟨(show lf_R y0 from lf_Rof (by omega)), ?_⟩
  refine ⟨fun c10 => ?_, fun c10 => ?_⟩
  · skip
    replace c10 : y0 = (-1) := c10
    exact sm_139_p122 hQ hR139 hX34 (show (6 - x4).toNat ≤ M34 from by omega) (show (7 - x1).toNat ≤ MR from by omega) hI (show (0 : Int) ≤ x1 ∧ x1 ≤ (5 : Int) from by omega) (show (0 : Int) ≤ x2 ∧ x2 ≤ (63 : Int) from by omega) (show (0 : Int) ≤ x3 ∧ x3 ≤ (999 : Int) from by omega) (show (0 : Int) ≤ x4 ∧ x4 ≤ (5 : Int) from by omega)
  · skip
    replace c10 : ¬ (y0 = (-1)) := c10
    refine ⟨(show (0 : Int) ≤ x1 ∧ x1 < (6 : Int) from by omega), ?_⟩
    have hI11 : iv_A (lf_up s.1 76 x1 x4) s.2.2 := iv_w76 hI (by omega)
    have fr12 : lf_fq [74, 76, 77] 1000000 true s.1 s.2.2 (lf_up s.1 76 x1 x4) s.2.2 := lf_fq_up (lf_fq_rf) rfl (fun h => absurd h (by decide))
    have b13 : 1 ≤ lf_shl 1 x4 ∧ lf_shl 1 x4 ≤ 32 := lf_shl1 (m := 5) (by omega) (by omega) (by decide)
    have b14 : (-2147483648) ≤ lf_xor (lf_shl 1 x4) (-1) ∧ lf_xor (lf_shl 1 x4) (-1) ≤ 2147483647 := lf_xorB
    have b15 : 0 ≤ lf_and x2 (lf_xor (lf_shl 1 x4) (-1)) ∧ lf_and x2 (lf_xor (lf_shl 1 x4) (-1)) ≤ 63 := lf_andBl (by omega) (by omega)
    refine ⟨(show lf_R x3 from lf_Rof (by omega)), ?_⟩
    refine hR139 (show (7 - (x1 + 1)).toNat < MR from by omega) hI11 (show (0 : Int) ≤ x1 + 1 ∧ x1 + 1 ≤ (6 : Int) from by omega) (show (0 : Int) ≤ lf_and x2 (lf_xor (lf_shl 1 x4) (-1)) ∧ lf_and x2 (lf_xor (lf_shl 1 x4) (-1)) ≤ (63 : Int) from by omega) (show (0 : Int) ≤ max x3 y0 ∧ max x3 y0 ≤ (999 : Int) from by omega) (fun s29 hI17 fr16 => ?_)
    have fr19 : lf_fq [74, 76, 77] 1000000 true s.1 s.2.2 s29.1 s29.2.2 := lf_fq_tr fr12 (lf_fq_wk fr16 rfl (by decide) (by decide))
    exact sm_139_p122 (fun t9 i9 f9 => hQ t9 i9 (lf_fq_tr fr19 f9)) hR139 (fun p0 t9 i9 f9 => hX34 p0 t9 i9 (lf_fq_tr fr19 f9)) (show (6 - x4).toNat ≤ M34 from by omega) (show (7 - x1).toNat ≤ MR from by omega) hI17 (show (0 : Int) ≤ x1 ∧ x1 ≤ (5 : Int) from by omega) (show (0 : Int) ≤ x2 ∧ x2 ≤ (63 : Int) from by omega) (show (0 : Int) ≤ x3 ∧ x3 ≤ (999 : Int) from by omega) (show (0 : Int) ≤ x4 ∧ x4 ≤ (5 : Int) from by omega)
theorem sm_139_p34 {R139 : Int → Int → Int → (lf_Z → Prop) → lf_Z → Prop} {X34 : Int → lf_Z → Prop} {Q : lf_Z → Prop} {x1 : Int} {x2 : Int} {x3 : Int} {x4 : Int} {s : lf_Z} {MR : Nat} (hQ : ∀  (s' : lf_Z), iv_A s'.1 s'.2.2 → lf_fq [74, 76, 77] 1000000 true s.1 s.2.2 s'.1 s'.2.2 → Q  s') (hR139 : ∀ {a1 a2 a3 : Int} {Q : lf_Z → Prop} {s : lf_Z}, (7 - a1).toNat < MR → iv_A s.1 s.2.2 → 0 ≤ a1 ∧ a1 ≤ 6 → 0 ≤ a2 ∧ a2 ≤ 63 → 0 ≤ a3 ∧ a3 ≤ 999 → (∀  (s' : lf_Z), iv_A s'.1 s'.2.2 → lf_fq [74, 76, 77] 1000000 true s.1 s.2.2 s'.1 s'.2.2 → Q  s') → R139 a1 a2 a3 Q s) {M34 : Nat} (hX34 : ∀ (x4 : Int) (s' : lf_Z), iv_A s'.1 s'.2.2 → lf_fq [74, 76, 77] 1000000 true s.1 s.2.2 s'.1 s'.2.2 → 0 ≤ x4 ∧ x4 ≤ 6 → (6 - x4).toNat < M34 → X34 x4 s') (hM34 : (6 - x4).toNat ≤ M34) (hMR : (7 - x1).toNat ≤ MR) (hI : iv_A s.1 s.2.2) (bx1 : 0 ≤ x1 ∧ x1 ≤ 5) (bx2 : 0 ≤ x2 ∧ x2 ≤ 63) (bx3 : 0 ≤ x3 ∧ x3 ≤ 999) (bx4 : 0 ≤ x4 ∧ x4 ≤ 6) : fm_139_p34 R139 Q x1 x2 x3 X34 x4 s := by
  unfold fm_139_p34
  have b5 : 0 ≤ s.1 1 2 ∧ s.1 1 2 ≤ 6 := iv_r1_2 hI
  refine ⟨(show lf_R x4 from lf_Rof (by omega)), ?_⟩
  refine ⟨(show lf_R (s.1 1 2) from lf_Rof (by omega)), ?_⟩
  refine ⟨fun c6 => ?_, fun c6 => ?_⟩
  · skip
    replace c6 : s.1 1 2 ≤ x4 := c6
    exact hQ s hI (lf_fq_rf)
  · skip
    replace c6 : ¬ (s.1 1 2 ≤ x4) := c6
    have b7 : 0 ≤ lf_shr x2 x4 ∧ lf_shr x2 x4 ≤ 63 := lf_shrP (by omega) (by omega)
    have b8 : 0 ≤ lf_and (lf_shr x2 x4) 1 ∧ lf_and (lf_shr x2 x4) 1 ≤ 1 := lf_andB (by omega) (by omega)
    refine ⟨fun c9 => ?_, fun c9 => ?_⟩
    · skip
      replace c9 : lf_and (lf_shr x2 x4) 1 ≠ 1 := c9
      exact sm_139_p85 hQ hR139 hX34 (show (6 - x4).toNat ≤ M34 from by omega) (show (7 - x1).toNat ≤ MR from by omega) hI (show (0 : Int) ≤ x1 ∧ x1 ≤ (5 : Int) from by omega) (show (0 : Int) ≤ x2 ∧ x2 ≤ (63 : Int) from by omega) (show (0 : Int) ≤ x3 ∧ x3 ≤ (999 : Int) from by omega) (show (0 : Int) ≤ x4 ∧ x4 ≤ (5 : Int) from by omega) (show (-1 : Int) ≤ (-1) ∧ (-1) ≤ (999 : Int) from by omega)
    · skip
      replace c9 : ¬ (lf_and (lf_shr x2 x4) 1 ≠ 1) := c9
      refine ⟨(show (0 : Int) ≤ x4 ∧ x4 < (6 : Int) from by omega), ?_⟩
      have b20 : (-2147483648) ≤ s.1 19 x4 ∧ s.1 19 x4 ≤ 2147483647 := iv_full hI
      refine ⟨(show (0 : Int) ≤ x1 ∧ x1 < (6 : Int) from by omega), ?_⟩
      have b21 : (-2147483648) ≤ s.1 75 x1 ∧ s.1 75 x1 ≤ 2147483647 := iv_full hI
      refine sm_135 hI (show (-2147483648 : Int) ≤ x4 ∧ x4 ≤ (2147483647 : Int) from by omega) (show (-2147483648 : Int) ≤ s.1 19 x4 ∧ s.1 19 x4 ≤ (2147483647 : Int) from by omega) (show (-2147483648 : Int) ≤ s.1 75 x1 ∧ s.1 75 x1 ≤ (2147483647 : Int) from by omega) (fun r33 q22 => ?_)
      obtain ⟨q22, q22x⟩ := q22
      have b23 : 0 ≤ s.1 1 0 ∧ s.1 1 0 ≤ 12 := iv_r1_0 hI
      replace q22x : r33 = -1 ∨ (0 ≤ (s.1 19 x4) ∧ (s.1 19 x4) < s.1 1 0 ∧ 0 ≤ (s.1 75 x1) ∧ (s.1 75 x1) < s.1 1 0) := q22x
      exact sm_139_p85 hQ hR139 hX34 (show (6 - x4).toNat ≤ M34 from by omega) (show (7 - x1).toNat ≤ MR from by omega) hI (show (0 : Int) ≤ x1 ∧ x1 ≤ (5 : Int) from by omega) (show (0 : Int) ≤ x2 ∧ x2 ≤ (63 : Int) from by omega) (show (0 : Int) ≤ x3 ∧ x3 ≤ (999 : Int) from by omega) (show (0 : Int) ≤ x4 ∧ x4 ≤ (5 : Int) from by omega) (show (-1 : Int) ≤ r33 ∧ r33 ≤ (999 : Int) from by omega)
theorem sm_139_p34L {R139 : Int → Int → Int → (lf_Z → Prop) → lf_Z → Prop} {Q : lf_Z → Prop} {x1 : Int} {x2 : Int} {x3 : Int} {x4 : Int} {s : lf_Z} {MR : Nat} (hQ : ∀  (s' : lf_Z), iv_A s'.1 s'.2.2 → lf_fq [74, 76, 77] 1000000 true s.1 s.2.2 s'.1 s'.2.2 → Q  s') (hR139 : ∀ {a1 a2 a3 : Int} {Q : lf_Z → Prop} {s : lf_Z}, (7 - a1).toNat < MR → iv_A s.1 s.2.2 → 0 ≤ a1 ∧ a1 ≤ 6 → 0 ≤ a2 ∧ a2 ≤ 63 → 0 ≤ a3 ∧ a3 ≤ 999 → (∀  (s' : lf_Z), iv_A s'.1 s'.2.2 → lf_fq [74, 76, 77] 1000000 true s.1 s.2.2 s'.1 s'.2.2 → Q  s') → R139 a1 a2 a3 Q s) (hMR : (7 - x1).toNat ≤ MR) (hI : iv_A s.1 s.2.2) (bx1 : 0 ≤ x1 ∧ x1 ≤ 5) (bx2 : 0 ≤ x2 ∧ x2 ≤ 63) (bx3 : 0 ≤ x3 ∧ x3 ≤ 999) (bx4 : 0 ≤ x4 ∧ x4 ≤ 6) : fm_139_p34L R139 Q x1 x2 x3 x4 s := by
  intro X34 hX
  have key : ∀ (m9 : Nat) (x4 : Int) (s' : lf_Z), iv_A s'.1 s'.2.2 → lf_fq [74, 76, 77] 1000000 true s.1 s.2.2 s'.1 s'.2.2 → 0 ≤ x4 ∧ x4 ≤ 6 → (6 - x4).toNat < m9 → X34 x4 s' := by
    intro m9
    induction m9 with
    | zero => intro x4 s' _ _ bx4 h9; exact absurd h9 (Nat.not_lt_zero _)
    | succ m9 ih => intro x4 s' i7 f7 bx4 h9; exact hX _ _ (sm_139_p34 (fun t9 i9 f9 => hQ t9 i9 (lf_fq_tr f7 f9)) hR139  (fun x4' t8 i8 f8 bx4' h8 => ih x4' t8 i8 (lf_fq_tr f7 f8) bx4' (by omega)) (Nat.le_refl _) hMR i7  bx1 bx2 bx3 bx4  )
  exact key _ _ s hI lf_fq_rf bx4 (Nat.lt_succ_self _)
theorem sm_139_p17 {R139 : Int → Int → Int → (lf_Z → Prop) → lf_Z → Prop} {Q : lf_Z → Prop} {x1 : Int} {x2 : Int} {x3 : Int} {s : lf_Z} {MR : Nat} (hQ : ∀  (s' : lf_Z), iv_A s'.1 s'.2.2 → lf_fq [74, 76, 77] 1000000 true s.1 s.2.2 s'.1 s'.2.2 → Q  s') (hR139 : ∀ {a1 a2 a3 : Int} {Q : lf_Z → Prop} {s : lf_Z}, (7 - a1).toNat < MR → iv_A s.1 s.2.2 → 0 ≤ a1 ∧ a1 ≤ 6 → 0 ≤ a2 ∧ a2 ≤ 63 → 0 ≤ a3 ∧ a3 ≤ 999 → (∀  (s' : lf_Z), iv_A s'.1 s'.2.2 → lf_fq [74, 76, 77] 1000000 true s.1 s.2.2 s'.1 s'.2.2 → Q  s') → R139 a1 a2 a3 Q s) (hMR : (7 - x1).toNat ≤ MR) (hI : iv_A s.1 s.2.2) (bx1 : 0 ≤ x1 ∧ x1 ≤ 6) (bx2 : 0 ≤ x2 ∧ x2 ≤ 63) (bx3 : 0 ≤ x3 ∧ x3 ≤ 999) : fm_139_p17 R139 Q x1 x2 x3 s := by
  unfold fm_139_p17
  have b3 : 0 ≤ s.1 74 5 ∧ s.1 74 5 ≤ 6 := iv_r74_5 hI
  refine ⟨(show lf_R x1 from lf_Rof (by omega)), ?_⟩
  refine ⟨(show lf_R (s.1 74 5) from lf_Rof (by omega)), ?_⟩
  refine ⟨fun c4 => ?_, fun c4 => ?_⟩
  · skip
    replace c4 : x1 < s.1 74 5 := c4
    exact sm_139_p34L hQ hR139 (show (7 - x1).toNat ≤ MR from by omega) hI (show (0 : Int) ≤ x1 ∧ x1 ≤ (5 : Int) from by omega) (show (0 : Int) ≤ x2 ∧ x2 ≤ (63 : Int) from by omega) (show (0 : Int) ≤ x3 ∧ x3 ≤ (999 : Int) from by omega) (show (0 : Int) ≤ 0 ∧ 0 ≤ (6 : Int) from by omega)
  · skip
    replace c4 : ¬ (x1 < s.1 74 5) := c4
    refine sm_140 hI (show (-2147483648 : Int) ≤ x3 ∧ x3 ≤ (2147483647 : Int) from by omega) (fun s34 hI25 fr24 => ?_)
    have fr27 : lf_fq [74, 76, 77] 1000000 true s.1 s.2.2 s34.1 s34.2.2 := lf_fq_tr (lf_fq_rf) (lf_fq_wk fr24 rfl (by decide) (by decide))
    exact hQ s34 hI25 fr27
theorem sm_139 {R139 : Int → Int → Int → (lf_Z → Prop) → lf_Z → Prop} {a1 : Int} {a2 : Int} {a3 : Int} {Q : lf_Z → Prop} {s : lf_Z} {MR : Nat} (hR139 : ∀ {a1 a2 a3 : Int} {Q : lf_Z → Prop} {s : lf_Z}, (7 - a1).toNat < MR → iv_A s.1 s.2.2 → 0 ≤ a1 ∧ a1 ≤ 6 → 0 ≤ a2 ∧ a2 ≤ 63 → 0 ≤ a3 ∧ a3 ≤ 999 → (∀  (s' : lf_Z), iv_A s'.1 s'.2.2 → lf_fq [74, 76, 77] 1000000 true s.1 s.2.2 s'.1 s'.2.2 → Q  s') → R139 a1 a2 a3 Q s) (hMR : (7 - a1).toNat ≤ MR) (hI : iv_A s.1 s.2.2) (ba1 : 0 ≤ a1 ∧ a1 ≤ 6) (ba2 : 0 ≤ a2 ∧ a2 ≤ 63) (ba3 : 0 ≤ a3 ∧ a3 ≤ 999) (hQ : ∀  (s' : lf_Z), iv_A s'.1 s'.2.2 → lf_fq [74, 76, 77] 1000000 true s.1 s.2.2 s'.1 s'.2.2 → Q  s') : fm_139 R139 a1 a2 a3 Q s := by
  unfold fm_139
  have b1 : (-2147483648) ≤ s.1 74 6 ∧ s.1 74 6 ≤ 2147483647 := iv_full hI
  refine ⟨(show lf_R (s.1 74 6) from lf_Rof (by omega)), ?_⟩
  refine ⟨fun c2 => ?_, fun c2 => ?_⟩
  · skip
    replace c2 : s.1 74 6 = (-1) := c2
    exact sm_139_p17 hQ hR139 (show (7 - a1).toNat ≤ MR from by omega) hI (show (0 : Int) ≤ a1 ∧ a1 ≤ (6 : Int) from by omega) (show (0 : Int) ≤ a2 ∧ a2 ≤ (63 : Int) from by omega) (show (0 : Int) ≤ a3 ∧ a3 ≤ (999 : Int) from by omega)
  · skip
    replace c2 : ¬ (s.1 74 6 = (-1)) := c2
    refine ⟨(show lf_R a3 from lf_Rof (by omega)), ?_⟩
    refine ⟨fun c28 => ?_, fun c28 => ?_⟩
    · skip
      replace c28 : a3 < s.1 74 6 := c28
      exact sm_139_p17 hQ hR139 (show (7 - a1).toNat ≤ MR from by omega) hI (show (0 : Int) ≤ a1 ∧ a1 ≤ (6 : Int) from by omega) (show (0 : Int) ≤ a2 ∧ a2 ≤ (63 : Int) from by omega) (show (0 : Int) ≤ a3 ∧ a3 ≤ (999 : Int) from by omega)
    · skip
      replace c28 : ¬ (a3 < s.1 74 6) := c28
      exact hQ s hI (lf_fq_rf)
