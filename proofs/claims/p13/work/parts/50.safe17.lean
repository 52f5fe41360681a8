-- fm_293 Model.canCome 95 i
theorem sm_293 {a1 : Int} {Q : Int → lf_Z → Prop} {s : lf_Z} (hI : iv_A s.1 s.2.2) (ba1 : (-2147483648) ≤ a1 ∧ a1 ≤ 2147483647) (hQ : ∀ (r : Int) (s' : lf_Z), iv_A s'.1 s'.2.2 → lf_fq [104, 107, 111, 112] 1000000 true s.1 s.2.2 s'.1 s'.2.2 → ((-2147483648) ≤ r ∧ r ≤ 2147483647) → Q r s') : fm_293 a1 Q s := by
  unfold fm_293
  refine sm_254 hI (show (-2147483648 : Int) ≤ a1 ∧ a1 ≤ (2147483647 : Int) from by omega) (fun z22 q1 => ?_)
  refine ⟨fun c2 => ?_, fun c2 => ?_⟩
  · skip
    have dc2 := q1.2 c2
    exact hQ (-1) s hI (lf_fq_rf) (show (-2147483648 : Int) ≤ (-1) ∧ (-1) ≤ (2147483647 : Int) from by omega)
  · skip
    have dc2 := q1.1 c2
    refine sm_294 hI (show (0 : Int) ≤ a1 ∧ a1 ≤ (3 : Int) from by omega) (fun r24 s23 hI4 fr3 q5 => ?_)
    have fr6 : lf_fq [104, 107, 111, 112] 1000000 true s.1 s.2.2 s23.1 s23.2.2 := lf_fq_tr (lf_fq_rf) (lf_fq_wk fr3 rfl (by decide) (by decide))
    exact hQ r24 s23 hI4 fr6 (show (-2147483648 : Int) ≤ r24 ∧ r24 ≤ (2147483647 : Int) from by omega)
-- fm_132 Land.bitsOfKind 1 i
theorem sm_132_p28 {X4 : Int → Int → lf_Z → Prop} {Q : Int → lf_Z → Prop} {x1 : Int} {x2 : Int} {x3 : Int} {s : lf_Z} (hQ : ∀ (r : Int), ((-2147483648) ≤ r ∧ r ≤ 2147483647) → Q r s) {M4 : Nat} (hX4 : ∀ (x2 : Int) (x3 : Int), (-2147483648) ≤ x2 ∧ x2 ≤ 2147483647 → 0 ≤ x3 ∧ x3 ≤ 12 → (12 - x3).toNat < M4 → X4 x2 x3 s) (hM4 : (12 - x3).toNat ≤ M4) (hI : iv_A s.1 s.2.2) (bx1 : 1 ≤ x1 ∧ x1 ≤ 3) (bx2 : (-2147483648) ≤ x2 ∧ x2 ≤ 2147483647) (bx3 : 0 ≤ x3 ∧ x3 ≤ 11) : fm_132_p28 X4 Q x1 x2 x3 s := by
  unfold fm_132_p28
  exact hX4 (x2) (x3 + 1) (show (-2147483648 : Int) ≤ x2 ∧ x2 ≤ (2147483647 : Int) from by omega) (show (0 : Int) ≤ x3 + 1 ∧ x3 + 1 ≤ (12 : Int) from by omega) (show (12 - (x3 + 1)).toNat < M4 from by omega)
theorem sm_132_p4 {X4 : Int → Int → lf_Z → Prop} {Q : Int → lf_Z → Prop} {x1 : Int} {x2 : Int} {x3 : Int} {s : lf_Z} (hQ : ∀ (r : Int), ((-2147483648) ≤ r ∧ r ≤ 2147483647) → Q r s) {M4 : Nat} (hX4 : ∀ (x2 : Int) (x3 : Int), (-2147483648) ≤ x2 ∧ x2 ≤ 2147483647 → 0 ≤ x3 ∧ x3 ≤ 12 → (12 - x3).toNat < M4 → X4 x2 x3 s) (hM4 : (12 - x3).toNat ≤ M4) (hI : iv_A s.1 s.2.2) (bx1 : 1 ≤ x1 ∧ x1 ≤ 3) (bx2 : (-2147483648) ≤ x2 ∧ x2 ≤ 2147483647) (bx3 : 0 ≤ x3 ∧ x3 ≤ 12) : fm_132_p4 Q x1 X4 x2 x3 s := by
  unfold fm_132_p4
  have b1 : 0 ≤ s.1 1 0 ∧ s.1 1 0 ≤ 12 := iv_r1_0 hI
  refine ⟨(show lf_R x3 from lf_Rof (by omega)), ?_⟩
  refine ⟨(show lf_R (s.1 1 0) from lf_Rof (by omega)), ?_⟩
  refine ⟨fun c2 => ?_, fun c2 => ?_⟩
  · skip
    replace c2 : s.1 1 0 ≤ x3 := c2
    exact hQ x2 (show (-2147483648 : Int) ≤ x2 ∧ x2 ≤ (2147483647 : Int) from by omega)
  · skip
    replace c2 : ¬ (s.1 1 0 ≤ x3) := c2
    refine ⟨(show (0 : Int) ≤ x3 ∧ x3 < (12 : Int) from by omega), ?_⟩
    have b3 : 0 ≤ s.1 2 x3 ∧ s.1 2 x3 ≤ 3 := iv_r2 hI _
    refine ⟨(show lf_R (s.1 2 x3) from lf_Rof (by omega)), ?_⟩
    refine ⟨(show lf_R x1 from lf_Rof (by omega)), ?_⟩
    refine ⟨fun c4 => ?_, fun c4 => ?_⟩
    · skip
      replace c4 : s.1 2 x3 ≠ x1 := c4
      exact sm_132_p28 hQ hX4 (show (12 - x3).toNat ≤ M4 from by omega) hI (show (1 : Int) ≤ x1 ∧ x1 ≤ (3 : Int) from by omega) (show (-2147483648 : Int) ≤ x2 ∧ x2 ≤ (2147483647 : Int) from by omega) (show (0 : Int) ≤ x3 ∧ x3 ≤ (11 : Int) from by omega)
    · skip
      replace c4 : ¬ (s.1 2 x3 ≠ x1) := c4
      have b5 : 1 ≤ lf_shl 1 x3 ∧ lf_shl 1 x3 ≤ 2048 := lf_shl1 (m := 11) (by omega) (by omega) (by decide)
      have b6 : (-2147483648) ≤ lf_or x2 (lf_shl 1 x3) ∧ lf_or x2 (lf_shl 1 x3) ≤ 2147483647 := lf_orB
      exact sm_132_p28 hQ hX4 (show (12 - x3).toNat ≤ M4 from by omega) hI (show (1 : Int) ≤ x1 ∧ x1 ≤ (3 : Int) from by omega) (show (-2147483648 : Int) ≤ lf_or x2 (lf_shl 1 x3) ∧ lf_or x2 (lf_shl 1 x3) ≤ (2147483647 : Int) from by omega) (show (0 : Int) ≤ x3 ∧ x3 ≤ (11 : Int) from by omega)
theorem sm_132_p4L {Q : Int → lf_Z → Prop} {x1 : Int} {x2 : Int} {x3 : Int} {s : lf_Z} (hQ : ∀ (r : Int), ((-2147483648) ≤ r ∧ r ≤ 2147483647) → Q r s) (hI : iv_A s.1 s.2.2) (bx1 : 1 ≤ x1 ∧ x1 ≤ 3) (bx2 : (-2147483648) ≤ x2 ∧ x2 ≤ 2147483647) (bx3 : 0 ≤ x3 ∧ x3 ≤ 12) : fm_132_p4L Q x1 x2 x3 s := by
  intro X4 hX
  have key : ∀ (m9 : Nat) (x2 : Int) (x3 : Int), (-2147483648) ≤ x2 ∧ x2 ≤ 2147483647 → 0 ≤ x3 ∧ x3 ≤ 12 → (12 - x3).toNat < m9 → X4 x2 x3 s := by
    intro m9
    induction m9 with
    | zero => intro x2 x3 bx2 bx3 h9; exact absurd h9 (Nat.not_lt_zero _)
    | succ m9 ih => intro x2 x3 bx2 bx3 h9; exact hX _ _ _ (sm_132_p4 hQ   (fun x2' x3' bx2' bx3' h8 => ih x2' x3' bx2' bx3' (by omega)) (Nat.le_refl _)  hI  bx1 bx2 bx3  )
  exact key _ _ _ bx2 bx3   (Nat.lt_succ_self _)
theorem sm_132 {a1 : Int} {Q : Int → lf_Z → Prop} {s : lf_Z} (hI : iv_A s.1 s.2.2) (ba1 : 1 ≤ a1 ∧ a1 ≤ 3) (hQ : ∀ (r : Int), ((-2147483648) ≤ r ∧ r ≤ 2147483647) → Q r s) : fm_132 a1 Q s := by
  unfold fm_132
  exact sm_132_p4L hQ hI (show (1 : Int) ≤ a1 ∧ a1 ≤ (3 : Int) from by omega) (show (-2147483648 : Int) ≤ 0 ∧ 0 ≤ (2147483647 : Int) from by omega) (show (0 : Int) ≤ 0 ∧ 0 ≤ (12 : Int) from by omega)
-- fm_133 ElevenBullocks.nextSet i
theorem sm_133 {a0 : Int} {Q : Int → lf_Z → Prop} {s : lf_Z} (hI : iv_A s.1 s.2.2) (ba0 : (-2147483648) ≤ a0 ∧ a0 ≤ 65535) (hQ : ∀ (r : Int), ((-2147483648) ≤ r ∧ r ≤ 2147483647) → Q r s) : fm_133 a0 Q s := by
  unfold fm_133
  have b1 : (-2147483648) ≤ lf_w (-a0) ∧ lf_w (-a0) ≤ 2147483647 := lf_wB
  have b2 : (-2147483648) ≤ lf_and a0 (lf_w (-a0)) ∧ lf_and a0 (lf_w (-a0)) ≤ 2147483647 := lf_andF
  have b3 : (-2147483648) ≤ lf_w (a0 + (lf_and a0 (lf_w (-a0)))) ∧ lf_w (a0 + (lf_and a0 (lf_w (-a0)))) ≤ 2147483647 := lf_wB
  refine ⟨fun c4 => ?_, fun c4 => ?_⟩
  · skip
    replace c4 : lf_and a0 (lf_w (-a0)) ≠ 0 := c4
    have b5 : (-2147483648) ≤ lf_xor a0 (lf_w (a0 + (lf_and a0 (lf_w (-a0))))) ∧ lf_xor a0 (lf_w (a0 + (lf_and a0 (lf_w (-a0))))) ≤ 2147483647 := lf_xorB
    refine ⟨(show (lf_and a0 (lf_w (-a0))) ≠ 0 from by omega), ?_⟩
    have b6 : (-2147483648) ≤ lf_w ((lf_xor a0 (lf_w (a0 + (lf_and a0 (lf_w (-a0)))))).tdiv (lf_and a0 (lf_w (-a0)))) ∧ lf_w ((lf_xor a0 (lf_w (a0 + (lf_and a0 (lf_w (-a0)))))).tdiv (lf_and a0 (lf_w (-a0)))) ≤ 2147483647 := lf_wB
    have b7 : (-2147483648) ≤ lf_ushr (lf_w ((lf_xor a0 (lf_w (a0 + (lf_and a0 (lf_w (-a0)))))).tdiv (lf_and a0 (lf_w (-a0))))) 2 ∧ lf_ushr (lf_w ((lf_xor a0 (lf_w (a0 + (lf_and a0 (lf_w (-a0)))))).tdiv (lf_and a0 (lf_w (-a0))))) 2 ≤ 2147483647 := lf_ushrB
    have b8 : (-2147483648) ≤ lf_or (lf_w (a0 + (lf_and a0 (lf_w (-a0))))) (lf_ushr (lf_w ((lf_xor a0 (lf_w (a0 + (lf_and a0 (lf_w (-a0)))))).tdiv (lf_and a0 (lf_w (-a0))))) 2) ∧ lf_or (lf_w (a0 + (lf_and a0 (lf_w (-a0))))) (lf_ushr (lf_w ((lf_xor a0 (lf_w (a0 + (lf_and a0 (lf_w (-a0)))))).tdiv (lf_and a0 (lf_w (-a0))))) 2) ≤ 2147483647 := lf_orB
    exact hQ (lf_or (lf_w (a0 + (lf_and a0 (lf_w (-a0))))) (lf_ushr (lf_w ((lf_xor a0 (lf_w (a0 + (lf_and a0 (lf_w (-a0)))))).tdiv (lf_and a0 (lf_w (-a0))))) 2)) (show (-2147483648 : Int) ≤ lf_or (lf_w (a0 + (lf_and a0 (lf_w (-a0))))) (lf_ushr (lf_w ((lf_xor a0 (lf_w (a0 + (lf_and a0 (lf_w (-a0)))))).tdiv (lf_and a0 (lf_w (-a0))))) 2) ∧ lf_or (lf_w (a0 + (lf_and a0 (lf_w (-a0))))) (lf_ushr (lf_w ((lf_xor a0 (lf_w (a0 + (lf_and a0 (lf_w (-a0)))))).tdiv (lf_and a0 (lf_w (-a0))))) 2) ≤ (2147483647 : Int) from by omega)
  · skip
    replace c4 : ¬ (lf_and a0 (lf_w (-a0)) ≠ 0) := c4
    exact hQ 65536 (show (-2147483648 : Int) ≤ 65536 ∧ 65536 ≤ (2147483647 : Int) from by omega)
-- fm_131 Walk.fewestWhoStop 68 i i
theorem sm_131_p120 {X29 : Int → lf_Z → Prop} {Q : Int → lf_Z → Prop} {x1 : Int} {x3 : Int} {x4 : Int} {x5 : Int} {s : lf_Z} (hQ : ∀ (r : Int) (s' : lf_Z), iv_A s'.1 s'.2.2 → lf_fq [63, 64, 65, 66, 68, 69, 70, 71] 1000000 true s.1 s.2.2 s'.1 s'.2.2 → ((-2147483648) ≤ r ∧ r ≤ 4095) → Q r s') {M29 : Nat} (hX29 : ∀ (x5 : Int) (s' : lf_Z), iv_A s'.1 s'.2.2 → lf_fq [63, 64, 65, 66, 68, 69, 70, 71] 1000000 true s.1 s.2.2 s'.1 s'.2.2 → 0 ≤ x5 ∧ x5 ≤ 4 → (0 < s'.1 16 x1) → (4 - x5).toNat < M29 → X29 x5 s') (hM29 : (4 - x5).toNat ≤ M29) (hI : iv_A s.1 s.2.2) (bx1 : 0 ≤ x1 ∧ x1 ≤ 3) (bx3 : (-2147483648) ≤ x3 ∧ x3 ≤ 2147483647) (bx4 : 1 ≤ x4 ∧ x4 ≤ 4096) (bx5 : 0 ≤ x5 ∧ x5 ≤ 3) (kv0 : 0 < s.1 16 x1) : fm_131_p120 X29 Q x1 x3 x4 x5 s := by
  unfold fm_131_p120
  have b16 : (-2147483648) ≤ s.1 16 x1 ∧ s.1 16 x1 ≤ 2147483647 := iv_full hI
  exact hX29 (x5 + 1) s hI (lf_fq_rf) (show (0 : Int) ≤ x5 + 1 ∧ x5 + 1 ≤ (4 : Int) from by omega) (show 0 < (s.1 16 x1) from by omega) (show (4 - (x5 + 1)).toNat < M29 from by omega)
theorem sm_131_p112 {X29 : Int → lf_Z → Prop} {X46 : Int → Int → lf_Z → Prop} {Q : Int → lf_Z → Prop} {x1 : Int} {x3 : Int} {x4 : Int} {x5 : Int} {x7 : Int} {y0 : Int} {s : lf_Z} (hQ : ∀ (r : Int) (s' : lf_Z), iv_A s'.1 s'.2.2 → lf_fq [63, 64, 65, 66, 68, 69, 70, 71] 1000000 true s.1 s.2.2 s'.1 s'.2.2 → ((-2147483648) ≤ r ∧ r ≤ 4095) → Q r s') {M29 : Nat} (hX29 : ∀ (x5 : Int) (s' : lf_Z), iv_A s'.1 s'.2.2 → lf_fq [63, 64, 65, 66, 68, 69, 70, 71] 1000000 true s.1 s.2.2 s'.1 s'.2.2 → 0 ≤ x5 ∧ x5 ≤ 4 → (0 < s'.1 16 x1) → (4 - x5).toNat < M29 → X29 x5 s') (hM29 : (4 - x5).toNat ≤ M29) {M46 : Nat} (hX46 : ∀ (x6 : Int) (x7 : Int) (s' : lf_Z), iv_A s'.1 s'.2.2 → lf_fq [63, 64, 65, 66, 68, 69, 70, 71] 1000000 true s.1 s.2.2 s'.1 s'.2.2 → (-2147483648) ≤ x6 ∧ x6 ≤ 2147483647 → 0 ≤ x7 ∧ x7 ≤ 1000 → (0 < s'.1 16 x1) → (1000 - x7).toNat < M46 → X46 x6 x7 s') (hM46 : (1000 - x7).toNat ≤ M46) (hI : iv_A s.1 s.2.2) (bx1 : 0 ≤ x1 ∧ x1 ≤ 3) (bx3 : (-2147483648) ≤ x3 ∧ x3 ≤ 2147483647) (bx4 : 1 ≤ x4 ∧ x4 ≤ 4096) (bx5 : 0 ≤ x5 ∧ x5 ≤ 3) (bx7 : 0 ≤ x7 ∧ x7 ≤ 999) (by0 : (-2147483648) ≤ y0 ∧ y0 ≤ 2147483647) (kv0 : 0 < s.1 16 x1) : fm_131_p112 X29 X46 Q x1 x3 x4 x5 x7 y0 s := by
  unfold fm_131_p112
  have b30 : (-2147483648) ≤ s.1 16 x1 ∧ s.1 16 x1 ≤ 2147483647 := iv_full hI
  exact hX46 (y0) (x7 + 1) s hI (lf_fq_rf) (show (-2147483648 : Int) ≤ y0 ∧ y0 ≤ (2147483647 : Int) from by omega) (show (0 : Int) ≤ x7 + 1 ∧ x7 + 1 ≤ (1000 : Int) from by omega) (show 0 < (s.1 16 x1) from by omega) (show (1000 - (x7 + 1)).toNat < M46 from by omega)
theorem sm_131_p97 {X29 : Int → lf_Z → Prop} {X46 : Int → Int → lf_Z → Prop} {Q : Int → lf_Z → Prop} {x1 : Int} {x3 : Int} {x4 : Int} {x5 : Int} {x6 : Int} {x7 : Int} {s : lf_Z} (hQ : ∀ (r : Int) (s' : lf_Z), iv_A s'.1 s'.2.2 → lf_fq [63, 64, 65, 66, 68, 69, 70, 71] 1000000 true s.1 s.2.2 s'.1 s'.2.2 → ((-2147483648) ≤ r ∧ r ≤ 4095) → Q r s') {M29 : Nat} (hX29 : ∀ (x5 : Int) (s' : lf_Z), iv_A s'.1 s'.2.2 → lf_fq [63, 64, 65, 66, 68, 69, 70, 71] 1000000 true s.1 s.2.2 s'.1 s'.2.2 → 0 ≤ x5 ∧ x5 ≤ 4 → (0 < s'.1 16 x1) → (4 - x5).toNat < M29 → X29 x5 s') (hM29 : (4 - x5).toNat ≤ M29) {M46 : Nat} (hX46 : ∀ (x6 : Int) (x7 : Int) (s' : lf_Z), iv_A s'.1 s'.2.2 → lf_fq [63, 64, 65, 66, 68, 69, 70, 71] 1000000 true s.1 s.2.2 s'.1 s'.2.2 → (-2147483648) ≤ x6 ∧ x6 ≤ 2147483647 → 0 ≤ x7 ∧ x7 ≤ 1000 → (0 < s'.1 16 x1) → (1000 - x7).toNat < M46 → X46 x6 x7 s') (hM46 : (1000 - x7).toNat ≤ M46) (hI : iv_A s.1 s.2.2) (bx1 : 0 ≤ x1 ∧ x1 ≤ 3) (bx3 : (-2147483648) ≤ x3 ∧ x3 ≤ 2147483647) (bx4 : 1 ≤ x4 ∧ x4 ≤ 4096) (bx5 : 0 ≤ x5 ∧ x5 ≤ 3) (bx6 : (-2147483648) ≤ x6 ∧ x6 ≤ 4095) (bx7 : 0 ≤ x7 ∧ x7 ≤ 999) (kv0 : 0 < s.1 16 x1) : fm_131_p97 X29 X46 Q x1 x3 x4 x5 x6 x7 s := by
  unfold fm_131_p97
  refine ⟨(show lf_R x5 from lf_Rof (by omega)), ?_⟩
  refine ⟨fun c27 => ?_, fun c27 => ?_⟩
  · skip
    replace c27 : x5 ≠ 0 := c27
    refine sm_133 hI (show (-2147483648 : Int) ≤ x6 ∧ x6 ≤ (65535 : Int) from by omega) (fun r31 q28 => ?_)
    have b29 : (-2147483648) ≤ s.1 16 x1 ∧ s.1 16 x1 ≤ 2147483647 := iv_full hI
    exact sm_131_p112 hQ hX29 (show (4 - x5).toNat ≤ M29 from by omega) hX46 (show (1000 - x7).toNat ≤ M46 from by omega) hI (show (0 : Int) ≤ x1 ∧ x1 ≤ (3 : Int) from by omega) (show (-2147483648 : Int) ≤ x3 ∧ x3 ≤ (2147483647 : Int) from by omega) (show (1 : Int) ≤ x4 ∧ x4 ≤ (4096 : Int) from by omega) (show (0 : Int) ≤ x5 ∧ x5 ≤ (3 : Int) from by omega) (show (0 : Int) ≤ x7 ∧ x7 ≤ (999 : Int) from by omega) (show (-2147483648 : Int) ≤ r31 ∧ r31 ≤ (2147483647 : Int) from by omega) (show 0 < (s.1 16 x1) from by omega)
  · skip
    replace c27 : ¬ (x5 ≠ 0) := c27
    have b31 : (-2147483648) ≤ s.1 16 x1 ∧ s.1 16 x1 ≤ 2147483647 := iv_full hI
    exact sm_131_p112 hQ hX29 (show (4 - x5).toNat ≤ M29 from by omega) hX46 (show (1000 - x7).toNat ≤ M46 from by omega) hI (show (0 : Int) ≤ x1 ∧ x1 ≤ (3 : Int) from by omega) (show (-2147483648 : Int) ≤ x3 ∧ x3 ≤ (2147483647 : Int) from by omega) (show (1 : Int) ≤ x4 ∧ x4 ≤ (4096 : Int) from by omega) (show (0 : Int) ≤ x5 ∧ x5 ≤ (3 : Int) from by omega) (show (0 : Int) ≤ x7 ∧ x7 ≤ (999 : Int) from by omega) (show (-2147483648 : Int) ≤ x4 ∧ x4 ≤ (2147483647 : Int) from by omega) (show 0 < (s.1 16 x1) from by omega)
theorem sm_131_p46 {X29 : Int → lf_Z → Prop} {X46 : Int → Int → lf_Z → Prop} {Q : Int → lf_Z → Prop} {x1 : Int} {x3 : Int} {x4 : Int} {x5 : Int} {x6 : Int} {x7 : Int} {s : lf_Z} (hQ : ∀ (r : Int) (s' : lf_Z), iv_A s'.1 s'.2.2 → lf_fq [63, 64, 65, 66, 68, 69, 70, 71] 1000000 true s.1 s.2.2 s'.1 s'.2.2 → ((-2147483648) ≤ r ∧ r ≤ 4095) → Q r s') {M29 : Nat} (hX29 : ∀ (x5 : Int) (s' : lf_Z), iv_A s'.1 s'.2.2 → lf_fq [63, 64, 65, 66, 68, 69, 70, 71] 1000000 true s.1 s.2.2 s'.1 s'.2.2 → 0 ≤ x5 ∧ x5 ≤ 4 → (0 < s'.1 16 x1) → (4 - x5).toNat < M29 → X29 x5 s') (hM29 : (4 - x5).toNat ≤ M29) {M46 : Nat} (hX46 : ∀ (x6 : Int) (x7 : Int) (s' : lf_Z), iv_A s'.1 s'.2.2 → lf_fq [63, 64, 65, 66, 68, 69, 70, 71] 1000000 true s.1 s.2.2 s'.1 s'.2.2 → (-2147483648) ≤ x6 ∧ x6 ≤ 2147483647 → 0 ≤ x7 ∧ x7 ≤ 1000 → (0 < s'.1 16 x1) → (1000 - x7).toNat < M46 → X46 x6 x7 s') (hM46 : (1000 - x7).toNat ≤ M46) (hI : iv_A s.1 s.2.2) (bx1 : 0 ≤ x1 ∧ x1 ≤ 3) (bx3 : (-2147483648) ≤ x3 ∧ x3 ≤ 2147483647) (bx4 : 1 ≤ x4 ∧ x4 ≤ 4096) (bx5 : 0 ≤ x5 ∧ x5 ≤ 3) (bx6 : (-2147483648) ≤ x6 ∧ x6 ≤ 2147483647) (bx7 : 0 ≤ x7 ∧ x7 ≤ 1000) (kv0 : 0 < s.1 16 x1) : fm_131_p46 X29 Q x1 x3 x4 x5 X46 x6 x7 s := by
  unfold fm_131_p46
  refine ⟨(show lf_R x7 from lf_Rof (by omega)), ?_⟩
  refine ⟨fun c14 => ?_, fun c14 => ?_⟩
  · skip
    replace c14 : 1000 ≤ x7 := c14
    have b15 : (-2147483648) ≤ s.1 16 x1 ∧ s.1 16 x1 ≤ 2147483647 := iv_full hI
    exact sm_131_p120 hQ hX29 (show (4 - x5).toNat ≤ M29 from by omega) hI (show (0 : Int) ≤ x1 ∧ x1 ≤ (3 : Int) from by omega) (show (-2147483648 : Int) ≤ x3 ∧ x3 ≤ (2147483647 : Int) from by omega) (show (1 : Int) ≤ x4 ∧ x4 ≤ (4096 : Int) from by omega) (show (0 : Int) ≤ x5 ∧ x5 ≤ (3 : Int) from by omega) (show 0 < (s.1 16 x1) from by omega)
  · skip
    replace c14 : ¬ (1000 ≤ x7) := c14
    refine ⟨(show lf_R x6 from lf_Rof (by omega)), ?_⟩
    refine ⟨(show lf_R x4 from lf_Rof (by omega)), ?_⟩
    refine ⟨fun c17 => ?_, fun c17 => ?_⟩
    · skip
      replace c17 : x4 ≤ x6 := c17
      have b18 : (-2147483648) ≤ s.1 16 x1 ∧ s.1 16 x1 ≤ 2147483647 := iv_full hI
      exact sm_131_p120 hQ hX29 (show (4 - x5).toNat ≤ M29 from by omega) hI (show (0 : Int) ≤ x1 ∧ x1 ≤ (3 : Int) from by omega) (show (-2147483648 : Int) ≤ x3 ∧ x3 ≤ (2147483647 : Int) from by omega) (show (1 : Int) ≤ x4 ∧ x4 ≤ (4096 : Int) from by omega) (show (0 : Int) ≤ x5 ∧ x5 ≤ (3 : Int) from by omega) (show 0 < (s.1 16 x1) from by omega)
    · skip
      replace c17 : ¬ (x4 ≤ x6) := c17
      have hI19 : iv_A (lf_up s.1 68 10 x6) s.2.2 := iv_w68_10 hI (by omega)
      have fr20 : lf_fq [63, 64, 65, 66, 68, 69, 70, 71] 1000000 true s.1 s.2.2 (lf_up s.1 68 10 x6) s.2.2 := lf_fq_up (lf_fq_rf) rfl (fun h => absurd h (by decide))
      refine ⟨(show (0 : Int) ≤ x1 ∧ x1 < (4 : Int) from by omega), ?_⟩
      have b21 : (-1) ≤ s.1 17 x1 ∧ s.1 17 x1 ≤ 11 := (show (-1) ≤ (lf_up s.1 68 10 x6) 17 x1 ∧ (lf_up s.1 68 10 x6) 17 x1 ≤ 11 from iv_r17 hI19 _)
      have b22 : s.1 16 x1 ≤ 0 ∨ 0 ≤ s.1 17 x1 := (by first | exact (show (lf_up s.1 68 10 x6) 16 x1 ≤ 0 ∨ 0 ≤ (lf_up s.1 68 10 x6) 17 x1 from iv_sp hI19 (by omega) (by omega)) | exact iv_sp hI19 (by omega) (by omega))
      have b23 : (-2147483648) ≤ lf_shr x6 (s.1 17 x1) ∧ lf_shr x6 (s.1 17 x1) ≤ 2147483647 := lf_shrB
      have b24 : 0 ≤ lf_and (lf_shr x6 (s.1 17 x1)) 1 ∧ lf_and (lf_shr x6 (s.1 17 x1)) 1 ≤ 1 := lf_andB (by omega) (by omega)
      refine ⟨fun c25 => ?_, fun c25 => ?_⟩
      · skip
        replace c25 : lf_and (lf_shr x6 (s.1 17 x1)) 1 ≠ 0 := c25
        have b26 : (-2147483648) ≤ s.1 16 x1 ∧ s.1 16 x1 ≤ 2147483647 := (show (-2147483648) ≤ (lf_up s.1 68 10 x6) 16 x1 ∧ (lf_up s.1 68 10 x6) 16 x1 ≤ 2147483647 from iv_full hI19)
        exact sm_131_p97 (fun r9 t9 i9 f9 => hQ r9 t9 i9 (lf_fq_tr fr20 f9)) (fun p0 t9 i9 f9 => hX29 p0 t9 i9 (lf_fq_tr fr20 f9)) (show (4 - x5).toNat ≤ M29 from by omega) (fun p0 p1 t9 i9 f9 => hX46 p0 p1 t9 i9 (lf_fq_tr fr20 f9)) (show (1000 - x7).toNat ≤ M46 from by omega) hI19 (show (0 : Int) ≤ x1 ∧ x1 ≤ (3 : Int) from by omega) (show (-2147483648 : Int) ≤ x3 ∧ x3 ≤ (2147483647 : Int) from by omega) (show (1 : Int) ≤ x4 ∧ x4 ≤ (4096 : Int) from by omega) (show (0 : Int) ≤ x5 ∧ x5 ≤ (3 : Int) from by omega) (show (-2147483648 : Int) ≤ x6 ∧ x6 ≤ (4095 : Int) from by omega) (show (0 : Int) ≤ x7 ∧ x7 ≤ (999 : Int) from by omega) (show 0 < (s.1 16 x1) from by omega)
      · skip
        replace c25 : ¬ (lf_and (lf_shr x6 (s.1 17 x1)) 1 ≠ 0) := c25
        have b34 : (-2147483648) ≤ s.1 16 x1 ∧ s.1 16 x1 ≤ 2147483647 := (show (-2147483648) ≤ (lf_up s.1 68 10 x6) 16 x1 ∧ (lf_up s.1 68 10 x6) 16 x1 ≤ 2147483647 from iv_full hI19)
        refine sm_128 hI19 (show (0 : Int) ≤ x1 ∧ x1 ≤ (3 : Int) from by omega) (show 0 < (s.1 16 x1) from by omega) (fun r33 s32 hI33 fr32 q35 => ?_)
        have fr36 : lf_fq [63, 64, 65, 66, 68, 69, 70, 71] 1000000 true s.1 s.2.2 s32.1 s32.2.2 := lf_fq_tr fr20 (lf_fq_wk fr32 rfl (by decide) (by decide))
        have b37 : (-2147483648) ≤ lf_and r33 x3 ∧ lf_and r33 x3 ≤ 2147483647 := lf_andF
        refine ⟨fun c38 => ?_, fun c38 => ?_⟩
        · skip
          replace c38 : lf_and r33 x3 ≠ 0 := c38
          have b39 : (-2147483648) ≤ s32.1 16 x1 ∧ s32.1 16 x1 ≤ 2147483647 := iv_full hI33
          have b40 : s32.1 16 x1 = s.1 16 x1 := congrFun (fr32.1 16 rfl) _
          exact sm_131_p97 (fun r9 t9 i9 f9 => hQ r9 t9 i9 (lf_fq_tr fr36 f9)) (fun p0 t9 i9 f9 => hX29 p0 t9 i9 (lf_fq_tr fr36 f9)) (show (4 - x5).toNat ≤ M29 from by omega) (fun p0 p1 t9 i9 f9 => hX46 p0 p1 t9 i9 (lf_fq_tr fr36 f9)) (show (1000 - x7).toNat ≤ M46 from by omega) hI33 (show (0 : Int) ≤ x1 ∧ x1 ≤ (3 : Int) from by omega) (show (-2147483648 : Int) ≤ x3 ∧ x3 ≤ (2147483647 : Int) from by omega) (show (1 : Int) ≤ x4 ∧ x4 ≤ (4096 : Int) from by omega) (show (0 : Int) ≤ x5 ∧ x5 ≤ (3 : Int) from by omega) (show (-2147483648 : Int) ≤ x6 ∧ x6 ≤ (4095 : Int) from by omega) (show (0 : Int) ≤ x7 ∧ x7 ≤ (999 : Int) from by omega) (show 0 < (s32.1 16 x1) from by omega)
        · skip
          replace c38 : ¬ (lf_and r33 x3 ≠ 0) := c38
          exact hQ x6 s32 hI33 fr36 (show (-2147483648 : Int) ≤ x6 ∧ x6 ≤ (4095 : Int) from by omega)
theorem sm_131_p46L {X29 : Int → lf_Z → Prop} {Q : Int → lf_Z → Prop} {x1 : Int} {x3 : Int} {x4 : Int} {x5 : Int} {x6 : Int} {x7 : Int} {s : lf_Z} (hQ : ∀ (r : Int) (s' : lf_Z), iv_A s'.1 s'.2.2 → lf_fq [63, 64, 65, 66, 68, 69, 70, 71] 1000000 true s.1 s.2.2 s'.1 s'.2.2 → ((-2147483648) ≤ r ∧ r ≤ 4095) → Q r s') {M29 : Nat} (hX29 : ∀ (x5 : Int) (s' : lf_Z), iv_A s'.1 s'.2.2 → lf_fq [63, 64, 65, 66, 68, 69, 70, 71] 1000000 true s.1 s.2.2 s'.1 s'.2.2 → 0 ≤ x5 ∧ x5 ≤ 4 → (0 < s'.1 16 x1) → (4 - x5).toNat < M29 → X29 x5 s') (hM29 : (4 - x5).toNat ≤ M29) (hI : iv_A s.1 s.2.2) (bx1 : 0 ≤ x1 ∧ x1 ≤ 3) (bx3 : (-2147483648) ≤ x3 ∧ x3 ≤ 2147483647) (bx4 : 1 ≤ x4 ∧ x4 ≤ 4096) (bx5 : 0 ≤ x5 ∧ x5 ≤ 3) (bx6 : (-2147483648) ≤ x6 ∧ x6 ≤ 2147483647) (bx7 : 0 ≤ x7 ∧ x7 ≤ 1000) (kv0 : 0 < s.1 16 x1) : fm_131_p46L X29 Q x1 x3 x4 x5 x6 x7 s := by
  intro X46 hX
  have key : ∀ (m9 : Nat) (x6 : Int) (x7 : Int) (s' : lf_Z), iv_A s'.1 s'.2.2 → lf_fq [63, 64, 65, 66, 68, 69, 70, 71] 1000000 true s.1 s.2.2 s'.1 s'.2.2 → (-2147483648) ≤ x6 ∧ x6 ≤ 2147483647 → 0 ≤ x7 ∧ x7 ≤ 1000 → (0 < s'.1 16 x1) → (1000 - x7).toNat < m9 → X46 x6 x7 s' := by
    intro m9
    induction m9 with
    | zero => intro x6 x7 s' _ _ bx6 bx7 kv0 h9; exact absurd h9 (Nat.not_lt_zero _)
    | succ m9 ih => intro x6 x7 s' i7 f7 bx6 bx7 kv0 h9; exact hX _ _ _ (sm_131_p46 (fun r9 t9 i9 f9 => hQ r9 t9 i9 (lf_fq_tr f7 f9))  (fun p0 t9 i9 f9 => hX29 p0 t9 i9 (lf_fq_tr f7 f9)) hM29 (fun x6' x7' t8 i8 f8 bx6' bx7' kv0' h8 => ih x6' x7' t8 i8 (lf_fq_tr f7 f8) bx6' bx7' kv0' (by omega)) (Nat.le_refl _)  i7  bx1 bx3 bx4 bx5 bx6 bx7  kv0)
  exact key _ _ _ s hI lf_fq_rf bx6 bx7 kv0 (Nat.lt_succ_self _)
theorem sm_131_p29 {X29 : Int → lf_Z → Prop} {Q : Int → lf_Z → Prop} {x1 : Int} {x3 : Int} {x4 : Int} {x5 : Int} {s : lf_Z} (hQ : ∀ (r : Int) (s' : lf_Z), iv_A s'.1 s'.2.2 → lf_fq [63, 64, 65, 66, 68, 69, 70, 71] 1000000 true s.1 s.2.2 s'.1 s'.2.2 → ((-2147483648) ≤ r ∧ r ≤ 4095) → Q r s') {M29 : Nat} (hX29 : ∀ (x5 : Int) (s' : lf_Z), iv_A s'.1 s'.2.2 → lf_fq [63, 64, 65, 66, 68, 69, 70, 71] 1000000 true s.1 s.2.2 s'.1 s'.2.2 → 0 ≤ x5 ∧ x5 ≤ 4 → (0 < s'.1 16 x1) → (4 - x5).toNat < M29 → X29 x5 s') (hM29 : (4 - x5).toNat ≤ M29) (hI : iv_A s.1 s.2.2) (bx1 : 0 ≤ x1 ∧ x1 ≤ 3) (bx3 : (-2147483648) ≤ x3 ∧ x3 ≤ 2147483647) (bx4 : 1 ≤ x4 ∧ x4 ≤ 4096) (bx5 : 0 ≤ x5 ∧ x5 ≤ 4) (kv0 : 0 < s.1 16 x1) : fm_131_p29 Q x1 x3 x4 X29 x5 s := by
  unfold fm_131_p29
  refine ⟨(show lf_R x5 from lf_Rof (by omega)), ?_⟩
  refine ⟨fun c11 => ?_, fun c11 => ?_⟩
  · skip
    replace c11 : 3 < x5 := c11
    exact hQ (-1) s hI (lf_fq_rf) (show (-2147483648 : Int) ≤ (-1) ∧ (-1) ≤ (4095 : Int) from by omega)
  · skip
    replace c11 : ¬ (3 < x5) := c11
    have b12 : 1 ≤ lf_shl 1 x5 ∧ lf_shl 1 x5 ≤ 8 := lf_shl1 (m := 3) (by omega) (by omega) (by decide)
    have b13 : (-2147483648) ≤ s.1 16 x1 ∧ s.1 16 x1 ≤ 2147483647 := iv_full hI
    exact sm_131_p46L hQ hX29 (show (4 - x5).toNat ≤ M29 from by omega) hI (show (0 : Int) ≤ x1 ∧ x1 ≤ (3 : Int) from by omega) (show (-2147483648 : Int) ≤ x3 ∧ x3 ≤ (2147483647 : Int) from by omega) (show (1 : Int) ≤ x4 ∧ x4 ≤ (4096 : Int) from by omega) (show (0 : Int) ≤ x5 ∧ x5 ≤ (3 : Int) from by omega) (show (-2147483648 : Int) ≤ (lf_shl 1 x5) - 1 ∧ (lf_shl 1 x5) - 1 ≤ (2147483647 : Int) from by omega) (show (0 : Int) ≤ 0 ∧ 0 ≤ (1000 : Int) from by omega) (show 0 < (s.1 16 x1) from by omega)
theorem sm_131_p29L {Q : Int → lf_Z → Prop} {x1 : Int} {x3 : Int} {x4 : Int} {x5 : Int} {s : lf_Z} (hQ : ∀ (r : Int) (s' : lf_Z), iv_A s'.1 s'.2.2 → lf_fq [63, 64, 65, 66, 68, 69, 70, 71] 1000000 true s.1 s.2.2 s'.1 s'.2.2 → ((-2147483648) ≤ r ∧ r ≤ 4095) → Q r s') (hI : iv_A s.1 s.2.2) (bx1 : 0 ≤ x1 ∧ x1 ≤ 3) (bx3 : (-2147483648) ≤ x3 ∧ x3 ≤ 2147483647) (bx4 : 1 ≤ x4 ∧ x4 ≤ 4096) (bx5 : 0 ≤ x5 ∧ x5 ≤ 4) (kv0 : 0 < s.1 16 x1) : fm_131_p29L Q x1 x3 x4 x5 s := by
  intro X29 hX
  have key : ∀ (m9 : Nat) (x5 : Int) (s' : lf_Z), iv_A s'.1 s'.2.2 → lf_fq [63, 64, 65, 66, 68, 69, 70, 71] 1000000 true s.1 s.2.2 s'.1 s'.2.2 → 0 ≤ x5 ∧ x5 ≤ 4 → (0 < s'.1 16 x1) → (4 - x5).toNat < m9 → X29 x5 s' := by
    intro m9
    induction m9 with
    | zero => intro x5 s' _ _ bx5 kv0 h9; exact absurd h9 (Nat.not_lt_zero _)
    | succ m9 ih => intro x5 s' i7 f7 bx5 kv0 h9; exact hX _ _ (sm_131_p29 (fun r9 t9 i9 f9 => hQ r9 t9 i9 (lf_fq_tr f7 f9))   (fun x5' t8 i8 f8 bx5' kv0' h8 => ih x5' t8 i8 (lf_fq_tr f7 f8) bx5' kv0' (by omega)) (Nat.le_refl _)  i7  bx1 bx3 bx4 bx5  kv0)
  exact key _ _ s hI lf_fq_rf bx5 kv0 (Nat.lt_succ_self _)
theorem sm_131 {a1 : Int} {a2 : Int} {Q : Int → lf_Z → Prop} {s : lf_Z} (hI : iv_A s.1 s.2.2) (ba1 : 0 ≤ a1 ∧ a1 ≤ 3) (ba2 : 0 ≤ a2 ∧ a2 ≤ 9) (kp0 : 0 < s.1 16 a1) (hQ : ∀ (r : Int) (s' : lf_Z), iv_A s'.1 s'.2.2 → lf_fq [63, 64, 65, 66, 68, 69, 70, 71] 1000000 true s.1 s.2.2 s'.1 s'.2.2 → ((-2147483648) ≤ r ∧ r ≤ 4095) → Q r s') : fm_131 a1 a2 Q s := by
  unfold fm_131
  refine sm_118 hI (show (0 : Int) ≤ a1 ∧ a1 ≤ (3 : Int) from by omega) (show (0 : Int) ≤ a2 ∧ a2 ≤ (9 : Int) from by omega) (fun s21 hI2 fr1 => ?_)
  have fr4 : lf_fq [63, 64, 65, 66, 68, 69, 70, 71] 1000000 true s.1 s.2.2 s21.1 s21.2.2 := lf_fq_tr (lf_fq_rf) (lf_fq_wk fr1 rfl (by decide) (by decide))
  refine sm_132 hI2 (show (1 : Int) ≤ 2 ∧ 2 ≤ (3 : Int) from by omega) (fun r23 q5 => ?_)
  have b6 : 0 ≤ s21.1 1 0 ∧ s21.1 1 0 ≤ 12 := iv_r1_0 hI2
  have b7 : s21.1 1 0 = s.1 1 0 := congrFun (fr1.1 1 rfl) _
  have b8 : 1 ≤ lf_shl 1 (s21.1 1 0) ∧ lf_shl 1 (s21.1 1 0) ≤ 4096 := lf_shl1 (m := 12) (by omega) (by omega) (by decide)
  have b9 : (-2147483648) ≤ s21.1 16 a1 ∧ s21.1 16 a1 ≤ 2147483647 := iv_full hI2
  have b10 : s21.1 16 a1 = s.1 16 a1 := congrFun (fr1.1 16 rfl) _
  exact sm_131_p29L (fun r9 t9 i9 f9 => hQ r9 t9 i9 (lf_fq_tr fr4 f9)) hI2 (show (0 : Int) ≤ a1 ∧ a1 ≤ (3 : Int) from by omega) (show (-2147483648 : Int) ≤ r23 ∧ r23 ≤ (2147483647 : Int) from by omega) (show (1 : Int) ≤ lf_shl 1 (s21.1 1 0) ∧ lf_shl 1 (s21.1 1 0) ≤ (4096 : Int) from by omega) (show (0 : Int) ≤ 0 ∧ 0 ≤ (4 : Int) from by omega) (show 0 < (s21.1 16 a1) from by omega)
-- fm_130 ElevenBullocks.stopped 0 i i
theorem sm_130 {a1 : Int} {a2 : Int} {Q : Int → lf_Z → Prop} {s : lf_Z} (hI : iv_A s.1 s.2.2) (ba1 : (-2147483648) ≤ a1 ∧ a1 ≤ 2147483647) (ba2 : (-2147483648) ≤ a2 ∧ a2 ≤ 2147483647) (hQ : ∀ (r : Int) (s' : lf_Z), iv_A s'.1 s'.2.2 → lf_fq [63, 64, 65, 66, 68, 69, 70, 71] 1000000 true s.1 s.2.2 s'.1 s'.2.2 → ((-2147483648) ≤ r ∧ r ≤ 4095) → Q r s') : fm_130 a1 a2 Q s := by
  unfold fm_130
  refine sm_80 hI (show (-2147483648 : Int) ≤ a1 ∧ a1 ≤ (2147483647 : Int) from by omega) (fun z22 q1 => ?_)
  have b2 : (-2147483648) ≤ s.1 16 a1 ∧ s.1 16 a1 ≤ 2147483647 := iv_full hI
  refine ⟨fun c3 => ?_, fun c3 => ?_⟩
  · skip
    have dc3 := q1.2 c3
    exact hQ (-1) s hI (lf_fq_rf) (show (-2147483648 : Int) ≤ (-1) ∧ (-1) ≤ (4095 : Int) from by omega)
  · skip
    have dc3 := q1.1 c3
    refine sm_15 hI (show (-2147483648 : Int) ≤ a2 ∧ a2 ≤ (2147483647 : Int) from by omega) (show (-1 : Int) ≤ 0 ∧ 0 ≤ (99 : Int) from by omega) (show (-2147483648 : Int) ≤ 9 ∧ 9 ≤ (2147483647 : Int) from by omega) (fun z24 q4 => ?_)
    refine ⟨fun c5 => ?_, fun c5 => ?_⟩
    · skip
      have dc5 := q4.1 c5
      refine sm_131 hI (show (0 : Int) ≤ a1 ∧ a1 ≤ (3 : Int) from by omega) (show (0 : Int) ≤ a2 ∧ a2 ≤ (9 : Int) from by omega) (show 0 < (s.1 16 a1) from by omega) (fun r26 s25 hI7 fr6 q8 => ?_)
      have fr9 : lf_fq [63, 64, 65, 66, 68, 69, 70, 71] 1000000 true s.1 s.2.2 s25.1 s25.2.2 := lf_fq_tr (lf_fq_rf) (lf_fq_wk fr6 rfl (by decide) (by decide))
      exact hQ r26 s25 hI7 fr9 (show (-2147483648 : Int) ≤ r26 ∧ r26 ≤ (4095 : Int) from by omega)
    · skip
      have dc5 := q4.2 c5
      exact hQ (-1) s hI (lf_fq_rf) (show (-2147483648 : Int) ≤ (-1) ∧ (-1) ≤ (4095 : Int) from by omega)
-- fm_296 Model.ofKind 95 i i
theorem sm_296_p44 {X5 : Int → Int → lf_Z → Prop} {Q : Int → lf_Z → Prop} {x1 : Int} {x2 : Int} {x4 : Int} {y0 : Int} {y1 : Int} {s : lf_Z} (hQ : ∀ (r : Int), ((-2147483648) ≤ r ∧ r ≤ 2147483647) → Q r s) {M5 : Nat} (hX5 : ∀ (x3 : Int) (x4 : Int), (-2147483648) ≤ x3 ∧ x3 ≤ 2147483647 → 0 ≤ x4 ∧ x4 ≤ 12 → (12 - x4).toNat < M5 → X5 x3 x4 s) (hM5 : (12 - x4).toNat ≤ M5) (hI : iv_A s.1 s.2.2) (bx1 : (-2147483648) ≤ x1 ∧ x1 ≤ 2147483647) (bx2 : 0 ≤ x2 ∧ x2 ≤ 3) (bx4 : 0 ≤ x4 ∧ x4 ≤ 11) (by0 : (-2147483648) ≤ y0 ∧ y0 ≤ 2147483647) (by1 : 0 ≤ y1 ∧ y1 ≤ 2048) : fm_296_p44 X5 Q x1 x2 x4 y0 y1 s := by
  unfold fm_296_p44
  have b5 : (-2147483648) ≤ lf_or y0 y1 ∧ lf_or y0 y1 ≤ 2147483647 := lf_orB
  exact hX5 (lf_or y0 y1) (x4 + 1) (show (-2147483648 : Int) ≤ lf_or y0 y1 ∧ lf_or y0 y1 ≤ (2147483647 : Int) from by omega) (show (0 : Int) ≤ x4 + 1 ∧ x4 + 1 ≤ (12 : Int) from by omega) (show (12 - (x4 + 1)).toNat < M5 from by omega)
theorem sm_296_p43 {X5 : Int → Int → lf_Z → Prop} {Q : Int → lf_Z → Prop} {x1 : Int} {x2 : Int} {x4 : Int} {y0 : Int} {s : lf_Z} (hQ : ∀ (r : Int), ((-2147483648) ≤ r ∧ r ≤ 2147483647) → Q r s) {M5 : Nat} (hX5 : ∀ (x3 : Int) (x4 : Int), (-2147483648) ≤ x3 ∧ x3 ≤ 2147483647 → 0 ≤ x4 ∧ x4 ≤ 12 → (12 - x4).toNat < M5 → X5 x3 x4 s) (hM5 : (12 - x4).toNat ≤ M5) (hI : iv_A s.1 s.2.2) (bx1 : (-2147483648) ≤ x1 ∧ x1 ≤ 2147483647) (bx2 : 0 ≤ x2 ∧ x2 ≤ 3) (bx4 : 0 ≤ x4 ∧ x4 ≤ 11) (by0 : (-2147483648) ≤ y0 ∧ y0 ≤ 2147483647) : fm_296_p43 X5 Q x1 x2 x4 y0 s := by
  unfold fm_296_p43
  exact sm_296_p44 hQ hX5 (show (12 - x4).toNat ≤ M5 from by omega) hI (show (-2147483648 : Int) ≤ x1 ∧ x1 ≤ (2147483647 : Int) from by omega) (show (0 : Int) ≤ x2 ∧ x2 ≤ (3 : Int) from by omega) (show (0 : Int) ≤ x4 ∧ x4 ≤ (11 : Int) from by omega) (show (-2147483648 : Int) ≤ y0 ∧ y0 ≤ (2147483647 : Int) from by omega) (show (0 : Int) ≤ 0 ∧ 0 ≤ (2048 : Int) from by omega)
theorem sm_296_p5 {X5 : Int → Int → lf_Z → Prop} {Q : Int → lf_Z → Prop} {x1 : Int} {x2 : Int} {x3 : Int} {x4 : Int} {s : lf_Z} (hQ : ∀ (r : Int), ((-2147483648) ≤ r ∧ r ≤ 2147483647) → Q r s) {M5 : Nat} (hX5 : ∀ (x3 : Int) (x4 : Int), (-2147483648) ≤ x3 ∧ x3 ≤ 2147483647 → 0 ≤ x4 ∧ x4 ≤ 12 → (12 - x4).toNat < M5 → X5 x3 x4 s) (hM5 : (12 - x4).toNat ≤ M5) (hI : iv_A s.1 s.2.2) (bx1 : (-2147483648) ≤ x1 ∧ x1 ≤ 2147483647) (bx2 : 0 ≤ x2 ∧ x2 ≤ 3) (bx3 : (-2147483648) ≤ x3 ∧ x3 ≤ 2147483647) (bx4 : 0 ≤ x4 ∧ x4 ≤ 12) : fm_296_p5 Q x1 x2 X5 x3 x4 s := by
  unfold fm_296_p5
  have b1 : 0 ≤ s.1 96 0 ∧ s.1 96 0 ≤ 12 := iv_rd96 hI (iv_f3e1fa21c (by omega))
  refine ⟨(show lf_R x4 from lf_Rof (by omega)), ?_⟩
  refine ⟨(show lf_R (s.1 96 0) from lf_Rof (by omega)), ?_⟩
  refine ⟨fun c2 => ?_, fun c2 => ?_⟩
  · skip
    replace c2 : s.1 96 0 ≤ x4 := c2
    exact hQ x3 (show (-2147483648 : Int) ≤ x3 ∧ x3 ≤ (2147483647 : Int) from by omega)
  · skip
    replace c2 : ¬ (s.1 96 0 ≤ x4) := c2
    refine sm_210 hI (show (-2147483648 : Int) ≤ x1 ∧ x1 ≤ (2147483647 : Int) from by omega) (show (-1 : Int) ≤ x4 ∧ x4 ≤ (15 : Int) from by omega) (fun z24 q3 => ?_)
    refine ⟨fun c4 => ?_, fun c4 => ?_⟩
    · skip
      have dc4 := q3.2 c4
      exact sm_296_p43 hQ hX5 (show (12 - x4).toNat ≤ M5 from by omega) hI (show (-2147483648 : Int) ≤ x1 ∧ x1 ≤ (2147483647 : Int) from by omega) (show (0 : Int) ≤ x2 ∧ x2 ≤ (3 : Int) from by omega) (show (0 : Int) ≤ x4 ∧ x4 ≤ (11 : Int) from by omega) (show (-2147483648 : Int) ≤ x3 ∧ x3 ≤ (2147483647 : Int) from by omega)
    · skip
      have dc4 := q3.1 c4
      refine sm_265 hI (show (0 : Int) ≤ x4 ∧ x4 ≤ (11 : Int) from by omega) (fun r26 q6 => ?_)
      refine ⟨(show lf_R r26 from lf_Rof (by omega)), ?_⟩
      refine ⟨(show lf_R x2 from lf_Rof (by omega)), ?_⟩
      refine ⟨fun c7 => ?_, fun c7 => ?_⟩
      · skip
        replace c7 : r26 ≠ x2 := c7
        exact sm_296_p43 hQ hX5 (show (12 - x4).toNat ≤ M5 from by omega) hI (show (-2147483648 : Int) ≤ x1 ∧ x1 ≤ (2147483647 : Int) from by omega) (show (0 : Int) ≤ x2 ∧ x2 ≤ (3 : Int) from by omega) (show (0 : Int) ≤ x4 ∧ x4 ≤ (11 : Int) from by omega) (show (-2147483648 : Int) ≤ x3 ∧ x3 ≤ (2147483647 : Int) from by omega)
      · skip
        replace c7 : ¬ (r26 ≠ x2) := c7
        have b8 : 1 ≤ lf_shl 1 x4 ∧ lf_shl 1 x4 ≤ 2048 := lf_shl1 (m := 11) (by omega) (by omega) (by decide)
        exact sm_296_p44 hQ hX5 (show (12 - x4).toNat ≤ M5 from by omega) hI (show (-2147483648 : Int) ≤ x1 ∧ x1 ≤ (2147483647 : Int) from by omega) (show (0 : Int) ≤ x2 ∧ x2 ≤ (3 : Int) from by omega) (show (0 : Int) ≤ x4 ∧ x4 ≤ (11 : Int) from by omega) (show (-2147483648 : Int) ≤ x3 ∧ x3 ≤ (2147483647 : Int) from by omega) (show (0 : Int) ≤ lf_shl 1 x4 ∧ lf_shl 1 x4 ≤ (2048 : Int) from by omega)
theorem sm_296_p5L {Q : Int → lf_Z → Prop} {x1 : Int} {x2 : Int} {x3 : Int} {x4 : Int} {s : lf_Z} (hQ : ∀ (r : Int), ((-2147483648) ≤ r ∧ r ≤ 2147483647) → Q r s) (hI : iv_A s.1 s.2.2) (bx1 : (-2147483648) ≤ x1 ∧ x1 ≤ 2147483647) (bx2 : 0 ≤ x2 ∧ x2 ≤ 3) (bx3 : (-2147483648) ≤ x3 ∧ x3 ≤ 2147483647) (bx4 : 0 ≤ x4 ∧ x4 ≤ 12) : fm_296_p5L Q x1 x2 x3 x4 s := by
  intro X5 hX
  have key : ∀ (m9 : Nat) (x3 : Int) (x4 : Int), (-2147483648) ≤ x3 ∧ x3 ≤ 2147483647 → 0 ≤ x4 ∧ x4 ≤ 12 → (12 - x4).toNat < m9 → X5 x3 x4 s := by
    intro m9
    induction m9 with
    | zero => intro x3 x4 bx3 bx4 h9; exact absurd h9 (Nat.not_lt_zero _)
    | succ m9 ih => intro x3 x4 bx3 bx4 h9; exact hX _ _ _ (sm_296_p5 hQ   (fun x3' x4' bx3' bx4' h8 => ih x3' x4' bx3' bx4' (by omega)) (Nat.le_refl _)  hI  bx1 bx2 bx3 bx4  )
  exact key _ _ _ bx3 bx4   (Nat.lt_succ_self _)
theorem sm_296 {a1 : Int} {a2 : Int} {Q : Int → lf_Z → Prop} {s : lf_Z} (hI : iv_A s.1 s.2.2) (ba1 : (-2147483648) ≤ a1 ∧ a1 ≤ 2147483647) (ba2 : 0 ≤ a2 ∧ a2 ≤ 3) (hQ : ∀ (r : Int), ((-2147483648) ≤ r ∧ r ≤ 2147483647) → Q r s) : fm_296 a1 a2 Q s := by
  unfold fm_296
  exact sm_296_p5L hQ hI (show (-2147483648 : Int) ≤ a1 ∧ a1 ≤ (2147483647 : Int) from by omega) (show (0 : Int) ≤ a2 ∧ a2 ≤ (3 : Int) from by omega) (show (-2147483648 : Int) ≤ 0 ∧ 0 ≤ (2147483647 : Int) from by omega) (show (0 : Int) ≤ 0 ∧ 0 ≤ (12 : Int) from by omega)
-- fm_295 Model.stopped 95 i i
theorem sm_295_p120 {Q : Int → lf_Z → Prop} {x3 : Int} {s : lf_Z} (hQ : ∀ (r : Int) (s' : lf_Z), iv_A s'.1 s'.2.2 → lf_fq [95, 104, 107, 111, 112] 1000000 true s.1 s.2.2 s'.1 s'.2.2 → ((-1) ≤ r ∧ r ≤ 4095) → Q r s') (hI : iv_A s.1 s.2.2) (bx3 : (-1) ≤ x3 ∧ x3 ≤ 4095) : fm_295_p120 Q x3 s := by
  unfold fm_295_p120
  have hI8 : iv_A (lf_up s.1 95 29 0) s.2.2 := iv_w95_29 hI (by omega)
  have fr9 : lf_fq [95, 104, 107, 111, 112] 1000000 true s.1 s.2.2 (lf_up s.1 95 29 0) s.2.2 := lf_fq_up (lf_fq_rf) rfl (fun h => absurd h (by decide))
  exact hQ x3 (lf_up s.1 95 29 0, s.2.1, s.2.2) hI8 fr9 (show (-1 : Int) ≤ x3 ∧ x3 ≤ (4095 : Int) from by omega)
theorem sm_295_p114 {X30 : Int → Int → lf_Z → Prop} {Q : Int → lf_Z → Prop} {x1 : Int} {x3 : Int} {x4 : Int} {s : lf_Z} (hQ : ∀ (r : Int) (s' : lf_Z), iv_A s'.1 s'.2.2 → lf_fq [95, 104, 107, 111, 112] 1000000 true s.1 s.2.2 s'.1 s'.2.2 → ((-1) ≤ r ∧ r ≤ 4095) → Q r s') {M30 : Nat} (hX30 : ∀ (x3 : Int) (x4 : Int) (s' : lf_Z), iv_A s'.1 s'.2.2 → lf_fq [95, 104, 107, 111, 112] 1000000 true s.1 s.2.2 s'.1 s'.2.2 → (-1) ≤ x3 ∧ x3 ≤ 4095 → 0 ≤ x4 ∧ x4 ≤ 4 → (4 - x4).toNat < M30 → X30 x3 x4 s') (hM30 : (4 - x4).toNat ≤ M30) (hI : iv_A s.1 s.2.2) (bx1 : 0 ≤ x1 ∧ x1 ≤ 3) (bx3 : (-1) ≤ x3 ∧ x3 ≤ 4095) (bx4 : 0 ≤ x4 ∧ x4 ≤ 3) : fm_295_p114 X30 Q x1 x3 x4 s := by
  unfold fm_295_p114
  exact hX30 (x3) (x4 + 1) s hI (lf_fq_rf) (show (-1 : Int) ≤ x3 ∧ x3 ≤ (4095 : Int) from by omega) (show (0 : Int) ≤ x4 + 1 ∧ x4 + 1 ≤ (4 : Int) from by omega) (show (4 - (x4 + 1)).toNat < M30 from by omega)
theorem sm_295_p108 {X30 : Int → Int → lf_Z → Prop} {X43 : Int → Int → lf_Z → Prop} {Q : Int → lf_Z → Prop} {x1 : Int} {x3 : Int} {x4 : Int} {x5 : Int} {s : lf_Z} (hQ : ∀ (r : Int) (s' : lf_Z), iv_A s'.1 s'.2.2 → lf_fq [95, 104, 107, 111, 112] 1000000 true s.1 s.2.2 s'.1 s'.2.2 → ((-1) ≤ r ∧ r ≤ 4095) → Q r s') {M30 : Nat} (hX30 : ∀ (x3 : Int) (x4 : Int) (s' : lf_Z), iv_A s'.1 s'.2.2 → lf_fq [95, 104, 107, 111, 112] 1000000 true s.1 s.2.2 s'.1 s'.2.2 → (-1) ≤ x3 ∧ x3 ≤ 4095 → 0 ≤ x4 ∧ x4 ≤ 4 → (4 - x4).toNat < M30 → X30 x3 x4 s') (hM30 : (4 - x4).toNat ≤ M30) {M43 : Nat} (hX43 : ∀ (x3 : Int) (x5 : Int) (s' : lf_Z), iv_A s'.1 s'.2.2 → lf_fq [95, 104, 107, 111, 112] 1000000 true s.1 s.2.2 s'.1 s'.2.2 → (-1) ≤ x3 ∧ x3 ≤ 4095 → 0 ≤ x5 ∧ x5 ≤ 2147483647 → (2147483647 - x5).toNat < M43 → X43 x3 x5 s') (hM43 : (2147483647 - x5).toNat ≤ M43) (hI : iv_A s.1 s.2.2) (bx1 : 0 ≤ x1 ∧ x1 ≤ 3) (bx3 : (-1) ≤ x3 ∧ x3 ≤ 4095) (bx4 : 0 ≤ x4 ∧ x4 ≤ 3) (bx5 : 0 ≤ x5 ∧ x5 ≤ 2147483646) : fm_295_p108 X30 X43 Q x1 x3 x4 x5 s := by
  unfold fm_295_p108
  exact hX43 (x3) (x5 + 1) s hI (lf_fq_rf) (show (-1 : Int) ≤ x3 ∧ x3 ≤ (4095 : Int) from by omega) (show (0 : Int) ≤ x5 + 1 ∧ x5 + 1 ≤ (2147483647 : Int) from by omega) (show (2147483647 - (x5 + 1)).toNat < M43 from by omega)
theorem sm_295_p43 {X30 : Int → Int → lf_Z → Prop} {X43 : Int → Int → lf_Z → Prop} {Q : Int → lf_Z → Prop} {x1 : Int} {x3 : Int} {x4 : Int} {x5 : Int} {s : lf_Z} (hQ : ∀ (r : Int) (s' : lf_Z), iv_A s'.1 s'.2.2 → lf_fq [95, 104, 107, 111, 112] 1000000 true s.1 s.2.2 s'.1 s'.2.2 → ((-1) ≤ r ∧ r ≤ 4095) → Q r s') {M30 : Nat} (hX30 : ∀ (x3 : Int) (x4 : Int) (s' : lf_Z), iv_A s'.1 s'.2.2 → lf_fq [95, 104, 107, 111, 112] 1000000 true s.1 s.2.2 s'.1 s'.2.2 → (-1) ≤ x3 ∧ x3 ≤ 4095 → 0 ≤ x4 ∧ x4 ≤ 4 → (4 - x4).toNat < M30 → X30 x3 x4 s') (hM30 : (4 - x4).toNat ≤ M30) {M43 : Nat} (hX43 : ∀ (x3 : Int) (x5 : Int) (s' : lf_Z), iv_A s'.1 s'.2.2 → lf_fq [95, 104, 107, 111, 112] 1000000 true s.1 s.2.2 s'.1 s'.2.2 → (-1) ≤ x3 ∧ x3 ≤ 4095 → 0 ≤ x5 ∧ x5 ≤ 2147483647 → (2147483647 - x5).toNat < M43 → X43 x3 x5 s') (hM43 : (2147483647 - x5).toNat ≤ M43) (hI : iv_A s.1 s.2.2) (bx1 : 0 ≤ x1 ∧ x1 ≤ 3) (bx3 : (-1) ≤ x3 ∧ x3 ≤ 4095) (bx4 : 0 ≤ x4 ∧ x4 ≤ 3) (bx5 : 0 ≤ x5 ∧ x5 ≤ 2147483647) : fm_295_p43 X30 Q x1 x4 X43 x3 x5 s := by
  unfold fm_295_p43
  have b11 : 0 ≤ s.1 96 0 ∧ s.1 96 0 ≤ 12 := iv_rd96 hI (iv_f3e1fa21c (by omega))
  have b12 : 1 ≤ lf_shl 1 (s.1 96 0) ∧ lf_shl 1 (s.1 96 0) ≤ 4096 := lf_shl1 (m := 12) (by omega) (by omega) (by decide)
  refine ⟨(show lf_R x5 from lf_Rof (by omega)), ?_⟩
  refine ⟨fun c13 => ?_, fun c13 => ?_⟩
  · skip
    replace c13 : lf_shl 1 (s.1 96 0) ≤ x5 := c13
    exact sm_295_p114 hQ hX30 (show (4 - x4).toNat ≤ M30 from by omega) hI (show (0 : Int) ≤ x1 ∧ x1 ≤ (3 : Int) from by omega) (show (-1 : Int) ≤ x3 ∧ x3 ≤ (4095 : Int) from by omega) (show (0 : Int) ≤ x4 ∧ x4 ≤ (3 : Int) from by omega)
  · skip
    replace c13 : ¬ (lf_shl 1 (s.1 96 0) ≤ x5) := c13
    refine ⟨(show lf_R x3 from lf_Rof (by omega)), ?_⟩
    refine ⟨fun c14 => ?_, fun c14 => ?_⟩
    · skip
      replace c14 : 0 ≤ x3 := c14
      exact sm_295_p114 hQ hX30 (show (4 - x4).toNat ≤ M30 from by omega) hI (show (0 : Int) ≤ x1 ∧ x1 ≤ (3 : Int) from by omega) (show (-1 : Int) ≤ x3 ∧ x3 ≤ (4095 : Int) from by omega) (show (0 : Int) ≤ x4 ∧ x4 ≤ (3 : Int) from by omega)
    · skip
      replace c14 : ¬ (0 ≤ x3) := c14
      refine sm_188 hI (show (-2147483648 : Int) ≤ x5 ∧ x5 ≤ (2147483647 : Int) from by omega) (fun r30 ps16 q15 => ?_)
      replace ps16 : r30 = lf_bt (x5) 16 := ps16
      refine ⟨(show lf_R r30 from lf_Rof (by omega)), ?_⟩
      refine ⟨(show lf_R x4 from lf_Rof (by omega)), ?_⟩
      refine ⟨fun c17 => ?_, fun c17 => ?_⟩
      · skip
        replace c17 : r30 ≠ x4 := c17
        exact sm_295_p108 hQ hX30 (show (4 - x4).toNat ≤ M30 from by omega) hX43 (show (2147483647 - x5).toNat ≤ M43 from by omega) hI (show (0 : Int) ≤ x1 ∧ x1 ≤ (3 : Int) from by omega) (show (-1 : Int) ≤ x3 ∧ x3 ≤ (4095 : Int) from by omega) (show (0 : Int) ≤ x4 ∧ x4 ≤ (3 : Int) from by omega) (show (0 : Int) ≤ x5 ∧ x5 ≤ (2147483646 : Int) from by omega)
      · skip
        replace c17 : ¬ (r30 ≠ x4) := c17
        refine sm_255 hI (show (0 : Int) ≤ x1 ∧ x1 ≤ (3 : Int) from by omega) (fun r34 q18 => ?_)
        refine sm_210 hI (show (-2147483648 : Int) ≤ x5 ∧ x5 ≤ (2147483647 : Int) from by omega) (show (-1 : Int) ≤ r34 ∧ r34 ≤ (15 : Int) from by omega) (fun z36 q19 => ?_)
        refine ⟨fun c20 => ?_, fun c20 => ?_⟩
        · skip
          have dc20 := q19.2 c20
          have hI21 : iv_A (lf_up s.1 95 29 x5) s.2.2 := iv_w95_29 hI (by omega)
          have fr22 : lf_fq [95, 104, 107, 111, 112] 1000000 true s.1 s.2.2 (lf_up s.1 95 29 x5) s.2.2 := lf_fq_up (lf_fq_rf) rfl (fun h => absurd h (by decide))
          refine sm_294 hI21 (show (0 : Int) ≤ x1 ∧ x1 ≤ (3 : Int) from by omega) (fun r38 s37 hI24 fr23 q25 => ?_)
          have fr26 : lf_fq [95, 104, 107, 111, 112] 1000000 true s.1 s.2.2 s37.1 s37.2.2 := lf_fq_tr fr22 (lf_fq_wk fr23 rfl (by decide) (by decide))
          refine sm_296 hI24 (show (-2147483648 : Int) ≤ r38 ∧ r38 ≤ (2147483647 : Int) from by omega) (show (0 : Int) ≤ 2 ∧ 2 ≤ (3 : Int) from by omega) (fun r40 q27 => ?_)
          refine ⟨(show lf_R r40 from lf_Rof (by omega)), ?_⟩
          refine ⟨fun c28 => ?_, fun c28 => ?_⟩
          · skip
            replace c28 : r40 ≠ 0 := c28
            exact sm_295_p108 (fun r9 t9 i9 f9 => hQ r9 t9 i9 (lf_fq_tr fr26 f9)) (fun p0 p1 t9 i9 f9 => hX30 p0 p1 t9 i9 (lf_fq_tr fr26 f9)) (show (4 - x4).toNat ≤ M30 from by omega) (fun p0 p1 t9 i9 f9 => hX43 p0 p1 t9 i9 (lf_fq_tr fr26 f9)) (show (2147483647 - x5).toNat ≤ M43 from by omega) hI24 (show (0 : Int) ≤ x1 ∧ x1 ≤ (3 : Int) from by omega) (show (-1 : Int) ≤ x3 ∧ x3 ≤ (4095 : Int) from by omega) (show (0 : Int) ≤ x4 ∧ x4 ≤ (3 : Int) from by omega) (show (0 : Int) ≤ x5 ∧ x5 ≤ (2147483646 : Int) from by omega)
          · skip
            replace c28 : ¬ (r40 ≠ 0) := c28
            exact sm_295_p108 (fun r9 t9 i9 f9 => hQ r9 t9 i9 (lf_fq_tr fr26 f9)) (fun p0 p1 t9 i9 f9 => hX30 p0 p1 t9 i9 (lf_fq_tr fr26 f9)) (show (4 - x4).toNat ≤ M30 from by omega) (fun p0 p1 t9 i9 f9 => hX43 p0 p1 t9 i9 (lf_fq_tr fr26 f9)) (show (2147483647 - x5).toNat ≤ M43 from by omega) hI24 (show (0 : Int) ≤ x1 ∧ x1 ≤ (3 : Int) from by omega) (show (-1 : Int) ≤ x5 ∧ x5 ≤ (4095 : Int) from by omega) (show (0 : Int) ≤ x4 ∧ x4 ≤ (3 : Int) from by omega) (show (0 : Int) ≤ x5 ∧ x5 ≤ (2147483646 : Int) from by omega)
        · skip
          have dc20 := q19.1 c20
          exact sm_295_p108 hQ hX30 (show (4 - x4).toNat ≤ M30 from by omega) hX43 (show (2147483647 - x5).toNat ≤ M43 from by omega) hI (show (0 : Int) ≤ x1 ∧ x1 ≤ (3 : Int) from by omega) (show (-1 : Int) ≤ x3 ∧ x3 ≤ (4095 : Int) from by omega) (show (0 : Int) ≤ x4 ∧ x4 ≤ (3 : Int) from by omega) (show (0 : Int) ≤ x5 ∧ x5 ≤ (2147483646 : Int) from by omega)
theorem sm_295_p43L {X30 : Int → Int → lf_Z → Prop} {Q : Int → lf_Z → Prop} {x1 : Int} {x3 : Int} {x4 : Int} {x5 : Int} {s : lf_Z} (hQ : ∀ (r : Int) (s' : lf_Z), iv_A s'.1 s'.2.2 → lf_fq [95, 104, 107, 111, 112] 1000000 true s.1 s.2.2 s'.1 s'.2.2 → ((-1) ≤ r ∧ r ≤ 4095) → Q r s') {M30 : Nat} (hX30 : ∀ (x3 : Int) (x4 : Int) (s' : lf_Z), iv_A s'.1 s'.2.2 → lf_fq [95, 104, 107, 111, 112] 1000000 true s.1 s.2.2 s'.1 s'.2.2 → (-1) ≤ x3 ∧ x3 ≤ 4095 → 0 ≤ x4 ∧ x4 ≤ 4 → (4 - x4).toNat < M30 → X30 x3 x4 s') (hM30 : (4 - x4).toNat ≤ M30) (hI : iv_A s.1 s.2.2) (bx1 : 0 ≤ x1 ∧ x1 ≤ 3) (bx3 : (-1) ≤ x3 ∧ x3 ≤ 4095) (bx4 : 0 ≤ x4 ∧ x4 ≤ 3) (bx5 : 0 ≤ x5 ∧ x5 ≤ 2147483647) : fm_295_p43L X30 Q x1 x3 x4 x5 s := by
  intro X43 hX
  have key : ∀ (m9 : Nat) (x3 : Int) (x5 : Int) (s' : lf_Z), iv_A s'.1 s'.2.2 → lf_fq [95, 104, 107, 111, 112] 1000000 true s.1 s.2.2 s'.1 s'.2.2 → (-1) ≤ x3 ∧ x3 ≤ 4095 → 0 ≤ x5 ∧ x5 ≤ 2147483647 → (2147483647 - x5).toNat < m9 → X43 x3 x5 s' := by
    intro m9
    induction m9 with
    | zero => intro x3 x5 s' _ _ bx3 bx5 h9; exact absurd h9 (Nat.not_lt_zero _)
    | succ m9 ih => intro x3 x5 s' i7 f7 bx3 bx5 h9; exact hX _ _ _ (sm_295_p43 (fun r9 t9 i9 f9 => hQ r9 t9 i9 (lf_fq_tr f7 f9))  (fun p0 p1 t9 i9 f9 => hX30 p0 p1 t9 i9 (lf_fq_tr f7 f9)) hM30 (fun x3' x5' t8 i8 f8 bx3' bx5' h8 => ih x3' x5' t8 i8 (lf_fq_tr f7 f8) bx3' bx5' (by omega)) (Nat.le_refl _)  i7  bx1 bx3 bx4 bx5  )
  exact key _ _ _ s hI lf_fq_rf bx3 bx5 (Nat.lt_succ_self _)
theorem sm_295_p30 {X30 : Int → Int → lf_Z → Prop} {Q : Int → lf_Z → Prop} {x1 : Int} {x3 : Int} {x4 : Int} {s : lf_Z} (hQ : ∀ (r : Int) (s' : lf_Z), iv_A s'.1 s'.2.2 → lf_fq [95, 104, 107, 111, 112] 1000000 true s.1 s.2.2 s'.1 s'.2.2 → ((-1) ≤ r ∧ r ≤ 4095) → Q r s') {M30 : Nat} (hX30 : ∀ (x3 : Int) (x4 : Int) (s' : lf_Z), iv_A s'.1 s'.2.2 → lf_fq [95, 104, 107, 111, 112] 1000000 true s.1 s.2.2 s'.1 s'.2.2 → (-1) ≤ x3 ∧ x3 ≤ 4095 → 0 ≤ x4 ∧ x4 ≤ 4 → (4 - x4).toNat < M30 → X30 x3 x4 s') (hM30 : (4 - x4).toNat ≤ M30) (hI : iv_A s.1 s.2.2) (bx1 : 0 ≤ x1 ∧ x1 ≤ 3) (bx3 : (-1) ≤ x3 ∧ x3 ≤ 4095) (bx4 : 0 ≤ x4 ∧ x4 ≤ 4) : fm_295_p30 Q x1 X30 x3 x4 s := by
  unfold fm_295_p30
  refine ⟨(show lf_R x4 from lf_Rof (by omega)), ?_⟩
  refine ⟨fun c7 => ?_, fun c7 => ?_⟩
  · skip
    replace c7 : 3 < x4 := c7
    exact sm_295_p120 hQ hI (show (-1 : Int) ≤ x3 ∧ x3 ≤ (4095 : Int) from by omega)
  · skip
    replace c7 : ¬ (3 < x4) := c7
    refine ⟨(show lf_R x3 from lf_Rof (by omega)), ?_⟩
    refine ⟨fun c10 => ?_, fun c10 => ?_⟩
    · skip
      replace c10 : 0 ≤ x3 := c10
      exact sm_295_p120 hQ hI (show (-1 : Int) ≤ x3 ∧ x3 ≤ (4095 : Int) from by omega)
    · skip
      replace c10 : ¬ (0 ≤ x3) := c10
      exact sm_295_p43L hQ hX30 (show (4 - x4).toNat ≤ M30 from by omega) hI (show (0 : Int) ≤ x1 ∧ x1 ≤ (3 : Int) from by omega) (show (-1 : Int) ≤ x3 ∧ x3 ≤ (4095 : Int) from by omega) (show (0 : Int) ≤ x4 ∧ x4 ≤ (3 : Int) from by omega) (show (0 : Int) ≤ 0 ∧ 0 ≤ (2147483647 : Int) from by omega)
theorem sm_295_p30L {Q : Int → lf_Z → Prop} {x1 : Int} {x3 : Int} {x4 : Int} {s : lf_Z} (hQ : ∀ (r : Int) (s' : lf_Z), iv_A s'.1 s'.2.2 → lf_fq [95, 104, 107, 111, 112] 1000000 true s.1 s.2.2 s'.1 s'.2.2 → ((-1) ≤ r ∧ r ≤ 4095) → Q r s') (hI : iv_A s.1 s.2.2) (bx1 : 0 ≤ x1 ∧ x1 ≤ 3) (bx3 : (-1) ≤ x3 ∧ x3 ≤ 4095) (bx4 : 0 ≤ x4 ∧ x4 ≤ 4) : fm_295_p30L Q x1 x3 x4 s := by
  intro X30 hX
  have key : ∀ (m9 : Nat) (x3 : Int) (x4 : Int) (s' : lf_Z), iv_A s'.1 s'.2.2 → lf_fq [95, 104, 107, 111, 112] 1000000 true s.1 s.2.2 s'.1 s'.2.2 → (-1) ≤ x3 ∧ x3 ≤ 4095 → 0 ≤ x4 ∧ x4 ≤ 4 → (4 - x4).toNat < m9 → X30 x3 x4 s' := by
    intro m9
    induction m9 with
    | zero => intro x3 x4 s' _ _ bx3 bx4 h9; exact absurd h9 (Nat.not_lt_zero _)
    | succ m9 ih => intro x3 x4 s' i7 f7 bx3 bx4 h9; exact hX _ _ _ (sm_295_p30 (fun r9 t9 i9 f9 => hQ r9 t9 i9 (lf_fq_tr f7 f9))   (fun x3' x4' t8 i8 f8 bx3' bx4' h8 => ih x3' x4' t8 i8 (lf_fq_tr f7 f8) bx3' bx4' (by omega)) (Nat.le_refl _)  i7  bx1 bx3 bx4  )
  exact key _ _ _ s hI lf_fq_rf bx3 bx4 (Nat.lt_succ_self _)
theorem sm_295 {a1 : Int} {a2 : Int} {Q : Int → lf_Z → Prop} {s : lf_Z} (hI : iv_A s.1 s.2.2) (ba1 : (-2147483648) ≤ a1 ∧ a1 ≤ 2147483647) (ba2 : (-2147483648) ≤ a2 ∧ a2 ≤ 2147483647) (hQ : ∀ (r : Int) (s' : lf_Z), iv_A s'.1 s'.2.2 → lf_fq [95, 104, 107, 111, 112] 1000000 true s.1 s.2.2 s'.1 s'.2.2 → ((-1) ≤ r ∧ r ≤ 4095) → Q r s') : fm_295 a1 a2 Q s := by
  unfold fm_295
  refine sm_254 hI (show (-2147483648 : Int) ≤ a1 ∧ a1 ≤ (2147483647 : Int) from by omega) (fun z22 q1 => ?_)
  refine ⟨fun c2 => ?_, fun c2 => ?_⟩
  · skip
    have dc2 := q1.2 c2
    exact hQ (-1) s hI (lf_fq_rf) (show (-1 : Int) ≤ (-1) ∧ (-1) ≤ (4095 : Int) from by omega)
  · skip
    have dc2 := q1.1 c2
    refine sm_183 hI (show (-2147483648 : Int) ≤ a2 ∧ a2 ≤ (2147483647 : Int) from by omega) (show (-1 : Int) ≤ 0 ∧ 0 ≤ (97 : Int) from by omega) (show (-1 : Int) ≤ 9 ∧ 9 ≤ (9999 : Int) from by omega) (fun z24 q3 => ?_)
    refine ⟨fun c4 => ?_, fun c4 => ?_⟩
    · skip
      have dc4 := q3.1 c4
      have hI5 : iv_A (lf_up s.1 95 30 a2) s.2.2 := iv_w95_30 hI (by omega)
      have fr6 : lf_fq [95, 104, 107, 111, 112] 1000000 true s.1 s.2.2 (lf_up s.1 95 30 a2) s.2.2 := lf_fq_up (lf_fq_rf) rfl (fun h => absurd h (by decide))
      exact sm_295_p30L (fun r9 t9 i9 f9 => hQ r9 t9 i9 (lf_fq_tr fr6 f9)) hI5 (show (0 : Int) ≤ a1 ∧ a1 ≤ (3 : Int) from by omega) (show (-1 : Int) ≤ (-1) ∧ (-1) ≤ (4095 : Int) from by omega) (show (0 : Int) ≤ 0 ∧ 0 ≤ (4 : Int) from by omega)
    · skip
      have dc4 := q3.2 c4
      exact hQ (-1) s hI (lf_fq_rf) (show (-1 : Int) ≤ (-1) ∧ (-1) ≤ (4095 : Int) from by omega)
-- fm_135 Land.minutesBetween 1 i i i
theorem sm_135 {a1 : Int} {a2 : Int} {a3 : Int} {Q : Int → lf_Z → Prop} {s : lf_Z} (hI : iv_A s.1 s.2.2) (ba1 : (-2147483648) ≤ a1 ∧ a1 ≤ 2147483647) (ba2 : (-2147483648) ≤ a2 ∧ a2 ≤ 2147483647) (ba3 : (-2147483648) ≤ a3 ∧ a3 ≤ 2147483647) (hQ : ∀ (r : Int), (((-1) ≤ r ∧ r ≤ 999) ∧ (r = -1 ∨ (0 ≤ a2 ∧ a2 < s.1 1 0 ∧ 0 ≤ a3 ∧ a3 < s.1 1 0))) → Q r s) : fm_135 a1 a2 a3 Q s := by
  unfold fm_135
  refine sm_75 hI (show (-2147483648 : Int) ≤ a2 ∧ a2 ≤ (2147483647 : Int) from by omega) (show (-2147483648 : Int) ≤ a3 ∧ a3 ≤ (2147483647 : Int) from by omega) (fun r22 q1 => ?_)
  obtain ⟨q1, q1x⟩ := q1
  have b2 : 0 ≤ s.1 1 0 ∧ s.1 1 0 ≤ 12 := iv_r1_0 hI
  replace q1x : 1000 ≤ r22 ∨ (0 ≤ a2 ∧ a2 < s.1 1 0 ∧ 0 ≤ a3 ∧ a3 < s.1 1 0) := q1x
  refine ⟨(show lf_R r22 from lf_Rof (by omega)), ?_⟩
  refine ⟨fun c3 => ?_, fun c3 => ?_⟩
  · skip
    replace c3 : 1000 ≤ r22 := c3
    exact hQ (-1) ⟨(show (-1 : Int) ≤ (-1) ∧ (-1) ≤ (999 : Int) from by omega), (show (-1) = -1 ∨ (0 ≤ a2 ∧ a2 < s.1 1 0 ∧ 0 ≤ a3 ∧ a3 < s.1 1 0) from by omega)⟩
  · skip
    replace c3 : ¬ (1000 ≤ r22) := c3
    refine sm_99 hI (show (-2147483648 : Int) ≤ a1 ∧ a1 ≤ (2147483647 : Int) from by omega) (fun z25 q4 => ?_)
    have b5 : 0 ≤ s.1 1 2 ∧ s.1 1 2 ≤ 6 := iv_r1_2 hI
    refine ⟨fun c6 => ?_, fun c6 => ?_⟩
    · skip
      have dc6 := q4.1 c6
      refine ⟨(show (0 : Int) ≤ a1 ∧ a1 < (6 : Int) from by omega), ?_⟩
      have b7 : 0 ≤ s.1 8 a1 ∧ s.1 8 a1 ≤ 1 := iv_r8 hI _
      refine ⟨(show lf_R (s.1 8 a1) from lf_Rof (by omega)), ?_⟩
      refine ⟨fun c8 => ?_, fun c8 => ?_⟩
      · skip
        replace c8 : s.1 8 a1 = 0 := c8
        exact hQ r22 ⟨(show (-1 : Int) ≤ r22 ∧ r22 ≤ (999 : Int) from by omega), (show r22 = -1 ∨ (0 ≤ a2 ∧ a2 < s.1 1 0 ∧ 0 ≤ a3 ∧ a3 < s.1 1 0) from by omega)⟩
      · skip
        replace c8 : ¬ (s.1 8 a1 = 0) := c8
        refine ⟨(show lf_R (r22 + 1) from lf_Rof (by omega)), ?_⟩
        have b9 : 0 ≤ (r22 + 1).tdiv 2 ∧ (r22 + 1).tdiv 2 ≤ 500 := lf_tdivB (p := 1) (q := 1000) (by omega) (by omega) (by decide) (by decide) (by decide)
        exact hQ ((r22 + 1).tdiv 2) ⟨(show (-1 : Int) ≤ (r22 + 1).tdiv 2 ∧ (r22 + 1).tdiv 2 ≤ (999 : Int) from by omega), (show (r22 + 1).tdiv 2 = -1 ∨ (0 ≤ a2 ∧ a2 < s.1 1 0 ∧ 0 ≤ a3 ∧ a3 < s.1 1 0) from by omega)⟩
    · skip
      have dc6 := q4.2 c6
      exact hQ (-1) ⟨(show (-1 : Int) ≤ (-1) ∧ (-1) ≤ (999 : Int) from by omega), (show (-1) = -1 ∨ (0 ≤ a2 ∧ a2 < s.1 1 0 ∧ 0 ≤ a3 ∧ a3 < s.1 1 0) from by omega)⟩
-- fm_134 ElevenBullocks.soon 0 i i
theorem sm_134 {a1 : Int} {a2 : Int} {Q : Int → lf_Z → Prop} {s : lf_Z} (hI : iv_A s.1 s.2.2) (ba1 : (-2147483648) ≤ a1 ∧ a1 ≤ 2147483647) (ba2 : (-2147483648) ≤ a2 ∧ a2 ≤ 2147483647) (hQ : ∀ (r : Int), ((-1) ≤ r ∧ r ≤ 999) → Q r s) : fm_134 a1 a2 Q s := by
  unfold fm_134
  refine sm_99 hI (show (-2147483648 : Int) ≤ a1 ∧ a1 ≤ (2147483647 : Int) from by omega) (fun z22 q1 => ?_)
  have b2 : 0 ≤ s.1 1 2 ∧ s.1 1 2 ≤ 6 := iv_r1_2 hI
  refine ⟨fun c3 => ?_, fun c3 => ?_⟩
  · skip
    have dc3 := q1.2 c3
    exact hQ (-1) (show (-1 : Int) ≤ (-1) ∧ (-1) ≤ (999 : Int) from by omega)
  · skip
    have dc3 := q1.1 c3
    refine sm_18 hI (show (-2147483648 : Int) ≤ a2 ∧ a2 ≤ (2147483647 : Int) from by omega) (fun z24 q4 => ?_)
    have b5 : 0 ≤ s.1 1 0 ∧ s.1 1 0 ≤ 12 := iv_r1_0 hI
    refine ⟨fun c6 => ?_, fun c6 => ?_⟩
    · skip
      have dc6 := q4.1 c6
      refine ⟨(show (0 : Int) ≤ a1 ∧ a1 < (6 : Int) from by omega), ?_⟩
      have b7 : (-2147483648) ≤ s.1 19 a1 ∧ s.1 19 a1 ≤ 2147483647 := iv_full hI
      refine sm_135 hI (show (-2147483648 : Int) ≤ a1 ∧ a1 ≤ (2147483647 : Int) from by omega) (show (-2147483648 : Int) ≤ s.1 19 a1 ∧ s.1 19 a1 ≤ (2147483647 : Int) from by omega) (show (-2147483648 : Int) ≤ a2 ∧ a2 ≤ (2147483647 : Int) from by omega) (fun r27 q8 => ?_)
      obtain ⟨q8, q8x⟩ := q8
      replace q8x : r27 = -1 ∨ (0 ≤ (s.1 19 a1) ∧ (s.1 19 a1) < s.1 1 0 ∧ 0 ≤ a2 ∧ a2 < s.1 1 0) := q8x
      exact hQ r27 (show (-1 : Int) ≤ r27 ∧ r27 ≤ (999 : Int) from by omega)
    · skip
      have dc6 := q4.2 c6
      exact hQ (-1) (show (-1 : Int) ≤ (-1) ∧ (-1) ≤ (999 : Int) from by omega)
-- fm_299 Model.minutesOf 95 i i
theorem sm_299 {a1 : Int} {a2 : Int} {Q : Int → lf_Z → Prop} {s : lf_Z} (hI : iv_A s.1 s.2.2) (ba1 : 0 ≤ a1 ∧ a1 ≤ 5) (ba2 : 0 ≤ a2 ∧ a2 ≤ 11) (hQ : ∀ (r : Int), (0 ≤ r ∧ r ≤ 1000) → Q r s) : fm_299 a1 a2 Q s := by
  unfold fm_299
  refine ⟨(show (0 : Int) ≤ a2 ∧ a2 < (12 : Int) from by omega), ?_⟩
  have b1 : 0 ≤ s.1 108 a2 ∧ s.1 108 a2 ≤ 1000 := iv_r108 hI _
  refine ⟨(show lf_R (s.1 108 a2) from lf_Rof (by omega)), ?_⟩
  refine ⟨fun c2 => ?_, fun c2 => ?_⟩
  · skip
    replace c2 : s.1 108 a2 < 1000 := c2
    refine sm_239d hI (show (0 : Int) ≤ a1 ∧ a1 ≤ (5 : Int) from by omega) (fun r24 q3 => ?_)
    obtain ⟨q3, q3x⟩ := q3
    replace q3x : r24 = s.1 96 (126 + 6 * a1 + 1) := q3x
    refine ⟨(show lf_R r24 from lf_Rof (by omega)), ?_⟩
    refine ⟨fun c4 => ?_, fun c4 => ?_⟩
    · skip
      replace c4 : r24 ≠ 1 := c4
      exact hQ (s.1 108 a2) (show (0 : Int) ≤ s.1 108 a2 ∧ s.1 108 a2 ≤ (1000 : Int) from by omega)
    · skip
      replace c4 : ¬ (r24 ≠ 1) := c4
      refine ⟨(show lf_R ((s.1 108 a2) + 1) from lf_Rof (by omega)), ?_⟩
      have b5 : 0 ≤ ((s.1 108 a2) + 1).tdiv 2 ∧ ((s.1 108 a2) + 1).tdiv 2 ≤ 500 := lf_tdivB (p := 1) (q := 1000) (by omega) (by omega) (by decide) (by decide) (by decide)
      exact hQ (((s.1 108 a2) + 1).tdiv 2) (show (0 : Int) ≤ ((s.1 108 a2) + 1).tdiv 2 ∧ ((s.1 108 a2) + 1).tdiv 2 ≤ (1000 : Int) from by omega)
  · skip
    replace c2 : ¬ (s.1 108 a2 < 1000) := c2
    exact hQ 1000 (show (0 : Int) ≤ 1000 ∧ 1000 ≤ (1000 : Int) from by omega)
-- fm_298 Model.soon 95 i i
theorem sm_298 {a1 : Int} {a2 : Int} {Q : Int → lf_Z → Prop} {s : lf_Z} (hI : iv_A s.1 s.2.2) (ba1 : (-2147483648) ≤ a1 ∧ a1 ≤ 2147483647) (ba2 : (-2147483648) ≤ a2 ∧ a2 ≤ 2147483647) (hQ : ∀ (r : Int) (s' : lf_Z), iv_A s'.1 s'.2.2 → lf_fq [108] 1000000 true s.1 s.2.2 s'.1 s'.2.2 → ((-1) ≤ r ∧ r ≤ 999) → Q r s') : fm_298 a1 a2 Q s := by
  unfold fm_298
  refine sm_249 hI (show (-2147483648 : Int) ≤ a1 ∧ a1 ≤ (2147483647 : Int) from by omega) (fun z22 q1 => ?_)
  have b2 : 0 ≤ s.1 96 2 ∧ s.1 96 2 ≤ 6 := iv_rd96 hI (iv_f2103129b (by omega))
  have b3 : s.1 96 2 ≤ 0 ∨ 0 < s.1 96 0 := (show s.1 96 2 ≤ 0 ∨ 0 < s.1 96 0 from iv_l96_2 hI)
  refine ⟨fun c4 => ?_, fun c4 => ?_⟩
  · skip
    have dc4 := q1.2 c4
    exact hQ (-1) s hI (lf_fq_rf) (show (-1 : Int) ≤ (-1) ∧ (-1) ≤ (999 : Int) from by omega)
  · skip
    have dc4 := q1.1 c4
    refine sm_185 hI (show (-2147483648 : Int) ≤ a2 ∧ a2 ≤ (2147483647 : Int) from by omega) (fun z24 q5 => ?_)
    have b6 : 0 ≤ s.1 96 0 ∧ s.1 96 0 ≤ 12 := iv_rd96 hI (iv_f3e1fa21c (by omega))
    refine ⟨fun c7 => ?_, fun c7 => ?_⟩
    · skip
      have dc7 := q5.1 c7
      refine sm_261 hI (show (-1 : Int) ≤ a2 ∧ a2 ≤ (11 : Int) from by omega) (show (0 : Int) ≤ 1 ∧ 1 ≤ (1 : Int) from by omega) (fun s25 hI9 fr8 ps11 => ?_)
      replace ps11 : (1 : Int) = 1 → bf_G (s25.1 96) (s25.1 108) (a2) := ps11
      have fr12 : lf_fq [108] 1000000 true s.1 s.2.2 s25.1 s25.2.2 := lf_fq_tr (lf_fq_rf) (lf_fq_wk fr8 rfl (by decide) (by decide))
      refine sm_239 hI9 (show (0 : Int) ≤ a1 ∧ a1 ≤ (5 : Int) from by omega) (fun r27 q13 => ?_)
      obtain ⟨q13, q13x⟩ := q13
      replace q13x : r27 = s25.1 96 (126 + 6 * a1 + 3) := q13x
      refine sm_299 hI9 (show (0 : Int) ≤ a1 ∧ a1 ≤ (5 : Int) from by omega) (show (0 : Int) ≤ r27 ∧ r27 ≤ (11 : Int) from by omega) (fun r29 q14 => ?_)
      refine ⟨(show lf_R r29 from lf_Rof (by omega)), ?_⟩
      refine ⟨fun c15 => ?_, fun c15 => ?_⟩
      · skip
        replace c15 : r29 < 1000 := c15
        exact hQ r29 s25 hI9 fr12 (show (-1 : Int) ≤ r29 ∧ r29 ≤ (999 : Int) from by omega)
      · skip
        replace c15 : ¬ (r29 < 1000) := c15
        exact hQ (-1) s25 hI9 fr12 (show (-1 : Int) ≤ (-1) ∧ (-1) ≤ (999 : Int) from by omega)
    · skip
      have dc7 := q5.2 c7
      exact hQ (-1) s hI (lf_fq_rf) (show (-1 : Int) ≤ (-1) ∧ (-1) ≤ (999 : Int) from by omega)
-- fm_138 java/lang/Integer.bitCount i
theorem sm_138 {a0 : Int} {Q : Int → lf_Z → Prop} {s : lf_Z} (hI : iv_A s.1 s.2.2) (ba0 : 0 ≤ a0 ∧ a0 ≤ 4095) (hQ : ∀ (r : Int), (0 ≤ r ∧ r ≤ 63) → Q r s) : fm_138 a0 Q s := by
  unfold fm_138
  have b1 : 0 ≤ lf_ushr a0 1 ∧ lf_ushr a0 1 ≤ 4095 := lf_ushrP (by omega) (by omega)
  have b2 : 0 ≤ lf_and (lf_ushr a0 1) 1431655765 ∧ lf_and (lf_ushr a0 1) 1431655765 ≤ 1431655765 := lf_andB (by omega) (by omega)
  have b3 : 0 ≤ lf_and (a0 - (lf_and (lf_ushr a0 1) 1431655765)) 858993459 ∧ lf_and (a0 - (lf_and (lf_ushr a0 1) 1431655765)) 858993459 ≤ 858993459 := lf_andB (by omega) (by omega)
  have b4 : (-2147483648) ≤ lf_ushr (a0 - (lf_and (lf_ushr a0 1) 1431655765)) 2 ∧ lf_ushr (a0 - (lf_and (lf_ushr a0 1) 1431655765)) 2 ≤ 2147483647 := lf_ushrB
  have b5 : 0 ≤ lf_and (lf_ushr (a0 - (lf_and (lf_ushr a0 1) 1431655765)) 2) 858993459 ∧ lf_and (lf_ushr (a0 - (lf_and (lf_ushr a0 1) 1431655765)) 2) 858993459 ≤ 858993459 := lf_andB (by omega) (by omega)
  have b6 : 0 ≤ lf_ushr ((lf_and (a0 - (lf_and (lf_ushr a0 1) 1431655765)) 858993459) + (lf_and (lf_ushr (a0 - (lf_and (lf_ushr a0 1) 1431655765)) 2) 858993459)) 4 ∧ lf_ushr ((lf_and (a0 - (lf_and (lf_ushr a0 1) 1431655765)) 858993459) + (lf_and (lf_ushr (a0 - (lf_and (lf_ushr a0 1) 1431655765)) 2) 858993459)) 4 ≤ 1717986918 := lf_ushrP (by omega) (by omega)
  have b7 : (-2147483648) ≤ lf_w (((lf_and (a0 - (lf_and (lf_ushr a0 1) 1431655765)) 858993459) + (lf_and (lf_ushr (a0 - (lf_and (lf_ushr a0 1) 1431655765)) 2) 858993459)) + (lf_ushr ((lf_and (a0 - (lf_and (lf_ushr a0 1) 1431655765)) 858993459) + (lf_and (lf_ushr (a0 - (lf_and (lf_ushr a0 1) 1431655765)) 2) 858993459)) 4)) ∧ lf_w (((lf_and (a0 - (lf_and (lf_ushr a0 1) 1431655765)) 858993459) + (lf_and (lf_ushr (a0 - (lf_and (lf_ushr a0 1) 1431655765)) 2) 858993459)) + (lf_ushr ((lf_and (a0 - (lf_and (lf_ushr a0 1) 1431655765)) 858993459) + (lf_and (lf_ushr (a0 - (lf_and (lf_ushr a0 1) 1431655765)) 2) 858993459)) 4)) ≤ 2147483647 := lf_wB
  have b8 : 0 ≤ lf_and (lf_w (((lf_and (a0 - (lf_and (lf_ushr a0 1) 1431655765)) 858993459) + (lf_and (lf_ushr (a0 - (lf_and (lf_ushr a0 1) 1431655765)) 2) 858993459)) + (lf_ushr ((lf_and (a0 - (lf_and (lf_ushr a0 1) 1431655765)) 858993459) + (lf_and (lf_ushr (a0 - (lf_and (lf_ushr a0 1) 1431655765)) 2) 858993459)) 4))) 252645135 ∧ lf_and (lf_w (((lf_and (a0 - (lf_and (lf_ushr a0 1) 1431655765)) 858993459) + (lf_and (lf_ushr (a0 - (lf_and (lf_ushr a0 1) 1431655765)) 2) 858993459)) + (lf_ushr ((lf_and (a0 - (lf_and (lf_ushr a0 1) 1431655765)) 858993459) + (lf_and (lf_ushr (a0 - (lf_and (lf_ushr a0 1) 1431655765)) 2) 858993459)) 4))) 252645135 ≤ 252645135 := lf_andB (by omega) (by omega)
  have b9 : 0 ≤ lf_ushr (lf_and (lf_w (((lf_and (a0 - (lf_and (lf_ushr a0 1) 1431655765)) 858993459) + (lf_and (lf_ushr (a0 - (lf_and (lf_ushr a0 1) 1431655765)) 2) 858993459)) + (lf_ushr ((lf_and (a0 - (lf_and (lf_ushr a0 1) 1431655765)) 858993459) + (lf_and (lf_ushr (a0 - (lf_and (lf_ushr a0 1) 1431655765)) 2) 858993459)) 4))) 252645135) 8 ∧ lf_ushr (lf_and (lf_w (((lf_and (a0 - (lf_and (lf_ushr a0 1) 1431655765)) 858993459) + (lf_and (lf_ushr (a0 - (lf_and (lf_ushr a0 1) 1431655765)) 2) 858993459)) + (lf_ushr ((lf_and (a0 - (lf_and (lf_ushr a0 1) 1431655765)) 858993459) + (lf_and (lf_ushr (a0 - (lf_and (lf_ushr a0 1) 1431655765)) 2) 858993459)) 4))) 252645135) 8 ≤ 252645135 := lf_ushrP (by omega) (by omega)
  have b10 : 0 ≤ lf_ushr ((lf_and (lf_w (((lf_and (a0 - (lf_and (lf_ushr a0 1) 1431655765)) 858993459) + (lf_and (lf_ushr (a0 - (lf_and (lf_ushr a0 1) 1431655765)) 2) 858993459)) + (lf_ushr ((lf_and (a0 - (lf_and (lf_ushr a0 1) 1431655765)) 858993459) + (lf_and (lf_ushr (a0 - (lf_and (lf_ushr a0 1) 1431655765)) 2) 858993459)) 4))) 252645135) + (lf_ushr (lf_and (lf_w (((lf_and (a0 - (lf_and (lf_ushr a0 1) 1431655765)) 858993459) + (lf_and (lf_ushr (a0 - (lf_and (lf_ushr a0 1) 1431655765)) 2) 858993459)) + (lf_ushr ((lf_and (a0 - (lf_and (lf_ushr a0 1) 1431655765)) 858993459) + (lf_and (lf_ushr (a0 - (lf_and (lf_ushr a0 1) 1431655765)) 2) 858993459)) 4))) 252645135) 8)) 16 ∧ lf_ushr ((lf_and (lf_w (((lf_and (a0 - (lf_and (lf_ushr a0 1) 1431655765)) 858993459) + (lf_and (lf_ushr (a0 - (lf_and (lf_ushr a0 1) 1431655765)) 2) 858993459)) + (lf_ushr ((lf_and (a0 - (lf_and (lf_ushr a0 1) 1431655765)) 858993459) + (lf_and (lf_ushr (a0 - (lf_and (lf_ushr a0 1) 1431655765)) 2) 858993459)) 4))) 252645135) + (lf_ushr (lf_and (lf_w (((lf_and (a0 - (lf_and (lf_ushr a0 1) 1431655765)) 858993459) + (lf_and (lf_ushr (a0 - (lf_and (lf_ushr a0 1) 1431655765)) 2) 858993459)) + (lf_ushr ((lf_and (a0 - (lf_and (lf_ushr a0 1) 1431655765)) 858993459) + (lf_and (lf_ushr (a0 - (lf_and (lf_ushr a0 1) 1431655765)) 2) 858993459)) 4))) 252645135) 8)) 16 ≤ 505290270 := lf_ushrP (by omega) (by omega)
  have b11 : 0 ≤ lf_and (((lf_and (lf_w (((lf_and (a0 - (lf_and (lf_ushr a0 1) 1431655765)) 858993459) + (lf_and (lf_ushr (a0 - (lf_and (lf_ushr a0 1) 1431655765)) 2) 858993459)) + (lf_ushr ((lf_and (a0 - (lf_and (lf_ushr a0 1) 1431655765)) 858993459) + (lf_and (lf_ushr (a0 - (lf_and (lf_ushr a0 1) 1431655765)) 2) 858993459)) 4))) 252645135) + (lf_ushr (lf_and (lf_w (((lf_and (a0 - (lf_and (lf_ushr a0 1) 1431655765)) 858993459) + (lf_and (lf_ushr (a0 - (lf_and (lf_ushr a0 1) 1431655765)) 2) 858993459)) + (lf_ushr ((lf_and (a0 - (lf_and (lf_ushr a0 1) 1431655765)) 858993459) + (lf_and (lf_ushr (a0 - (lf_and (lf_ushr a0 1) 1431655765)) 2) 858993459)) 4))) 252645135) 8)) + (lf_ushr ((lf_and (lf_w (((lf_and (a0 - (lf_and (lf_ushr a0 1) 1431655765)) 858993459) + (lf_and (lf_ushr (a0 - (lf_and (lf_ushr a0 1) 1431655765)) 2) 858993459)) + (lf_ushr ((lf_and (a0 - (lf_and (lf_ushr a0 1) 1431655765)) 858993459) + (lf_and (lf_ushr (a0 - (lf_and (lf_ushr a0 1) 1431655765)) 2) 858993459)) 4))) 252645135) + (lf_ushr (lf_and (lf_w (((lf_and (a0 - (lf_and (lf_ushr a0 1) 1431655765)) 858993459) + (lf_and (lf_ushr (a0 - (lf_and (lf_ushr a0 1) 1431655765)) 2) 858993459)) + (lf_ushr ((lf_and (a0 - (lf_and (lf_ushr a0 1) 1431655765)) 858993459) + (lf_and (lf_ushr (a0 - (lf_and (lf_ushr a0 1) 1431655765)) 2) 858993459)) 4))) 252645135) 8)) 16)) 63 ∧ lf_and (((lf_and (lf_w (((lf_and (a0 - (lf_and (lf_ushr a0 1) 1431655765)) 858993459) + (lf_and (lf_ushr (a0 - (lf_and (lf_ushr a0 1) 1431655765)) 2) 858993459)) + (lf_ushr ((lf_and (a0 - (lf_and (lf_ushr a0 1) 1431655765)) 858993459) + (lf_and (lf_ushr (a0 - (lf_and (lf_ushr a0 1) 1431655765)) 2) 858993459)) 4))) 252645135) + (lf_ushr (lf_and (lf_w (((lf_and (a0 - (lf_and (lf_ushr a0 1) 1431655765)) 858993459) + (lf_and (lf_ushr (a0 - (lf_and (lf_ushr a0 1) 1431655765)) 2) 858993459)) + (lf_ushr ((lf_and (a0 - (lf_and (lf_ushr a0 1) 1431655765)) 858993459) + (lf_and (lf_ushr (a0 - (lf_and (lf_ushr a0 1) 1431655765)) 2) 858993459)) 4))) 252645135) 8)) + (lf_ushr ((lf_and (lf_w (((lf_and (a0 - (lf_and (lf_ushr a0 1) 1431655765)) 858993459) + (lf_and (lf_ushr (a0 - (lf_and (lf_ushr a0 1) 1431655765)) 2) 858993459)) + (lf_ushr ((lf_and (a0 - (lf_and (lf_ushr a0 1) 1431655765)) 858993459) + (lf_and (lf_ushr (a0 - (lf_and (lf_ushr a0 1) 1431655765)) 2) 858993459)) 4))) 252645135) + (lf_ushr (lf_and (lf_w (((lf_and (a0 - (lf_and (lf_ushr a0 1) 1431655765)) 858993459) + (lf_and (lf_ushr (a0 - (lf_and (lf_ushr a0 1) 1431655765)) 2) 858993459)) + (lf_ushr ((lf_and (a0 - (lf_and (lf_ushr a0 1) 1431655765)) 858993459) + (lf_and (lf_ushr (a0 - (lf_and (lf_ushr a0 1) 1431655765)) 2) 858993459)) 4))) 252645135) 8)) 16)) 63 ≤ 63 := lf_andB (by omega) (by omega)
  exact hQ (lf_and (((lf_and (lf_w (((lf_and (a0 - (lf_and (lf_ushr a0 1) 1431655765)) 858993459) + (lf_and (lf_ushr (a0 - (lf_and (lf_ushr a0 1) 1431655765)) 2) 858993459)) + (lf_ushr ((lf_and (a0 - (lf_and (lf_ushr a0 1) 1431655765)) 858993459) + (lf_and (lf_ushr (a0 - (lf_and (lf_ushr a0 1) 1431655765)) 2) 858993459)) 4))) 252645135) + (lf_ushr (lf_and (lf_w (((lf_and (a0 - (lf_and (lf_ushr a0 1) 1431655765)) 858993459) + (lf_and (lf_ushr (a0 - (lf_and (lf_ushr a0 1) 1431655765)) 2) 858993459)) + (lf_ushr ((lf_and (a0 - (lf_and (lf_ushr a0 1) 1431655765)) 858993459) + (lf_and (lf_ushr (a0 - (lf_and (lf_ushr a0 1) 1431655765)) 2) 858993459)) 4))) 252645135) 8)) + (lf_ushr ((lf_and (lf_w (((lf_and (a0 - (lf_and (lf_ushr a0 1) 1431655765)) 858993459) + (lf_and (lf_ushr (a0 - (lf_and (lf_ushr a0 1) 1431655765)) 2) 858993459)) + (lf_ushr ((lf_and (a0 - (lf_and (lf_ushr a0 1) 1431655765)) 858993459) + (lf_and (lf_ushr (a0 - (lf_and (lf_ushr a0 1) 1431655765)) 2) 858993459)) 4))) 252645135) + (lf_ushr (lf_and (lf_w (((lf_and (a0 - (lf_and (lf_ushr a0 1) 1431655765)) 858993459) + (lf_and (lf_ushr (a0 - (lf_and (lf_ushr a0 1) 1431655765)) 2) 858993459)) + (lf_ushr ((lf_and (a0 - (lf_and (lf_ushr a0 1) 1431655765)) 858993459) + (lf_and (lf_ushr (a0 - (lf_and (lf_ushr a0 1) 1431655765)) 2) 858993459)) 4))) 252645135) 8)) 16)) 63) (show (0 : Int) ≤ lf_and (((lf_and (lf_w (((lf_and (a0 - (lf_and (lf_ushr a0 1) 1431655765)) 858993459) + (lf_and (lf_ushr (a0 - (lf_and (lf_ushr a0 1) 1431655765)) 2) 858993459)) + (lf_ushr ((lf_and (a0 - (lf_and (lf_ushr a0 1) 1431655765)) 858993459) + (lf_and (lf_ushr (a0 - (lf_and (lf_ushr a0 1) 1431655765)) 2) 858993459)) 4))) 252645135) + (lf_ushr (lf_and (lf_w (((lf_and (a0 - (lf_and (lf_ushr a0 1) 1431655765)) 858993459) + (lf_and (lf_ushr (a0 - (lf_and (lf_ushr a0 1) 1431655765)) 2) 858993459)) + (lf_ushr ((lf_and (a0 - (lf_and (lf_ushr a0 1) 1431655765)) 858993459) + (lf_and (lf_ushr (a0 - (lf_and (lf_ushr a0 1) 1431655765)) 2) 858993459)) 4))) 252645135) 8)) + (lf_ushr ((lf_and (lf_w (((lf_and (a0 - (lf_and (lf_ushr a0 1) 1431655765)) 858993459) + (lf_and (lf_ushr (a0 - (lf_and (lf_ushr a0 1) 1431655765)) 2) 858993459)) + (lf_ushr ((lf_and (a0 - (lf_and (lf_ushr a0 1) 1431655765)) 858993459) + (lf_and (lf_ushr (a0 - (lf_and (lf_ushr a0 1) 1431655765)) 2) 858993459)) 4))) 252645135) + (lf_ushr (lf_and (lf_w (((lf_and (a0 - (lf_and (lf_ushr a0 1) 1431655765)) 858993459) + (lf_and (lf_ushr (a0 - (lf_and (lf_ushr a0 1) 1431655765)) 2) 858993459)) + (lf_ushr ((lf_and (a0 - (lf_and (lf_ushr a0 1) 1431655765)) 858993459) + (lf_and (lf_ushr (a0 - (lf_and (lf_ushr a0 1) 1431655765)) 2) 858993459)) 4))) 252645135) 8)) 16)) 63 ∧ lf_and (((lf_and (lf_w (((lf_and (a0 - (lf_and (lf_ushr a0 1) 1431655765)) 858993459) + (lf_and (lf_ushr (a0 - (lf_and (lf_ushr a0 1) 1431655765)) 2) 858993459)) + (lf_ushr ((lf_and (a0 - (lf_and (lf_ushr a0 1) 1431655765)) 858993459) + (lf_and (lf_ushr (a0 - (lf_and (lf_ushr a0 1) 1431655765)) 2) 858993459)) 4))) 252645135) + (lf_ushr (lf_and (lf_w (((lf_and (a0 - (lf_and (lf_ushr a0 1) 1431655765)) 858993459) + (lf_and (lf_ushr (a0 - (lf_and (lf_ushr a0 1) 1431655765)) 2) 858993459)) + (lf_ushr ((lf_and (a0 - (lf_and (lf_ushr a0 1) 1431655765)) 858993459) + (lf_and (lf_ushr (a0 - (lf_and (lf_ushr a0 1) 1431655765)) 2) 858993459)) 4))) 252645135) 8)) + (lf_ushr ((lf_and (lf_w (((lf_and (a0 - (lf_and (lf_ushr a0 1) 1431655765)) 858993459) + (lf_and (lf_ushr (a0 - (lf_and (lf_ushr a0 1) 1431655765)) 2) 858993459)) + (lf_ushr ((lf_and (a0 - (lf_and (lf_ushr a0 1) 1431655765)) 858993459) + (lf_and (lf_ushr (a0 - (lf_and (lf_ushr a0 1) 1431655765)) 2) 858993459)) 4))) 252645135) + (lf_ushr (lf_and (lf_w (((lf_and (a0 - (lf_and (lf_ushr a0 1) 1431655765)) 858993459) + (lf_and (lf_ushr (a0 - (lf_and (lf_ushr a0 1) 1431655765)) 2) 858993459)) + (lf_ushr ((lf_and (a0 - (lf_and (lf_ushr a0 1) 1431655765)) 858993459) + (lf_and (lf_ushr (a0 - (lf_and (lf_ushr a0 1) 1431655765)) 2) 858993459)) 4))) 252645135) 8)) 16)) 63 ≤ (63 : Int) from by omega)
-- fm_140 Errands.keepChoice 74 i
theorem sm_140 {a1 : Int} {Q : lf_Z → Prop} {s : lf_Z} (hI : iv_A s.1 s.2.2) (ba1 : (-2147483648) ≤ a1 ∧ a1 ≤ 2147483647) (hQ : ∀  (s' : lf_Z), iv_A s'.1 s'.2.2 → lf_fq [74, 77] 1000000 true s.1 s.2.2 s'.1 s'.2.2 → Q  s') : fm_140 a1 Q s := by
  unfold fm_140
  have hI1 : iv_A (lf_up s.1 74 6 a1) s.2.2 := iv_w74_6 hI (by omega)
  have fr2 : lf_fq [74, 77] 1000000 true s.1 s.2.2 (lf_up s.1 74 6 a1) s.2.2 := lf_fq_up (lf_fq_rf) rfl (fun h => absurd h (by decide))
  have hI3 : iv_A (lf_cp (lf_up s.1 74 6 a1) 76 77 0 0 6) s.2.2 := iv_cp76_77 hI1
  have fr4 : lf_fq [74, 77] 1000000 true s.1 s.2.2 (lf_cp (lf_up s.1 74 6 a1) 76 77 0 0 6) s.2.2 := lf_fq_cp fr2 rfl (by decide)
  exact hQ (lf_cp (lf_up s.1 74 6 a1) 76 77 0 0 6, s.2.1, s.2.2) hI3 fr4
-- fm_139 Errands.choosePerson 74 i i i
theorem sm_139_p122 {R139 : Int → Int → Int → (lf_Z → Prop) → lf_Z → Prop} {X34 : Int → lf_Z → Prop} {Q : lf_Z → Prop} {x1 : Int} {x2 : Int} {x3 : Int} {x4 : Int} {s : lf_Z} {MR : Nat} (hQ : ∀  (s' : lf_Z), iv_A s'.1 s'.2.2 → lf_fq [74, 76, 77] 1000000 true s.1 s.2.2 s'.1 s'.2.2 → Q  s') (hR139 : ∀ {a1 a2 a3 : Int} {Q : lf_Z → Prop} {s : lf_Z}, (7 - a1).toNat < MR → iv_A s.1 s.2.2 → 0 ≤ a1 ∧ a1 ≤ 6 → 0 ≤ a2 ∧ a2 ≤ 63 → 0 ≤ a3 ∧ a3 ≤ 999 → (∀  (s' : lf_Z), iv_A s'.1 s'.2.2 → lf_fq [74, 76, 77] 1000000 true s.1 s.2.2 s'.1 s'.2.2 → Q  s') → R139 a1 a2 a3 Q s) {M34 : Nat} (hX34 : ∀ (x4 : Int) (s' : lf_Z), iv_A s'.1 s'.2.2 → lf_fq [74, 76, 77] 1000000 true s.1 s.2.2 s'.1 s'.2.2 → 0 ≤ x4 ∧ x4 ≤ 6 → (6 - x4).toNat < M34 → X34 x4 s') (hM34 : (6 - x4).toNat ≤ M34) (hMR : (7 - x1).toNat ≤ MR) (hI : iv_A s.1 s.2.2) (bx1 : 0 ≤ x1 ∧ x1 ≤ 5) (bx2 : 0 ≤ x2 ∧ x2 ≤ 63) (bx3 : 0 ≤ x3 ∧ x3 ≤ 999) (bx4 : 0 ≤ x4 ∧ x4 ≤ 5) : fm_139_p122 R139 X34 Q x1 x2 x3 x4 s := by
  unfold fm_139_p122
  exact hX34 (x4 + 1) s hI (lf_fq_rf) (show (0 : Int) ≤ x4 + 1 ∧ x4 + 1 ≤ (6 : Int) from by omega) (show (6 - (x4 + 1)).toNat < M34 from by omega)
theorem sm_139_p85 {R139 : Int → Int → Int → (lf_Z → Prop) → lf_Z → Prop} {X34 : Int → lf_Z → Prop} {Q : lf_Z → Prop} {x1 : Int} {x2 : Int} {x3 : Int} {x4 : Int} {y0 : Int} {s : lf_Z} {MR : Nat} (hQ : ∀  (s' : lf_Z), iv_A s'.1 s'.2.2 → lf_fq [74, 76, 77] 1000000 true s.1 s.2.2 s'.1 s'.2.2 → Q  s') (hR139 : ∀ {a1 a2 a3 : Int} {Q : lf_Z → Prop} {s : lf_Z}, (7 - a1).toNat < MR → iv_A s.1 s.2.2 → 0 ≤ a1 ∧ a1 ≤ 6 → 0 ≤ a2 ∧ a2 ≤ 63 → 0 ≤ a3 ∧ a3 ≤ 999 → (∀  (s' : lf_Z), iv_A s'.1 s'.2.2 → lf_fq [74, 76, 77] 1000000 true s.1 s.2.2 s'.1 s'.2.2 → Q  s') → R139 a1 a2 a3 Q s) {M34 : Nat} (hX34 : ∀ (x4 : Int) (s' : lf_Z), iv_A s'.1 s'.2.2 → lf_fq [74, 76, 77] 1000000 true s.1 s.2.2 s'.1 s'.2.2 → 0 ≤ x4 ∧ x4 ≤ 6 → (6 - x4).toNat < M34 → X34 x4 s') (hM34 : (6 - x4).toNat ≤ M34) (hMR : (7 - x1).toNat ≤ MR) (hI : iv_A s.1 s.2.2) (bx1 : 0 ≤ x1 ∧ x1 ≤ 5) (bx2 : 0 ≤ x2 ∧ x2 ≤ 63) (bx3 : 0 ≤ x3 ∧ x3 ≤ 999) (bx4 : 0 ≤ x4 ∧ x4 ≤ 5) (by0 : (-1) ≤ y0 ∧ y0 ≤ 999) : fm_139_p85 R139 X34 Q x1 x2 x3 x4 y0 s := by
  unfold fm_139_p85
  refine ⟨(show lf_R y0 from lf_Rof (by omega)), ?_⟩
  refine ⟨fun c10 => ?_, fun c10 => ?_⟩
  · skip
    replace c10 : y0 = (-1) := c10
    exact sm_139_p122 hQ hR139 hX34 (show (6 - x4).toNat ≤ M34 from by omega) (show (7 - x1).toNat ≤ MR from by omega) hI (show (0 : Int) ≤ x1 ∧ x1 ≤ (5 : Int) from by omega) (show (0 : Int) ≤ x2 ∧ x2 ≤ (63 : Int) from by omega) (show (0 : Int) ≤ x3 ∧ x3 ≤ (999 : Int) from by omega) (show (0 : Int) ≤ x4 ∧ x4 ≤ (5 : Int) from by omega)
  · skip
    replace c10 : ¬ (y0 = (-1)) := c10
    refine ⟨(show (0 : Int) ≤ x1 ∧ x1 < (6 : Int) from by omega), ?_⟩
    have hI11 : iv_A (lf_up s.1 76 x1 x4) s.2.2 := iv_w76 hI (by omega)
    have fr12 : lf_fq [74, 76, 77] 1000000 true s.1 s.2.2 (lf_up s.1 76 x1 x4) s.2.2 := lf_fq_up (lf_fq_rf) rfl (fun h => absurd h (by decide))
    have b13 : 1 ≤ lf_shl 1 x4 ∧ lf_shl 1 x4 ≤ 32 := lf_shl1 (m := 5) (by omega) (by omega) (by decide)
    have b14 : (-2147483648) ≤ lf_xor (lf_shl 1 x4) (-1) ∧ lf_xor (lf_shl 1 x4) (-1) ≤ 2147483647 := lf_xorB
    have b15 : 0 ≤ lf_and x2 (lf_xor (lf_shl 1 x4) (-1)) ∧ lf_and x2 (lf_xor (lf_shl 1 x4) (-1)) ≤ 63 := lf_andBl (by omega) (by omega)
    refine ⟨(show lf_R x3 from lf_Rof (by omega)), ?_⟩
    refine hR139 (show (7 - (x1 + 1)).toNat < MR from by omega) hI11 (show (0 : Int) ≤ x1 + 1 ∧ x1 + 1 ≤ (6 : Int) from by omega) (show (0 : Int) ≤ lf_and x2 (lf_xor (lf_shl 1 x4) (-1)) ∧ lf_and x2 (lf_xor (lf_shl 1 x4) (-1)) ≤ (63 : Int) from by omega) (show (0 : Int) ≤ max x3 y0 ∧ max x3 y0 ≤ (999 : Int) from by omega) (fun s29 hI17 fr16 => ?_)
    have fr19 : lf_fq [74, 76, 77] 1000000 true s.1 s.2.2 s29.1 s29.2.2 := lf_fq_tr fr12 (lf_fq_wk fr16 rfl (by decide) (by decide))
    exact sm_139_p122 (fun t9 i9 f9 => hQ t9 i9 (lf_fq_tr fr19 f9)) hR139 (fun p0 t9 i9 f9 => hX34 p0 t9 i9 (lf_fq_tr fr19 f9)) (show (6 - x4).toNat ≤ M34 from by omega) (show (7 - x1).toNat ≤ MR from by omega) hI17 (show (0 : Int) ≤ x1 ∧ x1 ≤ (5 : Int) from by omega) (show (0 : Int) ≤ x2 ∧ x2 ≤ (63 : Int) from by omega) (show (0 : Int) ≤ x3 ∧ x3 ≤ (999 : Int) from by omega) (show (0 : Int) ≤ x4 ∧ x4 ≤ (5 : Int) from by omega)
theorem sm_139_p34 {R139 : Int → Int → Int → (lf_Z → Prop) → lf_Z → Prop} {X34 : Int → lf_Z → Prop} {Q : lf_Z → Prop} {x1 : Int} {x2 : Int} {x3 : Int} {x4 : Int} {s : lf_Z} {MR : Nat} (hQ : ∀  (s' : lf_Z), iv_A s'.1 s'.2.2 → lf_fq [74, 76, 77] 1000000 true s.1 s.2.2 s'.1 s'.2.2 → Q  s') (hR139 : ∀ {a1 a2 a3 : Int} {Q : lf_Z → Prop} {s : lf_Z}, (7 - a1).toNat < MR → iv_A s.1 s.2.2 → 0 ≤ a1 ∧ a1 ≤ 6 → 0 ≤ a2 ∧ a2 ≤ 63 → 0 ≤ a3 ∧ a3 ≤ 999 → (∀  (s' : lf_Z), iv_A s'.1 s'.2.2 → lf_fq [74, 76, 77] 1000000 true s.1 s.2.2 s'.1 s'.2.2 → Q  s') → R139 a1 a2 a3 Q s) {M34 : Nat} (hX34 : ∀ (x4 : Int) (s' : lf_Z), iv_A s'.1 s'.2.2 → lf_fq [74, 76, 77] 1000000 true s.1 s.2.2 s'.1 s'.2.2 → 0 ≤ x4 ∧ x4 ≤ 6 → (6 - x4).toNat < M34 → X34 x4 s') (hM34 : (6 - x4).toNat ≤ M34) (hMR : (7 - x1).toNat ≤ MR) (hI : iv_A s.1 s.2.2) (bx1 : 0 ≤ x1 ∧ x1 ≤ 5) (bx2 : 0 ≤ x2 ∧ x2 ≤ 63) (bx3 : 0 ≤ x3 ∧ x3 ≤ 999) (bx4 : 0 ≤ x4 ∧ x4 ≤ 6) : fm_139_p34 R139 Q x1 x2 x3 X34 x4 s := by
  unfold fm_139_p34
  have b5 : 0 ≤ s.1 1 2 ∧ s.1 1 2 ≤ 6 := iv_r1_2 hI
  refine ⟨(show lf_R x4 from lf_Rof (by omega)), ?_⟩
  refine ⟨(show lf_R (s.1 1 2) from lf_Rof (by omega)), ?_⟩
  refine ⟨fun c6 => ?_, fun c6 => ?_⟩
  · skip
    replace c6 : s.1 1 2 ≤ x4 := c6
    exact hQ s hI (lf_fq_rf)
  · skip
    replace c6 : ¬ (s.1 1 2 ≤ x4) := c6
    have b7 : 0 ≤ lf_shr x2 x4 ∧ lf_shr x2 x4 ≤ 63 := lf_shrP (by omega) (by omega)
    have b8 : 0 ≤ lf_and (lf_shr x2 x4) 1 ∧ lf_and (lf_shr x2 x4) 1 ≤ 1 := lf_andB (by omega) (by omega)
    refine ⟨fun c9 => ?_, fun c9 => ?_⟩
    · skip
      replace c9 : lf_and (lf_shr x2 x4) 1 ≠ 1 := c9
      exact sm_139_p85 hQ hR139 hX34 (show (6 - x4).toNat ≤ M34 from by omega) (show (7 - x1).toNat ≤ MR from by omega) hI (show (0 : Int) ≤ x1 ∧ x1 ≤ (5 : Int) from by omega) (show (0 : Int) ≤ x2 ∧ x2 ≤ (63 : Int) from by omega) (show (0 : Int) ≤ x3 ∧ x3 ≤ (999 : Int) from by omega) (show (0 : Int) ≤ x4 ∧ x4 ≤ (5 : Int) from by omega) (show (-1 : Int) ≤ (-1) ∧ (-1) ≤ (999 : Int) from by omega)
    · skip
      replace c9 : ¬ (lf_and (lf_shr x2 x4) 1 ≠ 1) := c9
      refine ⟨(show (0 : Int) ≤ x4 ∧ x4 < (6 : Int) from by omega), ?_⟩
      have b20 : (-2147483648) ≤ s.1 19 x4 ∧ s.1 19 x4 ≤ 2147483647 := iv_full hI
      refine ⟨(show (0 : Int) ≤ x1 ∧ x1 < (6 : Int) from by omega), ?_⟩
      have b21 : (-2147483648) ≤ s.1 75 x1 ∧ s.1 75 x1 ≤ 2147483647 := iv_full hI
      refine sm_135 hI (show (-2147483648 : Int) ≤ x4 ∧ x4 ≤ (2147483647 : Int) from by omega) (show (-2147483648 : Int) ≤ s.1 19 x4 ∧ s.1 19 x4 ≤ (2147483647 : Int) from by omega) (show (-2147483648 : Int) ≤ s.1 75 x1 ∧ s.1 75 x1 ≤ (2147483647 : Int) from by omega) (fun r33 q22 => ?_)
      obtain ⟨q22, q22x⟩ := q22
      have b23 : 0 ≤ s.1 1 0 ∧ s.1 1 0 ≤ 12 := iv_r1_0 hI
      replace q22x : r33 = -1 ∨ (0 ≤ (s.1 19 x4) ∧ (s.1 19 x4) < s.1 1 0 ∧ 0 ≤ (s.1 75 x1) ∧ (s.1 75 x1) < s.1 1 0) := q22x
      exact sm_139_p85 hQ hR139 hX34 (show (6 - x4).toNat ≤ M34 from by omega) (show (7 - x1).toNat ≤ MR from by omega) hI (show (0 : Int) ≤ x1 ∧ x1 ≤ (5 : Int) from by omega) (show (0 : Int) ≤ x2 ∧ x2 ≤ (63 : Int) from by omega) (show (0 : Int) ≤ x3 ∧ x3 ≤ (999 : Int) from by omega) (show (0 : Int) ≤ x4 ∧ x4 ≤ (5 : Int) from by omega) (show (-1 : Int) ≤ r33 ∧ r33 ≤ (999 : Int) from by omega)
theorem sm_139_p34L {R139 : Int → Int → Int → (lf_Z → Prop) → lf_Z → Prop} {Q : lf_Z → Prop} {x1 : Int} {x2 : Int} {x3 : Int} {x4 : Int} {s : lf_Z} {MR : Nat} (hQ : ∀  (s' : lf_Z), iv_A s'.1 s'.2.2 → lf_fq [74, 76, 77] 1000000 true s.1 s.2.2 s'.1 s'.2.2 → Q  s') (hR139 : ∀ {a1 a2 a3 : Int} {Q : lf_Z → Prop} {s : lf_Z}, (7 - a1).toNat < MR → iv_A s.1 s.2.2 → 0 ≤ a1 ∧ a1 ≤ 6 → 0 ≤ a2 ∧ a2 ≤ 63 → 0 ≤ a3 ∧ a3 ≤ 999 → (∀  (s' : lf_Z), iv_A s'.1 s'.2.2 → lf_fq [74, 76, 77] 1000000 true s.1 s.2.2 s'.1 s'.2.2 → Q  s') → R139 a1 a2 a3 Q s) (hMR : (7 - x1).toNat ≤ MR) (hI : iv_A s.1 s.2.2) (bx1 : 0 ≤ x1 ∧ x1 ≤ 5) (bx2 : 0 ≤ x2 ∧ x2 ≤ 63) (bx3 : 0 ≤ x3 ∧ x3 ≤ 999) (bx4 : 0 ≤ x4 ∧ x4 ≤ 6) : fm_139_p34L R139 Q x1 x2 x3 x4 s := by
  intro X34 hX
  have key : ∀ (m9 : Nat) (x4 : Int) (s' : lf_Z), iv_A s'.1 s'.2.2 → lf_fq [74, 76, 77] 1000000 true s.1 s.2.2 s'.1 s'.2.2 → 0 ≤ x4 ∧ x4 ≤ 6 → (6 - x4).toNat < m9 → X34 x4 s' := by
    intro m9
    induction m9 with
    | zero => intro x4 s' _ _ bx4 h9; exact absurd h9 (Nat.not_lt_zero _)
    | succ m9 ih => intro x4 s' i7 f7 bx4 h9; exact hX _ _ (sm_139_p34 (fun t9 i9 f9 => hQ t9 i9 (lf_fq_tr f7 f9)) hR139  (fun x4' t8 i8 f8 bx4' h8 => ih x4' t8 i8 (lf_fq_tr f7 f8) bx4' (by omega)) (Nat.le_refl _) hMR i7  bx1 bx2 bx3 bx4  )
  exact key _ _ s hI lf_fq_rf bx4 (Nat.lt_succ_self _)
theorem sm_139_p17 {R139 : Int → Int → Int → (lf_Z → Prop) → lf_Z → Prop} {Q : lf_Z → Prop} {x1 : Int} {x2 : Int} {x3 : Int} {s : lf_Z} {MR : Nat} (hQ : ∀  (s' : lf_Z), iv_A s'.1 s'.2.2 → lf_fq [74, 76, 77] 1000000 true s.1 s.2.2 s'.1 s'.2.2 → Q  s') (hR139 : ∀ {a1 a2 a3 : Int} {Q : lf_Z → Prop} {s : lf_Z}, (7 - a1).toNat < MR → iv_A s.1 s.2.2 → 0 ≤ a1 ∧ a1 ≤ 6 → 0 ≤ a2 ∧ a2 ≤ 63 → 0 ≤ a3 ∧ a3 ≤ 999 → (∀  (s' : lf_Z), iv_A s'.1 s'.2.2 → lf_fq [74, 76, 77] 1000000 true s.1 s.2.2 s'.1 s'.2.2 → Q  s') → R139 a1 a2 a3 Q s) (hMR : (7 - x1).toNat ≤ MR) (hI : iv_A s.1 s.2.2) (bx1 : 0 ≤ x1 ∧ x1 ≤ 6) (bx2 : 0 ≤ x2 ∧ x2 ≤ 63) (bx3 : 0 ≤ x3 ∧ x3 ≤ 999) : fm_139_p17 R139 Q x1 x2 x3 s := by
  unfold fm_139_p17
  have b3 : 0 ≤ s.1 74 5 ∧ s.1 74 5 ≤ 6 := iv_r74_5 hI
  refine ⟨(show lf_R x1 from lf_Rof (by omega)), ?_⟩
  refine ⟨(show lf_R (s.1 74 5) from lf_Rof (by omega)), ?_⟩
  refine ⟨fun c4 => ?_, fun c4 => ?_⟩
  · skip
    replace c4 : x1 < s.1 74 5 := c4
    exact sm_139_p34L hQ hR139 (show (7 - x1).toNat ≤ MR from by omega) hI (show (0 : Int) ≤ x1 ∧ x1 ≤ (5 : Int) from by omega) (show (0 : Int) ≤ x2 ∧ x2 ≤ (63 : Int) from by omega) (show (0 : Int) ≤ x3 ∧ x3 ≤ (999 : Int) from by omega) (show (0 : Int) ≤ 0 ∧ 0 ≤ (6 : Int) from by omega)
  · skip
    replace c4 : ¬ (x1 < s.1 74 5) := c4
    refine sm_140 hI (show (-2147483648 : Int) ≤ x3 ∧ x3 ≤ (2147483647 : Int) from by omega) (fun s34 hI25 fr24 => ?_)
    have fr27 : lf_fq [74, 76, 77] 1000000 true s.1 s.2.2 s34.1 s34.2.2 := lf_fq_tr (lf_fq_rf) (lf_fq_wk fr24 rfl (by decide) (by decide))
    exact hQ s34 hI25 fr27
theorem sm_139 {R139 : Int → Int → Int → (lf_Z → Prop) → lf_Z → Prop} {a1 : Int} {a2 : Int} {a3 : Int} {Q : lf_Z → Prop} {s : lf_Z} {MR : Nat} (hR139 : ∀ {a1 a2 a3 : Int} {Q : lf_Z → Prop} {s : lf_Z}, (7 - a1).toNat < MR → iv_A s.1 s.2.2 → 0 ≤ a1 ∧ a1 ≤ 6 → 0 ≤ a2 ∧ a2 ≤ 63 → 0 ≤ a3 ∧ a3 ≤ 999 → (∀  (s' : lf_Z), iv_A s'.1 s'.2.2 → lf_fq [74, 76, 77] 1000000 true s.1 s.2.2 s'.1 s'.2.2 → Q  s') → R139 a1 a2 a3 Q s) (hMR : (7 - a1).toNat ≤ MR) (hI : iv_A s.1 s.2.2) (ba1 : 0 ≤ a1 ∧ a1 ≤ 6) (ba2 : 0 ≤ a2 ∧ a2 ≤ 63) (ba3 : 0 ≤ a3 ∧ a3 ≤ 999) (hQ : ∀  (s' : lf_Z), iv_A s'.1 s'.2.2 → lf_fq [74, 76, 77] 1000000 true s.1 s.2.2 s'.1 s'.2.2 → Q  s') : fm_139 R139 a1 a2 a3 Q s := by
  unfold fm_139
  have b1 : (-2147483648) ≤ s.1 74 6 ∧ s.1 74 6 ≤ 2147483647 := iv_full hI
  refine ⟨(show lf_R (s.1 74 6) from lf_Rof (by omega)), ?_⟩
  refine ⟨fun c2 => ?_, fun c2 => ?_⟩
  · skip
    replace c2 : s.1 74 6 = (-1) := c2
    exact sm_139_p17 hQ hR139 (show (7 - a1).toNat ≤ MR from by omega) hI (show (0 : Int) ≤ a1 ∧ a1 ≤ (6 : Int) from by omega) (show (0 : Int) ≤ a2 ∧ a2 ≤ (63 : Int) from by omega) (show (0 : Int) ≤ a3 ∧ a3 ≤ (999 : Int) from by omega)
  · skip
    replace c2 : ¬ (s.1 74 6 = (-1)) := c2
    refine ⟨(show lf_R a3 from lf_Rof (by omega)), ?_⟩
    refine ⟨fun c28 => ?_, fun c28 => ?_⟩
    · skip
      replace c28 : a3 < s.1 74 6 := c28
      exact sm_139_p17 hQ hR139 (show (7 - a1).toNat ≤ MR from by omega) hI (show (0 : Int) ≤ a1 ∧ a1 ≤ (6 : Int) from by omega) (show (0 : Int) ≤ a2 ∧ a2 ≤ (63 : Int) from by omega) (show (0 : Int) ≤ a3 ∧ a3 ≤ (999 : Int) from by omega)
    · skip
      replace c28 : ¬ (a3 < s.1 74 6) := c28
      exact hQ s hI (lf_fq_rf)
-- cl_139 cluster
theorem sc_139T : ∀ n : Nat, (∀ {a1 a2 a3 : Int} {Q : lf_Z → Prop} {s : lf_Z}, (7 - a1).toNat < n → iv_A s.1 s.2.2 → 0 ≤ a1 ∧ a1 ≤ 6 → 0 ≤ a2 ∧ a2 ≤ 63 → 0 ≤ a3 ∧ a3 ≤ 999 → (∀  (s' : lf_Z), iv_A s'.1 s'.2.2 → lf_fq [74, 76, 77] 1000000 true s.1 s.2.2 s'.1 s'.2.2 → Q  s') → (fc_139T n) a1 a2 a3 Q s)
  | 0 => by intros; omega
  | n + 1 => fun hm hI b1 b2 b3 hQ => sm_139 (MR := n) (sc_139T n) (by omega) hI b1 b2 b3 hQ
theorem sc_139 {a1 : Int} {a2 : Int} {a3 : Int} {Q : lf_Z → Prop} {s : lf_Z} (hI : iv_A s.1 s.2.2) (ba1 : 0 ≤ a1 ∧ a1 ≤ 6) (ba2 : 0 ≤ a2 ∧ a2 ≤ 63) (ba3 : 0 ≤ a3 ∧ a3 ≤ 999) (hQ : ∀  (s' : lf_Z), iv_A s'.1 s'.2.2 → lf_fq [74, 76, 77] 1000000 true s.1 s.2.2 s'.1 s'.2.2 → Q  s') : fc_139 a1 a2 a3 Q s := (sc_139T 200) (by omega) hI ba1 ba2 ba3 hQ
-- fm_137 Errands.sendAll 74 i i
theorem sm_137_p79 {X30 : Int → lf_Z → Prop} {Q : Int → lf_Z → Prop} {x1 : Int} {x2 : Int} {x3 : Int} {s : lf_Z} (hQ : ∀ (r : Int) (s' : lf_Z), iv_A s'.1 s'.2.2 → lf_fq [74, 75, 76, 77] 1000000 true s.1 s.2.2 s'.1 s'.2.2 → ((-2147483648) ≤ r ∧ r ≤ 2147483647) → Q r s') {M30 : Nat} (hX30 : ∀ (x3 : Int) (s' : lf_Z), iv_A s'.1 s'.2.2 → lf_fq [74, 75, 76, 77] 1000000 true s.1 s.2.2 s'.1 s'.2.2 → 0 ≤ x3 ∧ x3 ≤ 12 → (12 - x3).toNat < M30 → X30 x3 s') (hM30 : (12 - x3).toNat ≤ M30) (hI : iv_A s.1 s.2.2) (bx1 : 0 ≤ x1 ∧ x1 ≤ 63) (bx2 : 1 ≤ x2 ∧ x2 ≤ 4095) (bx3 : 0 ≤ x3 ∧ x3 ≤ 11) : fm_137_p79 X30 Q x1 x2 x3 s := by
  unfold fm_137_p79
  exact hX30 (x3 + 1) s hI (lf_fq_rf) (show (0 : Int) ≤ x3 + 1 ∧ x3 + 1 ≤ (12 : Int) from by omega) (show (12 - (x3 + 1)).toNat < M30 from by omega)
theorem sm_137_p30 {X30 : Int → lf_Z → Prop} {Q : Int → lf_Z → Prop} {x1 : Int} {x2 : Int} {x3 : Int} {s : lf_Z} (hQ : ∀ (r : Int) (s' : lf_Z), iv_A s'.1 s'.2.2 → lf_fq [74, 75, 76, 77] 1000000 true s.1 s.2.2 s'.1 s'.2.2 → ((-2147483648) ≤ r ∧ r ≤ 2147483647) → Q r s') {M30 : Nat} (hX30 : ∀ (x3 : Int) (s' : lf_Z), iv_A s'.1 s'.2.2 → lf_fq [74, 75, 76, 77] 1000000 true s.1 s.2.2 s'.1 s'.2.2 → 0 ≤ x3 ∧ x3 ≤ 12 → (12 - x3).toNat < M30 → X30 x3 s') (hM30 : (12 - x3).toNat ≤ M30) (hI : iv_A s.1 s.2.2) (bx1 : 0 ≤ x1 ∧ x1 ≤ 63) (bx2 : 1 ≤ x2 ∧ x2 ≤ 4095) (bx3 : 0 ≤ x3 ∧ x3 ≤ 12) : fm_137_p30 Q x1 x2 X30 x3 s := by
  unfold fm_137_p30
  have b8 : 0 ≤ s.1 1 0 ∧ s.1 1 0 ≤ 12 := iv_r1_0 hI
  refine ⟨(show lf_R x3 from lf_Rof (by omega)), ?_⟩
  refine ⟨(show lf_R (s.1 1 0) from lf_Rof (by omega)), ?_⟩
  refine ⟨fun c9 => ?_, fun c9 => ?_⟩
  · skip
    replace c9 : s.1 1 0 ≤ x3 := c9
    refine sc_139 hI (show (0 : Int) ≤ 0 ∧ 0 ≤ (6 : Int) from by omega) (show (0 : Int) ≤ x1 ∧ x1 ≤ (63 : Int) from by omega) (show (0 : Int) ≤ 0 ∧ 0 ≤ (999 : Int) from by omega) (fun s30 hI11 fr10 => ?_)
    have fr13 : lf_fq [74, 75, 76, 77] 1000000 true s.1 s.2.2 s30.1 s30.2.2 := lf_fq_tr (lf_fq_rf) (lf_fq_wk fr10 rfl (by decide) (by decide))
    have b14 : (-2147483648) ≤ s30.1 74 6 ∧ s30.1 74 6 ≤ 2147483647 := iv_full hI11
    exact hQ (s30.1 74 6) s30 hI11 fr13 (show (-2147483648 : Int) ≤ s30.1 74 6 ∧ s30.1 74 6 ≤ (2147483647 : Int) from by omega)
  · skip
    replace c9 : ¬ (s.1 1 0 ≤ x3) := c9
    have b15 : 0 ≤ lf_shr x2 x3 ∧ lf_shr x2 x3 ≤ 4095 := lf_shrP (by omega) (by omega)
    have b16 : 0 ≤ lf_and (lf_shr x2 x3) 1 ∧ lf_and (lf_shr x2 x3) 1 ≤ 1 := lf_andB (by omega) (by omega)
    refine ⟨fun c17 => ?_, fun c17 => ?_⟩
    · skip
      replace c17 : lf_and (lf_shr x2 x3) 1 ≠ 1 := c17
      exact sm_137_p79 hQ hX30 (show (12 - x3).toNat ≤ M30 from by omega) hI (show (0 : Int) ≤ x1 ∧ x1 ≤ (63 : Int) from by omega) (show (1 : Int) ≤ x2 ∧ x2 ≤ (4095 : Int) from by omega) (show (0 : Int) ≤ x3 ∧ x3 ≤ (11 : Int) from by omega)
    · skip
      replace c17 : ¬ (lf_and (lf_shr x2 x3) 1 ≠ 1) := c17
      have b18 : 0 ≤ s.1 74 5 ∧ s.1 74 5 ≤ 6 := iv_r74_5 hI
      refine ⟨(show lf_R (s.1 74 5) from lf_Rof (by omega)), ?_⟩
      refine ⟨fun c19 => ?_, fun c19 => ?_⟩
      · skip
        replace c19 : 6 ≤ s.1 74 5 := c19
        exact sm_137_p79 hQ hX30 (show (12 - x3).toNat ≤ M30 from by omega) hI (show (0 : Int) ≤ x1 ∧ x1 ≤ (63 : Int) from by omega) (show (1 : Int) ≤ x2 ∧ x2 ≤ (4095 : Int) from by omega) (show (0 : Int) ≤ x3 ∧ x3 ≤ (11 : Int) from by omega)
      · skip
        replace c19 : ¬ (6 ≤ s.1 74 5) := c19
        refine ⟨(show (0 : Int) ≤ s.1 74 5 ∧ s.1 74 5 < (6 : Int) from by omega), ?_⟩
        have hI20 : iv_A (lf_up s.1 75 (s.1 74 5) x3) s.2.2 := iv_w75 hI (by omega)
        have fr21 : lf_fq [74, 75, 76, 77] 1000000 true s.1 s.2.2 (lf_up s.1 75 (s.1 74 5) x3) s.2.2 := lf_fq_up (lf_fq_rf) rfl (fun h => absurd h (by decide))
        have hI22 : iv_A (lf_up (lf_up s.1 75 (s.1 74 5) x3) 74 5 ((s.1 74 5) + 1)) s.2.2 := iv_w74_5 hI20 (by omega)
        have fr23 : lf_fq [74, 75, 76, 77] 1000000 true s.1 s.2.2 (lf_up (lf_up s.1 75 (s.1 74 5) x3) 74 5 ((s.1 74 5) + 1)) s.2.2 := lf_fq_up fr21 rfl (fun h => absurd h (by decide))
        exact sm_137_p79 (fun r9 t9 i9 f9 => hQ r9 t9 i9 (lf_fq_tr fr23 f9)) (fun p0 t9 i9 f9 => hX30 p0 t9 i9 (lf_fq_tr fr23 f9)) (show (12 - x3).toNat ≤ M30 from by omega) hI22 (show (0 : Int) ≤ x1 ∧ x1 ≤ (63 : Int) from by omega) (show (1 : Int) ≤ x2 ∧ x2 ≤ (4095 : Int) from by omega) (show (0 : Int) ≤ x3 ∧ x3 ≤ (11 : Int) from by omega)
theorem sm_137_p30L {Q : Int → lf_Z → Prop} {x1 : Int} {x2 : Int} {x3 : Int} {s : lf_Z} (hQ : ∀ (r : Int) (s' : lf_Z), iv_A s'.1 s'.2.2 → lf_fq [74, 75, 76, 77] 1000000 true s.1 s.2.2 s'.1 s'.2.2 → ((-2147483648) ≤ r ∧ r ≤ 2147483647) → Q r s') (hI : iv_A s.1 s.2.2) (bx1 : 0 ≤ x1 ∧ x1 ≤ 63) (bx2 : 1 ≤ x2 ∧ x2 ≤ 4095) (bx3 : 0 ≤ x3 ∧ x3 ≤ 12) : fm_137_p30L Q x1 x2 x3 s := by
  intro X30 hX
  have key : ∀ (m9 : Nat) (x3 : Int) (s' : lf_Z), iv_A s'.1 s'.2.2 → lf_fq [74, 75, 76, 77] 1000000 true s.1 s.2.2 s'.1 s'.2.2 → 0 ≤ x3 ∧ x3 ≤ 12 → (12 - x3).toNat < m9 → X30 x3 s' := by
    intro m9
    induction m9 with
    | zero => intro x3 s' _ _ bx3 h9; exact absurd h9 (Nat.not_lt_zero _)
    | succ m9 ih => intro x3 s' i7 f7 bx3 h9; exact hX _ _ (sm_137_p30 (fun r9 t9 i9 f9 => hQ r9 t9 i9 (lf_fq_tr f7 f9))   (fun x3' t8 i8 f8 bx3' h8 => ih x3' t8 i8 (lf_fq_tr f7 f8) bx3' (by omega)) (Nat.le_refl _)  i7  bx1 bx2 bx3  )
  exact key _ _ s hI lf_fq_rf bx3 (Nat.lt_succ_self _)
theorem sm_137 {a1 : Int} {a2 : Int} {Q : Int → lf_Z → Prop} {s : lf_Z} (hI : iv_A s.1 s.2.2) (ba1 : 0 ≤ a1 ∧ a1 ≤ 63) (ba2 : 1 ≤ a2 ∧ a2 ≤ 4095) (hQ : ∀ (r : Int) (s' : lf_Z), iv_A s'.1 s'.2.2 → lf_fq [74, 75, 76, 77] 1000000 true s.1 s.2.2 s'.1 s'.2.2 → ((-2147483648) ≤ r ∧ r ≤ 2147483647) → Q r s') : fm_137 a1 a2 Q s := by
  unfold fm_137
  have hI1 : iv_A (lf_up s.1 74 6 (-1)) s.2.2 := iv_w74_6 hI (by omega)
  have fr2 : lf_fq [74, 75, 76, 77] 1000000 true s.1 s.2.2 (lf_up s.1 74 6 (-1)) s.2.2 := lf_fq_up (lf_fq_rf) rfl (fun h => absurd h (by decide))
  have hI3 : iv_A (lf_up (lf_up s.1 74 6 (-1)) 74 5 0) s.2.2 := iv_w74_5 hI1 (by omega)
  have fr4 : lf_fq [74, 75, 76, 77] 1000000 true s.1 s.2.2 (lf_up (lf_up s.1 74 6 (-1)) 74 5 0) s.2.2 := lf_fq_up fr2 rfl (fun h => absurd h (by decide))
  refine sm_138 hI3 (show (0 : Int) ≤ a2 ∧ a2 ≤ (4095 : Int) from by omega) (fun r22 q5 => ?_)
  refine sm_138 hI3 (show (0 : Int) ≤ a1 ∧ a1 ≤ (4095 : Int) from by omega) (fun r24 q6 => ?_)
  refine ⟨(show lf_R r24 from lf_Rof (by omega)), ?_⟩
  refine ⟨(show lf_R r22 from lf_Rof (by omega)), ?_⟩
  refine ⟨(show lf_R (min 6 r24) from lf_Rof (by omega)), ?_⟩
  refine ⟨fun c7 => ?_, fun c7 => ?_⟩
  · skip
    replace c7 : r22 ≤ min 6 r24 := c7
    exact sm_137_p30L (fun r9 t9 i9 f9 => hQ r9 t9 i9 (lf_fq_tr fr4 f9)) hI3 (show (0 : Int) ≤ a1 ∧ a1 ≤ (63 : Int) from by omega) (show (1 : Int) ≤ a2 ∧ a2 ≤ (4095 : Int) from by omega) (show (0 : Int) ≤ 0 ∧ 0 ≤ (12 : Int) from by omega)
  · skip
    replace c7 : ¬ (r22 ≤ min 6 r24) := c7
    exact hQ (-1) (lf_up (lf_up s.1 74 6 (-1)) 74 5 0, s.2.1, s.2.2) hI3 fr4 (show (-2147483648 : Int) ≤ (-1) ∧ (-1) ≤ (2147483647 : Int) from by omega)
-- fm_141 Errands.whoGoesTo 74 i
theorem sm_141_p2 {X2 : Int → lf_Z → Prop} {Q : Int → lf_Z → Prop} {x1 : Int} {x2 : Int} {s : lf_Z} (hQ : ∀ (r : Int), ((-1) ≤ r ∧ r ≤ 5) → Q r s) {M2 : Nat} (hX2 : ∀ (x2 : Int), 0 ≤ x2 ∧ x2 ≤ 6 → (6 - x2).toNat < M2 → X2 x2 s) (hM2 : (6 - x2).toNat ≤ M2) (hI : iv_A s.1 s.2.2) (bx1 : 0 ≤ x1 ∧ x1 ≤ 11) (bx2 : 0 ≤ x2 ∧ x2 ≤ 6) : fm_141_p2 Q x1 X2 x2 s := by
  unfold fm_141_p2
  have b1 : 0 ≤ s.1 74 5 ∧ s.1 74 5 ≤ 6 := iv_r74_5 hI
  refine ⟨(show lf_R x2 from lf_Rof (by omega)), ?_⟩
  refine ⟨(show lf_R (s.1 74 5) from lf_Rof (by omega)), ?_⟩
  refine ⟨fun c2 => ?_, fun c2 => ?_⟩
  · skip
    replace c2 : s.1 74 5 ≤ x2 := c2
    exact hQ (-1) (show (-1 : Int) ≤ (-1) ∧ (-1) ≤ (5 : Int) from by omega)
  · skip
    replace c2 : ¬ (s.1 74 5 ≤ x2) := c2
    have b3 : (-2147483648) ≤ s.1 74 6 ∧ s.1 74 6 ≤ 2147483647 := iv_full hI
    refine ⟨(show lf_R (s.1 74 6) from lf_Rof (by omega)), ?_⟩
    refine ⟨fun c4 => ?_, fun c4 => ?_⟩
    · skip
      replace c4 : s.1 74 6 = (-1) := c4
      exact hQ (-1) (show (-1 : Int) ≤ (-1) ∧ (-1) ≤ (5 : Int) from by omega)
    · skip
      replace c4 : ¬ (s.1 74 6 = (-1)) := c4
      refine ⟨(show (0 : Int) ≤ x2 ∧ x2 < (6 : Int) from by omega), ?_⟩
      have b5 : (-2147483648) ≤ s.1 75 x2 ∧ s.1 75 x2 ≤ 2147483647 := iv_full hI
      refine ⟨(show lf_R (s.1 75 x2) from lf_Rof (by omega)), ?_⟩
      refine ⟨(show lf_R x1 from lf_Rof (by omega)), ?_⟩
      refine ⟨fun c6 => ?_, fun c6 => ?_⟩
      · skip
        replace c6 : s.1 75 x2 ≠ x1 := c6
        exact hX2 (x2 + 1) (show (0 : Int) ≤ x2 + 1 ∧ x2 + 1 ≤ (6 : Int) from by omega) (show (6 - (x2 + 1)).toNat < M2 from by omega)
      · skip
        replace c6 : ¬ (s.1 75 x2 ≠ x1) := c6
        have b7 : 0 ≤ s.1 77 x2 ∧ s.1 77 x2 ≤ 5 := iv_r77 hI _
        exact hQ (s.1 77 x2) (show (-1 : Int) ≤ s.1 77 x2 ∧ s.1 77 x2 ≤ (5 : Int) from by omega)
theorem sm_141_p2L {Q : Int → lf_Z → Prop} {x1 : Int} {x2 : Int} {s : lf_Z} (hQ : ∀ (r : Int), ((-1) ≤ r ∧ r ≤ 5) → Q r s) (hI : iv_A s.1 s.2.2) (bx1 : 0 ≤ x1 ∧ x1 ≤ 11) (bx2 : 0 ≤ x2 ∧ x2 ≤ 6) : fm_141_p2L Q x1 x2 s := by
  intro X2 hX
  have key : ∀ (m9 : Nat) (x2 : Int), 0 ≤ x2 ∧ x2 ≤ 6 → (6 - x2).toNat < m9 → X2 x2 s := by
    intro m9
    induction m9 with
    | zero => intro x2 bx2 h9; exact absurd h9 (Nat.not_lt_zero _)
    | succ m9 ih => intro x2 bx2 h9; exact hX _ _ (sm_141_p2 hQ   (fun x2' bx2' h8 => ih x2' bx2' (by omega)) (Nat.le_refl _)  hI  bx1 bx2  )
  exact key _ _ bx2   (Nat.lt_succ_self _)
theorem sm_141 {a1 : Int} {Q : Int → lf_Z → Prop} {s : lf_Z} (hI : iv_A s.1 s.2.2) (ba1 : 0 ≤ a1 ∧ a1 ≤ 11) (hQ : ∀ (r : Int), ((-1) ≤ r ∧ r ≤ 5) → Q r s) : fm_141 a1 Q s := by
  unfold fm_141
  exact sm_141_p2L hQ hI (show (0 : Int) ≤ a1 ∧ a1 ≤ (11 : Int) from by omega) (show (0 : Int) ≤ 0 ∧ 0 ≤ (6 : Int) from by omega)
-- fm_136 ElevenBullocks.whom 0 i i i
theorem sm_136_p66 {Q : Int → lf_Z → Prop} {x1 : Int} {x2 : Int} {x3 : Int} {s : lf_Z} (hQ : ∀ (r : Int) (s' : lf_Z), iv_A s'.1 s'.2.2 → lf_fq [74, 75, 76, 77] 1000000 true s.1 s.2.2 s'.1 s'.2.2 → ((-2147483648) ≤ r ∧ r ≤ 2147483647) → Q r s') (hI : iv_A s.1 s.2.2) (bx1 : 0 ≤ x1 ∧ x1 ≤ 63) (bx2 : 1 ≤ x2 ∧ x2 ≤ 4095) (bx3 : (-1) ≤ x3 ∧ x3 ≤ 11) : fm_136_p66 Q x1 x2 x3 s := by
  unfold fm_136_p66
  refine sm_137 hI (show (0 : Int) ≤ x1 ∧ x1 ≤ (63 : Int) from by omega) (show (1 : Int) ≤ x2 ∧ x2 ≤ (4095 : Int) from by omega) (fun r27 s26 hI11 fr10 q12 => ?_)
  have fr13 : lf_fq [74, 75, 76, 77] 1000000 true s.1 s.2.2 s26.1 s26.2.2 := lf_fq_tr (lf_fq_rf) (lf_fq_wk fr10 rfl (by decide) (by decide))
  refine ⟨(show lf_R x3 from lf_Rof (by omega)), ?_⟩
  refine ⟨fun c14 => ?_, fun c14 => ?_⟩
  · skip
    replace c14 : x3 ≠ (-1) := c14
    refine sm_141 hI11 (show (0 : Int) ≤ x3 ∧ x3 ≤ (11 : Int) from by omega) (fun r30 q15 => ?_)
    exact hQ r30 s26 hI11 fr13 (show (-2147483648 : Int) ≤ r30 ∧ r30 ≤ (2147483647 : Int) from by omega)
  · skip
    replace c14 : ¬ (x3 ≠ (-1)) := c14
    exact hQ r27 s26 hI11 fr13 (show (-2147483648 : Int) ≤ r27 ∧ r27 ≤ (2147483647 : Int) from by omega)
theorem sm_136 {a1 : Int} {a2 : Int} {a3 : Int} {Q : Int → lf_Z → Prop} {s : lf_Z} (hI : iv_A s.1 s.2.2) (ba1 : (-2147483648) ≤ a1 ∧ a1 ≤ 2147483647) (ba2 : (-2147483648) ≤ a2 ∧ a2 ≤ 2147483647) (ba3 : (-2147483648) ≤ a3 ∧ a3 ≤ 2147483647) (hQ : ∀ (r : Int) (s' : lf_Z), iv_A s'.1 s'.2.2 → lf_fq [74, 75, 76, 77] 1000000 true s.1 s.2.2 s'.1 s'.2.2 → ((-2147483648) ≤ r ∧ r ≤ 2147483647) → Q r s') : fm_136 a1 a2 a3 Q s := by
  unfold fm_136
  have b1 : 0 ≤ s.1 1 2 ∧ s.1 1 2 ≤ 6 := iv_r1_2 hI
  have b2 : 1 ≤ lf_shl 1 (s.1 1 2) ∧ lf_shl 1 (s.1 1 2) ≤ 64 := lf_shl1 (m := 6) (by omega) (by omega) (by decide)
  refine sm_15 hI (show (-2147483648 : Int) ≤ a1 ∧ a1 ≤ (2147483647 : Int) from by omega) (show (-1 : Int) ≤ 0 ∧ 0 ≤ (99 : Int) from by omega) (show (-2147483648 : Int) ≤ (lf_shl 1 (s.1 1 2)) - 1 ∧ (lf_shl 1 (s.1 1 2)) - 1 ≤ (2147483647 : Int) from by omega) (fun z22 q3 => ?_)
  refine ⟨fun c4 => ?_, fun c4 => ?_⟩
  · skip
    have dc4 := q3.2 c4
    exact hQ (-1) s hI (lf_fq_rf) (show (-2147483648 : Int) ≤ (-1) ∧ (-1) ≤ (2147483647 : Int) from by omega)
  · skip
    have dc4 := q3.1 c4
    have b5 : 0 ≤ s.1 1 0 ∧ s.1 1 0 ≤ 12 := iv_r1_0 hI
    have b6 : 1 ≤ lf_shl 1 (s.1 1 0) ∧ lf_shl 1 (s.1 1 0) ≤ 4096 := lf_shl1 (m := 12) (by omega) (by omega) (by decide)
    refine sm_15 hI (show (-2147483648 : Int) ≤ a2 ∧ a2 ≤ (2147483647 : Int) from by omega) (show (-1 : Int) ≤ 1 ∧ 1 ≤ (99 : Int) from by omega) (show (-2147483648 : Int) ≤ (lf_shl 1 (s.1 1 0)) - 1 ∧ (lf_shl 1 (s.1 1 0)) - 1 ≤ (2147483647 : Int) from by omega) (fun z24 q7 => ?_)
    refine ⟨fun c8 => ?_, fun c8 => ?_⟩
    · skip
      have dc8 := q7.1 c8
      refine ⟨(show lf_R a3 from lf_Rof (by omega)), ?_⟩
      refine ⟨fun c9 => ?_, fun c9 => ?_⟩
      · skip
        replace c9 : a3 = (-1) := c9
        exact sm_136_p66 hQ hI (show (0 : Int) ≤ a1 ∧ a1 ≤ (63 : Int) from by omega) (show (1 : Int) ≤ a2 ∧ a2 ≤ (4095 : Int) from by omega) (show (-1 : Int) ≤ a3 ∧ a3 ≤ (11 : Int) from by omega)
      · skip
        replace c9 : ¬ (a3 = (-1)) := c9
        refine sm_18 hI (show (-2147483648 : Int) ≤ a3 ∧ a3 ≤ (2147483647 : Int) from by omega) (fun z32 q16 => ?_)
        refine ⟨fun c17 => ?_, fun c17 => ?_⟩
        · skip
          have dc17 := q16.2 c17
          exact hQ (-1) s hI (lf_fq_rf) (show (-2147483648 : Int) ≤ (-1) ∧ (-1) ≤ (2147483647 : Int) from by omega)
        · skip
          have dc17 := q16.1 c17
          have b18 : 0 ≤ lf_shr a2 a3 ∧ lf_shr a2 a3 ≤ 4095 := lf_shrP (by omega) (by omega)
          have b19 : 0 ≤ lf_and (lf_shr a2 a3) 1 ∧ lf_and (lf_shr a2 a3) 1 ≤ 1 := lf_andB (by omega) (by omega)
          refine ⟨fun c20 => ?_, fun c20 => ?_⟩
          · skip
            replace c20 : lf_and (lf_shr a2 a3) 1 ≠ 0 := c20
            exact sm_136_p66 hQ hI (show (0 : Int) ≤ a1 ∧ a1 ≤ (63 : Int) from by omega) (show (1 : Int) ≤ a2 ∧ a2 ≤ (4095 : Int) from by omega) (show (-1 : Int) ≤ a3 ∧ a3 ≤ (11 : Int) from by omega)
          · skip
            replace c20 : ¬ (lf_and (lf_shr a2 a3) 1 ≠ 0) := c20
            exact hQ (-1) s hI (lf_fq_rf) (show (-2147483648 : Int) ≤ (-1) ∧ (-1) ≤ (2147483647 : Int) from by omega)
    · skip
      have dc8 := q7.2 c8
      exact hQ (-1) s hI (lf_fq_rf) (show (-2147483648 : Int) ≤ (-1) ∧ (-1) ≤ (2147483647 : Int) from by omega)
-- fm_301 Model.layOut i 113
theorem sm_301_p28 {X4 : Int → Int → lf_Z → Prop} {Q : Int → lf_Z → Prop} {x0 : Int} {x2 : Int} {x3 : Int} {s : lf_Z} {s0 : lf_Z} (hQ : ∀ (r : Int) (s' : lf_Z), iv_A s'.1 s'.2.2 → lf_fq [113] 1000000 true s.1 s.2.2 s'.1 s'.2.2 → (r = lf_bt (x0) 12) → (lo_C (s'.1 113) (x0) (r) 12) → (0 ≤ r ∧ r ≤ 6) → Q r s') {M4 : Nat} (hX4 : ∀ (x2 : Int) (x3 : Int) (s' : lf_Z), iv_A s'.1 s'.2.2 → lf_fq [113] 1000000 true s.1 s.2.2 s'.1 s'.2.2 → 0 ≤ x2 ∧ x2 ≤ 6 → 0 ≤ x3 ∧ x3 ≤ 12 → (x2 = lf_bt (x0) (x3)) → (x2 ≤ x3) → (lo_C (s'.1 113) (x0) (x2) (x3)) → (12 - x3).toNat < M4 → X4 x2 x3 s') (hM4 : (12 - x3).toNat ≤ M4) (hI : iv_A s.1 s.2.2) (bx0 : 0 ≤ x0 ∧ x0 ≤ 63) (bx2 : 0 ≤ x2 ∧ x2 ≤ 6) (bx3 : 0 ≤ x3 ∧ x3 ≤ 11) (kv0 : x2 = lf_bt (x0) (x3 + 1)) (kv1 : x2 ≤ x3 + 1) (kv2 : lo_C (s.1 113) (x0) (x2) (x3 + 1)) : fm_301_p28 X4 Q x0 x2 x3 s := by
  unfold fm_301_p28
  have b14 : lf_bt (x0) 0 = 0 := rfl
  have b15 : lo_C ((s.1 113)) (x0) (x2) ((x3 + 1)) := by first | with_reducible assumption | exact (fun q a b => by omega)
  exact hX4 (x2) (x3 + 1) s hI (lf_fq_rf) (show (0 : Int) ≤ x2 ∧ x2 ≤ (6 : Int) from by omega) (show (0 : Int) ≤ x3 + 1 ∧ x3 + 1 ≤ (12 : Int) from by omega) (show x2 = lf_bt (x0) ((x3 + 1)) from by omega) (show x2 ≤ (x3 + 1) from by omega) (show lo_C ((s.1 113)) (x0) (x2) ((x3 + 1)) from by first | with_reducible assumption | assumption) (show (12 - (x3 + 1)).toNat < M4 from by omega)
theorem sm_301_p4 {X4 : Int → Int → lf_Z → Prop} {Q : Int → lf_Z → Prop} {x0 : Int} {x2 : Int} {x3 : Int} {s : lf_Z} {s0 : lf_Z} (hQ : ∀ (r : Int) (s' : lf_Z), iv_A s'.1 s'.2.2 → lf_fq [113] 1000000 true s.1 s.2.2 s'.1 s'.2.2 → (r = lf_bt (x0) 12) → (lo_C (s'.1 113) (x0) (r) 12) → (0 ≤ r ∧ r ≤ 6) → Q r s') {M4 : Nat} (hX4 : ∀ (x2 : Int) (x3 : Int) (s' : lf_Z), iv_A s'.1 s'.2.2 → lf_fq [113] 1000000 true s.1 s.2.2 s'.1 s'.2.2 → 0 ≤ x2 ∧ x2 ≤ 6 → 0 ≤ x3 ∧ x3 ≤ 12 → (x2 = lf_bt (x0) (x3)) → (x2 ≤ x3) → (lo_C (s'.1 113) (x0) (x2) (x3)) → (12 - x3).toNat < M4 → X4 x2 x3 s') (hM4 : (12 - x3).toNat ≤ M4) (hI : iv_A s.1 s.2.2) (bx0 : 0 ≤ x0 ∧ x0 ≤ 63) (bx2 : 0 ≤ x2 ∧ x2 ≤ 6) (bx3 : 0 ≤ x3 ∧ x3 ≤ 12) (kv0 : x2 = lf_bt (x0) (x3)) (kv1 : x2 ≤ x3) (kv2 : lo_C (s.1 113) (x0) (x2) (x3)) : fm_301_p4 Q x0 X4 x2 x3 s := by
  unfold fm_301_p4
  refine ⟨(show lf_R x3 from lf_Rof (by omega)), ?_⟩
  refine ⟨fun c3 => ?_, fun c3 => ?_⟩
  · skip
    replace c3 : 12 ≤ x3 := c3
    have b4 : lf_bt (x0) (x3) = lf_bt (x0) 12 := congrArg (lf_bt x0) (by omega)
    have b5 : lo_C ((s.1 113)) (x0) (x2) 12 := lo_CK kv2 (by omega)
    exact hQ x2 s hI (lf_fq_rf) (show x2 = lf_bt (x0) 12 from by omega) (show lo_C ((s.1 113)) (x0) (x2) 12 from by first | with_reducible assumption | assumption) (show (0 : Int) ≤ x2 ∧ x2 ≤ (6 : Int) from by omega)
  · skip
    replace c3 : ¬ (12 ≤ x3) := c3
    have b6 : lf_bt (x0) (x3 + 1) = lf_bt (x0) (x3) + lf_and (lf_shr (x0) (x3)) 1 := lf_btS (by omega)
    have b7 : 0 ≤ lf_and (lf_shr (x0) (x3)) 1 ∧ lf_and (lf_shr (x0) (x3)) 1 ≤ 1 := lf_and01
    refine sm_210 hI (show (-2147483648 : Int) ≤ x0 ∧ x0 ≤ (2147483647 : Int) from by omega) (show (-1 : Int) ≤ x3 ∧ x3 ≤ (15 : Int) from by omega) (fun z23 q8 => ?_)
    refine ⟨fun c9 => ?_, fun c9 => ?_⟩
    · skip
      have dc9 := q8.1 c9
      have b10 : 64 ≤ x0 ∨ x0 < 0 ∨ x3 < 0 ∨ 31 < x3 ∨ x3 < 6 := lf_hasB (by omega)
      refine ⟨(show (0 : Int) ≤ x2 ∧ x2 < (6 : Int) from by omega), ?_⟩
      have hI11 : iv_A (lf_up s.1 113 x2 x3) s.2.2 := iv_w113 hI (by omega)
      have fr12 : lf_fq [113] 1000000 true s.1 s.2.2 (lf_up s.1 113 x2 x3) s.2.2 := lf_fq_up (lf_fq_rf) rfl (fun h => absurd h (by decide))
      have b13 : lo_C (((lf_up s.1 113 x2 x3) 113)) (x0) ((x2 + 1)) (x3 + 1) := by first | exact lo_C1 kv2 (by omega) lf_up_s (fun j hj => lf_up_i hj) | exact lo_C0 kv2 (by omega)
      exact sm_301_p28 (s0 := s0) (fun r9 t9 i9 f9 => hQ r9 t9 i9 (lf_fq_tr fr12 f9)) (fun p0 p1 t9 i9 f9 => hX4 p0 p1 t9 i9 (lf_fq_tr fr12 f9)) (show (12 - x3).toNat ≤ M4 from by omega) hI11 (show (0 : Int) ≤ x0 ∧ x0 ≤ (63 : Int) from by omega) (show (0 : Int) ≤ x2 + 1 ∧ x2 + 1 ≤ (6 : Int) from by omega) (show (0 : Int) ≤ x3 ∧ x3 ≤ (11 : Int) from by omega) (show (x2 + 1) = lf_bt (x0) (x3 + 1) from by omega) (show (x2 + 1) ≤ x3 + 1 from by omega) (show lo_C (((lf_up s.1 113 x2 x3) 113)) (x0) ((x2 + 1)) (x3 + 1) from by first | with_reducible assumption | assumption)
    · skip
      have dc9 := q8.2 c9
      have b16 : lo_C ((s.1 113)) (x0) (x2) (x3 + 1) := by first | exact lo_C1 kv2 (by omega) lf_up_s (fun j hj => lf_up_i hj) | exact lo_C0 kv2 (by omega)
      exact sm_301_p28 (s0 := s0) hQ hX4 (show (12 - x3).toNat ≤ M4 from by omega) hI (show (0 : Int) ≤ x0 ∧ x0 ≤ (63 : Int) from by omega) (show (0 : Int) ≤ x2 ∧ x2 ≤ (6 : Int) from by omega) (show (0 : Int) ≤ x3 ∧ x3 ≤ (11 : Int) from by omega) (show x2 = lf_bt (x0) (x3 + 1) from by omega) (show x2 ≤ x3 + 1 from by omega) (show lo_C ((s.1 113)) (x0) (x2) (x3 + 1) from by first | with_reducible assumption | assumption)
theorem sm_301_p4L {Q : Int → lf_Z → Prop} {x0 : Int} {x2 : Int} {x3 : Int} {s : lf_Z} {s0 : lf_Z} (hQ : ∀ (r : Int) (s' : lf_Z), iv_A s'.1 s'.2.2 → lf_fq [113] 1000000 true s.1 s.2.2 s'.1 s'.2.2 → (r = lf_bt (x0) 12) → (lo_C (s'.1 113) (x0) (r) 12) → (0 ≤ r ∧ r ≤ 6) → Q r s') (hI : iv_A s.1 s.2.2) (bx0 : 0 ≤ x0 ∧ x0 ≤ 63) (bx2 : 0 ≤ x2 ∧ x2 ≤ 6) (bx3 : 0 ≤ x3 ∧ x3 ≤ 12) (kv0 : x2 = lf_bt (x0) (x3)) (kv1 : x2 ≤ x3) (kv2 : lo_C (s.1 113) (x0) (x2) (x3)) : fm_301_p4L Q x0 x2 x3 s := by
  intro X4 hX
  have key : ∀ (m9 : Nat) (x2 : Int) (x3 : Int) (s' : lf_Z), iv_A s'.1 s'.2.2 → lf_fq [113] 1000000 true s.1 s.2.2 s'.1 s'.2.2 → 0 ≤ x2 ∧ x2 ≤ 6 → 0 ≤ x3 ∧ x3 ≤ 12 → (x2 = lf_bt (x0) (x3)) → (x2 ≤ x3) → (lo_C (s'.1 113) (x0) (x2) (x3)) → (12 - x3).toNat < m9 → X4 x2 x3 s' := by
    intro m9
    induction m9 with
    | zero => intro x2 x3 s' _ _ bx2 bx3 kv0 kv1 kv2 h9; exact absurd h9 (Nat.not_lt_zero _)
    | succ m9 ih => intro x2 x3 s' i7 f7 bx2 bx3 kv0 kv1 kv2 h9; exact hX _ _ _ (sm_301_p4 (s0 := s0) (fun r9 t9 i9 f9 => hQ r9 t9 i9 (lf_fq_tr f7 f9))   (fun x2' x3' t8 i8 f8 bx2' bx3' kv0' kv1' kv2' h8 => ih x2' x3' t8 i8 (lf_fq_tr f7 f8) bx2' bx3' kv0' kv1' kv2' (by omega)) (Nat.le_refl _)  i7  bx0 bx2 bx3  kv0 kv1 kv2)
  exact key _ _ _ s hI lf_fq_rf bx2 bx3 kv0 kv1 kv2 (Nat.lt_succ_self _)
theorem sm_301 {a0 : Int} {Q : Int → lf_Z → Prop} {s : lf_Z} (hI : iv_A s.1 s.2.2) (ba0 : 0 ≤ a0 ∧ a0 ≤ 63) (hQ : ∀ (r : Int) (s' : lf_Z), iv_A s'.1 s'.2.2 → lf_fq [113] 1000000 true s.1 s.2.2 s'.1 s'.2.2 → (r = lf_bt (a0) 12) → (lo_C (s'.1 113) (a0) (r) 12) → (0 ≤ r ∧ r ≤ 6) → Q r s') : fm_301 a0 Q s := by
  unfold fm_301
  have b1 : lf_bt (a0) 0 = 0 := rfl
  have b2 : lo_C ((s.1 113)) (a0) (0) (0) := by first | with_reducible assumption | exact (fun q a b => by omega)
  exact sm_301_p4L (s0 := s) hQ hI (show (0 : Int) ≤ a0 ∧ a0 ≤ (63 : Int) from by omega) (show (0 : Int) ≤ 0 ∧ 0 ≤ (6 : Int) from by omega) (show (0 : Int) ≤ 0 ∧ 0 ≤ (12 : Int) from by omega) (show 0 = lf_bt (a0) (0) from by omega) (show 0 ≤ 0 from by omega) (show lo_C ((s.1 113)) (a0) (0) (0) from by first | with_reducible assumption | assumption)
-- fm_301b Model.layOut i 114
theorem sm_301b_p28 {X4 : Int → Int → lf_Z → Prop} {Q : Int → lf_Z → Prop} {x0 : Int} {x2 : Int} {x3 : Int} {s : lf_Z} {s0 : lf_Z} (hQ : ∀ (r : Int) (s' : lf_Z), iv_A s'.1 s'.2.2 → lf_fq [114] 1000000 true s.1 s.2.2 s'.1 s'.2.2 → (r = lf_bt (x0) 12) → (lo_C (s'.1 114) (x0) (r) 12) → (0 ≤ r ∧ r ≤ 12) → Q r s') {M4 : Nat} (hX4 : ∀ (x2 : Int) (x3 : Int) (s' : lf_Z), iv_A s'.1 s'.2.2 → lf_fq [114] 1000000 true s.1 s.2.2 s'.1 s'.2.2 → 0 ≤ x2 ∧ x2 ≤ 12 → 0 ≤ x3 ∧ x3 ≤ 12 → (x2 = lf_bt (x0) (x3)) → (x2 ≤ x3) → (lo_C (s'.1 114) (x0) (x2) (x3)) → (12 - x3).toNat < M4 → X4 x2 x3 s') (hM4 : (12 - x3).toNat ≤ M4) (hI : iv_A s.1 s.2.2) (bx0 : 0 ≤ x0 ∧ x0 ≤ 4095) (bx2 : 0 ≤ x2 ∧ x2 ≤ 12) (bx3 : 0 ≤ x3 ∧ x3 ≤ 11) (kv0 : x2 = lf_bt (x0) (x3 + 1)) (kv1 : x2 ≤ x3 + 1) (kv2 : lo_C (s.1 114) (x0) (x2) (x3 + 1)) : fm_301b_p28 X4 Q x0 x2 x3 s := by
  unfold fm_301b_p28
  have b14 : lf_bt (x0) 0 = 0 := rfl
  have b15 : lo_C ((s.1 114)) (x0) (x2) ((x3 + 1)) := by first | with_reducible assumption | exact (fun q a b => by omega)
  exact hX4 (x2) (x3 + 1) s hI (lf_fq_rf) (show (0 : Int) ≤ x2 ∧ x2 ≤ (12 : Int) from by omega) (show (0 : Int) ≤ x3 + 1 ∧ x3 + 1 ≤ (12 : Int) from by omega) (show x2 = lf_bt (x0) ((x3 + 1)) from by omega) (show x2 ≤ (x3 + 1) from by omega) (show lo_C ((s.1 114)) (x0) (x2) ((x3 + 1)) from by first | with_reducible assumption | assumption) (show (12 - (x3 + 1)).toNat < M4 from by omega)
theorem sm_301b_p4 {X4 : Int → Int → lf_Z → Prop} {Q : Int → lf_Z → Prop} {x0 : Int} {x2 : Int} {x3 : Int} {s : lf_Z} {s0 : lf_Z} (hQ : ∀ (r : Int) (s' : lf_Z), iv_A s'.1 s'.2.2 → lf_fq [114] 1000000 true s.1 s.2.2 s'.1 s'.2.2 → (r = lf_bt (x0) 12) → (lo_C (s'.1 114) (x0) (r) 12) → (0 ≤ r ∧ r ≤ 12) → Q r s') {M4 : Nat} (hX4 : ∀ (x2 : Int) (x3 : Int) (s' : lf_Z), iv_A s'.1 s'.2.2 → lf_fq [114] 1000000 true s.1 s.2.2 s'.1 s'.2.2 → 0 ≤ x2 ∧ x2 ≤ 12 → 0 ≤ x3 ∧ x3 ≤ 12 → (x2 = lf_bt (x0) (x3)) → (x2 ≤ x3) → (lo_C (s'.1 114) (x0) (x2) (x3)) → (12 - x3).toNat < M4 → X4 x2 x3 s') (hM4 : (12 - x3).toNat ≤ M4) (hI : iv_A s.1 s.2.2) (bx0 : 0 ≤ x0 ∧ x0 ≤ 4095) (bx2 : 0 ≤ x2 ∧ x2 ≤ 12) (bx3 : 0 ≤ x3 ∧ x3 ≤ 12) (kv0 : x2 = lf_bt (x0) (x3)) (kv1 : x2 ≤ x3) (kv2 : lo_C (s.1 114) (x0) (x2) (x3)) : fm_301b_p4 Q x0 X4 x2 x3 s := by
  unfold fm_301b_p4
  refine ⟨(show lf_R x3 from lf_Rof (by omega)), ?_⟩
  refine ⟨fun c3 => ?_, fun c3 => ?_⟩
  · skip
    replace c3 : 12 ≤ x3 := c3
    have b4 : lf_bt (x0) (x3) = lf_bt (x0) 12 := congrArg (lf_bt x0) (by omega)
    have b5 : lo_C ((s.1 114)) (x0) (x2) 12 := lo_CK kv2 (by omega)
    exact hQ x2 s hI (lf_fq_rf) (show x2 = lf_bt (x0) 12 from by omega) (show lo_C ((s.1 114)) (x0) (x2) 12 from by first | with_reducible assumption | assumption) (show (0 : Int) ≤ x2 ∧ x2 ≤ (12 : Int) from by omega)
  · skip
    replace c3 : ¬ (12 ≤ x3) := c3
    have b6 : lf_bt (x0) (x3 + 1) = lf_bt (x0) (x3) + lf_and (lf_shr (x0) (x3)) 1 := lf_btS (by omega)
    have b7 : 0 ≤ lf_and (lf_shr (x0) (x3)) 1 ∧ lf_and (lf_shr (x0) (x3)) 1 ≤ 1 := lf_and01
    refine sm_210 hI (show (-2147483648 : Int) ≤ x0 ∧ x0 ≤ (2147483647 : Int) from by omega) (show (-1 : Int) ≤ x3 ∧ x3 ≤ (15 : Int) from by omega) (fun z23 q8 => ?_)
    refine ⟨fun c9 => ?_, fun c9 => ?_⟩
    · skip
      have dc9 := q8.1 c9
      have b10 : 64 ≤ x0 ∨ x0 < 0 ∨ x3 < 0 ∨ 31 < x3 ∨ x3 < 6 := lf_hasB (by omega)
      refine ⟨(show (0 : Int) ≤ x2 ∧ x2 < (12 : Int) from by omega), ?_⟩
      have hI11 : iv_A (lf_up s.1 114 x2 x3) s.2.2 := iv_w114 hI (by omega)
      have fr12 : lf_fq [114] 1000000 true s.1 s.2.2 (lf_up s.1 114 x2 x3) s.2.2 := lf_fq_up (lf_fq_rf) rfl (fun h => absurd h (by decide))
      have b13 : lo_C (((lf_up s.1 114 x2 x3) 114)) (x0) ((x2 + 1)) (x3 + 1) := by first | exact lo_C1 kv2 (by omega) lf_up_s (fun j hj => lf_up_i hj) | exact lo_C0 kv2 (by omega)
      exact sm_301b_p28 (s0 := s0) (fun r9 t9 i9 f9 => hQ r9 t9 i9 (lf_fq_tr fr12 f9)) (fun p0 p1 t9 i9 f9 => hX4 p0 p1 t9 i9 (lf_fq_tr fr12 f9)) (show (12 - x3).toNat ≤ M4 from by omega) hI11 (show (0 : Int) ≤ x0 ∧ x0 ≤ (4095 : Int) from by omega) (show (0 : Int) ≤ x2 + 1 ∧ x2 + 1 ≤ (12 : Int) from by omega) (show (0 : Int) ≤ x3 ∧ x3 ≤ (11 : Int) from by omega) (show (x2 + 1) = lf_bt (x0) (x3 + 1) from by omega) (show (x2 + 1) ≤ x3 + 1 from by omega) (show lo_C (((lf_up s.1 114 x2 x3) 114)) (x0) ((x2 + 1)) (x3 + 1) from by first | with_reducible assumption | assumption)
    · skip
      have dc9 := q8.2 c9
      have b16 : lo_C ((s.1 114)) (x0) (x2) (x3 + 1) := by first | exact lo_C1 kv2 (by omega) lf_up_s (fun j hj => lf_up_i hj) | exact lo_C0 kv2 (by omega)
      exact sm_301b_p28 (s0 := s0) hQ hX4 (show (12 - x3).toNat ≤ M4 from by omega) hI (show (0 : Int) ≤ x0 ∧ x0 ≤ (4095 : Int) from by omega) (show (0 : Int) ≤ x2 ∧ x2 ≤ (12 : Int) from by omega) (show (0 : Int) ≤ x3 ∧ x3 ≤ (11 : Int) from by omega) (show x2 = lf_bt (x0) (x3 + 1) from by omega) (show x2 ≤ x3 + 1 from by omega) (show lo_C ((s.1 114)) (x0) (x2) (x3 + 1) from by first | with_reducible assumption | assumption)
theorem sm_301b_p4L {Q : Int → lf_Z → Prop} {x0 : Int} {x2 : Int} {x3 : Int} {s : lf_Z} {s0 : lf_Z} (hQ : ∀ (r : Int) (s' : lf_Z), iv_A s'.1 s'.2.2 → lf_fq [114] 1000000 true s.1 s.2.2 s'.1 s'.2.2 → (r = lf_bt (x0) 12) → (lo_C (s'.1 114) (x0) (r) 12) → (0 ≤ r ∧ r ≤ 12) → Q r s') (hI : iv_A s.1 s.2.2) (bx0 : 0 ≤ x0 ∧ x0 ≤ 4095) (bx2 : 0 ≤ x2 ∧ x2 ≤ 12) (bx3 : 0 ≤ x3 ∧ x3 ≤ 12) (kv0 : x2 = lf_bt (x0) (x3)) (kv1 : x2 ≤ x3) (kv2 : lo_C (s.1 114) (x0) (x2) (x3)) : fm_301b_p4L Q x0 x2 x3 s := by
  intro X4 hX
  have key : ∀ (m9 : Nat) (x2 : Int) (x3 : Int) (s' : lf_Z), iv_A s'.1 s'.2.2 → lf_fq [114] 1000000 true s.1 s.2.2 s'.1 s'.2.2 → 0 ≤ x2 ∧ x2 ≤ 12 → 0 ≤ x3 ∧ x3 ≤ 12 → (x2 = lf_bt (x0) (x3)) → (x2 ≤ x3) → (lo_C (s'.1 114) (x0) (x2) (x3)) → (12 - x3).toNat < m9 → X4 x2 x3 s' := by
    intro m9
    induction m9 with
    | zero => intro x2 x3 s' _ _ bx2 bx3 kv0 kv1 kv2 h9; exact absurd h9 (Nat.not_lt_zero _)
    | succ m9 ih => intro x2 x3 s' i7 f7 bx2 bx3 kv0 kv1 kv2 h9; exact hX _ _ _ (sm_301b_p4 (s0 := s0) (fun r9 t9 i9 f9 => hQ r9 t9 i9 (lf_fq_tr f7 f9))   (fun x2' x3' t8 i8 f8 bx2' bx3' kv0' kv1' kv2' h8 => ih x2' x3' t8 i8 (lf_fq_tr f7 f8) bx2' bx3' kv0' kv1' kv2' (by omega)) (Nat.le_refl _)  i7  bx0 bx2 bx3  kv0 kv1 kv2)
  exact key _ _ _ s hI lf_fq_rf bx2 bx3 kv0 kv1 kv2 (Nat.lt_succ_self _)
theorem sm_301b {a0 : Int} {Q : Int → lf_Z → Prop} {s : lf_Z} (hI : iv_A s.1 s.2.2) (ba0 : 0 ≤ a0 ∧ a0 ≤ 4095) (hQ : ∀ (r : Int) (s' : lf_Z), iv_A s'.1 s'.2.2 → lf_fq [114] 1000000 true s.1 s.2.2 s'.1 s'.2.2 → (r = lf_bt (a0) 12) → (lo_C (s'.1 114) (a0) (r) 12) → (0 ≤ r ∧ r ≤ 12) → Q r s') : fm_301b a0 Q s := by
  unfold fm_301b
  have b1 : lf_bt (a0) 0 = 0 := rfl
  have b2 : lo_C ((s.1 114)) (a0) (0) (0) := by first | with_reducible assumption | exact (fun q a b => by omega)
  exact sm_301b_p4L (s0 := s) hQ hI (show (0 : Int) ≤ a0 ∧ a0 ≤ (4095 : Int) from by omega) (show (0 : Int) ≤ 0 ∧ 0 ≤ (12 : Int) from by omega) (show (0 : Int) ≤ 0 ∧ 0 ≤ (12 : Int) from by omega) (show 0 = lf_bt (a0) (0) from by omega) (show 0 ≤ 0 from by omega) (show lo_C ((s.1 114)) (a0) (0) (0) from by first | with_reducible assumption | assumption)
-- fm_303 Model.areUnlike 95 i
theorem sm_303_p4 {X4 : Int → Int → lf_Z → Prop} {Q : Bool → lf_Z → Prop} {x1 : Int} {x2 : Int} {x3 : Int} {s : lf_Z} {s0 : lf_Z} (hQ : ∀ (z : Bool), (z = false → ¬ od_D (s.1 116) (x1)) → Q z s) {M4 : Nat} (hX4 : ∀ (x2 : Int) (x3 : Int), (-2147483648) ≤ x2 ∧ x2 ≤ 2147483647 → 0 ≤ x3 ∧ x3 ≤ 6 → (od_D (s.1 116) (x1) → x2 = au_t (x3)) → (6 - x3).toNat < M4 → X4 x2 x3 s) (hM4 : (6 - x3).toNat ≤ M4) (hI : iv_A s.1 s.2.2) (bx1 : 0 ≤ x1 ∧ x1 ≤ 6) (bx2 : (-2147483648) ≤ x2 ∧ x2 ≤ 2147483647) (bx3 : 0 ≤ x3 ∧ x3 ≤ 6) (kv0 : od_D (s.1 116) (x1) → x2 = au_t (x3)) : fm_303_p4 Q x1 X4 x2 x3 s := by
  unfold fm_303_p4
  refine ⟨(show lf_R x3 from lf_Rof (by omega)), ?_⟩
  refine ⟨(show lf_R x1 from lf_Rof (by omega)), ?_⟩
  refine ⟨fun c2 => ?_, fun c2 => ?_⟩
  · skip
    replace c2 : x1 ≤ x3 := c2
    exact hQ true (show true = false → ¬ od_D ((s.1 116)) (x1) from fun h => by cases h)
  · skip
    replace c2 : ¬ (x1 ≤ x3) := c2
    refine ⟨(show (0 : Int) ≤ x3 ∧ x3 < (6 : Int) from by omega), ?_⟩
    have b3 : 0 ≤ s.1 116 x3 ∧ s.1 116 x3 ≤ 5 := iv_r116 hI _
    refine sm_210 hI (show (-2147483648 : Int) ≤ x2 ∧ x2 ≤ (2147483647 : Int) from by omega) (show (-1 : Int) ≤ s.1 116 x3 ∧ s.1 116 x3 ≤ (15 : Int) from by omega) (fun z25 q4 => ?_)
    refine ⟨fun c5 => ?_, fun c5 => ?_⟩
    · skip
      have dc5 := q4.2 c5
      have b6 : 1 ≤ lf_shl 1 (s.1 116 x3) ∧ lf_shl 1 (s.1 116 x3) ≤ 32 := lf_shl1 (m := 5) (by omega) (by omega) (by decide)
      have b7 : (-2147483648) ≤ lf_or x2 (lf_shl 1 (s.1 116 x3)) ∧ lf_or x2 (lf_shl 1 (s.1 116 x3)) ≤ 2147483647 := lf_orB
      have b8 : od_D ((s.1 116)) (x1) → (lf_or x2 (lf_shl 1 (s.1 116 x3))) = au_t ((x3 + 1)) := by first | exact (fun hD => au_s hD (kv0 hD) (by omega)) | exact (fun _ => rfl)
      exact hX4 (lf_or x2 (lf_shl 1 (s.1 116 x3))) (x3 + 1) (show (-2147483648 : Int) ≤ lf_or x2 (lf_shl 1 (s.1 116 x3)) ∧ lf_or x2 (lf_shl 1 (s.1 116 x3)) ≤ (2147483647 : Int) from by omega) (show (0 : Int) ≤ x3 + 1 ∧ x3 + 1 ≤ (6 : Int) from by omega) (show od_D ((s.1 116)) (x1) → (lf_or x2 (lf_shl 1 (s.1 116 x3))) = au_t ((x3 + 1)) from by first | with_reducible assumption | assumption) (show (6 - (x3 + 1)).toNat < M4 from by omega)
    · skip
      have dc5 := q4.1 c5
      have b9 : ¬ od_D ((s.1 116)) (x1) := fun hD => au_no hD (kv0 hD) (by omega) (by omega)
      exact hQ false (show false = false → ¬ od_D ((s.1 116)) (x1) from fun _ => by first | with_reducible assumption | assumption)
theorem sm_303_p4L {Q : Bool → lf_Z → Prop} {x1 : Int} {x2 : Int} {x3 : Int} {s : lf_Z} {s0 : lf_Z} (hQ : ∀ (z : Bool), (z = false → ¬ od_D (s.1 116) (x1)) → Q z s) (hI : iv_A s.1 s.2.2) (bx1 : 0 ≤ x1 ∧ x1 ≤ 6) (bx2 : (-2147483648) ≤ x2 ∧ x2 ≤ 2147483647) (bx3 : 0 ≤ x3 ∧ x3 ≤ 6) (kv0 : od_D (s.1 116) (x1) → x2 = au_t (x3)) : fm_303_p4L Q x1 x2 x3 s := by
  intro X4 hX
  have key : ∀ (m9 : Nat) (x2 : Int) (x3 : Int), (-2147483648) ≤ x2 ∧ x2 ≤ 2147483647 → 0 ≤ x3 ∧ x3 ≤ 6 → (od_D (s.1 116) (x1) → x2 = au_t (x3)) → (6 - x3).toNat < m9 → X4 x2 x3 s := by
    intro m9
    induction m9 with
    | zero => intro x2 x3 bx2 bx3 kv0 h9; exact absurd h9 (Nat.not_lt_zero _)
    | succ m9 ih => intro x2 x3 bx2 bx3 kv0 h9; exact hX _ _ _ (sm_303_p4 (s0 := s0) hQ   (fun x2' x3' bx2' bx3' kv0' h8 => ih x2' x3' bx2' bx3' kv0' (by omega)) (Nat.le_refl _)  hI  bx1 bx2 bx3  kv0)
  exact key _ _ _ bx2 bx3  kv0 (Nat.lt_succ_self _)
theorem sm_303 {a1 : Int} {Q : Bool → lf_Z → Prop} {s : lf_Z} (hI : iv_A s.1 s.2.2) (ba1 : 0 ≤ a1 ∧ a1 ≤ 6) (hQ : ∀ (z : Bool), (z = false → ¬ od_D (s.1 116) (a1)) → Q z s) : fm_303 a1 Q s := by
  unfold fm_303
  have b1 : od_D ((s.1 116)) (a1) → 0 = au_t (0) := by first | exact (fun hD => au_s hD (kv0 hD) (by omega)) | exact (fun _ => rfl)
  exact sm_303_p4L (s0 := s) hQ hI (show (0 : Int) ≤ a1 ∧ a1 ≤ (6 : Int) from by omega) (show (-2147483648 : Int) ≤ 0 ∧ 0 ≤ (2147483647 : Int) from by omega) (show (0 : Int) ≤ 0 ∧ 0 ≤ (6 : Int) from by omega) (show od_D ((s.1 116)) (a1) → 0 = au_t (0) from by first | with_reducible assumption | assumption)
-- fm_304 Model.nextRow 95 i i
theorem sm_304_p33 {Q : Bool → lf_Z → Prop} {x3 : Int} {s : lf_Z} {s0 : lf_Z} {g1 : Int} {g2 : Int} (hQ : ∀ (z : Bool) (s' : lf_Z), iv_A s'.1 s'.2.2 → lf_fq [116] 1000000 true s.1 s.2.2 s'.1 s'.2.2 → (z = true → od (s'.1 116) (g2) (g1) = od (s0.1 116) (g2) (g1) + 1) → (od_B (s'.1 116) (g1) (g2)) → (z = false → ∀ j : Int, 0 ≤ j → j < g1 → s0.1 116 j = g2 - 1) → Q z s') (hI : iv_A s.1 s.2.2) (bx3 : (-1) ≤ x3 ∧ x3 ≤ 5) (kv0 : od_I (s0.1 116) (s.1 116) (g2) (g1) (x3)) (kv1 : od_B (s.1 116) (g1) (g2)) (kv2 : od_A (s0.1 116) (s.1 116) (g1) (g2) (x3)) (kv3 : (x3 < 0 ∨ s.1 116 x3 ≠ g2 - 1) ∧ x3 < g1 ∧ 1 ≤ g2 ∧ g2 ≤ 6) : fm_304_p33 Q x3 s := by
  unfold fm_304_p33
  refine ⟨(show lf_R x3 from lf_Rof (by omega)), ?_⟩
  refine ⟨fun c6 => ?_, fun c6 => ?_⟩
  · skip
    replace c6 : 0 ≤ x3 := c6
    have b7 : 0 ≤ (s.1 116 x3) ∧ (s.1 116 x3) < g2 := kv1 _ (by omega) (by omega)
    refine ⟨(show (0 : Int) ≤ x3 ∧ x3 < (6 : Int) from by omega), ?_⟩
    have b8 : 0 ≤ s.1 116 x3 ∧ s.1 116 x3 ≤ 5 := iv_r116 hI _
    have hI9 : iv_A (lf_up s.1 116 x3 ((s.1 116 x3) + 1)) s.2.2 := iv_w116 hI (by omega)
    have fr10 : lf_fq [116] 1000000 true s.1 s.2.2 (lf_up s.1 116 x3 ((s.1 116 x3) + 1)) s.2.2 := lf_fq_up (lf_fq_rf) rfl (fun h => absurd h (by decide))
    have b11 : od (((lf_up s.1 116 x3 ((s.1 116 x3) + 1)) 116)) (g2) (g1) = od (s0.1 116) (g2) (g1) + 1 := kv0 (by omega) _ lf_up_s (fun j hj => lf_up_i hj)
    have b12 : od_B (((lf_up s.1 116 x3 ((s.1 116 x3) + 1)) 116)) (g1) (g2) := by first | exact kv1 | exact od_Bu kv1 (by omega) lf_up_s (fun j hj => lf_up_i hj)
    exact hQ true (lf_up s.1 116 x3 ((s.1 116 x3) + 1), s.2.1, s.2.2) hI9 fr10 (show true = true → od (((lf_up s.1 116 x3 ((s.1 116 x3) + 1)) 116)) (g2) (g1) = od (s0.1 116) (g2) (g1) + 1 from fun _ => by omega) (show od_B (((lf_up s.1 116 x3 ((s.1 116 x3) + 1)) 116)) (g1) (g2) from by first | with_reducible assumption | assumption) (show true = false → ∀ j : Int, 0 ≤ j → j < g1 → s0.1 116 j = g2 - 1 from fun h => by cases h)
  · skip
    replace c6 : ¬ (0 ≤ x3) := c6
    have b13 : ∀ j : Int, 0 ≤ j → j < g1 → s0.1 116 j = g2 - 1 := fun j a b => kv2.1 j (by omega) b
    have b14 : od_B ((s.1 116)) (g1) (g2) := by first | exact kv1 | exact od_Bu kv1 (by omega) lf_up_s (fun j hj => lf_up_i hj)
    exact hQ false s hI (lf_fq_rf) (show false = true → od ((s.1 116)) (g2) (g1) = od (s0.1 116) (g2) (g1) + 1 from fun h => by cases h) (show od_B ((s.1 116)) (g1) (g2) from by first | with_reducible assumption | assumption) (show false = false → ∀ j : Int, 0 ≤ j → j < g1 → s0.1 116 j = g2 - 1 from fun _ => by first | with_reducible assumption | assumption)
theorem sm_304_p4 {X4 : Int → lf_Z → Prop} {Q : Bool → lf_Z → Prop} {x2 : Int} {x3 : Int} {s : lf_Z} {s0 : lf_Z} {g1 : Int} {g2 : Int} (hQ : ∀ (z : Bool) (s' : lf_Z), iv_A s'.1 s'.2.2 → lf_fq [116] 1000000 true s.1 s.2.2 s'.1 s'.2.2 → (z = true → od (s'.1 116) (g2) (g1) = od (s0.1 116) (g2) (g1) + 1) → (od_B (s'.1 116) (g1) (g2)) → (z = false → ∀ j : Int, 0 ≤ j → j < g1 → s0.1 116 j = g2 - 1) → Q z s') {M4 : Nat} (hX4 : ∀ (x3 : Int) (s' : lf_Z), iv_A s'.1 s'.2.2 → lf_fq [116] 1000000 true s.1 s.2.2 s'.1 s'.2.2 → (-1) ≤ x3 ∧ x3 ≤ 5 → (od_I (s0.1 116) (s'.1 116) (g2) (g1) (x3)) → (od_B (s'.1 116) (g1) (g2)) → (od_A (s0.1 116) (s'.1 116) (g1) (g2) (x3)) → (x2 = g2 ∧ x3 < g1 ∧ 1 ≤ g2 ∧ g2 ≤ 6) → (x3 - (-1)).toNat < M4 → X4 x3 s') (hM4 : (x3 - (-1)).toNat ≤ M4) (hI : iv_A s.1 s.2.2) (bx2 : 0 ≤ x2 ∧ x2 ≤ 6) (bx3 : (-1) ≤ x3 ∧ x3 ≤ 5) (kv0 : od_I (s0.1 116) (s.1 116) (g2) (g1) (x3)) (kv1 : od_B (s.1 116) (g1) (g2)) (kv2 : od_A (s0.1 116) (s.1 116) (g1) (g2) (x3)) (kv3 : x2 = g2 ∧ x3 < g1 ∧ 1 ≤ g2 ∧ g2 ≤ 6) : fm_304_p4 Q x2 X4 x3 s := by
  unfold fm_304_p4
  refine ⟨(show lf_R x3 from lf_Rof (by omega)), ?_⟩
  refine ⟨fun c4 => ?_, fun c4 => ?_⟩
  · skip
    replace c4 : x3 < 0 := c4
    have b5 : 0 ≤ s.1 116 x3 ∧ s.1 116 x3 ≤ 5 := iv_r116 hI _
    exact sm_304_p33 (s0 := s0) (g1 := g1) (g2 := g2) hQ hI (show (-1 : Int) ≤ x3 ∧ x3 ≤ (5 : Int) from by omega) (show od_I (s0.1 116) ((s.1 116)) (g2) (g1) (x3) from by first | with_reducible assumption | assumption) (show od_B ((s.1 116)) (g1) (g2) from by first | with_reducible assumption | assumption) (show od_A (s0.1 116) ((s.1 116)) (g1) (g2) (x3) from by first | with_reducible assumption | assumption) (show (x3 < 0 ∨ (s.1 116 x3) ≠ g2 - 1) ∧ x3 < g1 ∧ 1 ≤ g2 ∧ g2 ≤ 6 from by omega)
  · skip
    replace c4 : ¬ (x3 < 0) := c4
    refine ⟨(show (0 : Int) ≤ x3 ∧ x3 < (6 : Int) from by omega), ?_⟩
    have b15 : 0 ≤ s.1 116 x3 ∧ s.1 116 x3 ≤ 5 := iv_r116 hI _
    refine ⟨(show lf_R (s.1 116 x3) from lf_Rof (by omega)), ?_⟩
    refine ⟨(show lf_R (x2 - 1) from lf_Rof (by omega)), ?_⟩
    refine ⟨fun c16 => ?_, fun c16 => ?_⟩
    · skip
      replace c16 : s.1 116 x3 ≠ x2 - 1 := c16
      exact sm_304_p33 (s0 := s0) (g1 := g1) (g2 := g2) hQ hI (show (-1 : Int) ≤ x3 ∧ x3 ≤ (5 : Int) from by omega) (show od_I (s0.1 116) ((s.1 116)) (g2) (g1) (x3) from by first | with_reducible assumption | assumption) (show od_B ((s.1 116)) (g1) (g2) from by first | with_reducible assumption | assumption) (show od_A (s0.1 116) ((s.1 116)) (g1) (g2) (x3) from by first | with_reducible assumption | assumption) (show (x3 < 0 ∨ (s.1 116 x3) ≠ g2 - 1) ∧ x3 < g1 ∧ 1 ≤ g2 ∧ g2 ≤ 6 from by omega)
    · skip
      replace c16 : ¬ (s.1 116 x3 ≠ x2 - 1) := c16
      have hI17 : iv_A (lf_up s.1 116 x3 0) s.2.2 := iv_w116 hI (by omega)
      have fr18 : lf_fq [116] 1000000 true s.1 s.2.2 (lf_up s.1 116 x3 0) s.2.2 := lf_fq_up (lf_fq_rf) rfl (fun h => absurd h (by decide))
      have b19 : od_I (s0.1 116) (((lf_up s.1 116 x3 0) 116)) (g2) (g1) ((x3 + (-1))) := by first | exact od_I0 | exact od_Is kv0 (by omega) (by omega) lf_up_s (fun j hj => lf_up_i hj)
      have b20 : od_B (((lf_up s.1 116 x3 0) 116)) (g1) (g2) := by first | with_reducible assumption | exact od_Bu kv1 (by omega) lf_up_s (fun j hj => lf_up_i hj)
      have b21 : od_A (s0.1 116) (((lf_up s.1 116 x3 0) 116)) (g1) (g2) ((x3 + (-1))) := by first | exact od_A0 | exact od_As kv2 (by omega) (fun j hj => lf_up_i hj)
      exact hX4 (x3 + (-1)) (lf_up s.1 116 x3 0, s.2.1, s.2.2) hI17 fr18 (show (-1 : Int) ≤ x3 + (-1) ∧ x3 + (-1) ≤ (5 : Int) from by omega) (show od_I (s0.1 116) (((lf_up s.1 116 x3 0) 116)) (g2) (g1) ((x3 + (-1))) from by first | with_reducible assumption | assumption) (show od_B (((lf_up s.1 116 x3 0) 116)) (g1) (g2) from by first | with_reducible assumption | assumption) (show od_A (s0.1 116) (((lf_up s.1 116 x3 0) 116)) (g1) (g2) ((x3 + (-1))) from by first | with_reducible assumption | assumption) (show x2 = g2 ∧ (x3 + (-1)) < g1 ∧ 1 ≤ g2 ∧ g2 ≤ 6 from by omega) (show ((x3 + (-1)) - (-1)).toNat < M4 from by omega)
theorem sm_304_p4L {Q : Bool → lf_Z → Prop} {x2 : Int} {x3 : Int} {s : lf_Z} {s0 : lf_Z} {g1 : Int} {g2 : Int} (hQ : ∀ (z : Bool) (s' : lf_Z), iv_A s'.1 s'.2.2 → lf_fq [116] 1000000 true s.1 s.2.2 s'.1 s'.2.2 → (z = true → od (s'.1 116) (g2) (g1) = od (s0.1 116) (g2) (g1) + 1) → (od_B (s'.1 116) (g1) (g2)) → (z = false → ∀ j : Int, 0 ≤ j → j < g1 → s0.1 116 j = g2 - 1) → Q z s') (hI : iv_A s.1 s.2.2) (bx2 : 0 ≤ x2 ∧ x2 ≤ 6) (bx3 : (-1) ≤ x3 ∧ x3 ≤ 5) (kv0 : od_I (s0.1 116) (s.1 116) (g2) (g1) (x3)) (kv1 : od_B (s.1 116) (g1) (g2)) (kv2 : od_A (s0.1 116) (s.1 116) (g1) (g2) (x3)) (kv3 : x2 = g2 ∧ x3 < g1 ∧ 1 ≤ g2 ∧ g2 ≤ 6) : fm_304_p4L Q x2 x3 s := by
  intro X4 hX
  have key : ∀ (m9 : Nat) (x3 : Int) (s' : lf_Z), iv_A s'.1 s'.2.2 → lf_fq [116] 1000000 true s.1 s.2.2 s'.1 s'.2.2 → (-1) ≤ x3 ∧ x3 ≤ 5 → (od_I (s0.1 116) (s'.1 116) (g2) (g1) (x3)) → (od_B (s'.1 116) (g1) (g2)) → (od_A (s0.1 116) (s'.1 116) (g1) (g2) (x3)) → (x2 = g2 ∧ x3 < g1 ∧ 1 ≤ g2 ∧ g2 ≤ 6) → (x3 - (-1)).toNat < m9 → X4 x3 s' := by
    intro m9
    induction m9 with
    | zero => intro x3 s' _ _ bx3 kv0 kv1 kv2 kv3 h9; exact absurd h9 (Nat.not_lt_zero _)
    | succ m9 ih => intro x3 s' i7 f7 bx3 kv0 kv1 kv2 kv3 h9; exact hX _ _ (sm_304_p4 (s0 := s0) (g1 := g1) (g2 := g2) (fun r9 t9 i9 f9 => hQ r9 t9 i9 (lf_fq_tr f7 f9))   (fun x3' t8 i8 f8 bx3' kv0' kv1' kv2' kv3' h8 => ih x3' t8 i8 (lf_fq_tr f7 f8) bx3' kv0' kv1' kv2' kv3' (by omega)) (Nat.le_refl _)  i7  bx2 bx3  kv0 kv1 kv2 kv3)
  exact key _ _ s hI lf_fq_rf bx3 kv0 kv1 kv2 kv3 (Nat.lt_succ_self _)
theorem sm_304 {a1 : Int} {a2 : Int} {Q : Bool → lf_Z → Prop} {s : lf_Z} (hI : iv_A s.1 s.2.2) (ba1 : 0 ≤ a1 ∧ a1 ≤ 6) (ba2 : 0 ≤ a2 ∧ a2 ≤ 6) (kp0 : od_B (s.1 116) (a1) (a2)) (kp1 : 1 ≤ a2 ∧ a2 ≤ 6 ∧ 0 ≤ a1 ∧ a1 ≤ 6) (hQ : ∀ (z : Bool) (s' : lf_Z), iv_A s'.1 s'.2.2 → lf_fq [116] 1000000 true s.1 s.2.2 s'.1 s'.2.2 → (z = true → od (s'.1 116) (a2) (a1) = od (s.1 116) (a2) (a1) + 1) → (od_B (s'.1 116) (a1) (a2)) → (z = false → ∀ j : Int, 0 ≤ j → j < a1 → s.1 116 j = a2 - 1) → Q z s') : fm_304 a1 a2 Q s := by
  unfold fm_304
  have b1 : od_I (s.1 116) ((s.1 116)) (a2) (a1) ((a1 - 1)) := by first | exact od_I0 | exact od_Is kv0 (by omega) (by omega) lf_up_s (fun j hj => lf_up_i hj)
  have b2 : od_B ((s.1 116)) (a1) (a2) := by first | with_reducible assumption | exact od_Bu kv1 (by omega) lf_up_s (fun j hj => lf_up_i hj)
  have b3 : od_A (s.1 116) ((s.1 116)) (a1) (a2) ((a1 - 1)) := by first | exact od_A0 | exact od_As kv2 (by omega) (fun j hj => lf_up_i hj)
  exact sm_304_p4L (s0 := s) (g1 := a1) (g2 := a2) hQ hI (show (0 : Int) ≤ a2 ∧ a2 ≤ (6 : Int) from by omega) (show (-1 : Int) ≤ a1 - 1 ∧ a1 - 1 ≤ (5 : Int) from by omega) (show od_I (s.1 116) ((s.1 116)) (a2) (a1) ((a1 - 1)) from by first | with_reducible assumption | assumption) (show od_B ((s.1 116)) (a1) (a2) from by first | with_reducible assumption | assumption) (show od_A (s.1 116) ((s.1 116)) (a1) (a2) ((a1 - 1)) from by first | with_reducible assumption | assumption) (show a2 = a2 ∧ (a1 - 1) < a1 ∧ 1 ≤ a2 ∧ a2 ≤ 6 from by omega)
-- fm_302 Model.bestSending 95 i i
theorem sm_302_p162 {X30 : Int → Int → lf_Z → Prop} {Q : Int → lf_Z → Prop} {x1 : Int} {x2 : Int} {y0 : Int} {s : lf_Z} (hQ : ∀ (r : Int) (s' : lf_Z), iv_A s'.1 s'.2.2 → lf_fq [116, 117] 1000000 true s.1 s.2.2 s'.1 s'.2.2 → (0 ≤ r ∧ r ≤ 1000) → Q r s') {M30 : Nat} (hX30 : ∀ (x3 : Int) (x4 : Int) (s' : lf_Z), iv_A s'.1 s'.2.2 → lf_fq [116, 117] 1000000 true s.1 s.2.2 s'.1 s'.2.2 → 0 ≤ x3 ∧ x3 ≤ 1000 → 0 ≤ x4 ∧ x4 ≤ 1 → (od_B (s'.1 116) (x1) (x2)) → (x1 ≤ 6 ∧ 1 ≤ x2 ∧ x2 ≤ 6) → (od_m (x4) (46657 - od (s'.1 116) (x2) (x1))).toNat < M30 → X30 x3 x4 s') (hM30 : (46657 - od (s.1 116) (x2) (x1)).toNat ≤ M30) (hI : iv_A s.1 s.2.2) (bx1 : 0 ≤ x1 ∧ x1 ≤ 6) (bx2 : 0 ≤ x2 ∧ x2 ≤ 6) (by0 : 0 ≤ y0 ∧ y0 ≤ 1000) (kv0 : od_B (s.1 116) (x1) (x2)) (kv1 : x1 ≤ 6 ∧ 1 ≤ x2 ∧ x2 ≤ 6) : fm_302_p162 X30 Q x1 x2 y0 s := by
  unfold fm_302_p162
  have b12 : 0 ≤ od ((s.1 116)) (x2) (x1) ∧ od ((s.1 116)) (x2) (x1) ≤ 46655 := od_le kv0 (by omega) (by omega)
  refine sm_304 hI (show (0 : Int) ≤ x1 ∧ x1 ≤ (6 : Int) from by omega) (show (0 : Int) ≤ x2 ∧ x2 ≤ (6 : Int) from by omega) (show od_B ((s.1 116)) (x1) (x2) from by first | with_reducible assumption | assumption) (show 1 ≤ x2 ∧ x2 ≤ 6 ∧ 0 ≤ x1 ∧ x1 ≤ 6 from by omega) (fun z33 s32 hI14 fr13 ps16 ps17 ps18 => ?_)
  replace ps16 : z33 = true → od (s32.1 116) (x2) (x1) = od ((s.1 116)) (x2) (x1) + 1 := ps16
  replace ps17 : od_B (s32.1 116) (x1) (x2) := ps17
  replace ps18 : z33 = false → ∀ j : Int, 0 ≤ j → j < x1 → (s.1 116) j = x2 - 1 := ps18
  have fr19 : lf_fq [116, 117] 1000000 true s.1 s.2.2 s32.1 s32.2.2 := lf_fq_tr (lf_fq_rf) (lf_fq_wk fr13 rfl (by decide) (by decide))
  have b20 : (lf_b z33) = 0 ∨ od ((s32.1 116)) (x2) (x1) = od (s.1 116) (x2) (x1) + 1 := lf_bz ps16
  have b21 : ((lf_b z33) = 0 ∧ od_m (lf_b z33) (46657 - od ((s32.1 116)) (x2) (x1)) = 0) ∨ ((lf_b z33) ≠ 0 ∧ od_m (lf_b z33) (46657 - od ((s32.1 116)) (x2) (x1)) = 46657 - od ((s32.1 116)) (x2) (x1)) := od_mE _ _
  have b22 : 0 ≤ od ((s32.1 116)) (x2) (x1) ∧ od ((s32.1 116)) (x2) (x1) ≤ 46655 := od_le ps17 (by omega) (by omega)
  have b23 : od_B ((s32.1 116)) (x1) (x2) := by first | with_reducible assumption | exact od_Bz kv0 (by omega) (by omega)
  have zzz33 : 0 ≤ lf_b z33 ∧ lf_b z33 ≤ 1 := lf_b01
  exact hX30 (y0) (lf_b z33) s32 hI14 fr19 (show (0 : Int) ≤ y0 ∧ y0 ≤ (1000 : Int) from by omega) (show (0 : Int) ≤ lf_b z33 ∧ lf_b z33 ≤ (1 : Int) from by omega) (show od_B ((s32.1 116)) (x1) (x2) from by first | with_reducible assumption | assumption) (show x1 ≤ 6 ∧ 1 ≤ x2 ∧ x2 ≤ 6 from by omega) (show (od_m ((lf_b z33)) (46657 - od ((s32.1 116)) (x2) (x1))).toNat < M30 from by omega)
theorem sm_302_p150 {X30 : Int → Int → lf_Z → Prop} {Q : Int → lf_Z → Prop} {x1 : Int} {x2 : Int} {x3 : Int} {x5 : Int} {s : lf_Z} (hQ : ∀ (r : Int) (s' : lf_Z), iv_A s'.1 s'.2.2 → lf_fq [116, 117] 1000000 true s.1 s.2.2 s'.1 s'.2.2 → (0 ≤ r ∧ r ≤ 1000) → Q r s') {M30 : Nat} (hX30 : ∀ (x3 : Int) (x4 : Int) (s' : lf_Z), iv_A s'.1 s'.2.2 → lf_fq [116, 117] 1000000 true s.1 s.2.2 s'.1 s'.2.2 → 0 ≤ x3 ∧ x3 ≤ 1000 → 0 ≤ x4 ∧ x4 ≤ 1 → (od_B (s'.1 116) (x1) (x2)) → (x1 ≤ 6 ∧ 1 ≤ x2 ∧ x2 ≤ 6) → (od_m (x4) (46657 - od (s'.1 116) (x2) (x1))).toNat < M30 → X30 x3 x4 s') (hM30 : (46657 - od (s.1 116) (x2) (x1)).toNat ≤ M30) (hI : iv_A s.1 s.2.2) (bx1 : 0 ≤ x1 ∧ x1 ≤ 6) (bx2 : 0 ≤ x2 ∧ x2 ≤ 6) (bx3 : 0 ≤ x3 ∧ x3 ≤ 1000) (bx5 : 0 ≤ x5 ∧ x5 ≤ 1000) (kv0 : od_B (s.1 116) (x1) (x2)) (kv1 : x1 ≤ 6 ∧ 1 ≤ x2 ∧ x2 ≤ 6) : fm_302_p150 X30 Q x1 x2 x3 x5 s := by
  unfold fm_302_p150
  refine ⟨(show lf_R x5 from lf_Rof (by omega)), ?_⟩
  refine ⟨(show lf_R x3 from lf_Rof (by omega)), ?_⟩
  refine ⟨fun c11 => ?_, fun c11 => ?_⟩
  · skip
    replace c11 : x3 ≤ x5 := c11
    exact sm_302_p162 hQ hX30 (show (46657 - od ((s.1 116)) (x2) (x1)).toNat ≤ M30 from by omega) hI (show (0 : Int) ≤ x1 ∧ x1 ≤ (6 : Int) from by omega) (show (0 : Int) ≤ x2 ∧ x2 ≤ (6 : Int) from by omega) (show (0 : Int) ≤ x3 ∧ x3 ≤ (1000 : Int) from by omega) (show od_B ((s.1 116)) (x1) (x2) from by first | with_reducible assumption | assumption) (show x1 ≤ 6 ∧ 1 ≤ x2 ∧ x2 ≤ 6 from by omega)
  · skip
    replace c11 : ¬ (x3 ≤ x5) := c11
    exact sm_302_p162 hQ hX30 (show (46657 - od ((s.1 116)) (x2) (x1)).toNat ≤ M30 from by omega) hI (show (0 : Int) ≤ x1 ∧ x1 ≤ (6 : Int) from by omega) (show (0 : Int) ≤ x2 ∧ x2 ≤ (6 : Int) from by omega) (show (0 : Int) ≤ x5 ∧ x5 ≤ (1000 : Int) from by omega) (show od_B ((s.1 116)) (x1) (x2) from by first | with_reducible assumption | assumption) (show x1 ≤ 6 ∧ 1 ≤ x2 ∧ x2 ≤ 6 from by omega)
theorem sm_302_p118 {X30 : Int → Int → lf_Z → Prop} {X118 : Int → lf_Z → Prop} {Q : Int → lf_Z → Prop} {x1 : Int} {x2 : Int} {x3 : Int} {x5 : Int} {x6 : Int} {s : lf_Z} (hQ : ∀ (r : Int) (s' : lf_Z), iv_A s'.1 s'.2.2 → lf_fq [116, 117] 1000000 true s.1 s.2.2 s'.1 s'.2.2 → (0 ≤ r ∧ r ≤ 1000) → Q r s') {M30 : Nat} (hX30 : ∀ (x3 : Int) (x4 : Int) (s' : lf_Z), iv_A s'.1 s'.2.2 → lf_fq [116, 117] 1000000 true s.1 s.2.2 s'.1 s'.2.2 → 0 ≤ x3 ∧ x3 ≤ 1000 → 0 ≤ x4 ∧ x4 ≤ 1 → (od_B (s'.1 116) (x1) (x2)) → (x1 ≤ 6 ∧ 1 ≤ x2 ∧ x2 ≤ 6) → (od_m (x4) (46657 - od (s'.1 116) (x2) (x1))).toNat < M30 → X30 x3 x4 s') (hM30 : (46657 - od (s.1 116) (x2) (x1)).toNat ≤ M30) {M118 : Nat} (hX118 : ∀ (x6 : Int) (s' : lf_Z), iv_A s'.1 s'.2.2 → lf_fq [116, 117] 1000000 true s.1 s.2.2 s'.1 s'.2.2 → 0 ≤ x6 ∧ x6 ≤ 6 → (od_B (s'.1 116) (x1) (x2)) → (x1 ≤ 6 ∧ 1 ≤ x2 ∧ x2 ≤ 6) → ((46657 - od (s'.1 116) (x2) (x1)).toNat ≤ M30) → (6 - x6).toNat < M118 → X118 x6 s') (hM118 : (6 - x6).toNat ≤ M118) (hI : iv_A s.1 s.2.2) (bx1 : 0 ≤ x1 ∧ x1 ≤ 6) (bx2 : 0 ≤ x2 ∧ x2 ≤ 6) (bx3 : 0 ≤ x3 ∧ x3 ≤ 1000) (bx5 : 0 ≤ x5 ∧ x5 ≤ 1000) (bx6 : 0 ≤ x6 ∧ x6 ≤ 6) (kv0 : od_B (s.1 116) (x1) (x2)) (kv1 : x1 ≤ 6 ∧ 1 ≤ x2 ∧ x2 ≤ 6) (kv2 : (46657 - od (s.1 116) (x2) (x1)).toNat ≤ M30) : fm_302_p118 X30 Q x1 x2 x3 x5 X118 x6 s := by
  unfold fm_302_p118
  refine ⟨(show lf_R x6 from lf_Rof (by omega)), ?_⟩
  refine ⟨(show lf_R x1 from lf_Rof (by omega)), ?_⟩
  refine ⟨fun c10 => ?_, fun c10 => ?_⟩
  · skip
    replace c10 : x1 ≤ x6 := c10
    exact sm_302_p150 hQ hX30 (show (46657 - od ((s.1 116)) (x2) (x1)).toNat ≤ M30 from by omega) hI (show (0 : Int) ≤ x1 ∧ x1 ≤ (6 : Int) from by omega) (show (0 : Int) ≤ x2 ∧ x2 ≤ (6 : Int) from by omega) (show (0 : Int) ≤ x3 ∧ x3 ≤ (1000 : Int) from by omega) (show (0 : Int) ≤ x5 ∧ x5 ≤ (1000 : Int) from by omega) (show od_B ((s.1 116)) (x1) (x2) from by first | with_reducible assumption | assumption) (show x1 ≤ 6 ∧ 1 ≤ x2 ∧ x2 ≤ 6 from by omega)
  · skip
    replace c10 : ¬ (x1 ≤ x6) := c10
    refine ⟨(show lf_R x5 from lf_Rof (by omega)), ?_⟩
    refine ⟨(show lf_R x3 from lf_Rof (by omega)), ?_⟩
    refine ⟨fun c24 => ?_, fun c24 => ?_⟩
    · skip
      replace c24 : x3 ≤ x5 := c24
      exact sm_302_p150 hQ hX30 (show (46657 - od ((s.1 116)) (x2) (x1)).toNat ≤ M30 from by omega) hI (show (0 : Int) ≤ x1 ∧ x1 ≤ (6 : Int) from by omega) (show (0 : Int) ≤ x2 ∧ x2 ≤ (6 : Int) from by omega) (show (0 : Int) ≤ x3 ∧ x3 ≤ (1000 : Int) from by omega) (show (0 : Int) ≤ x5 ∧ x5 ≤ (1000 : Int) from by omega) (show od_B ((s.1 116)) (x1) (x2) from by first | with_reducible assumption | assumption) (show x1 ≤ 6 ∧ 1 ≤ x2 ∧ x2 ≤ 6 from by omega)
    · skip
      replace c24 : ¬ (x3 ≤ x5) := c24
      refine ⟨(show (0 : Int) ≤ x6 ∧ x6 < (6 : Int) from by omega), ?_⟩
      have b25 : 0 ≤ s.1 116 x6 ∧ s.1 116 x6 ≤ 5 := iv_r116 hI _
      have hI26 : iv_A (lf_up s.1 117 x6 (s.1 116 x6)) s.2.2 := iv_w117 hI (by omega)
      have fr27 : lf_fq [116, 117] 1000000 true s.1 s.2.2 (lf_up s.1 117 x6 (s.1 116 x6)) s.2.2 := lf_fq_up (lf_fq_rf) rfl (fun h => absurd h (by decide))
      exact hX118 (x6 + 1) (lf_up s.1 117 x6 (s.1 116 x6), s.2.1, s.2.2) hI26 fr27 (show (0 : Int) ≤ x6 + 1 ∧ x6 + 1 ≤ (6 : Int) from by omega) (show od_B ((s.1 116)) (x1) (x2) from by first | with_reducible assumption | assumption) (show x1 ≤ 6 ∧ 1 ≤ x2 ∧ x2 ≤ 6 from by omega) (show (46657 - od ((s.1 116)) (x2) (x1)).toNat ≤ M30 from by omega) (show (6 - (x6 + 1)).toNat < M118 from by omega)
theorem sm_302_p118L {X30 : Int → Int → lf_Z → Prop} {Q : Int → lf_Z → Prop} {x1 : Int} {x2 : Int} {x3 : Int} {x5 : Int} {x6 : Int} {s : lf_Z} (hQ : ∀ (r : Int) (s' : lf_Z), iv_A s'.1 s'.2.2 → lf_fq [116, 117] 1000000 true s.1 s.2.2 s'.1 s'.2.2 → (0 ≤ r ∧ r ≤ 1000) → Q r s') {M30 : Nat} (hX30 : ∀ (x3 : Int) (x4 : Int) (s' : lf_Z), iv_A s'.1 s'.2.2 → lf_fq [116, 117] 1000000 true s.1 s.2.2 s'.1 s'.2.2 → 0 ≤ x3 ∧ x3 ≤ 1000 → 0 ≤ x4 ∧ x4 ≤ 1 → (od_B (s'.1 116) (x1) (x2)) → (x1 ≤ 6 ∧ 1 ≤ x2 ∧ x2 ≤ 6) → (od_m (x4) (46657 - od (s'.1 116) (x2) (x1))).toNat < M30 → X30 x3 x4 s') (hM30 : (46657 - od (s.1 116) (x2) (x1)).toNat ≤ M30) (hI : iv_A s.1 s.2.2) (bx1 : 0 ≤ x1 ∧ x1 ≤ 6) (bx2 : 0 ≤ x2 ∧ x2 ≤ 6) (bx3 : 0 ≤ x3 ∧ x3 ≤ 1000) (bx5 : 0 ≤ x5 ∧ x5 ≤ 1000) (bx6 : 0 ≤ x6 ∧ x6 ≤ 6) (kv0 : od_B (s.1 116) (x1) (x2)) (kv1 : x1 ≤ 6 ∧ 1 ≤ x2 ∧ x2 ≤ 6) (kv2 : (46657 - od (s.1 116) (x2) (x1)).toNat ≤ M30) : fm_302_p118L X30 Q x1 x2 x3 x5 x6 s := by
  intro X118 hX
  have key : ∀ (m9 : Nat) (x6 : Int) (s' : lf_Z), iv_A s'.1 s'.2.2 → lf_fq [116, 117] 1000000 true s.1 s.2.2 s'.1 s'.2.2 → 0 ≤ x6 ∧ x6 ≤ 6 → (od_B (s'.1 116) (x1) (x2)) → (x1 ≤ 6 ∧ 1 ≤ x2 ∧ x2 ≤ 6) → ((46657 - od (s'.1 116) (x2) (x1)).toNat ≤ M30) → (6 - x6).toNat < m9 → X118 x6 s' := by
    intro m9
    induction m9 with
    | zero => intro x6 s' _ _ bx6 kv0 kv1 kv2 h9; exact absurd h9 (Nat.not_lt_zero _)
    | succ m9 ih => intro x6 s' i7 f7 bx6 kv0 kv1 kv2 h9; exact hX _ _ (sm_302_p118 (fun r9 t9 i9 f9 => hQ r9 t9 i9 (lf_fq_tr f7 f9))  (fun p0 p1 t9 i9 f9 => hX30 p0 p1 t9 i9 (lf_fq_tr f7 f9)) kv2 (fun x6' t8 i8 f8 bx6' kv0' kv1' kv2' h8 => ih x6' t8 i8 (lf_fq_tr f7 f8) bx6' kv0' kv1' kv2' (by omega)) (Nat.le_refl _)  i7  bx1 bx2 bx3 bx5 bx6  kv0 kv1 kv2)
  exact key _ _ s hI lf_fq_rf bx6 kv0 kv1 kv2 (Nat.lt_succ_self _)
theorem sm_302_p107 {X30 : Int → Int → lf_Z → Prop} {X55 : Int → Int → lf_Z → Prop} {Q : Int → lf_Z → Prop} {x1 : Int} {x2 : Int} {x3 : Int} {x6 : Int} {y0 : Int} {s : lf_Z} (hQ : ∀ (r : Int) (s' : lf_Z), iv_A s'.1 s'.2.2 → lf_fq [116, 117] 1000000 true s.1 s.2.2 s'.1 s'.2.2 → (0 ≤ r ∧ r ≤ 1000) → Q r s') {M30 : Nat} (hX30 : ∀ (x3 : Int) (x4 : Int) (s' : lf_Z), iv_A s'.1 s'.2.2 → lf_fq [116, 117] 1000000 true s.1 s.2.2 s'.1 s'.2.2 → 0 ≤ x3 ∧ x3 ≤ 1000 → 0 ≤ x4 ∧ x4 ≤ 1 → (od_B (s'.1 116) (x1) (x2)) → (x1 ≤ 6 ∧ 1 ≤ x2 ∧ x2 ≤ 6) → (od_m (x4) (46657 - od (s'.1 116) (x2) (x1))).toNat < M30 → X30 x3 x4 s') (hM30 : (46657 - od (s.1 116) (x2) (x1)).toNat ≤ M30) {M55 : Nat} (hX55 : ∀ (x5 : Int) (x6 : Int) (s' : lf_Z), iv_A s'.1 s'.2.2 → lf_fq [116, 117] 1000000 true s.1 s.2.2 s'.1 s'.2.2 → 0 ≤ x5 ∧ x5 ≤ 1000 → 0 ≤ x6 ∧ x6 ≤ 6 → (od_B (s'.1 116) (x1) (x2)) → (x1 ≤ 6 ∧ 1 ≤ x2 ∧ x2 ≤ 6) → ((46657 - od (s'.1 116) (x2) (x1)).toNat ≤ M30) → (6 - x6).toNat < M55 → X55 x5 x6 s') (hM55 : (6 - x6).toNat ≤ M55) (hI : iv_A s.1 s.2.2) (bx1 : 1 ≤ x1 ∧ x1 ≤ 6) (bx2 : 0 ≤ x2 ∧ x2 ≤ 6) (bx3 : 0 ≤ x3 ∧ x3 ≤ 1000) (bx6 : 0 ≤ x6 ∧ x6 ≤ 5) (by0 : 0 ≤ y0 ∧ y0 ≤ 1000) (kv0 : od_B (s.1 116) (x1) (x2)) (kv1 : x1 ≤ 6 ∧ 1 ≤ x2 ∧ x2 ≤ 6) : fm_302_p107 X30 X55 Q x1 x2 x3 x6 y0 s := by
  unfold fm_302_p107
  exact hX55 (y0) (x6 + 1) s hI (lf_fq_rf) (show (0 : Int) ≤ y0 ∧ y0 ≤ (1000 : Int) from by omega) (show (0 : Int) ≤ x6 + 1 ∧ x6 + 1 ≤ (6 : Int) from by omega) (show od_B ((s.1 116)) (x1) (x2) from by first | with_reducible assumption | assumption) (show x1 ≤ 6 ∧ 1 ≤ x2 ∧ x2 ≤ 6 from by omega) (show (46657 - od ((s.1 116)) (x2) (x1)).toNat ≤ M30 from by omega) (show (6 - (x6 + 1)).toNat < M55 from by omega)
theorem sm_302_p55 {X30 : Int → Int → lf_Z → Prop} {X55 : Int → Int → lf_Z → Prop} {Q : Int → lf_Z → Prop} {x1 : Int} {x2 : Int} {x3 : Int} {x5 : Int} {x6 : Int} {s : lf_Z} (hQ : ∀ (r : Int) (s' : lf_Z), iv_A s'.1 s'.2.2 → lf_fq [116, 117] 1000000 true s.1 s.2.2 s'.1 s'.2.2 → (0 ≤ r ∧ r ≤ 1000) → Q r s') {M30 : Nat} (hX30 : ∀ (x3 : Int) (x4 : Int) (s' : lf_Z), iv_A s'.1 s'.2.2 → lf_fq [116, 117] 1000000 true s.1 s.2.2 s'.1 s'.2.2 → 0 ≤ x3 ∧ x3 ≤ 1000 → 0 ≤ x4 ∧ x4 ≤ 1 → (od_B (s'.1 116) (x1) (x2)) → (x1 ≤ 6 ∧ 1 ≤ x2 ∧ x2 ≤ 6) → (od_m (x4) (46657 - od (s'.1 116) (x2) (x1))).toNat < M30 → X30 x3 x4 s') (hM30 : (46657 - od (s.1 116) (x2) (x1)).toNat ≤ M30) {M55 : Nat} (hX55 : ∀ (x5 : Int) (x6 : Int) (s' : lf_Z), iv_A s'.1 s'.2.2 → lf_fq [116, 117] 1000000 true s.1 s.2.2 s'.1 s'.2.2 → 0 ≤ x5 ∧ x5 ≤ 1000 → 0 ≤ x6 ∧ x6 ≤ 6 → (od_B (s'.1 116) (x1) (x2)) → (x1 ≤ 6 ∧ 1 ≤ x2 ∧ x2 ≤ 6) → ((46657 - od (s'.1 116) (x2) (x1)).toNat ≤ M30) → (6 - x6).toNat < M55 → X55 x5 x6 s') (hM55 : (6 - x6).toNat ≤ M55) (hI : iv_A s.1 s.2.2) (bx1 : 0 ≤ x1 ∧ x1 ≤ 6) (bx2 : 0 ≤ x2 ∧ x2 ≤ 6) (bx3 : 0 ≤ x3 ∧ x3 ≤ 1000) (bx5 : 0 ≤ x5 ∧ x5 ≤ 1000) (bx6 : 0 ≤ x6 ∧ x6 ≤ 6) (kv0 : od_B (s.1 116) (x1) (x2)) (kv1 : x1 ≤ 6 ∧ 1 ≤ x2 ∧ x2 ≤ 6) (kv2 : (46657 - od (s.1 116) (x2) (x1)).toNat ≤ M30) : fm_302_p55 X30 Q x1 x2 x3 X55 x5 x6 s := by
  unfold fm_302_p55
  refine ⟨(show lf_R x6 from lf_Rof (by omega)), ?_⟩
  refine ⟨(show lf_R x1 from lf_Rof (by omega)), ?_⟩
  refine ⟨fun c9 => ?_, fun c9 => ?_⟩
  · skip
    replace c9 : x1 ≤ x6 := c9
    exact sm_302_p118L hQ hX30 (show (46657 - od ((s.1 116)) (x2) (x1)).toNat ≤ M30 from by omega) hI (show (0 : Int) ≤ x1 ∧ x1 ≤ (6 : Int) from by omega) (show (0 : Int) ≤ x2 ∧ x2 ≤ (6 : Int) from by omega) (show (0 : Int) ≤ x3 ∧ x3 ≤ (1000 : Int) from by omega) (show (0 : Int) ≤ x5 ∧ x5 ≤ (1000 : Int) from by omega) (show (0 : Int) ≤ 0 ∧ 0 ≤ (6 : Int) from by omega) (show od_B ((s.1 116)) (x1) (x2) from by first | with_reducible assumption | assumption) (show x1 ≤ 6 ∧ 1 ≤ x2 ∧ x2 ≤ 6 from by omega) (show (46657 - od ((s.1 116)) (x2) (x1)).toNat ≤ M30 from by omega)
  · skip
    replace c9 : ¬ (x1 ≤ x6) := c9
    refine ⟨(show (0 : Int) ≤ x6 ∧ x6 < (6 : Int) from by omega), ?_⟩
    have b28 : 0 ≤ s.1 116 x6 ∧ s.1 116 x6 ≤ 5 := iv_r116 hI _
    refine ⟨(show (0 : Int) ≤ (12 * (s.1 116 x6)) + x6 ∧ (12 * (s.1 116 x6)) + x6 < (72 : Int) from by omega), ?_⟩
    have b29 : 0 ≤ s.1 115 ((12 * (s.1 116 x6)) + x6) ∧ s.1 115 ((12 * (s.1 116 x6)) + x6) ≤ 1000 := iv_r115 hI _
    refine ⟨(show lf_R (s.1 115 ((12 * (s.1 116 x6)) + x6)) from lf_Rof (by omega)), ?_⟩
    refine ⟨(show lf_R x5 from lf_Rof (by omega)), ?_⟩
    refine ⟨fun c30 => ?_, fun c30 => ?_⟩
    · skip
      replace c30 : s.1 115 ((12 * (s.1 116 x6)) + x6) ≤ x5 := c30
      exact sm_302_p107 hQ hX30 (show (46657 - od ((s.1 116)) (x2) (x1)).toNat ≤ M30 from by omega) hX55 (show (6 - x6).toNat ≤ M55 from by omega) hI (show (1 : Int) ≤ x1 ∧ x1 ≤ (6 : Int) from by omega) (show (0 : Int) ≤ x2 ∧ x2 ≤ (6 : Int) from by omega) (show (0 : Int) ≤ x3 ∧ x3 ≤ (1000 : Int) from by omega) (show (0 : Int) ≤ x6 ∧ x6 ≤ (5 : Int) from by omega) (show (0 : Int) ≤ x5 ∧ x5 ≤ (1000 : Int) from by omega) (show od_B ((s.1 116)) (x1) (x2) from by first | with_reducible assumption | assumption) (show x1 ≤ 6 ∧ 1 ≤ x2 ∧ x2 ≤ 6 from by omega)
    · skip
      replace c30 : ¬ (s.1 115 ((12 * (s.1 116 x6)) + x6) ≤ x5) := c30
      exact sm_302_p107 hQ hX30 (show (46657 - od ((s.1 116)) (x2) (x1)).toNat ≤ M30 from by omega) hX55 (show (6 - x6).toNat ≤ M55 from by omega) hI (show (1 : Int) ≤ x1 ∧ x1 ≤ (6 : Int) from by omega) (show (0 : Int) ≤ x2 ∧ x2 ≤ (6 : Int) from by omega) (show (0 : Int) ≤ x3 ∧ x3 ≤ (1000 : Int) from by omega) (show (0 : Int) ≤ x6 ∧ x6 ≤ (5 : Int) from by omega) (show (0 : Int) ≤ s.1 115 ((12 * (s.1 116 x6)) + x6) ∧ s.1 115 ((12 * (s.1 116 x6)) + x6) ≤ (1000 : Int) from by omega) (show od_B ((s.1 116)) (x1) (x2) from by first | with_reducible assumption | assumption) (show x1 ≤ 6 ∧ 1 ≤ x2 ∧ x2 ≤ 6 from by omega)
theorem sm_302_p55L {X30 : Int → Int → lf_Z → Prop} {Q : Int → lf_Z → Prop} {x1 : Int} {x2 : Int} {x3 : Int} {x5 : Int} {x6 : Int} {s : lf_Z} (hQ : ∀ (r : Int) (s' : lf_Z), iv_A s'.1 s'.2.2 → lf_fq [116, 117] 1000000 true s.1 s.2.2 s'.1 s'.2.2 → (0 ≤ r ∧ r ≤ 1000) → Q r s') {M30 : Nat} (hX30 : ∀ (x3 : Int) (x4 : Int) (s' : lf_Z), iv_A s'.1 s'.2.2 → lf_fq [116, 117] 1000000 true s.1 s.2.2 s'.1 s'.2.2 → 0 ≤ x3 ∧ x3 ≤ 1000 → 0 ≤ x4 ∧ x4 ≤ 1 → (od_B (s'.1 116) (x1) (x2)) → (x1 ≤ 6 ∧ 1 ≤ x2 ∧ x2 ≤ 6) → (od_m (x4) (46657 - od (s'.1 116) (x2) (x1))).toNat < M30 → X30 x3 x4 s') (hM30 : (46657 - od (s.1 116) (x2) (x1)).toNat ≤ M30) (hI : iv_A s.1 s.2.2) (bx1 : 0 ≤ x1 ∧ x1 ≤ 6) (bx2 : 0 ≤ x2 ∧ x2 ≤ 6) (bx3 : 0 ≤ x3 ∧ x3 ≤ 1000) (bx5 : 0 ≤ x5 ∧ x5 ≤ 1000) (bx6 : 0 ≤ x6 ∧ x6 ≤ 6) (kv0 : od_B (s.1 116) (x1) (x2)) (kv1 : x1 ≤ 6 ∧ 1 ≤ x2 ∧ x2 ≤ 6) (kv2 : (46657 - od (s.1 116) (x2) (x1)).toNat ≤ M30) : fm_302_p55L X30 Q x1 x2 x3 x5 x6 s := by
  intro X55 hX
  have key : ∀ (m9 : Nat) (x5 : Int) (x6 : Int) (s' : lf_Z), iv_A s'.1 s'.2.2 → lf_fq [116, 117] 1000000 true s.1 s.2.2 s'.1 s'.2.2 → 0 ≤ x5 ∧ x5 ≤ 1000 → 0 ≤ x6 ∧ x6 ≤ 6 → (od_B (s'.1 116) (x1) (x2)) → (x1 ≤ 6 ∧ 1 ≤ x2 ∧ x2 ≤ 6) → ((46657 - od (s'.1 116) (x2) (x1)).toNat ≤ M30) → (6 - x6).toNat < m9 → X55 x5 x6 s' := by
    intro m9
    induction m9 with
    | zero => intro x5 x6 s' _ _ bx5 bx6 kv0 kv1 kv2 h9; exact absurd h9 (Nat.not_lt_zero _)
    | succ m9 ih => intro x5 x6 s' i7 f7 bx5 bx6 kv0 kv1 kv2 h9; exact hX _ _ _ (sm_302_p55 (fun r9 t9 i9 f9 => hQ r9 t9 i9 (lf_fq_tr f7 f9))  (fun p0 p1 t9 i9 f9 => hX30 p0 p1 t9 i9 (lf_fq_tr f7 f9)) kv2 (fun x5' x6' t8 i8 f8 bx5' bx6' kv0' kv1' kv2' h8 => ih x5' x6' t8 i8 (lf_fq_tr f7 f8) bx5' bx6' kv0' kv1' kv2' (by omega)) (Nat.le_refl _)  i7  bx1 bx2 bx3 bx5 bx6  kv0 kv1 kv2)
  exact key _ _ _ s hI lf_fq_rf bx5 bx6 kv0 kv1 kv2 (Nat.lt_succ_self _)
theorem sm_302_p50 {X30 : Int → Int → lf_Z → Prop} {Q : Int → lf_Z → Prop} {x1 : Int} {x2 : Int} {x3 : Int} {y0 : Int} {s : lf_Z} (hQ : ∀ (r : Int) (s' : lf_Z), iv_A s'.1 s'.2.2 → lf_fq [116, 117] 1000000 true s.1 s.2.2 s'.1 s'.2.2 → (0 ≤ r ∧ r ≤ 1000) → Q r s') {M30 : Nat} (hX30 : ∀ (x3 : Int) (x4 : Int) (s' : lf_Z), iv_A s'.1 s'.2.2 → lf_fq [116, 117] 1000000 true s.1 s.2.2 s'.1 s'.2.2 → 0 ≤ x3 ∧ x3 ≤ 1000 → 0 ≤ x4 ∧ x4 ≤ 1 → (od_B (s'.1 116) (x1) (x2)) → (x1 ≤ 6 ∧ 1 ≤ x2 ∧ x2 ≤ 6) → (od_m (x4) (46657 - od (s'.1 116) (x2) (x1))).toNat < M30 → X30 x3 x4 s') (hM30 : (46657 - od (s.1 116) (x2) (x1)).toNat ≤ M30) (hI : iv_A s.1 s.2.2) (bx1 : 0 ≤ x1 ∧ x1 ≤ 6) (bx2 : 0 ≤ x2 ∧ x2 ≤ 6) (bx3 : 0 ≤ x3 ∧ x3 ≤ 1000) (by0 : 0 ≤ y0 ∧ y0 ≤ 1000) (kv0 : od_B (s.1 116) (x1) (x2)) (kv1 : x1 ≤ 6 ∧ 1 ≤ x2 ∧ x2 ≤ 6) : fm_302_p50 X30 Q x1 x2 x3 y0 s := by
  unfold fm_302_p50
  exact sm_302_p55L hQ hX30 (show (46657 - od ((s.1 116)) (x2) (x1)).toNat ≤ M30 from by omega) hI (show (0 : Int) ≤ x1 ∧ x1 ≤ (6 : Int) from by omega) (show (0 : Int) ≤ x2 ∧ x2 ≤ (6 : Int) from by omega) (show (0 : Int) ≤ x3 ∧ x3 ≤ (1000 : Int) from by omega) (show (0 : Int) ≤ y0 ∧ y0 ≤ (1000 : Int) from by omega) (show (0 : Int) ≤ 0 ∧ 0 ≤ (6 : Int) from by omega) (show od_B ((s.1 116)) (x1) (x2) from by first | with_reducible assumption | assumption) (show x1 ≤ 6 ∧ 1 ≤ x2 ∧ x2 ≤ 6 from by omega) (show (46657 - od ((s.1 116)) (x2) (x1)).toNat ≤ M30 from by omega)
theorem sm_302_p30 {X30 : Int → Int → lf_Z → Prop} {Q : Int → lf_Z → Prop} {x1 : Int} {x2 : Int} {x3 : Int} {x4 : Int} {s : lf_Z} (hQ : ∀ (r : Int) (s' : lf_Z), iv_A s'.1 s'.2.2 → lf_fq [116, 117] 1000000 true s.1 s.2.2 s'.1 s'.2.2 → (0 ≤ r ∧ r ≤ 1000) → Q r s') {M30 : Nat} (hX30 : ∀ (x3 : Int) (x4 : Int) (s' : lf_Z), iv_A s'.1 s'.2.2 → lf_fq [116, 117] 1000000 true s.1 s.2.2 s'.1 s'.2.2 → 0 ≤ x3 ∧ x3 ≤ 1000 → 0 ≤ x4 ∧ x4 ≤ 1 → (od_B (s'.1 116) (x1) (x2)) → (x1 ≤ 6 ∧ 1 ≤ x2 ∧ x2 ≤ 6) → (od_m (x4) (46657 - od (s'.1 116) (x2) (x1))).toNat < M30 → X30 x3 x4 s') (hM30 : (od_m (x4) (46657 - od (s.1 116) (x2) (x1))).toNat ≤ M30) (hI : iv_A s.1 s.2.2) (bx1 : 0 ≤ x1 ∧ x1 ≤ 6) (bx2 : 0 ≤ x2 ∧ x2 ≤ 6) (bx3 : 0 ≤ x3 ∧ x3 ≤ 1000) (bx4 : 0 ≤ x4 ∧ x4 ≤ 1) (kv0 : od_B (s.1 116) (x1) (x2)) (kv1 : x1 ≤ 6 ∧ 1 ≤ x2 ∧ x2 ≤ 6) : fm_302_p30 Q x1 x2 X30 x3 x4 s := by
  unfold fm_302_p30
  have b4 : (x4 = 0 ∧ od_m (x4) (46657 - od ((s.1 116)) (x2) (x1)) = 0) ∨ (x4 ≠ 0 ∧ od_m (x4) (46657 - od ((s.1 116)) (x2) (x1)) = 46657 - od ((s.1 116)) (x2) (x1)) := od_mE _ _
  refine ⟨(show lf_R x4 from lf_Rof (by omega)), ?_⟩
  refine ⟨fun c5 => ?_, fun c5 => ?_⟩
  · skip
    replace c5 : x4 = 0 := c5
    exact hQ x3 s hI (lf_fq_rf) (show (0 : Int) ≤ x3 ∧ x3 ≤ (1000 : Int) from by omega)
  · skip
    replace c5 : ¬ (x4 = 0) := c5
    refine sm_303 hI (show (0 : Int) ≤ x1 ∧ x1 ≤ (6 : Int) from by omega) (fun z25 ps7 => ?_)
    replace ps7 : z25 = false → ¬ od_D ((s.1 116)) (x1) := ps7
    refine ⟨fun c8 => ?_, fun c8 => ?_⟩
    · skip
      have dps7 := ps7 c8
      exact sm_302_p50 hQ hX30 (show (46657 - od ((s.1 116)) (x2) (x1)).toNat ≤ M30 from by omega) hI (show (0 : Int) ≤ x1 ∧ x1 ≤ (6 : Int) from by omega) (show (0 : Int) ≤ x2 ∧ x2 ≤ (6 : Int) from by omega) (show (0 : Int) ≤ x3 ∧ x3 ≤ (1000 : Int) from by omega) (show (0 : Int) ≤ 1000 ∧ 1000 ≤ (1000 : Int) from by omega) (show od_B ((s.1 116)) (x1) (x2) from by first | with_reducible assumption | assumption) (show x1 ≤ 6 ∧ 1 ≤ x2 ∧ x2 ≤ 6 from by omega)
    · skip
      exact sm_302_p50 hQ hX30 (show (46657 - od ((s.1 116)) (x2) (x1)).toNat ≤ M30 from by omega) hI (show (0 : Int) ≤ x1 ∧ x1 ≤ (6 : Int) from by omega) (show (0 : Int) ≤ x2 ∧ x2 ≤ (6 : Int) from by omega) (show (0 : Int) ≤ x3 ∧ x3 ≤ (1000 : Int) from by omega) (show (0 : Int) ≤ 0 ∧ 0 ≤ (1000 : Int) from by omega) (show od_B ((s.1 116)) (x1) (x2) from by first | with_reducible assumption | assumption) (show x1 ≤ 6 ∧ 1 ≤ x2 ∧ x2 ≤ 6 from by omega)
theorem sm_302_p30L {Q : Int → lf_Z → Prop} {x1 : Int} {x2 : Int} {x3 : Int} {x4 : Int} {s : lf_Z} (hQ : ∀ (r : Int) (s' : lf_Z), iv_A s'.1 s'.2.2 → lf_fq [116, 117] 1000000 true s.1 s.2.2 s'.1 s'.2.2 → (0 ≤ r ∧ r ≤ 1000) → Q r s') (hI : iv_A s.1 s.2.2) (bx1 : 0 ≤ x1 ∧ x1 ≤ 6) (bx2 : 0 ≤ x2 ∧ x2 ≤ 6) (bx3 : 0 ≤ x3 ∧ x3 ≤ 1000) (bx4 : 0 ≤ x4 ∧ x4 ≤ 1) (kv0 : od_B (s.1 116) (x1) (x2)) (kv1 : x1 ≤ 6 ∧ 1 ≤ x2 ∧ x2 ≤ 6) : fm_302_p30L Q x1 x2 x3 x4 s := by
  intro X30 hX
  have key : ∀ (m9 : Nat) (x3 : Int) (x4 : Int) (s' : lf_Z), iv_A s'.1 s'.2.2 → lf_fq [116, 117] 1000000 true s.1 s.2.2 s'.1 s'.2.2 → 0 ≤ x3 ∧ x3 ≤ 1000 → 0 ≤ x4 ∧ x4 ≤ 1 → (od_B (s'.1 116) (x1) (x2)) → (x1 ≤ 6 ∧ 1 ≤ x2 ∧ x2 ≤ 6) → (od_m (x4) (46657 - od (s'.1 116) (x2) (x1))).toNat < m9 → X30 x3 x4 s' := by
    intro m9
    induction m9 with
    | zero => intro x3 x4 s' _ _ bx3 bx4 kv0 kv1 h9; exact absurd h9 (Nat.not_lt_zero _)
    | succ m9 ih => intro x3 x4 s' i7 f7 bx3 bx4 kv0 kv1 h9; exact hX _ _ _ (sm_302_p30 (fun r9 t9 i9 f9 => hQ r9 t9 i9 (lf_fq_tr f7 f9))   (fun x3' x4' t8 i8 f8 bx3' bx4' kv0' kv1' h8 => ih x3' x4' t8 i8 (lf_fq_tr f7 f8) bx3' bx4' kv0' kv1' (by omega)) (Nat.le_refl _)  i7  bx1 bx2 bx3 bx4  kv0 kv1)
  exact key _ _ _ s hI lf_fq_rf bx3 bx4 kv0 kv1 (Nat.lt_succ_self _)
theorem sm_302_p7 {X7 : Int → lf_Z → Prop} {Q : Int → lf_Z → Prop} {x1 : Int} {x2 : Int} {x3 : Int} {x4 : Int} {s : lf_Z} (hQ : ∀ (r : Int) (s' : lf_Z), iv_A s'.1 s'.2.2 → lf_fq [116, 117] 1000000 true s.1 s.2.2 s'.1 s'.2.2 → (0 ≤ r ∧ r ≤ 1000) → Q r s') {M7 : Nat} (hX7 : ∀ (x4 : Int) (s' : lf_Z), iv_A s'.1 s'.2.2 → lf_fq [116, 117] 1000000 true s.1 s.2.2 s'.1 s'.2.2 → 0 ≤ x4 ∧ x4 ≤ 6 → (lf_zr (s'.1 116) (x4)) → (x1 ≤ 6 ∧ 1 ≤ x2 ∧ x2 ≤ 6) → (6 - x4).toNat < M7 → X7 x4 s') (hM7 : (6 - x4).toNat ≤ M7) (hI : iv_A s.1 s.2.2) (bx1 : 0 ≤ x1 ∧ x1 ≤ 12) (bx2 : 0 ≤ x2 ∧ x2 ≤ 6) (bx3 : 1000 ≤ x3 ∧ x3 ≤ 1000) (bx4 : 0 ≤ x4 ∧ x4 ≤ 6) (kv0 : lf_zr (s.1 116) (x4)) (kv1 : x1 ≤ 6 ∧ 1 ≤ x2 ∧ x2 ≤ 6) : fm_302_p7 Q x1 x2 x3 X7 x4 s := by
  unfold fm_302_p7
  refine ⟨(show lf_R x4 from lf_Rof (by omega)), ?_⟩
  refine ⟨(show lf_R x1 from lf_Rof (by omega)), ?_⟩
  refine ⟨fun c2 => ?_, fun c2 => ?_⟩
  · skip
    replace c2 : x1 ≤ x4 := c2
    have b3 : od_B ((s.1 116)) (x1) (x2) := by first | with_reducible assumption | exact od_Bz kv0 (by omega) (by omega)
    exact sm_302_p30L hQ hI (show (0 : Int) ≤ x1 ∧ x1 ≤ (6 : Int) from by omega) (show (0 : Int) ≤ x2 ∧ x2 ≤ (6 : Int) from by omega) (show (0 : Int) ≤ x3 ∧ x3 ≤ (1000 : Int) from by omega) (show (0 : Int) ≤ 1 ∧ 1 ≤ (1 : Int) from by omega) (show od_B ((s.1 116)) (x1) (x2) from by first | with_reducible assumption | assumption) (show x1 ≤ 6 ∧ 1 ≤ x2 ∧ x2 ≤ 6 from by omega)
  · skip
    replace c2 : ¬ (x1 ≤ x4) := c2
    refine ⟨(show (0 : Int) ≤ x4 ∧ x4 < (6 : Int) from by omega), ?_⟩
    have hI31 : iv_A (lf_up s.1 116 x4 0) s.2.2 := iv_w116 hI (by omega)
    have fr32 : lf_fq [116, 117] 1000000 true s.1 s.2.2 (lf_up s.1 116 x4 0) s.2.2 := lf_fq_up (lf_fq_rf) rfl (fun h => absurd h (by decide))
    have b33 : lf_zr (((lf_up s.1 116 x4 0) 116)) ((x4 + 1)) := by first | exact lf_zrS kv0 lf_up_s (fun j hj => lf_up_i hj) | exact (fun j a b => by omega)
    exact hX7 (x4 + 1) (lf_up s.1 116 x4 0, s.2.1, s.2.2) hI31 fr32 (show (0 : Int) ≤ x4 + 1 ∧ x4 + 1 ≤ (6 : Int) from by omega) (show lf_zr (((lf_up s.1 116 x4 0) 116)) ((x4 + 1)) from by first | with_reducible assumption | assumption) (show x1 ≤ 6 ∧ 1 ≤ x2 ∧ x2 ≤ 6 from by omega) (show (6 - (x4 + 1)).toNat < M7 from by omega)
theorem sm_302_p7L {Q : Int → lf_Z → Prop} {x1 : Int} {x2 : Int} {x3 : Int} {x4 : Int} {s : lf_Z} (hQ : ∀ (r : Int) (s' : lf_Z), iv_A s'.1 s'.2.2 → lf_fq [116, 117] 1000000 true s.1 s.2.2 s'.1 s'.2.2 → (0 ≤ r ∧ r ≤ 1000) → Q r s') (hI : iv_A s.1 s.2.2) (bx1 : 0 ≤ x1 ∧ x1 ≤ 12) (bx2 : 0 ≤ x2 ∧ x2 ≤ 6) (bx3 : 1000 ≤ x3 ∧ x3 ≤ 1000) (bx4 : 0 ≤ x4 ∧ x4 ≤ 6) (kv0 : lf_zr (s.1 116) (x4)) (kv1 : x1 ≤ 6 ∧ 1 ≤ x2 ∧ x2 ≤ 6) : fm_302_p7L Q x1 x2 x3 x4 s := by
  intro X7 hX
  have key : ∀ (m9 : Nat) (x4 : Int) (s' : lf_Z), iv_A s'.1 s'.2.2 → lf_fq [116, 117] 1000000 true s.1 s.2.2 s'.1 s'.2.2 → 0 ≤ x4 ∧ x4 ≤ 6 → (lf_zr (s'.1 116) (x4)) → (x1 ≤ 6 ∧ 1 ≤ x2 ∧ x2 ≤ 6) → (6 - x4).toNat < m9 → X7 x4 s' := by
    intro m9
    induction m9 with
    | zero => intro x4 s' _ _ bx4 kv0 kv1 h9; exact absurd h9 (Nat.not_lt_zero _)
    | succ m9 ih => intro x4 s' i7 f7 bx4 kv0 kv1 h9; exact hX _ _ (sm_302_p7 (fun r9 t9 i9 f9 => hQ r9 t9 i9 (lf_fq_tr f7 f9))   (fun x4' t8 i8 f8 bx4' kv0' kv1' h8 => ih x4' t8 i8 (lf_fq_tr f7 f8) bx4' kv0' kv1' (by omega)) (Nat.le_refl _)  i7  bx1 bx2 bx3 bx4  kv0 kv1)
  exact key _ _ s hI lf_fq_rf bx4 kv0 kv1 (Nat.lt_succ_self _)
theorem sm_302 {a1 : Int} {a2 : Int} {Q : Int → lf_Z → Prop} {s : lf_Z} (hI : iv_A s.1 s.2.2) (ba1 : 0 ≤ a1 ∧ a1 ≤ 12) (ba2 : 0 ≤ a2 ∧ a2 ≤ 6) (kp0 : a1 ≤ 6) (kp1 : 1 ≤ a2 ∧ a2 ≤ 6) (hQ : ∀ (r : Int) (s' : lf_Z), iv_A s'.1 s'.2.2 → lf_fq [116, 117] 1000000 true s.1 s.2.2 s'.1 s'.2.2 → (0 ≤ r ∧ r ≤ 1000) → Q r s') : fm_302 a1 a2 Q s := by
  unfold fm_302
  have b1 : lf_zr ((s.1 116)) (0) := by first | exact lf_zrS kv0 lf_up_s (fun j hj => lf_up_i hj) | exact (fun j a b => by omega)
  exact sm_302_p7L hQ hI (show (0 : Int) ≤ a1 ∧ a1 ≤ (12 : Int) from by omega) (show (0 : Int) ≤ a2 ∧ a2 ≤ (6 : Int) from by omega) (show (1000 : Int) ≤ 1000 ∧ 1000 ≤ (1000 : Int) from by omega) (show (0 : Int) ≤ 0 ∧ 0 ≤ (6 : Int) from by omega) (show lf_zr ((s.1 116)) (0) from by first | with_reducible assumption | assumption) (show a1 ≤ 6 ∧ 1 ≤ a2 ∧ a2 ≤ 6 from by omega)
-- fm_300 Model.whom 95 i i i
theorem sm_300_p203 {X203 : Int → lf_Z → Prop} {Q : Int → lf_Z → Prop} {x3 : Int} {x7 : Int} {s : lf_Z} (hQ : ∀ (r : Int) (s' : lf_Z), iv_A s'.1 s'.2.2 → lf_fq [108, 113, 114, 115, 116, 117] 1000000 true s.1 s.2.2 s'.1 s'.2.2 → ((-1) ≤ r ∧ r ≤ 999) → Q r s') {M203 : Nat} (hX203 : ∀ (x7 : Int) (s' : lf_Z), iv_A s'.1 s'.2.2 → lf_fq [108, 113, 114, 115, 116, 117] 1000000 true s.1 s.2.2 s'.1 s'.2.2 → 0 ≤ x7 ∧ x7 ≤ 6 → (wh_E (s'.1 114) (x3) (x7)) → (6 - x7).toNat < M203 → X203 x7 s') (hM203 : (6 - x7).toNat ≤ M203) (hI : iv_A s.1 s.2.2) (bx3 : 0 ≤ x3 ∧ x3 ≤ 11) (bx7 : 0 ≤ x7 ∧ x7 ≤ 6) (kv0 : wh_E (s.1 114) (x3) (x7)) : fm_300_p203 Q x3 X203 x7 s := by
  unfold fm_300_p203
  have b39 : x7 < 6 := wh_lt kv0
  refine ⟨(show (0 : Int) ≤ x7 ∧ x7 < (12 : Int) from by omega), ?_⟩
  have b40 : 0 ≤ s.1 114 x7 ∧ s.1 114 x7 ≤ 11 := iv_r114 hI _
  refine ⟨(show lf_R (s.1 114 x7) from lf_Rof (by omega)), ?_⟩
  refine ⟨(show lf_R x3 from lf_Rof (by omega)), ?_⟩
  refine ⟨fun c41 => ?_, fun c41 => ?_⟩
  · skip
    replace c41 : s.1 114 x7 = x3 := c41
    refine ⟨(show (0 : Int) ≤ x7 ∧ x7 < (6 : Int) from by omega), ?_⟩
    have b42 : 0 ≤ s.1 117 x7 ∧ s.1 117 x7 ≤ 5 := iv_r117 hI _
    refine ⟨(show (0 : Int) ≤ s.1 117 x7 ∧ s.1 117 x7 < (6 : Int) from by omega), ?_⟩
    have b43 : 0 ≤ s.1 113 (s.1 117 x7) ∧ s.1 113 (s.1 117 x7) ≤ 5 := iv_r113 hI _
    exact hQ (s.1 113 (s.1 117 x7)) s hI (lf_fq_rf) (show (-1 : Int) ≤ s.1 113 (s.1 117 x7) ∧ s.1 113 (s.1 117 x7) ≤ (999 : Int) from by omega)
  · skip
    replace c41 : ¬ (s.1 114 x7 = x3) := c41
    have b44 : wh_E ((s.1 114)) (x3) ((x7 + 1)) := by first | exact wh_s (hI.1 114 rfl) kv1 (by omega) (by omega) | exact wh_S kv0 (by omega)
    exact hX203 (x7 + 1) s hI (lf_fq_rf) (show (0 : Int) ≤ x7 + 1 ∧ x7 + 1 ≤ (6 : Int) from by omega) (show wh_E ((s.1 114)) (x3) ((x7 + 1)) from by first | with_reducible assumption | assumption) (show (6 - (x7 + 1)).toNat < M203 from by omega)
theorem sm_300_p203L {Q : Int → lf_Z → Prop} {x3 : Int} {x7 : Int} {s : lf_Z} (hQ : ∀ (r : Int) (s' : lf_Z), iv_A s'.1 s'.2.2 → lf_fq [108, 113, 114, 115, 116, 117] 1000000 true s.1 s.2.2 s'.1 s'.2.2 → ((-1) ≤ r ∧ r ≤ 999) → Q r s') (hI : iv_A s.1 s.2.2) (bx3 : 0 ≤ x3 ∧ x3 ≤ 11) (bx7 : 0 ≤ x7 ∧ x7 ≤ 6) (kv0 : wh_E (s.1 114) (x3) (x7)) : fm_300_p203L Q x3 x7 s := by
  intro X203 hX
  have key : ∀ (m9 : Nat) (x7 : Int) (s' : lf_Z), iv_A s'.1 s'.2.2 → lf_fq [108, 113, 114, 115, 116, 117] 1000000 true s.1 s.2.2 s'.1 s'.2.2 → 0 ≤ x7 ∧ x7 ≤ 6 → (wh_E (s'.1 114) (x3) (x7)) → (6 - x7).toNat < m9 → X203 x7 s' := by
    intro m9
    induction m9 with
    | zero => intro x7 s' _ _ bx7 kv0 h9; exact absurd h9 (Nat.not_lt_zero _)
    | succ m9 ih => intro x7 s' i7 f7 bx7 kv0 h9; exact hX _ _ (sm_300_p203 (fun r9 t9 i9 f9 => hQ r9 t9 i9 (lf_fq_tr f7 f9))   (fun x7' t8 i8 f8 bx7' kv0' h8 => ih x7' t8 i8 (lf_fq_tr f7 f8) bx7' kv0' (by omega)) (Nat.le_refl _)  i7  bx3 bx7  kv0)
  exact key _ _ s hI lf_fq_rf bx7 kv0 (Nat.lt_succ_self _)
theorem sm_300_p117 {X95 : Int → lf_Z → Prop} {X117 : Int → lf_Z → Prop} {Q : Int → lf_Z → Prop} {x3 : Int} {x4 : Int} {x5 : Int} {x6 : Int} {x7 : Int} {s : lf_Z} (hQ : ∀ (r : Int) (s' : lf_Z), iv_A s'.1 s'.2.2 → lf_fq [108, 113, 114, 115, 116, 117] 1000000 true s.1 s.2.2 s'.1 s'.2.2 → ((-1) ≤ r ∧ r ≤ 999) → Q r s') {M95 : Nat} (hX95 : ∀ (x6 : Int) (s' : lf_Z), iv_A s'.1 s'.2.2 → lf_fq [108, 113, 114, 115, 116, 117] 1000000 true s.1 s.2.2 s'.1 s'.2.2 → 0 ≤ x6 ∧ x6 ≤ 12 → (x5 ≤ 6 ∧ 1 ≤ x4) → (wh_H (s'.1 114) (x5) (x3)) → (12 - x6).toNat < M95 → X95 x6 s') (hM95 : (12 - x6).toNat ≤ M95) {M117 : Nat} (hX117 : ∀ (x7 : Int) (s' : lf_Z), iv_A s'.1 s'.2.2 → lf_fq [108, 113, 114, 115, 116, 117] 1000000 true s.1 s.2.2 s'.1 s'.2.2 → 0 ≤ x7 ∧ x7 ≤ 6 → (x5 ≤ 6 ∧ 1 ≤ x4) → (wh_H (s'.1 114) (x5) (x3)) → (6 - x7).toNat < M117 → X117 x7 s') (hM117 : (6 - x7).toNat ≤ M117) (hI : iv_A s.1 s.2.2) (bx3 : (-1) ≤ x3 ∧ x3 ≤ 11) (bx4 : 0 ≤ x4 ∧ x4 ≤ 6) (bx5 : 1 ≤ x5 ∧ x5 ≤ 12) (bx6 : 0 ≤ x6 ∧ x6 ≤ 11) (bx7 : 0 ≤ x7 ∧ x7 ≤ 6) (kv0 : x5 ≤ 6 ∧ 1 ≤ x4) (kv1 : wh_H (s.1 114) (x5) (x3)) : fm_300_p117 X95 Q x3 x4 x5 x6 X117 x7 s := by
  unfold fm_300_p117
  refine ⟨(show lf_R x7 from lf_Rof (by omega)), ?_⟩
  refine ⟨(show lf_R x4 from lf_Rof (by omega)), ?_⟩
  refine ⟨fun c52 => ?_, fun c52 => ?_⟩
  · skip
    replace c52 : x4 ≤ x7 := c52
    have b53 : wh_H ((s.1 114)) (x5) (x3) := by first | with_reducible assumption | exact wh_i hI (by omega)
    exact hX95 (x6 + 1) s hI (lf_fq_rf) (show (0 : Int) ≤ x6 + 1 ∧ x6 + 1 ≤ (12 : Int) from by omega) (show x5 ≤ 6 ∧ 1 ≤ x4 from by omega) (show wh_H ((s.1 114)) (x5) (x3) from by first | with_reducible assumption | assumption) (show (12 - (x6 + 1)).toNat < M95 from by omega)
  · skip
    replace c52 : ¬ (x4 ≤ x7) := c52
    refine ⟨(show (0 : Int) ≤ x7 ∧ x7 < (6 : Int) from by omega), ?_⟩
    have b54 : 0 ≤ s.1 113 x7 ∧ s.1 113 x7 ≤ 5 := iv_r113 hI _
    refine sm_239 hI (show (0 : Int) ≤ s.1 113 x7 ∧ s.1 113 x7 ≤ (5 : Int) from by omega) (fun r53 q55 => ?_)
    obtain ⟨q55, q55x⟩ := q55
    replace q55x : r53 = s.1 96 (126 + 6 * (s.1 113 x7) + 3) := q55x
    refine sm_299 hI (show (0 : Int) ≤ s.1 113 x7 ∧ s.1 113 x7 ≤ (5 : Int) from by omega) (show (0 : Int) ≤ r53 ∧ r53 ≤ (11 : Int) from by omega) (fun r55 q56 => ?_)
    refine ⟨(show (0 : Int) ≤ (12 * x7) + x6 ∧ (12 * x7) + x6 < (72 : Int) from by omega), ?_⟩
    have hI57 : iv_A (lf_up s.1 115 ((12 * x7) + x6) r55) s.2.2 := iv_w115 hI (by omega)
    have fr58 : lf_fq [108, 113, 114, 115, 116, 117] 1000000 true s.1 s.2.2 (lf_up s.1 115 ((12 * x7) + x6) r55) s.2.2 := lf_fq_up (lf_fq_rf) rfl (fun h => absurd h (by decide))
    have b59 : wh_H ((s.1 114)) (x5) (x3) := by first | with_reducible assumption | exact wh_c (hI.1 114 rfl) kv1
    exact hX117 (x7 + 1) (lf_up s.1 115 ((12 * x7) + x6) r55, s.2.1, s.2.2) hI57 fr58 (show (0 : Int) ≤ x7 + 1 ∧ x7 + 1 ≤ (6 : Int) from by omega) (show x5 ≤ 6 ∧ 1 ≤ x4 from by omega) (show wh_H ((s.1 114)) (x5) (x3) from by first | with_reducible assumption | assumption) (show (6 - (x7 + 1)).toNat < M117 from by omega)
theorem sm_300_p117L {X95 : Int → lf_Z → Prop} {Q : Int → lf_Z → Prop} {x3 : Int} {x4 : Int} {x5 : Int} {x6 : Int} {x7 : Int} {s : lf_Z} (hQ : ∀ (r : Int) (s' : lf_Z), iv_A s'.1 s'.2.2 → lf_fq [108, 113, 114, 115, 116, 117] 1000000 true s.1 s.2.2 s'.1 s'.2.2 → ((-1) ≤ r ∧ r ≤ 999) → Q r s') {M95 : Nat} (hX95 : ∀ (x6 : Int) (s' : lf_Z), iv_A s'.1 s'.2.2 → lf_fq [108, 113, 114, 115, 116, 117] 1000000 true s.1 s.2.2 s'.1 s'.2.2 → 0 ≤ x6 ∧ x6 ≤ 12 → (x5 ≤ 6 ∧ 1 ≤ x4) → (wh_H (s'.1 114) (x5) (x3)) → (12 - x6).toNat < M95 → X95 x6 s') (hM95 : (12 - x6).toNat ≤ M95) (hI : iv_A s.1 s.2.2) (bx3 : (-1) ≤ x3 ∧ x3 ≤ 11) (bx4 : 0 ≤ x4 ∧ x4 ≤ 6) (bx5 : 1 ≤ x5 ∧ x5 ≤ 12) (bx6 : 0 ≤ x6 ∧ x6 ≤ 11) (bx7 : 0 ≤ x7 ∧ x7 ≤ 6) (kv0 : x5 ≤ 6 ∧ 1 ≤ x4) (kv1 : wh_H (s.1 114) (x5) (x3)) : fm_300_p117L X95 Q x3 x4 x5 x6 x7 s := by
  intro X117 hX
  have key : ∀ (m9 : Nat) (x7 : Int) (s' : lf_Z), iv_A s'.1 s'.2.2 → lf_fq [108, 113, 114, 115, 116, 117] 1000000 true s.1 s.2.2 s'.1 s'.2.2 → 0 ≤ x7 ∧ x7 ≤ 6 → (x5 ≤ 6 ∧ 1 ≤ x4) → (wh_H (s'.1 114) (x5) (x3)) → (6 - x7).toNat < m9 → X117 x7 s' := by
    intro m9
    induction m9 with
    | zero => intro x7 s' _ _ bx7 kv0 kv1 h9; exact absurd h9 (Nat.not_lt_zero _)
    | succ m9 ih => intro x7 s' i7 f7 bx7 kv0 kv1 h9; exact hX _ _ (sm_300_p117 (fun r9 t9 i9 f9 => hQ r9 t9 i9 (lf_fq_tr f7 f9))  (fun p0 t9 i9 f9 => hX95 p0 t9 i9 (lf_fq_tr f7 f9)) hM95 (fun x7' t8 i8 f8 bx7' kv0' kv1' h8 => ih x7' t8 i8 (lf_fq_tr f7 f8) bx7' kv0' kv1' (by omega)) (Nat.le_refl _)  i7  bx3 bx4 bx5 bx6 bx7  kv0 kv1)
  exact key _ _ s hI lf_fq_rf bx7 kv0 kv1 (Nat.lt_succ_self _)
theorem sm_300_p95 {X95 : Int → lf_Z → Prop} {Q : Int → lf_Z → Prop} {x3 : Int} {x4 : Int} {x5 : Int} {x6 : Int} {s : lf_Z} (hQ : ∀ (r : Int) (s' : lf_Z), iv_A s'.1 s'.2.2 → lf_fq [108, 113, 114, 115, 116, 117] 1000000 true s.1 s.2.2 s'.1 s'.2.2 → ((-1) ≤ r ∧ r ≤ 999) → Q r s') {M95 : Nat} (hX95 : ∀ (x6 : Int) (s' : lf_Z), iv_A s'.1 s'.2.2 → lf_fq [108, 113, 114, 115, 116, 117] 1000000 true s.1 s.2.2 s'.1 s'.2.2 → 0 ≤ x6 ∧ x6 ≤ 12 → (x5 ≤ 6 ∧ 1 ≤ x4) → (wh_H (s'.1 114) (x5) (x3)) → (12 - x6).toNat < M95 → X95 x6 s') (hM95 : (12 - x6).toNat ≤ M95) (hI : iv_A s.1 s.2.2) (bx3 : (-1) ≤ x3 ∧ x3 ≤ 11) (bx4 : 0 ≤ x4 ∧ x4 ≤ 6) (bx5 : 0 ≤ x5 ∧ x5 ≤ 12) (bx6 : 0 ≤ x6 ∧ x6 ≤ 12) (kv0 : x5 ≤ 6 ∧ 1 ≤ x4) (kv1 : wh_H (s.1 114) (x5) (x3)) : fm_300_p95 Q x3 x4 x5 X95 x6 s := by
  unfold fm_300_p95
  refine ⟨(show lf_R x6 from lf_Rof (by omega)), ?_⟩
  refine ⟨(show lf_R x5 from lf_Rof (by omega)), ?_⟩
  refine ⟨fun c31 => ?_, fun c31 => ?_⟩
  · skip
    replace c31 : x5 ≤ x6 := c31
    refine sm_302 hI (show (0 : Int) ≤ x5 ∧ x5 ≤ (12 : Int) from by omega) (show (0 : Int) ≤ x4 ∧ x4 ≤ (6 : Int) from by omega) (show x5 ≤ 6 from by omega) (show 1 ≤ x4 ∧ x4 ≤ 6 from by omega) (fun r39 s38 hI33 fr32 q34 => ?_)
    have fr35 : lf_fq [108, 113, 114, 115, 116, 117] 1000000 true s.1 s.2.2 s38.1 s38.2.2 := lf_fq_tr (lf_fq_rf) (lf_fq_wk fr32 rfl (by decide) (by decide))
    refine ⟨(show lf_R r39 from lf_Rof (by omega)), ?_⟩
    refine ⟨fun c36 => ?_, fun c36 => ?_⟩
    · skip
      replace c36 : r39 < 1000 := c36
      refine ⟨(show lf_R x3 from lf_Rof (by omega)), ?_⟩
      refine ⟨fun c37 => ?_, fun c37 => ?_⟩
      · skip
        replace c37 : x3 ≠ (-1) := c37
        have b38 : wh_E ((s38.1 114)) (x3) (0) := by first | exact wh_s (fr32.1 114 rfl) kv1 (by omega) (by omega) | exact wh_S kv0 (by omega)
        exact sm_300_p203L (fun r9 t9 i9 f9 => hQ r9 t9 i9 (lf_fq_tr fr35 f9)) hI33 (show (0 : Int) ≤ x3 ∧ x3 ≤ (11 : Int) from by omega) (show (0 : Int) ≤ 0 ∧ 0 ≤ (6 : Int) from by omega) (show wh_E ((s38.1 114)) (x3) (0) from by first | with_reducible assumption | assumption)
      · skip
        replace c37 : ¬ (x3 ≠ (-1)) := c37
        exact hQ r39 s38 hI33 fr35 (show (-1 : Int) ≤ r39 ∧ r39 ≤ (999 : Int) from by omega)
    · skip
      replace c36 : ¬ (r39 < 1000) := c36
      exact hQ (-1) s38 hI33 fr35 (show (-1 : Int) ≤ (-1) ∧ (-1) ≤ (999 : Int) from by omega)
  · skip
    replace c31 : ¬ (x5 ≤ x6) := c31
    refine ⟨(show (0 : Int) ≤ x6 ∧ x6 < (12 : Int) from by omega), ?_⟩
    have b45 : 0 ≤ s.1 114 x6 ∧ s.1 114 x6 ≤ 11 := iv_r114 hI _
    refine sm_261 hI (show (-1 : Int) ≤ s.1 114 x6 ∧ s.1 114 x6 ≤ (11 : Int) from by omega) (show (0 : Int) ≤ 1 ∧ 1 ≤ (1 : Int) from by omega) (fun s48 hI47 fr46 ps49 => ?_)
    replace ps49 : (1 : Int) = 1 → bf_G (s48.1 96) (s48.1 108) ((s.1 114 x6)) := ps49
    have fr50 : lf_fq [108, 113, 114, 115, 116, 117] 1000000 true s.1 s.2.2 s48.1 s48.2.2 := lf_fq_tr (lf_fq_rf) (lf_fq_wk fr46 rfl (by decide) (by decide))
    have b51 : wh_H ((s48.1 114)) (x5) (x3) := by first | with_reducible assumption | exact wh_c (fr46.1 114 rfl) kv1
    exact sm_300_p117L (fun r9 t9 i9 f9 => hQ r9 t9 i9 (lf_fq_tr fr50 f9)) (fun p0 t9 i9 f9 => hX95 p0 t9 i9 (lf_fq_tr fr50 f9)) (show (12 - x6).toNat ≤ M95 from by omega) hI47 (show (-1 : Int) ≤ x3 ∧ x3 ≤ (11 : Int) from by omega) (show (0 : Int) ≤ x4 ∧ x4 ≤ (6 : Int) from by omega) (show (1 : Int) ≤ x5 ∧ x5 ≤ (12 : Int) from by omega) (show (0 : Int) ≤ x6 ∧ x6 ≤ (11 : Int) from by omega) (show (0 : Int) ≤ 0 ∧ 0 ≤ (6 : Int) from by omega) (show x5 ≤ 6 ∧ 1 ≤ x4 from by omega) (show wh_H ((s48.1 114)) (x5) (x3) from by first | with_reducible assumption | assumption)
theorem sm_300_p95L {Q : Int → lf_Z → Prop} {x3 : Int} {x4 : Int} {x5 : Int} {x6 : Int} {s : lf_Z} (hQ : ∀ (r : Int) (s' : lf_Z), iv_A s'.1 s'.2.2 → lf_fq [108, 113, 114, 115, 116, 117] 1000000 true s.1 s.2.2 s'.1 s'.2.2 → ((-1) ≤ r ∧ r ≤ 999) → Q r s') (hI : iv_A s.1 s.2.2) (bx3 : (-1) ≤ x3 ∧ x3 ≤ 11) (bx4 : 0 ≤ x4 ∧ x4 ≤ 6) (bx5 : 0 ≤ x5 ∧ x5 ≤ 12) (bx6 : 0 ≤ x6 ∧ x6 ≤ 12) (kv0 : x5 ≤ 6 ∧ 1 ≤ x4) (kv1 : wh_H (s.1 114) (x5) (x3)) : fm_300_p95L Q x3 x4 x5 x6 s := by
  intro X95 hX
  have key : ∀ (m9 : Nat) (x6 : Int) (s' : lf_Z), iv_A s'.1 s'.2.2 → lf_fq [108, 113, 114, 115, 116, 117] 1000000 true s.1 s.2.2 s'.1 s'.2.2 → 0 ≤ x6 ∧ x6 ≤ 12 → (x5 ≤ 6 ∧ 1 ≤ x4) → (wh_H (s'.1 114) (x5) (x3)) → (12 - x6).toNat < m9 → X95 x6 s' := by
    intro m9
    induction m9 with
    | zero => intro x6 s' _ _ bx6 kv0 kv1 h9; exact absurd h9 (Nat.not_lt_zero _)
    | succ m9 ih => intro x6 s' i7 f7 bx6 kv0 kv1 h9; exact hX _ _ (sm_300_p95 (fun r9 t9 i9 f9 => hQ r9 t9 i9 (lf_fq_tr f7 f9))   (fun x6' t8 i8 f8 bx6' kv0' kv1' h8 => ih x6' t8 i8 (lf_fq_tr f7 f8) bx6' kv0' kv1' (by omega)) (Nat.le_refl _)  i7  bx3 bx4 bx5 bx6  kv0 kv1)
  exact key _ _ s hI lf_fq_rf bx6 kv0 kv1 (Nat.lt_succ_self _)
theorem sm_300_p72 {Q : Int → lf_Z → Prop} {x1 : Int} {x2 : Int} {x3 : Int} {s : lf_Z} (hQ : ∀ (r : Int) (s' : lf_Z), iv_A s'.1 s'.2.2 → lf_fq [108, 113, 114, 115, 116, 117] 1000000 true s.1 s.2.2 s'.1 s'.2.2 → ((-1) ≤ r ∧ r ≤ 999) → Q r s') (hI : iv_A s.1 s.2.2) (bx1 : 1 ≤ x1 ∧ x1 ≤ 63) (bx2 : 1 ≤ x2 ∧ x2 ≤ 4095) (bx3 : (-1) ≤ x3 ∧ x3 ≤ 11) (kv0 : lf_bt (x2) 16 ≤ lf_bt (x1) 16) (kv1 : x3 = -1 ∨ (0 ≤ x3 ∧ x3 < 12 ∧ lf_and (lf_shr (x2) (x3)) 1 = 1)) : fm_300_p72 Q x1 x2 x3 s := by
  unfold fm_300_p72
  refine sm_301 hI (show (0 : Int) ≤ x1 ∧ x1 ≤ (63 : Int) from by omega) (fun r33 s32 hI17 fr16 ps19 ps20 q18 => ?_)
  replace ps19 : r33 = lf_bt (x1) 12 := ps19
  replace ps20 : lo_C (s32.1 113) (x1) (r33) 12 := ps20
  have fr21 : lf_fq [108, 113, 114, 115, 116, 117] 1000000 true s.1 s.2.2 s32.1 s32.2.2 := lf_fq_tr (lf_fq_rf) (lf_fq_wk fr16 rfl (by decide) (by decide))
  refine sm_301b hI17 (show (0 : Int) ≤ x2 ∧ x2 ≤ (4095 : Int) from by omega) (fun r35 s34 hI23 fr22 ps25 ps26 q24 => ?_)
  replace ps25 : r35 = lf_bt (x2) 12 := ps25
  replace ps26 : lo_C (s34.1 114) (x2) (r35) 12 := ps26
  have fr27 : lf_fq [108, 113, 114, 115, 116, 117] 1000000 true s.1 s.2.2 s34.1 s34.2.2 := lf_fq_tr fr21 (lf_fq_wk fr22 rfl (by decide) (by decide))
  have b28 : lf_bt (x2) 12 ≤ lf_bt (x2) 16 := lf_bt12 _
  have b29 : lf_bt (x1) 12 = lf_bt (x1) 16 ∧ lf_bt (x1) 16 ≤ 6 ∧ 1 ≤ lf_bt (x1) 16 := lf_bt6 (by omega)
  have b30 : wh_H ((s34.1 114)) (r35) (x3) := by first | with_reducible assumption | exact wh_i ps26 (by omega)
  exact sm_300_p95L (fun r9 t9 i9 f9 => hQ r9 t9 i9 (lf_fq_tr fr27 f9)) hI23 (show (-1 : Int) ≤ x3 ∧ x3 ≤ (11 : Int) from by omega) (show (0 : Int) ≤ r33 ∧ r33 ≤ (6 : Int) from by omega) (show (0 : Int) ≤ r35 ∧ r35 ≤ (12 : Int) from by omega) (show (0 : Int) ≤ 0 ∧ 0 ≤ (12 : Int) from by omega) (show r35 ≤ 6 ∧ 1 ≤ r33 from by omega) (show wh_H ((s34.1 114)) (r35) (x3) from by first | with_reducible assumption | assumption)
theorem sm_300 {a1 : Int} {a2 : Int} {a3 : Int} {Q : Int → lf_Z → Prop} {s : lf_Z} (hI : iv_A s.1 s.2.2) (ba1 : (-2147483648) ≤ a1 ∧ a1 ≤ 2147483647) (ba2 : (-2147483648) ≤ a2 ∧ a2 ≤ 2147483647) (ba3 : (-2147483648) ≤ a3 ∧ a3 ≤ 2147483647) (hQ : ∀ (r : Int) (s' : lf_Z), iv_A s'.1 s'.2.2 → lf_fq [108, 113, 114, 115, 116, 117] 1000000 true s.1 s.2.2 s'.1 s'.2.2 → ((-1) ≤ r ∧ r ≤ 999) → Q r s') : fm_300 a1 a2 a3 Q s := by
  unfold fm_300
  have b1 : 0 ≤ s.1 96 2 ∧ s.1 96 2 ≤ 6 := iv_rd96 hI (iv_f2103129b (by omega))
  have b2 : s.1 96 2 ≤ 0 ∨ 0 < s.1 96 0 := (show s.1 96 2 ≤ 0 ∨ 0 < s.1 96 0 from iv_l96_2 hI)
  have b3 : 1 ≤ lf_shl 1 (s.1 96 2) ∧ lf_shl 1 (s.1 96 2) ≤ 64 := lf_shl1 (m := 6) (by omega) (by omega) (by decide)
  refine sm_183 hI (show (-2147483648 : Int) ≤ a1 ∧ a1 ≤ (2147483647 : Int) from by omega) (show (-1 : Int) ≤ 1 ∧ 1 ≤ (97 : Int) from by omega) (show (-1 : Int) ≤ (lf_shl 1 (s.1 96 2)) - 1 ∧ (lf_shl 1 (s.1 96 2)) - 1 ≤ (9999 : Int) from by omega) (fun z22 q4 => ?_)
  refine ⟨fun c5 => ?_, fun c5 => ?_⟩
  · skip
    have dc5 := q4.2 c5
    exact hQ (-1) s hI (lf_fq_rf) (show (-1 : Int) ≤ (-1) ∧ (-1) ≤ (999 : Int) from by omega)
  · skip
    have dc5 := q4.1 c5
    have b6 : 0 ≤ s.1 96 0 ∧ s.1 96 0 ≤ 12 := iv_rd96 hI (iv_f3e1fa21c (by omega))
    have b7 : 1 ≤ lf_shl 1 (s.1 96 0) ∧ lf_shl 1 (s.1 96 0) ≤ 4096 := lf_shl1 (m := 12) (by omega) (by omega) (by decide)
    refine sm_183 hI (show (-2147483648 : Int) ≤ a2 ∧ a2 ≤ (2147483647 : Int) from by omega) (show (-1 : Int) ≤ 1 ∧ 1 ≤ (97 : Int) from by omega) (show (-1 : Int) ≤ (lf_shl 1 (s.1 96 0)) - 1 ∧ (lf_shl 1 (s.1 96 0)) - 1 ≤ (9999 : Int) from by omega) (fun z24 q8 => ?_)
    refine ⟨fun c9 => ?_, fun c9 => ?_⟩
    · skip
      have dc9 := q8.2 c9
      exact hQ (-1) s hI (lf_fq_rf) (show (-1 : Int) ≤ (-1) ∧ (-1) ≤ (999 : Int) from by omega)
    · skip
      have dc9 := q8.1 c9
      refine sm_188 hI (show (-2147483648 : Int) ≤ a2 ∧ a2 ≤ (2147483647 : Int) from by omega) (fun r26 ps11 q10 => ?_)
      replace ps11 : r26 = lf_bt (a2) 16 := ps11
      refine sm_188 hI (show (-2147483648 : Int) ≤ a1 ∧ a1 ≤ (2147483647 : Int) from by omega) (fun r28 ps13 q12 => ?_)
      replace ps13 : r28 = lf_bt (a1) 16 := ps13
      refine ⟨(show lf_R r26 from lf_Rof (by omega)), ?_⟩
      refine ⟨(show lf_R r28 from lf_Rof (by omega)), ?_⟩
      refine ⟨fun c14 => ?_, fun c14 => ?_⟩
      · skip
        replace c14 : r26 ≤ r28 := c14
        refine ⟨(show lf_R a3 from lf_Rof (by omega)), ?_⟩
        refine ⟨fun c15 => ?_, fun c15 => ?_⟩
        · skip
          replace c15 : a3 = (-1) := c15
          exact sm_300_p72 hQ hI (show (1 : Int) ≤ a1 ∧ a1 ≤ (63 : Int) from by omega) (show (1 : Int) ≤ a2 ∧ a2 ≤ (4095 : Int) from by omega) (show (-1 : Int) ≤ a3 ∧ a3 ≤ (11 : Int) from by omega) (show lf_bt (a2) 16 ≤ lf_bt (a1) 16 from by omega) (show a3 = -1 ∨ (0 ≤ a3 ∧ a3 < 12 ∧ lf_and (lf_shr (a2) (a3)) 1 = 1) from by omega)
        · skip
          replace c15 : ¬ (a3 = (-1)) := c15
          refine sm_185 hI (show (-2147483648 : Int) ≤ a3 ∧ a3 ≤ (2147483647 : Int) from by omega) (fun z58 q60 => ?_)
          refine ⟨fun c61 => ?_, fun c61 => ?_⟩
          · skip
            have dc61 := q60.2 c61
            exact hQ (-1) s hI (lf_fq_rf) (show (-1 : Int) ≤ (-1) ∧ (-1) ≤ (999 : Int) from by omega)
          · skip
            have dc61 := q60.1 c61
            refine sm_210 hI (show (-2147483648 : Int) ≤ a2 ∧ a2 ≤ (2147483647 : Int) from by omega) (show (-1 : Int) ≤ a3 ∧ a3 ≤ (15 : Int) from by omega) (fun z60 q62 => ?_)
            refine ⟨fun c63 => ?_, fun c63 => ?_⟩
            · skip
              have dc63 := q62.1 c63
              exact sm_300_p72 hQ hI (show (1 : Int) ≤ a1 ∧ a1 ≤ (63 : Int) from by omega) (show (1 : Int) ≤ a2 ∧ a2 ≤ (4095 : Int) from by omega) (show (-1 : Int) ≤ a3 ∧ a3 ≤ (11 : Int) from by omega) (show lf_bt (a2) 16 ≤ lf_bt (a1) 16 from by omega) (show a3 = -1 ∨ (0 ≤ a3 ∧ a3 < 12 ∧ lf_and (lf_shr (a2) (a3)) 1 = 1) from by omega)
            · skip
              have dc63 := q62.2 c63
              exact hQ (-1) s hI (lf_fq_rf) (show (-1 : Int) ≤ (-1) ∧ (-1) ≤ (999 : Int) from by omega)
      · skip
        replace c14 : ¬ (r26 ≤ r28) := c14
        exact hQ (-1) s hI (lf_fq_rf) (show (-1 : Int) ≤ (-1) ∧ (-1) ≤ (999 : Int) from by omega)
-- fm_144 Walk.openGates 68
theorem sm_144_p43 {X4 : Int → Int → lf_Z → Prop} {Q : Int → lf_Z → Prop} {x1 : Int} {x2 : Int} {s : lf_Z} (hQ : ∀ (r : Int), ((-2147483648) ≤ r ∧ r ≤ 2147483647) → Q r s) {M4 : Nat} (hX4 : ∀ (x1 : Int) (x2 : Int), (-2147483648) ≤ x1 ∧ x1 ≤ 2147483647 → 0 ≤ x2 ∧ x2 ≤ 16 → (16 - x2).toNat < M4 → X4 x1 x2 s) (hM4 : (16 - x2).toNat ≤ M4) (hI : iv_A s.1 s.2.2) (bx1 : (-2147483648) ≤ x1 ∧ x1 ≤ 2147483647) (bx2 : 0 ≤ x2 ∧ x2 ≤ 15) : fm_144_p43 X4 Q x1 x2 s := by
  unfold fm_144_p43
  exact hX4 (x1) (x2 + 1) (show (-2147483648 : Int) ≤ x1 ∧ x1 ≤ (2147483647 : Int) from by omega) (show (0 : Int) ≤ x2 + 1 ∧ x2 + 1 ≤ (16 : Int) from by omega) (show (16 - (x2 + 1)).toNat < M4 from by omega)
theorem sm_144_p4 {X4 : Int → Int → lf_Z → Prop} {Q : Int → lf_Z → Prop} {x1 : Int} {x2 : Int} {s : lf_Z} (hQ : ∀ (r : Int), ((-2147483648) ≤ r ∧ r ≤ 2147483647) → Q r s) {M4 : Nat} (hX4 : ∀ (x1 : Int) (x2 : Int), (-2147483648) ≤ x1 ∧ x1 ≤ 2147483647 → 0 ≤ x2 ∧ x2 ≤ 16 → (16 - x2).toNat < M4 → X4 x1 x2 s) (hM4 : (16 - x2).toNat ≤ M4) (hI : iv_A s.1 s.2.2) (bx1 : (-2147483648) ≤ x1 ∧ x1 ≤ 2147483647) (bx2 : 0 ≤ x2 ∧ x2 ≤ 16) : fm_144_p4 Q X4 x1 x2 s := by
  unfold fm_144_p4
  have b1 : 0 ≤ s.1 1 1 ∧ s.1 1 1 ≤ 16 := iv_r1_1 hI
  refine ⟨(show lf_R x2 from lf_Rof (by omega)), ?_⟩
  refine ⟨(show lf_R (s.1 1 1) from lf_Rof (by omega)), ?_⟩
  refine ⟨fun c2 => ?_, fun c2 => ?_⟩
  · skip
    replace c2 : s.1 1 1 ≤ x2 := c2
    exact hQ x1 (show (-2147483648 : Int) ≤ x1 ∧ x1 ≤ (2147483647 : Int) from by omega)
  · skip
    replace c2 : ¬ (s.1 1 1 ≤ x2) := c2
    refine sm_89 hI (show (-2147483648 : Int) ≤ x2 ∧ x2 ≤ (2147483647 : Int) from by omega) (fun z24 q3 => ?_)
    have b4 : 0 ≤ s.1 6 x2 ∧ s.1 6 x2 ≤ 1 := iv_r6 hI _
    refine ⟨fun c5 => ?_, fun c5 => ?_⟩
    · skip
      have dc5 := q3.2 c5
      exact sm_144_p43 hQ hX4 (show (16 - x2).toNat ≤ M4 from by omega) hI (show (-2147483648 : Int) ≤ x1 ∧ x1 ≤ (2147483647 : Int) from by omega) (show (0 : Int) ≤ x2 ∧ x2 ≤ (15 : Int) from by omega)
    · skip
      have dc5 := q3.1 c5
      refine sm_90 hI (show (0 : Int) ≤ x2 ∧ x2 ≤ (15 : Int) from by omega) (fun z26 => ?_)
      refine ⟨fun c7 => ?_, fun c7 => ?_⟩
      · skip
        exact sm_144_p43 hQ hX4 (show (16 - x2).toNat ≤ M4 from by omega) hI (show (-2147483648 : Int) ≤ x1 ∧ x1 ≤ (2147483647 : Int) from by omega) (show (0 : Int) ≤ x2 ∧ x2 ≤ (15 : Int) from by omega)
      · skip
        have b8 : 1 ≤ lf_shl 1 x2 ∧ lf_shl 1 x2 ≤ 32768 := lf_shl1 (m := 15) (by omega) (by omega) (by decide)
        have b9 : (-2147483648) ≤ lf_or x1 (lf_shl 1 x2) ∧ lf_or x1 (lf_shl 1 x2) ≤ 2147483647 := lf_orB
        exact sm_144_p43 hQ hX4 (show (16 - x2).toNat ≤ M4 from by omega) hI (show (-2147483648 : Int) ≤ lf_or x1 (lf_shl 1 x2) ∧ lf_or x1 (lf_shl 1 x2) ≤ (2147483647 : Int) from by omega) (show (0 : Int) ≤ x2 ∧ x2 ≤ (15 : Int) from by omega)
theorem sm_144_p4L {Q : Int → lf_Z → Prop} {x1 : Int} {x2 : Int} {s : lf_Z} (hQ : ∀ (r : Int), ((-2147483648) ≤ r ∧ r ≤ 2147483647) → Q r s) (hI : iv_A s.1 s.2.2) (bx1 : (-2147483648) ≤ x1 ∧ x1 ≤ 2147483647) (bx2 : 0 ≤ x2 ∧ x2 ≤ 16) : fm_144_p4L Q x1 x2 s := by
  intro X4 hX
  have key : ∀ (m9 : Nat) (x1 : Int) (x2 : Int), (-2147483648) ≤ x1 ∧ x1 ≤ 2147483647 → 0 ≤ x2 ∧ x2 ≤ 16 → (16 - x2).toNat < m9 → X4 x1 x2 s := by
    intro m9
    induction m9 with
    | zero => intro x1 x2 bx1 bx2 h9; exact absurd h9 (Nat.not_lt_zero _)
    | succ m9 ih => intro x1 x2 bx1 bx2 h9; exact hX _ _ _ (sm_144_p4 hQ   (fun x1' x2' bx1' bx2' h8 => ih x1' x2' bx1' bx2' (by omega)) (Nat.le_refl _)  hI  bx1 bx2  )
  exact key _ _ _ bx1 bx2   (Nat.lt_succ_self _)
theorem sm_144 {Q : Int → lf_Z → Prop} {s : lf_Z} (hI : iv_A s.1 s.2.2) (hQ : ∀ (r : Int), ((-2147483648) ≤ r ∧ r ≤ 2147483647) → Q r s) : fm_144 Q s := by
  unfold fm_144
  exact sm_144_p4L hQ hI (show (-2147483648 : Int) ≤ 0 ∧ 0 ≤ (2147483647 : Int) from by omega) (show (0 : Int) ≤ 0 ∧ 0 ≤ (16 : Int) from by omega)
-- fm_143 Walk.fewestToShut 68 i
theorem sm_143_p152 {X53 : Int → lf_Z → Prop} {Q : Int → lf_Z → Prop} {x1 : Int} {x2 : Int} {x3 : Int} {x4 : Int} {x5 : Int} {x6 : Int} {s : lf_Z} (hQ : ∀ (r : Int) (s' : lf_Z), iv_A s'.1 s'.2.2 → lf_fq [63, 64, 65, 66, 68, 69, 70, 71] 1000000 true s.1 s.2.2 s'.1 s'.2.2 → ((-2147483648) ≤ r ∧ r ≤ 65535) → Q r s') {M53 : Nat} (hX53 : ∀ (x6 : Int) (s' : lf_Z), iv_A s'.1 s'.2.2 → lf_fq [63, 64, 65, 66, 68, 69, 70, 71] 1000000 true s.1 s.2.2 s'.1 s'.2.2 → 0 ≤ x6 ∧ x6 ≤ 4 → (0 < s'.1 16 x1) → (4 - x6).toNat < M53 → X53 x6 s') (hM53 : (4 - x6).toNat ≤ M53) (hI : iv_A s.1 s.2.2) (bx1 : 0 ≤ x1 ∧ x1 ≤ 3) (bx2 : (-2147483648) ≤ x2 ∧ x2 ≤ 2147483647) (bx3 : (-2147483648) ≤ x3 ∧ x3 ≤ 2147483647) (bx4 : (-2147483648) ≤ x4 ∧ x4 ≤ 2147483647) (bx5 : 1 ≤ x5 ∧ x5 ≤ 65536) (bx6 : 0 ≤ x6 ∧ x6 ≤ 3) (kv0 : 0 < s.1 16 x1) : fm_143_p152 X53 Q x1 x2 x3 x4 x5 x6 s := by
  unfold fm_143_p152
  have b20 : (-2147483648) ≤ s.1 16 x1 ∧ s.1 16 x1 ≤ 2147483647 := iv_full hI
  exact hX53 (x6 + 1) s hI (lf_fq_rf) (show (0 : Int) ≤ x6 + 1 ∧ x6 + 1 ≤ (4 : Int) from by omega) (show 0 < (s.1 16 x1) from by omega) (show (4 - (x6 + 1)).toNat < M53 from by omega)
theorem sm_143_p144 {X53 : Int → lf_Z → Prop} {X70 : Int → Int → lf_Z → Prop} {Q : Int → lf_Z → Prop} {x1 : Int} {x2 : Int} {x3 : Int} {x4 : Int} {x5 : Int} {x6 : Int} {x8 : Int} {y0 : Int} {s : lf_Z} (hQ : ∀ (r : Int) (s' : lf_Z), iv_A s'.1 s'.2.2 → lf_fq [63, 64, 65, 66, 68, 69, 70, 71] 1000000 true s.1 s.2.2 s'.1 s'.2.2 → ((-2147483648) ≤ r ∧ r ≤ 65535) → Q r s') {M53 : Nat} (hX53 : ∀ (x6 : Int) (s' : lf_Z), iv_A s'.1 s'.2.2 → lf_fq [63, 64, 65, 66, 68, 69, 70, 71] 1000000 true s.1 s.2.2 s'.1 s'.2.2 → 0 ≤ x6 ∧ x6 ≤ 4 → (0 < s'.1 16 x1) → (4 - x6).toNat < M53 → X53 x6 s') (hM53 : (4 - x6).toNat ≤ M53) {M70 : Nat} (hX70 : ∀ (x7 : Int) (x8 : Int) (s' : lf_Z), iv_A s'.1 s'.2.2 → lf_fq [63, 64, 65, 66, 68, 69, 70, 71] 1000000 true s.1 s.2.2 s'.1 s'.2.2 → (-2147483648) ≤ x7 ∧ x7 ≤ 2147483647 → 0 ≤ x8 ∧ x8 ≤ 1000 → (0 < s'.1 16 x1) → (1000 - x8).toNat < M70 → X70 x7 x8 s') (hM70 : (1000 - x8).toNat ≤ M70) (hI : iv_A s.1 s.2.2) (bx1 : 0 ≤ x1 ∧ x1 ≤ 3) (bx2 : (-2147483648) ≤ x2 ∧ x2 ≤ 2147483647) (bx3 : (-2147483648) ≤ x3 ∧ x3 ≤ 2147483647) (bx4 : (-2147483648) ≤ x4 ∧ x4 ≤ 2147483647) (bx5 : 1 ≤ x5 ∧ x5 ≤ 65536) (bx6 : 0 ≤ x6 ∧ x6 ≤ 3) (bx8 : 0 ≤ x8 ∧ x8 ≤ 999) (by0 : (-2147483648) ≤ y0 ∧ y0 ≤ 2147483647) (kv0 : 0 < s.1 16 x1) : fm_143_p144 X53 X70 Q x1 x2 x3 x4 x5 x6 x8 y0 s := by
  unfold fm_143_p144
  have b35 : (-2147483648) ≤ s.1 16 x1 ∧ s.1 16 x1 ≤ 2147483647 := iv_full hI
  exact hX70 (y0) (x8 + 1) s hI (lf_fq_rf) (show (-2147483648 : Int) ≤ y0 ∧ y0 ≤ (2147483647 : Int) from by omega) (show (0 : Int) ≤ x8 + 1 ∧ x8 + 1 ≤ (1000 : Int) from by omega) (show 0 < (s.1 16 x1) from by omega) (show (1000 - (x8 + 1)).toNat < M70 from by omega)
theorem sm_143_p129 {X53 : Int → lf_Z → Prop} {X70 : Int → Int → lf_Z → Prop} {Q : Int → lf_Z → Prop} {x1 : Int} {x2 : Int} {x3 : Int} {x4 : Int} {x5 : Int} {x6 : Int} {x7 : Int} {x8 : Int} {s : lf_Z} (hQ : ∀ (r : Int) (s' : lf_Z), iv_A s'.1 s'.2.2 → lf_fq [63, 64, 65, 66, 68, 69, 70, 71] 1000000 true s.1 s.2.2 s'.1 s'.2.2 → ((-2147483648) ≤ r ∧ r ≤ 65535) → Q r s') {M53 : Nat} (hX53 : ∀ (x6 : Int) (s' : lf_Z), iv_A s'.1 s'.2.2 → lf_fq [63, 64, 65, 66, 68, 69, 70, 71] 1000000 true s.1 s.2.2 s'.1 s'.2.2 → 0 ≤ x6 ∧ x6 ≤ 4 → (0 < s'.1 16 x1) → (4 - x6).toNat < M53 → X53 x6 s') (hM53 : (4 - x6).toNat ≤ M53) {M70 : Nat} (hX70 : ∀ (x7 : Int) (x8 : Int) (s' : lf_Z), iv_A s'.1 s'.2.2 → lf_fq [63, 64, 65, 66, 68, 69, 70, 71] 1000000 true s.1 s.2.2 s'.1 s'.2.2 → (-2147483648) ≤ x7 ∧ x7 ≤ 2147483647 → 0 ≤ x8 ∧ x8 ≤ 1000 → (0 < s'.1 16 x1) → (1000 - x8).toNat < M70 → X70 x7 x8 s') (hM70 : (1000 - x8).toNat ≤ M70) (hI : iv_A s.1 s.2.2) (bx1 : 0 ≤ x1 ∧ x1 ≤ 3) (bx2 : (-2147483648) ≤ x2 ∧ x2 ≤ 2147483647) (bx3 : (-2147483648) ≤ x3 ∧ x3 ≤ 2147483647) (bx4 : (-2147483648) ≤ x4 ∧ x4 ≤ 2147483647) (bx5 : 1 ≤ x5 ∧ x5 ≤ 65536) (bx6 : 0 ≤ x6 ∧ x6 ≤ 3) (bx7 : (-2147483648) ≤ x7 ∧ x7 ≤ 65535) (bx8 : 0 ≤ x8 ∧ x8 ≤ 999) (kv0 : 0 < s.1 16 x1) : fm_143_p129 X53 X70 Q x1 x2 x3 x4 x5 x6 x7 x8 s := by
  unfold fm_143_p129
  refine ⟨(show lf_R x6 from lf_Rof (by omega)), ?_⟩
  refine ⟨fun c32 => ?_, fun c32 => ?_⟩
  · skip
    replace c32 : x6 ≠ 0 := c32
    refine sm_133 hI (show (-2147483648 : Int) ≤ x7 ∧ x7 ≤ (65535 : Int) from by omega) (fun r36 q33 => ?_)
    have b34 : (-2147483648) ≤ s.1 16 x1 ∧ s.1 16 x1 ≤ 2147483647 := iv_full hI
    exact sm_143_p144 hQ hX53 (show (4 - x6).toNat ≤ M53 from by omega) hX70 (show (1000 - x8).toNat ≤ M70 from by omega) hI (show (0 : Int) ≤ x1 ∧ x1 ≤ (3 : Int) from by omega) (show (-2147483648 : Int) ≤ x2 ∧ x2 ≤ (2147483647 : Int) from by omega) (show (-2147483648 : Int) ≤ x3 ∧ x3 ≤ (2147483647 : Int) from by omega) (show (-2147483648 : Int) ≤ x4 ∧ x4 ≤ (2147483647 : Int) from by omega) (show (1 : Int) ≤ x5 ∧ x5 ≤ (65536 : Int) from by omega) (show (0 : Int) ≤ x6 ∧ x6 ≤ (3 : Int) from by omega) (show (0 : Int) ≤ x8 ∧ x8 ≤ (999 : Int) from by omega) (show (-2147483648 : Int) ≤ r36 ∧ r36 ≤ (2147483647 : Int) from by omega) (show 0 < (s.1 16 x1) from by omega)
  · skip
    replace c32 : ¬ (x6 ≠ 0) := c32
    have b36 : (-2147483648) ≤ s.1 16 x1 ∧ s.1 16 x1 ≤ 2147483647 := iv_full hI
    exact sm_143_p144 hQ hX53 (show (4 - x6).toNat ≤ M53 from by omega) hX70 (show (1000 - x8).toNat ≤ M70 from by omega) hI (show (0 : Int) ≤ x1 ∧ x1 ≤ (3 : Int) from by omega) (show (-2147483648 : Int) ≤ x2 ∧ x2 ≤ (2147483647 : Int) from by omega) (show (-2147483648 : Int) ≤ x3 ∧ x3 ≤ (2147483647 : Int) from by omega) (show (-2147483648 : Int) ≤ x4 ∧ x4 ≤ (2147483647 : Int) from by omega) (show (1 : Int) ≤ x5 ∧ x5 ≤ (65536 : Int) from by omega) (show (0 : Int) ≤ x6 ∧ x6 ≤ (3 : Int) from by omega) (show (0 : Int) ≤ x8 ∧ x8 ≤ (999 : Int) from by omega) (show (-2147483648 : Int) ≤ x5 ∧ x5 ≤ (2147483647 : Int) from by omega) (show 0 < (s.1 16 x1) from by omega)
theorem sm_143_p110 {X53 : Int → lf_Z → Prop} {X70 : Int → Int → lf_Z → Prop} {Q : Int → lf_Z → Prop} {x1 : Int} {x2 : Int} {x3 : Int} {x4 : Int} {x5 : Int} {x6 : Int} {x7 : Int} {x8 : Int} {y0 : Int} {s : lf_Z} (hQ : ∀ (r : Int) (s' : lf_Z), iv_A s'.1 s'.2.2 → lf_fq [63, 64, 65, 66, 68, 69, 70, 71] 1000000 true s.1 s.2.2 s'.1 s'.2.2 → ((-2147483648) ≤ r ∧ r ≤ 65535) → Q r s') {M53 : Nat} (hX53 : ∀ (x6 : Int) (s' : lf_Z), iv_A s'.1 s'.2.2 → lf_fq [63, 64, 65, 66, 68, 69, 70, 71] 1000000 true s.1 s.2.2 s'.1 s'.2.2 → 0 ≤ x6 ∧ x6 ≤ 4 → (0 < s'.1 16 x1) → (4 - x6).toNat < M53 → X53 x6 s') (hM53 : (4 - x6).toNat ≤ M53) {M70 : Nat} (hX70 : ∀ (x7 : Int) (x8 : Int) (s' : lf_Z), iv_A s'.1 s'.2.2 → lf_fq [63, 64, 65, 66, 68, 69, 70, 71] 1000000 true s.1 s.2.2 s'.1 s'.2.2 → (-2147483648) ≤ x7 ∧ x7 ≤ 2147483647 → 0 ≤ x8 ∧ x8 ≤ 1000 → (0 < s'.1 16 x1) → (1000 - x8).toNat < M70 → X70 x7 x8 s') (hM70 : (1000 - x8).toNat ≤ M70) (hI : iv_A s.1 s.2.2) (bx1 : 0 ≤ x1 ∧ x1 ≤ 3) (bx2 : (-2147483648) ≤ x2 ∧ x2 ≤ 2147483647) (bx3 : (-2147483648) ≤ x3 ∧ x3 ≤ 2147483647) (bx4 : (-2147483648) ≤ x4 ∧ x4 ≤ 2147483647) (bx5 : 1 ≤ x5 ∧ x5 ≤ 65536) (bx6 : 0 ≤ x6 ∧ x6 ≤ 3) (bx7 : (-2147483648) ≤ x7 ∧ x7 ≤ 65535) (bx8 : 0 ≤ x8 ∧ x8 ≤ 999) (by0 : (-2147483648) ≤ y0 ∧ y0 ≤ 2147483647) (kv0 : 0 < s.1 16 x1) : fm_143_p110 X53 X70 Q x1 x2 x3 x4 x5 x6 x7 x8 y0 s := by
  unfold fm_143_p110
  have b29 : (-2147483648) ≤ lf_and y0 x3 ∧ lf_and y0 x3 ≤ 2147483647 := lf_andF
  refine ⟨fun c30 => ?_, fun c30 => ?_⟩
  · skip
    replace c30 : lf_and y0 x3 ≠ 0 := c30
    have b31 : (-2147483648) ≤ s.1 16 x1 ∧ s.1 16 x1 ≤ 2147483647 := iv_full hI
    exact sm_143_p129 hQ hX53 (show (4 - x6).toNat ≤ M53 from by omega) hX70 (show (1000 - x8).toNat ≤ M70 from by omega) hI (show (0 : Int) ≤ x1 ∧ x1 ≤ (3 : Int) from by omega) (show (-2147483648 : Int) ≤ x2 ∧ x2 ≤ (2147483647 : Int) from by omega) (show (-2147483648 : Int) ≤ x3 ∧ x3 ≤ (2147483647 : Int) from by omega) (show (-2147483648 : Int) ≤ x4 ∧ x4 ≤ (2147483647 : Int) from by omega) (show (1 : Int) ≤ x5 ∧ x5 ≤ (65536 : Int) from by omega) (show (0 : Int) ≤ x6 ∧ x6 ≤ (3 : Int) from by omega) (show (-2147483648 : Int) ≤ x7 ∧ x7 ≤ (65535 : Int) from by omega) (show (0 : Int) ≤ x8 ∧ x8 ≤ (999 : Int) from by omega) (show 0 < (s.1 16 x1) from by omega)
  · skip
    replace c30 : ¬ (lf_and y0 x3 ≠ 0) := c30
    have b37 : (-2147483648) ≤ lf_and y0 x2 ∧ lf_and y0 x2 ≤ 2147483647 := lf_andF
    refine ⟨fun c38 => ?_, fun c38 => ?_⟩
    · skip
      replace c38 : lf_and y0 x2 = 0 := c38
      have b39 : (-2147483648) ≤ s.1 16 x1 ∧ s.1 16 x1 ≤ 2147483647 := iv_full hI
      exact sm_143_p129 hQ hX53 (show (4 - x6).toNat ≤ M53 from by omega) hX70 (show (1000 - x8).toNat ≤ M70 from by omega) hI (show (0 : Int) ≤ x1 ∧ x1 ≤ (3 : Int) from by omega) (show (-2147483648 : Int) ≤ x2 ∧ x2 ≤ (2147483647 : Int) from by omega) (show (-2147483648 : Int) ≤ x3 ∧ x3 ≤ (2147483647 : Int) from by omega) (show (-2147483648 : Int) ≤ x4 ∧ x4 ≤ (2147483647 : Int) from by omega) (show (1 : Int) ≤ x5 ∧ x5 ≤ (65536 : Int) from by omega) (show (0 : Int) ≤ x6 ∧ x6 ≤ (3 : Int) from by omega) (show (-2147483648 : Int) ≤ x7 ∧ x7 ≤ (65535 : Int) from by omega) (show (0 : Int) ≤ x8 ∧ x8 ≤ (999 : Int) from by omega) (show 0 < (s.1 16 x1) from by omega)
    · skip
      replace c38 : ¬ (lf_and y0 x2 = 0) := c38
      exact hQ x7 s hI (lf_fq_rf) (show (-2147483648 : Int) ≤ x7 ∧ x7 ≤ (65535 : Int) from by omega)
theorem sm_143_p70 {X53 : Int → lf_Z → Prop} {X70 : Int → Int → lf_Z → Prop} {Q : Int → lf_Z → Prop} {x1 : Int} {x2 : Int} {x3 : Int} {x4 : Int} {x5 : Int} {x6 : Int} {x7 : Int} {x8 : Int} {s : lf_Z} (hQ : ∀ (r : Int) (s' : lf_Z), iv_A s'.1 s'.2.2 → lf_fq [63, 64, 65, 66, 68, 69, 70, 71] 1000000 true s.1 s.2.2 s'.1 s'.2.2 → ((-2147483648) ≤ r ∧ r ≤ 65535) → Q r s') {M53 : Nat} (hX53 : ∀ (x6 : Int) (s' : lf_Z), iv_A s'.1 s'.2.2 → lf_fq [63, 64, 65, 66, 68, 69, 70, 71] 1000000 true s.1 s.2.2 s'.1 s'.2.2 → 0 ≤ x6 ∧ x6 ≤ 4 → (0 < s'.1 16 x1) → (4 - x6).toNat < M53 → X53 x6 s') (hM53 : (4 - x6).toNat ≤ M53) {M70 : Nat} (hX70 : ∀ (x7 : Int) (x8 : Int) (s' : lf_Z), iv_A s'.1 s'.2.2 → lf_fq [63, 64, 65, 66, 68, 69, 70, 71] 1000000 true s.1 s.2.2 s'.1 s'.2.2 → (-2147483648) ≤ x7 ∧ x7 ≤ 2147483647 → 0 ≤ x8 ∧ x8 ≤ 1000 → (0 < s'.1 16 x1) → (1000 - x8).toNat < M70 → X70 x7 x8 s') (hM70 : (1000 - x8).toNat ≤ M70) (hI : iv_A s.1 s.2.2) (bx1 : 0 ≤ x1 ∧ x1 ≤ 3) (bx2 : (-2147483648) ≤ x2 ∧ x2 ≤ 2147483647) (bx3 : (-2147483648) ≤ x3 ∧ x3 ≤ 2147483647) (bx4 : (-2147483648) ≤ x4 ∧ x4 ≤ 2147483647) (bx5 : 1 ≤ x5 ∧ x5 ≤ 65536) (bx6 : 0 ≤ x6 ∧ x6 ≤ 3) (bx7 : (-2147483648) ≤ x7 ∧ x7 ≤ 2147483647) (bx8 : 0 ≤ x8 ∧ x8 ≤ 1000) (kv0 : 0 < s.1 16 x1) : fm_143_p70 X53 Q x1 x2 x3 x4 x5 x6 X70 x7 x8 s := by
  unfold fm_143_p70
  refine ⟨(show lf_R x8 from lf_Rof (by omega)), ?_⟩
  refine ⟨fun c18 => ?_, fun c18 => ?_⟩
  · skip
    replace c18 : 1000 ≤ x8 := c18
    have b19 : (-2147483648) ≤ s.1 16 x1 ∧ s.1 16 x1 ≤ 2147483647 := iv_full hI
    exact sm_143_p152 hQ hX53 (show (4 - x6).toNat ≤ M53 from by omega) hI (show (0 : Int) ≤ x1 ∧ x1 ≤ (3 : Int) from by omega) (show (-2147483648 : Int) ≤ x2 ∧ x2 ≤ (2147483647 : Int) from by omega) (show (-2147483648 : Int) ≤ x3 ∧ x3 ≤ (2147483647 : Int) from by omega) (show (-2147483648 : Int) ≤ x4 ∧ x4 ≤ (2147483647 : Int) from by omega) (show (1 : Int) ≤ x5 ∧ x5 ≤ (65536 : Int) from by omega) (show (0 : Int) ≤ x6 ∧ x6 ≤ (3 : Int) from by omega) (show 0 < (s.1 16 x1) from by omega)
  · skip
    replace c18 : ¬ (1000 ≤ x8) := c18
    refine ⟨(show lf_R x7 from lf_Rof (by omega)), ?_⟩
    refine ⟨(show lf_R x5 from lf_Rof (by omega)), ?_⟩
    refine ⟨fun c21 => ?_, fun c21 => ?_⟩
    · skip
      replace c21 : x5 ≤ x7 := c21
      have b22 : (-2147483648) ≤ s.1 16 x1 ∧ s.1 16 x1 ≤ 2147483647 := iv_full hI
      exact sm_143_p152 hQ hX53 (show (4 - x6).toNat ≤ M53 from by omega) hI (show (0 : Int) ≤ x1 ∧ x1 ≤ (3 : Int) from by omega) (show (-2147483648 : Int) ≤ x2 ∧ x2 ≤ (2147483647 : Int) from by omega) (show (-2147483648 : Int) ≤ x3 ∧ x3 ≤ (2147483647 : Int) from by omega) (show (-2147483648 : Int) ≤ x4 ∧ x4 ≤ (2147483647 : Int) from by omega) (show (1 : Int) ≤ x5 ∧ x5 ≤ (65536 : Int) from by omega) (show (0 : Int) ≤ x6 ∧ x6 ≤ (3 : Int) from by omega) (show 0 < (s.1 16 x1) from by omega)
    · skip
      replace c21 : ¬ (x5 ≤ x7) := c21
      have hI23 : iv_A (lf_up s.1 68 9 x7) s.2.2 := iv_w68_9 hI (by omega)
      have fr24 : lf_fq [63, 64, 65, 66, 68, 69, 70, 71] 1000000 true s.1 s.2.2 (lf_up s.1 68 9 x7) s.2.2 := lf_fq_up (lf_fq_rf) rfl (fun h => absurd h (by decide))
      have b25 : (-2147483648) ≤ lf_xor x4 (-1) ∧ lf_xor x4 (-1) ≤ 2147483647 := lf_xorB
      have b26 : (-2147483648) ≤ lf_and x7 (lf_xor x4 (-1)) ∧ lf_and x7 (lf_xor x4 (-1)) ≤ 2147483647 := lf_andF
      refine ⟨fun c27 => ?_, fun c27 => ?_⟩
      · skip
        replace c27 : lf_and x7 (lf_xor x4 (-1)) ≠ 0 := c27
        have b28 : (-2147483648) ≤ s.1 16 x1 ∧ s.1 16 x1 ≤ 2147483647 := (show (-2147483648) ≤ (lf_up s.1 68 9 x7) 16 x1 ∧ (lf_up s.1 68 9 x7) 16 x1 ≤ 2147483647 from iv_full hI23)
        exact sm_143_p110 (fun r9 t9 i9 f9 => hQ r9 t9 i9 (lf_fq_tr fr24 f9)) (fun p0 t9 i9 f9 => hX53 p0 t9 i9 (lf_fq_tr fr24 f9)) (show (4 - x6).toNat ≤ M53 from by omega) (fun p0 p1 t9 i9 f9 => hX70 p0 p1 t9 i9 (lf_fq_tr fr24 f9)) (show (1000 - x8).toNat ≤ M70 from by omega) hI23 (show (0 : Int) ≤ x1 ∧ x1 ≤ (3 : Int) from by omega) (show (-2147483648 : Int) ≤ x2 ∧ x2 ≤ (2147483647 : Int) from by omega) (show (-2147483648 : Int) ≤ x3 ∧ x3 ≤ (2147483647 : Int) from by omega) (show (-2147483648 : Int) ≤ x4 ∧ x4 ≤ (2147483647 : Int) from by omega) (show (1 : Int) ≤ x5 ∧ x5 ≤ (65536 : Int) from by omega) (show (0 : Int) ≤ x6 ∧ x6 ≤ (3 : Int) from by omega) (show (-2147483648 : Int) ≤ x7 ∧ x7 ≤ (65535 : Int) from by omega) (show (0 : Int) ≤ x8 ∧ x8 ≤ (999 : Int) from by omega) (show (-2147483648 : Int) ≤ x3 ∧ x3 ≤ (2147483647 : Int) from by omega) (show 0 < (s.1 16 x1) from by omega)
      · skip
        replace c27 : ¬ (lf_and x7 (lf_xor x4 (-1)) ≠ 0) := c27
        have b42 : (-2147483648) ≤ s.1 16 x1 ∧ s.1 16 x1 ≤ 2147483647 := (show (-2147483648) ≤ (lf_up s.1 68 9 x7) 16 x1 ∧ (lf_up s.1 68 9 x7) 16 x1 ≤ 2147483647 from iv_full hI23)
        refine sm_128 hI23 (show (0 : Int) ≤ x1 ∧ x1 ≤ (3 : Int) from by omega) (show 0 < (s.1 16 x1) from by omega) (fun r38 s37 hI41 fr40 q43 => ?_)
        have fr44 : lf_fq [63, 64, 65, 66, 68, 69, 70, 71] 1000000 true s.1 s.2.2 s37.1 s37.2.2 := lf_fq_tr fr24 (lf_fq_wk fr40 rfl (by decide) (by decide))
        have b45 : (-2147483648) ≤ s37.1 16 x1 ∧ s37.1 16 x1 ≤ 2147483647 := iv_full hI41
        have b46 : s37.1 16 x1 = s.1 16 x1 := congrFun (fr40.1 16 rfl) _
        exact sm_143_p110 (fun r9 t9 i9 f9 => hQ r9 t9 i9 (lf_fq_tr fr44 f9)) (fun p0 t9 i9 f9 => hX53 p0 t9 i9 (lf_fq_tr fr44 f9)) (show (4 - x6).toNat ≤ M53 from by omega) (fun p0 p1 t9 i9 f9 => hX70 p0 p1 t9 i9 (lf_fq_tr fr44 f9)) (show (1000 - x8).toNat ≤ M70 from by omega) hI41 (show (0 : Int) ≤ x1 ∧ x1 ≤ (3 : Int) from by omega) (show (-2147483648 : Int) ≤ x2 ∧ x2 ≤ (2147483647 : Int) from by omega) (show (-2147483648 : Int) ≤ x3 ∧ x3 ≤ (2147483647 : Int) from by omega) (show (-2147483648 : Int) ≤ x4 ∧ x4 ≤ (2147483647 : Int) from by omega) (show (1 : Int) ≤ x5 ∧ x5 ≤ (65536 : Int) from by omega) (show (0 : Int) ≤ x6 ∧ x6 ≤ (3 : Int) from by omega) (show (-2147483648 : Int) ≤ x7 ∧ x7 ≤ (65535 : Int) from by omega) (show (0 : Int) ≤ x8 ∧ x8 ≤ (999 : Int) from by omega) (show (-2147483648 : Int) ≤ r38 ∧ r38 ≤ (2147483647 : Int) from by omega) (show 0 < (s37.1 16 x1) from by omega)
theorem sm_143_p70L {X53 : Int → lf_Z → Prop} {Q : Int → lf_Z → Prop} {x1 : Int} {x2 : Int} {x3 : Int} {x4 : Int} {x5 : Int} {x6 : Int} {x7 : Int} {x8 : Int} {s : lf_Z} (hQ : ∀ (r : Int) (s' : lf_Z), iv_A s'.1 s'.2.2 → lf_fq [63, 64, 65, 66, 68, 69, 70, 71] 1000000 true s.1 s.2.2 s'.1 s'.2.2 → ((-2147483648) ≤ r ∧ r ≤ 65535) → Q r s') {M53 : Nat} (hX53 : ∀ (x6 : Int) (s' : lf_Z), iv_A s'.1 s'.2.2 → lf_fq [63, 64, 65, 66, 68, 69, 70, 71] 1000000 true s.1 s.2.2 s'.1 s'.2.2 → 0 ≤ x6 ∧ x6 ≤ 4 → (0 < s'.1 16 x1) → (4 - x6).toNat < M53 → X53 x6 s') (hM53 : (4 - x6).toNat ≤ M53) (hI : iv_A s.1 s.2.2) (bx1 : 0 ≤ x1 ∧ x1 ≤ 3) (bx2 : (-2147483648) ≤ x2 ∧ x2 ≤ 2147483647) (bx3 : (-2147483648) ≤ x3 ∧ x3 ≤ 2147483647) (bx4 : (-2147483648) ≤ x4 ∧ x4 ≤ 2147483647) (bx5 : 1 ≤ x5 ∧ x5 ≤ 65536) (bx6 : 0 ≤ x6 ∧ x6 ≤ 3) (bx7 : (-2147483648) ≤ x7 ∧ x7 ≤ 2147483647) (bx8 : 0 ≤ x8 ∧ x8 ≤ 1000) (kv0 : 0 < s.1 16 x1) : fm_143_p70L X53 Q x1 x2 x3 x4 x5 x6 x7 x8 s := by
  intro X70 hX
  have key : ∀ (m9 : Nat) (x7 : Int) (x8 : Int) (s' : lf_Z), iv_A s'.1 s'.2.2 → lf_fq [63, 64, 65, 66, 68, 69, 70, 71] 1000000 true s.1 s.2.2 s'.1 s'.2.2 → (-2147483648) ≤ x7 ∧ x7 ≤ 2147483647 → 0 ≤ x8 ∧ x8 ≤ 1000 → (0 < s'.1 16 x1) → (1000 - x8).toNat < m9 → X70 x7 x8 s' := by
    intro m9
    induction m9 with
    | zero => intro x7 x8 s' _ _ bx7 bx8 kv0 h9; exact absurd h9 (Nat.not_lt_zero _)
    | succ m9 ih => intro x7 x8 s' i7 f7 bx7 bx8 kv0 h9; exact hX _ _ _ (sm_143_p70 (fun r9 t9 i9 f9 => hQ r9 t9 i9 (lf_fq_tr f7 f9))  (fun p0 t9 i9 f9 => hX53 p0 t9 i9 (lf_fq_tr f7 f9)) hM53 (fun x7' x8' t8 i8 f8 bx7' bx8' kv0' h8 => ih x7' x8' t8 i8 (lf_fq_tr f7 f8) bx7' bx8' kv0' (by omega)) (Nat.le_refl _)  i7  bx1 bx2 bx3 bx4 bx5 bx6 bx7 bx8  kv0)
  exact key _ _ _ s hI lf_fq_rf bx7 bx8 kv0 (Nat.lt_succ_self _)
theorem sm_143_p53 {X53 : Int → lf_Z → Prop} {Q : Int → lf_Z → Prop} {x1 : Int} {x2 : Int} {x3 : Int} {x4 : Int} {x5 : Int} {x6 : Int} {s : lf_Z} (hQ : ∀ (r : Int) (s' : lf_Z), iv_A s'.1 s'.2.2 → lf_fq [63, 64, 65, 66, 68, 69, 70, 71] 1000000 true s.1 s.2.2 s'.1 s'.2.2 → ((-2147483648) ≤ r ∧ r ≤ 65535) → Q r s') {M53 : Nat} (hX53 : ∀ (x6 : Int) (s' : lf_Z), iv_A s'.1 s'.2.2 → lf_fq [63, 64, 65, 66, 68, 69, 70, 71] 1000000 true s.1 s.2.2 s'.1 s'.2.2 → 0 ≤ x6 ∧ x6 ≤ 4 → (0 < s'.1 16 x1) → (4 - x6).toNat < M53 → X53 x6 s') (hM53 : (4 - x6).toNat ≤ M53) (hI : iv_A s.1 s.2.2) (bx1 : 0 ≤ x1 ∧ x1 ≤ 3) (bx2 : (-2147483648) ≤ x2 ∧ x2 ≤ 2147483647) (bx3 : (-2147483648) ≤ x3 ∧ x3 ≤ 2147483647) (bx4 : (-2147483648) ≤ x4 ∧ x4 ≤ 2147483647) (bx5 : 1 ≤ x5 ∧ x5 ≤ 65536) (bx6 : 0 ≤ x6 ∧ x6 ≤ 4) (kv0 : 0 < s.1 16 x1) : fm_143_p53 Q x1 x2 x3 x4 x5 X53 x6 s := by
  unfold fm_143_p53
  refine ⟨(show lf_R x6 from lf_Rof (by omega)), ?_⟩
  refine ⟨fun c15 => ?_, fun c15 => ?_⟩
  · skip
    replace c15 : 3 < x6 := c15
    exact hQ (-1) s hI (lf_fq_rf) (show (-2147483648 : Int) ≤ (-1) ∧ (-1) ≤ (65535 : Int) from by omega)
  · skip
    replace c15 : ¬ (3 < x6) := c15
    have b16 : 1 ≤ lf_shl 1 x6 ∧ lf_shl 1 x6 ≤ 8 := lf_shl1 (m := 3) (by omega) (by omega) (by decide)
    have b17 : (-2147483648) ≤ s.1 16 x1 ∧ s.1 16 x1 ≤ 2147483647 := iv_full hI
    exact sm_143_p70L hQ hX53 (show (4 - x6).toNat ≤ M53 from by omega) hI (show (0 : Int) ≤ x1 ∧ x1 ≤ (3 : Int) from by omega) (show (-2147483648 : Int) ≤ x2 ∧ x2 ≤ (2147483647 : Int) from by omega) (show (-2147483648 : Int) ≤ x3 ∧ x3 ≤ (2147483647 : Int) from by omega) (show (-2147483648 : Int) ≤ x4 ∧ x4 ≤ (2147483647 : Int) from by omega) (show (1 : Int) ≤ x5 ∧ x5 ≤ (65536 : Int) from by omega) (show (0 : Int) ≤ x6 ∧ x6 ≤ (3 : Int) from by omega) (show (-2147483648 : Int) ≤ (lf_shl 1 x6) - 1 ∧ (lf_shl 1 x6) - 1 ≤ (2147483647 : Int) from by omega) (show (0 : Int) ≤ 0 ∧ 0 ≤ (1000 : Int) from by omega) (show 0 < (s.1 16 x1) from by omega)
theorem sm_143_p53L {Q : Int → lf_Z → Prop} {x1 : Int} {x2 : Int} {x3 : Int} {x4 : Int} {x5 : Int} {x6 : Int} {s : lf_Z} (hQ : ∀ (r : Int) (s' : lf_Z), iv_A s'.1 s'.2.2 → lf_fq [63, 64, 65, 66, 68, 69, 70, 71] 1000000 true s.1 s.2.2 s'.1 s'.2.2 → ((-2147483648) ≤ r ∧ r ≤ 65535) → Q r s') (hI : iv_A s.1 s.2.2) (bx1 : 0 ≤ x1 ∧ x1 ≤ 3) (bx2 : (-2147483648) ≤ x2 ∧ x2 ≤ 2147483647) (bx3 : (-2147483648) ≤ x3 ∧ x3 ≤ 2147483647) (bx4 : (-2147483648) ≤ x4 ∧ x4 ≤ 2147483647) (bx5 : 1 ≤ x5 ∧ x5 ≤ 65536) (bx6 : 0 ≤ x6 ∧ x6 ≤ 4) (kv0 : 0 < s.1 16 x1) : fm_143_p53L Q x1 x2 x3 x4 x5 x6 s := by
  intro X53 hX
  have key : ∀ (m9 : Nat) (x6 : Int) (s' : lf_Z), iv_A s'.1 s'.2.2 → lf_fq [63, 64, 65, 66, 68, 69, 70, 71] 1000000 true s.1 s.2.2 s'.1 s'.2.2 → 0 ≤ x6 ∧ x6 ≤ 4 → (0 < s'.1 16 x1) → (4 - x6).toNat < m9 → X53 x6 s' := by
    intro m9
    induction m9 with
    | zero => intro x6 s' _ _ bx6 kv0 h9; exact absurd h9 (Nat.not_lt_zero _)
    | succ m9 ih => intro x6 s' i7 f7 bx6 kv0 h9; exact hX _ _ (sm_143_p53 (fun r9 t9 i9 f9 => hQ r9 t9 i9 (lf_fq_tr f7 f9))   (fun x6' t8 i8 f8 bx6' kv0' h8 => ih x6' t8 i8 (lf_fq_tr f7 f8) bx6' kv0' (by omega)) (Nat.le_refl _)  i7  bx1 bx2 bx3 bx4 bx5 bx6  kv0)
  exact key _ _ s hI lf_fq_rf bx6 kv0 (Nat.lt_succ_self _)
theorem sm_143 {a1 : Int} {Q : Int → lf_Z → Prop} {s : lf_Z} (hI : iv_A s.1 s.2.2) (ba1 : 0 ≤ a1 ∧ a1 ≤ 3) (kp0 : 0 < s.1 16 a1) (hQ : ∀ (r : Int) (s' : lf_Z), iv_A s'.1 s'.2.2 → lf_fq [63, 64, 65, 66, 68, 69, 70, 71] 1000000 true s.1 s.2.2 s'.1 s'.2.2 → ((-2147483648) ≤ r ∧ r ≤ 65535) → Q r s') : fm_143 a1 Q s := by
  unfold fm_143
  refine sm_118 hI (show (0 : Int) ≤ a1 ∧ a1 ≤ (3 : Int) from by omega) (show (0 : Int) ≤ 0 ∧ 0 ≤ (9 : Int) from by omega) (fun s21 hI2 fr1 => ?_)
  have fr4 : lf_fq [63, 64, 65, 66, 68, 69, 70, 71] 1000000 true s.1 s.2.2 s21.1 s21.2.2 := lf_fq_tr (lf_fq_rf) (lf_fq_wk fr1 rfl (by decide) (by decide))
  refine sm_132 hI2 (show (1 : Int) ≤ 3 ∧ 3 ≤ (3 : Int) from by omega) (fun r23 q5 => ?_)
  refine sm_132 hI2 (show (1 : Int) ≤ 1 ∧ 1 ≤ (3 : Int) from by omega) (fun r25 q6 => ?_)
  refine sm_132 hI2 (show (1 : Int) ≤ 2 ∧ 2 ≤ (3 : Int) from by omega) (fun r27 q7 => ?_)
  have b8 : (-2147483648) ≤ lf_or r25 r27 ∧ lf_or r25 r27 ≤ 2147483647 := lf_orB
  refine sm_144 hI2 (fun r29 q9 => ?_)
  have b10 : 0 ≤ s21.1 1 1 ∧ s21.1 1 1 ≤ 16 := iv_r1_1 hI2
  have b11 : s21.1 1 1 = s.1 1 1 := congrFun (fr1.1 1 rfl) _
  have b12 : 1 ≤ lf_shl 1 (s21.1 1 1) ∧ lf_shl 1 (s21.1 1 1) ≤ 65536 := lf_shl1 (m := 16) (by omega) (by omega) (by decide)
  have b13 : (-2147483648) ≤ s21.1 16 a1 ∧ s21.1 16 a1 ≤ 2147483647 := iv_full hI2
  have b14 : s21.1 16 a1 = s.1 16 a1 := congrFun (fr1.1 16 rfl) _
  exact sm_143_p53L (fun r9 t9 i9 f9 => hQ r9 t9 i9 (lf_fq_tr fr4 f9)) hI2 (show (0 : Int) ≤ a1 ∧ a1 ≤ (3 : Int) from by omega) (show (-2147483648 : Int) ≤ r23 ∧ r23 ≤ (2147483647 : Int) from by omega) (show (-2147483648 : Int) ≤ lf_or r25 r27 ∧ lf_or r25 r27 ≤ (2147483647 : Int) from by omega) (show (-2147483648 : Int) ≤ r29 ∧ r29 ≤ (2147483647 : Int) from by omega) (show (1 : Int) ≤ lf_shl 1 (s21.1 1 1) ∧ lf_shl 1 (s21.1 1 1) ≤ (65536 : Int) from by omega) (show (0 : Int) ≤ 0 ∧ 0 ≤ (4 : Int) from by omega) (show 0 < (s21.1 16 a1) from by omega)
-- fm_142 ElevenBullocks.home 0 i
theorem sm_142 {a1 : Int} {Q : Int → lf_Z → Prop} {s : lf_Z} (hI : iv_A s.1 s.2.2) (ba1 : (-2147483648) ≤ a1 ∧ a1 ≤ 2147483647) (hQ : ∀ (r : Int) (s' : lf_Z), iv_A s'.1 s'.2.2 → lf_fq [63, 64, 65, 66, 68, 69, 70, 71] 1000000 true s.1 s.2.2 s'.1 s'.2.2 → ((-2147483648) ≤ r ∧ r ≤ 65535) → Q r s') : fm_142 a1 Q s := by
  unfold fm_142
  refine sm_80 hI (show (-2147483648 : Int) ≤ a1 ∧ a1 ≤ (2147483647 : Int) from by omega) (fun z22 q1 => ?_)
  have b2 : (-2147483648) ≤ s.1 16 a1 ∧ s.1 16 a1 ≤ 2147483647 := iv_full hI
  refine ⟨fun c3 => ?_, fun c3 => ?_⟩
  · skip
    have dc3 := q1.2 c3
    exact hQ (-1) s hI (lf_fq_rf) (show (-2147483648 : Int) ≤ (-1) ∧ (-1) ≤ (65535 : Int) from by omega)
  · skip
    have dc3 := q1.1 c3
    refine sm_143 hI (show (0 : Int) ≤ a1 ∧ a1 ≤ (3 : Int) from by omega) (show 0 < (s.1 16 a1) from by omega) (fun r24 s23 hI5 fr4 q6 => ?_)
    have fr7 : lf_fq [63, 64, 65, 66, 68, 69, 70, 71] 1000000 true s.1 s.2.2 s23.1 s23.2.2 := lf_fq_tr (lf_fq_rf) (lf_fq_wk fr4 rfl (by decide) (by decide))
    exact hQ r24 s23 hI5 fr7 (show (-2147483648 : Int) ≤ r24 ∧ r24 ≤ (65535 : Int) from by omega)
-- fm_297 Model.home 95 i
theorem sm_297_p176 {Q : Int → lf_Z → Prop} {x2 : Int} {s : lf_Z} (hQ : ∀ (r : Int) (s' : lf_Z), iv_A s'.1 s'.2.2 → lf_fq [95, 104, 107, 111, 112] 1000000 true s.1 s.2.2 s'.1 s'.2.2 → ((-1) ≤ r ∧ r ≤ 65535) → Q r s') (hI : iv_A s.1 s.2.2) (bx2 : (-1) ≤ x2 ∧ x2 ≤ 65535) : fm_297_p176 Q x2 s := by
  unfold fm_297_p176
  have hI7 : iv_A (lf_up s.1 95 31 0) s.2.2 := iv_w95_31 hI (by omega)
  have fr8 : lf_fq [95, 104, 107, 111, 112] 1000000 true s.1 s.2.2 (lf_up s.1 95 31 0) s.2.2 := lf_fq_up (lf_fq_rf) rfl (fun h => absurd h (by decide))
  exact hQ x2 (lf_up s.1 95 31 0, s.2.1, s.2.2) hI7 fr8 (show (-1 : Int) ≤ x2 ∧ x2 ≤ (65535 : Int) from by omega)
theorem sm_297_p170 {X66 : Int → Int → lf_Z → Prop} {Q : Int → lf_Z → Prop} {x1 : Int} {x2 : Int} {x3 : Int} {x4 : Int} {s : lf_Z} (hQ : ∀ (r : Int) (s' : lf_Z), iv_A s'.1 s'.2.2 → lf_fq [95, 104, 107, 111, 112] 1000000 true s.1 s.2.2 s'.1 s'.2.2 → ((-1) ≤ r ∧ r ≤ 65535) → Q r s') {M66 : Nat} (hX66 : ∀ (x2 : Int) (x4 : Int) (s' : lf_Z), iv_A s'.1 s'.2.2 → lf_fq [95, 104, 107, 111, 112] 1000000 true s.1 s.2.2 s'.1 s'.2.2 → (-1) ≤ x2 ∧ x2 ≤ 65535 → 0 ≤ x4 ∧ x4 ≤ 4 → (4 - x4).toNat < M66 → X66 x2 x4 s') (hM66 : (4 - x4).toNat ≤ M66) (hI : iv_A s.1 s.2.2) (bx1 : 0 ≤ x1 ∧ x1 ≤ 3) (bx2 : (-1) ≤ x2 ∧ x2 ≤ 65535) (bx3 : (-2147483648) ≤ x3 ∧ x3 ≤ 2147483647) (bx4 : 0 ≤ x4 ∧ x4 ≤ 3) : fm_297_p170 X66 Q x1 x2 x3 x4 s := by
  unfold fm_297_p170
  exact hX66 (x2) (x4 + 1) s hI (lf_fq_rf) (show (-1 : Int) ≤ x2 ∧ x2 ≤ (65535 : Int) from by omega) (show (0 : Int) ≤ x4 + 1 ∧ x4 + 1 ≤ (4 : Int) from by omega) (show (4 - (x4 + 1)).toNat < M66 from by omega)
theorem sm_297_p164 {X66 : Int → Int → lf_Z → Prop} {X79 : Int → Int → lf_Z → Prop} {Q : Int → lf_Z → Prop} {x1 : Int} {x2 : Int} {x3 : Int} {x4 : Int} {x5 : Int} {s : lf_Z} (hQ : ∀ (r : Int) (s' : lf_Z), iv_A s'.1 s'.2.2 → lf_fq [95, 104, 107, 111, 112] 1000000 true s.1 s.2.2 s'.1 s'.2.2 → ((-1) ≤ r ∧ r ≤ 65535) → Q r s') {M66 : Nat} (hX66 : ∀ (x2 : Int) (x4 : Int) (s' : lf_Z), iv_A s'.1 s'.2.2 → lf_fq [95, 104, 107, 111, 112] 1000000 true s.1 s.2.2 s'.1 s'.2.2 → (-1) ≤ x2 ∧ x2 ≤ 65535 → 0 ≤ x4 ∧ x4 ≤ 4 → (4 - x4).toNat < M66 → X66 x2 x4 s') (hM66 : (4 - x4).toNat ≤ M66) {M79 : Nat} (hX79 : ∀ (x2 : Int) (x5 : Int) (s' : lf_Z), iv_A s'.1 s'.2.2 → lf_fq [95, 104, 107, 111, 112] 1000000 true s.1 s.2.2 s'.1 s'.2.2 → (-1) ≤ x2 ∧ x2 ≤ 65535 → 0 ≤ x5 ∧ x5 ≤ 2147483647 → (2147483647 - x5).toNat < M79 → X79 x2 x5 s') (hM79 : (2147483647 - x5).toNat ≤ M79) (hI : iv_A s.1 s.2.2) (bx1 : 0 ≤ x1 ∧ x1 ≤ 3) (bx2 : (-1) ≤ x2 ∧ x2 ≤ 65535) (bx3 : (-2147483648) ≤ x3 ∧ x3 ≤ 2147483647) (bx4 : 0 ≤ x4 ∧ x4 ≤ 3) (bx5 : 0 ≤ x5 ∧ x5 ≤ 2147483646) : fm_297_p164 X66 X79 Q x1 x2 x3 x4 x5 s := by
  unfold fm_297_p164
  exact hX79 (x2) (x5 + 1) s hI (lf_fq_rf) (show (-1 : Int) ≤ x2 ∧ x2 ≤ (65535 : Int) from by omega) (show (0 : Int) ≤ x5 + 1 ∧ x5 + 1 ≤ (2147483647 : Int) from by omega) (show (2147483647 - (x5 + 1)).toNat < M79 from by omega)
theorem sm_297_p79 {X66 : Int → Int → lf_Z → Prop} {X79 : Int → Int → lf_Z → Prop} {Q : Int → lf_Z → Prop} {x1 : Int} {x2 : Int} {x3 : Int} {x4 : Int} {x5 : Int} {s : lf_Z} (hQ : ∀ (r : Int) (s' : lf_Z), iv_A s'.1 s'.2.2 → lf_fq [95, 104, 107, 111, 112] 1000000 true s.1 s.2.2 s'.1 s'.2.2 → ((-1) ≤ r ∧ r ≤ 65535) → Q r s') {M66 : Nat} (hX66 : ∀ (x2 : Int) (x4 : Int) (s' : lf_Z), iv_A s'.1 s'.2.2 → lf_fq [95, 104, 107, 111, 112] 1000000 true s.1 s.2.2 s'.1 s'.2.2 → (-1) ≤ x2 ∧ x2 ≤ 65535 → 0 ≤ x4 ∧ x4 ≤ 4 → (4 - x4).toNat < M66 → X66 x2 x4 s') (hM66 : (4 - x4).toNat ≤ M66) {M79 : Nat} (hX79 : ∀ (x2 : Int) (x5 : Int) (s' : lf_Z), iv_A s'.1 s'.2.2 → lf_fq [95, 104, 107, 111, 112] 1000000 true s.1 s.2.2 s'.1 s'.2.2 → (-1) ≤ x2 ∧ x2 ≤ 65535 → 0 ≤ x5 ∧ x5 ≤ 2147483647 → (2147483647 - x5).toNat < M79 → X79 x2 x5 s') (hM79 : (2147483647 - x5).toNat ≤ M79) (hI : iv_A s.1 s.2.2) (bx1 : 0 ≤ x1 ∧ x1 ≤ 3) (bx2 : (-1) ≤ x2 ∧ x2 ≤ 65535) (bx3 : (-2147483648) ≤ x3 ∧ x3 ≤ 2147483647) (bx4 : 0 ≤ x4 ∧ x4 ≤ 3) (bx5 : 0 ≤ x5 ∧ x5 ≤ 2147483647) : fm_297_p79 X66 Q x1 x3 x4 X79 x2 x5 s := by
  unfold fm_297_p79
  have b10 : 0 ≤ s.1 96 1 ∧ s.1 96 1 ≤ 16 := iv_rd96 hI (iv_fd6ad3e54 (by omega))
  have b11 : s.1 96 1 ≤ 0 ∨ 0 < s.1 96 0 := (show s.1 96 1 ≤ 0 ∨ 0 < s.1 96 0 from iv_l96_1 hI)
  have b12 : 1 ≤ lf_shl 1 (s.1 96 1) ∧ lf_shl 1 (s.1 96 1) ≤ 65536 := lf_shl1 (m := 16) (by omega) (by omega) (by decide)
  refine ⟨(show lf_R x5 from lf_Rof (by omega)), ?_⟩
  refine ⟨fun c13 => ?_, fun c13 => ?_⟩
  · skip
    replace c13 : lf_shl 1 (s.1 96 1) ≤ x5 := c13
    exact sm_297_p170 hQ hX66 (show (4 - x4).toNat ≤ M66 from by omega) hI (show (0 : Int) ≤ x1 ∧ x1 ≤ (3 : Int) from by omega) (show (-1 : Int) ≤ x2 ∧ x2 ≤ (65535 : Int) from by omega) (show (-2147483648 : Int) ≤ x3 ∧ x3 ≤ (2147483647 : Int) from by omega) (show (0 : Int) ≤ x4 ∧ x4 ≤ (3 : Int) from by omega)
  · skip
    replace c13 : ¬ (lf_shl 1 (s.1 96 1) ≤ x5) := c13
    refine ⟨(show lf_R x2 from lf_Rof (by omega)), ?_⟩
    refine ⟨fun c14 => ?_, fun c14 => ?_⟩
    · skip
      replace c14 : 0 ≤ x2 := c14
      exact sm_297_p170 hQ hX66 (show (4 - x4).toNat ≤ M66 from by omega) hI (show (0 : Int) ≤ x1 ∧ x1 ≤ (3 : Int) from by omega) (show (-1 : Int) ≤ x2 ∧ x2 ≤ (65535 : Int) from by omega) (show (-2147483648 : Int) ≤ x3 ∧ x3 ≤ (2147483647 : Int) from by omega) (show (0 : Int) ≤ x4 ∧ x4 ≤ (3 : Int) from by omega)
    · skip
      replace c14 : ¬ (0 ≤ x2) := c14
      refine sm_188 hI (show (-2147483648 : Int) ≤ x5 ∧ x5 ≤ (2147483647 : Int) from by omega) (fun r30 ps16 q15 => ?_)
      replace ps16 : r30 = lf_bt (x5) 16 := ps16
      refine ⟨(show lf_R r30 from lf_Rof (by omega)), ?_⟩
      refine ⟨(show lf_R x4 from lf_Rof (by omega)), ?_⟩
      refine ⟨fun c17 => ?_, fun c17 => ?_⟩
      · skip
        replace c17 : r30 ≠ x4 := c17
        exact sm_297_p164 hQ hX66 (show (4 - x4).toNat ≤ M66 from by omega) hX79 (show (2147483647 - x5).toNat ≤ M79 from by omega) hI (show (0 : Int) ≤ x1 ∧ x1 ≤ (3 : Int) from by omega) (show (-1 : Int) ≤ x2 ∧ x2 ≤ (65535 : Int) from by omega) (show (-2147483648 : Int) ≤ x3 ∧ x3 ≤ (2147483647 : Int) from by omega) (show (0 : Int) ≤ x4 ∧ x4 ≤ (3 : Int) from by omega) (show (0 : Int) ≤ x5 ∧ x5 ≤ (2147483646 : Int) from by omega)
      · skip
        replace c17 : ¬ (r30 ≠ x4) := c17
        have b18 : (-2147483648) ≤ lf_xor x3 (-1) ∧ lf_xor x3 (-1) ≤ 2147483647 := lf_xorB
        have b19 : 0 ≤ lf_and x5 (lf_xor x3 (-1)) ∧ lf_and x5 (lf_xor x3 (-1)) ≤ 65535 := lf_andBl (by omega) (by omega)
        refine ⟨fun c20 => ?_, fun c20 => ?_⟩
        · skip
          replace c20 : lf_and x5 (lf_xor x3 (-1)) = 0 := c20
          have hI21 : iv_A (lf_up s.1 95 31 x5) s.2.2 := iv_w95_31 hI (by omega)
          have fr22 : lf_fq [95, 104, 107, 111, 112] 1000000 true s.1 s.2.2 (lf_up s.1 95 31 x5) s.2.2 := lf_fq_up (lf_fq_rf) rfl (fun h => absurd h (by decide))
          refine sm_294 hI21 (show (0 : Int) ≤ x1 ∧ x1 ≤ (3 : Int) from by omega) (fun r34 s33 hI24 fr23 q25 => ?_)
          have fr26 : lf_fq [95, 104, 107, 111, 112] 1000000 true s.1 s.2.2 s33.1 s33.2.2 := lf_fq_tr fr22 (lf_fq_wk fr23 rfl (by decide) (by decide))
          refine sm_296 hI24 (show (-2147483648 : Int) ≤ r34 ∧ r34 ≤ (2147483647 : Int) from by omega) (show (0 : Int) ≤ 3 ∧ 3 ≤ (3 : Int) from by omega) (fun r36 q27 => ?_)
          refine ⟨(show lf_R r36 from lf_Rof (by omega)), ?_⟩
          refine ⟨fun c28 => ?_, fun c28 => ?_⟩
          · skip
            replace c28 : r36 = 0 := c28
            exact sm_297_p164 (fun r9 t9 i9 f9 => hQ r9 t9 i9 (lf_fq_tr fr26 f9)) (fun p0 p1 t9 i9 f9 => hX66 p0 p1 t9 i9 (lf_fq_tr fr26 f9)) (show (4 - x4).toNat ≤ M66 from by omega) (fun p0 p1 t9 i9 f9 => hX79 p0 p1 t9 i9 (lf_fq_tr fr26 f9)) (show (2147483647 - x5).toNat ≤ M79 from by omega) hI24 (show (0 : Int) ≤ x1 ∧ x1 ≤ (3 : Int) from by omega) (show (-1 : Int) ≤ x2 ∧ x2 ≤ (65535 : Int) from by omega) (show (-2147483648 : Int) ≤ x3 ∧ x3 ≤ (2147483647 : Int) from by omega) (show (0 : Int) ≤ x4 ∧ x4 ≤ (3 : Int) from by omega) (show (0 : Int) ≤ x5 ∧ x5 ≤ (2147483646 : Int) from by omega)
          · skip
            replace c28 : ¬ (r36 = 0) := c28
            refine sm_296 hI24 (show (-2147483648 : Int) ≤ r34 ∧ r34 ≤ (2147483647 : Int) from by omega) (show (0 : Int) ≤ 1 ∧ 1 ≤ (3 : Int) from by omega) (fun r39 q29 => ?_)
            refine ⟨(show lf_R r39 from lf_Rof (by omega)), ?_⟩
            refine ⟨fun c30 => ?_, fun c30 => ?_⟩
            · skip
              replace c30 : r39 ≠ 0 := c30
              exact sm_297_p164 (fun r9 t9 i9 f9 => hQ r9 t9 i9 (lf_fq_tr fr26 f9)) (fun p0 p1 t9 i9 f9 => hX66 p0 p1 t9 i9 (lf_fq_tr fr26 f9)) (show (4 - x4).toNat ≤ M66 from by omega) (fun p0 p1 t9 i9 f9 => hX79 p0 p1 t9 i9 (lf_fq_tr fr26 f9)) (show (2147483647 - x5).toNat ≤ M79 from by omega) hI24 (show (0 : Int) ≤ x1 ∧ x1 ≤ (3 : Int) from by omega) (show (-1 : Int) ≤ x2 ∧ x2 ≤ (65535 : Int) from by omega) (show (-2147483648 : Int) ≤ x3 ∧ x3 ≤ (2147483647 : Int) from by omega) (show (0 : Int) ≤ x4 ∧ x4 ≤ (3 : Int) from by omega) (show (0 : Int) ≤ x5 ∧ x5 ≤ (2147483646 : Int) from by omega)
            · skip
              replace c30 : ¬ (r39 ≠ 0) := c30
              refine sm_296 hI24 (show (-2147483648 : Int) ≤ r34 ∧ r34 ≤ (2147483647 : Int) from by omega) (show (0 : Int) ≤ 2 ∧ 2 ≤ (3 : Int) from by omega) (fun r42 q31 => ?_)
              refine ⟨(show lf_R r42 from lf_Rof (by omega)), ?_⟩
              refine ⟨fun c32 => ?_, fun c32 => ?_⟩
              · skip
                replace c32 : r42 ≠ 0 := c32
                exact sm_297_p164 (fun r9 t9 i9 f9 => hQ r9 t9 i9 (lf_fq_tr fr26 f9)) (fun p0 p1 t9 i9 f9 => hX66 p0 p1 t9 i9 (lf_fq_tr fr26 f9)) (show (4 - x4).toNat ≤ M66 from by omega) (fun p0 p1 t9 i9 f9 => hX79 p0 p1 t9 i9 (lf_fq_tr fr26 f9)) (show (2147483647 - x5).toNat ≤ M79 from by omega) hI24 (show (0 : Int) ≤ x1 ∧ x1 ≤ (3 : Int) from by omega) (show (-1 : Int) ≤ x2 ∧ x2 ≤ (65535 : Int) from by omega) (show (-2147483648 : Int) ≤ x3 ∧ x3 ≤ (2147483647 : Int) from by omega) (show (0 : Int) ≤ x4 ∧ x4 ≤ (3 : Int) from by omega) (show (0 : Int) ≤ x5 ∧ x5 ≤ (2147483646 : Int) from by omega)
              · skip
                replace c32 : ¬ (r42 ≠ 0) := c32
                exact sm_297_p164 (fun r9 t9 i9 f9 => hQ r9 t9 i9 (lf_fq_tr fr26 f9)) (fun p0 p1 t9 i9 f9 => hX66 p0 p1 t9 i9 (lf_fq_tr fr26 f9)) (show (4 - x4).toNat ≤ M66 from by omega) (fun p0 p1 t9 i9 f9 => hX79 p0 p1 t9 i9 (lf_fq_tr fr26 f9)) (show (2147483647 - x5).toNat ≤ M79 from by omega) hI24 (show (0 : Int) ≤ x1 ∧ x1 ≤ (3 : Int) from by omega) (show (-1 : Int) ≤ x5 ∧ x5 ≤ (65535 : Int) from by omega) (show (-2147483648 : Int) ≤ x3 ∧ x3 ≤ (2147483647 : Int) from by omega) (show (0 : Int) ≤ x4 ∧ x4 ≤ (3 : Int) from by omega) (show (0 : Int) ≤ x5 ∧ x5 ≤ (2147483646 : Int) from by omega)
        · skip
          replace c20 : ¬ (lf_and x5 (lf_xor x3 (-1)) = 0) := c20
          exact sm_297_p164 hQ hX66 (show (4 - x4).toNat ≤ M66 from by omega) hX79 (show (2147483647 - x5).toNat ≤ M79 from by omega) hI (show (0 : Int) ≤ x1 ∧ x1 ≤ (3 : Int) from by omega) (show (-1 : Int) ≤ x2 ∧ x2 ≤ (65535 : Int) from by omega) (show (-2147483648 : Int) ≤ x3 ∧ x3 ≤ (2147483647 : Int) from by omega) (show (0 : Int) ≤ x4 ∧ x4 ≤ (3 : Int) from by omega) (show (0 : Int) ≤ x5 ∧ x5 ≤ (2147483646 : Int) from by omega)
theorem sm_297_p79L {X66 : Int → Int → lf_Z → Prop} {Q : Int → lf_Z → Prop} {x1 : Int} {x2 : Int} {x3 : Int} {x4 : Int} {x5 : Int} {s : lf_Z} (hQ : ∀ (r : Int) (s' : lf_Z), iv_A s'.1 s'.2.2 → lf_fq [95, 104, 107, 111, 112] 1000000 true s.1 s.2.2 s'.1 s'.2.2 → ((-1) ≤ r ∧ r ≤ 65535) → Q r s') {M66 : Nat} (hX66 : ∀ (x2 : Int) (x4 : Int) (s' : lf_Z), iv_A s'.1 s'.2.2 → lf_fq [95, 104, 107, 111, 112] 1000000 true s.1 s.2.2 s'.1 s'.2.2 → (-1) ≤ x2 ∧ x2 ≤ 65535 → 0 ≤ x4 ∧ x4 ≤ 4 → (4 - x4).toNat < M66 → X66 x2 x4 s') (hM66 : (4 - x4).toNat ≤ M66) (hI : iv_A s.1 s.2.2) (bx1 : 0 ≤ x1 ∧ x1 ≤ 3) (bx2 : (-1) ≤ x2 ∧ x2 ≤ 65535) (bx3 : (-2147483648) ≤ x3 ∧ x3 ≤ 2147483647) (bx4 : 0 ≤ x4 ∧ x4 ≤ 3) (bx5 : 0 ≤ x5 ∧ x5 ≤ 2147483647) : fm_297_p79L X66 Q x1 x2 x3 x4 x5 s := by
  intro X79 hX
  have key : ∀ (m9 : Nat) (x2 : Int) (x5 : Int) (s' : lf_Z), iv_A s'.1 s'.2.2 → lf_fq [95, 104, 107, 111, 112] 1000000 true s.1 s.2.2 s'.1 s'.2.2 → (-1) ≤ x2 ∧ x2 ≤ 65535 → 0 ≤ x5 ∧ x5 ≤ 2147483647 → (2147483647 - x5).toNat < m9 → X79 x2 x5 s' := by
    intro m9
    induction m9 with
    | zero => intro x2 x5 s' _ _ bx2 bx5 h9; exact absurd h9 (Nat.not_lt_zero _)
    | succ m9 ih => intro x2 x5 s' i7 f7 bx2 bx5 h9; exact hX _ _ _ (sm_297_p79 (fun r9 t9 i9 f9 => hQ r9 t9 i9 (lf_fq_tr f7 f9))  (fun p0 p1 t9 i9 f9 => hX66 p0 p1 t9 i9 (lf_fq_tr f7 f9)) hM66 (fun x2' x5' t8 i8 f8 bx2' bx5' h8 => ih x2' x5' t8 i8 (lf_fq_tr f7 f8) bx2' bx5' (by omega)) (Nat.le_refl _)  i7  bx1 bx2 bx3 bx4 bx5  )
  exact key _ _ _ s hI lf_fq_rf bx2 bx5 (Nat.lt_succ_self _)
theorem sm_297_p66 {X66 : Int → Int → lf_Z → Prop} {Q : Int → lf_Z → Prop} {x1 : Int} {x2 : Int} {x3 : Int} {x4 : Int} {s : lf_Z} (hQ : ∀ (r : Int) (s' : lf_Z), iv_A s'.1 s'.2.2 → lf_fq [95, 104, 107, 111, 112] 1000000 true s.1 s.2.2 s'.1 s'.2.2 → ((-1) ≤ r ∧ r ≤ 65535) → Q r s') {M66 : Nat} (hX66 : ∀ (x2 : Int) (x4 : Int) (s' : lf_Z), iv_A s'.1 s'.2.2 → lf_fq [95, 104, 107, 111, 112] 1000000 true s.1 s.2.2 s'.1 s'.2.2 → (-1) ≤ x2 ∧ x2 ≤ 65535 → 0 ≤ x4 ∧ x4 ≤ 4 → (4 - x4).toNat < M66 → X66 x2 x4 s') (hM66 : (4 - x4).toNat ≤ M66) (hI : iv_A s.1 s.2.2) (bx1 : 0 ≤ x1 ∧ x1 ≤ 3) (bx2 : (-1) ≤ x2 ∧ x2 ≤ 65535) (bx3 : (-2147483648) ≤ x3 ∧ x3 ≤ 2147483647) (bx4 : 0 ≤ x4 ∧ x4 ≤ 4) : fm_297_p66 Q x1 x3 X66 x2 x4 s := by
  unfold fm_297_p66
  refine ⟨(show lf_R x4 from lf_Rof (by omega)), ?_⟩
  refine ⟨fun c6 => ?_, fun c6 => ?_⟩
  · skip
    replace c6 : 3 < x4 := c6
    exact sm_297_p176 hQ hI (show (-1 : Int) ≤ x2 ∧ x2 ≤ (65535 : Int) from by omega)
  · skip
    replace c6 : ¬ (3 < x4) := c6
    refine ⟨(show lf_R x2 from lf_Rof (by omega)), ?_⟩
    refine ⟨fun c9 => ?_, fun c9 => ?_⟩
    · skip
      replace c9 : 0 ≤ x2 := c9
      exact sm_297_p176 hQ hI (show (-1 : Int) ≤ x2 ∧ x2 ≤ (65535 : Int) from by omega)
    · skip
      replace c9 : ¬ (0 ≤ x2) := c9
      exact sm_297_p79L hQ hX66 (show (4 - x4).toNat ≤ M66 from by omega) hI (show (0 : Int) ≤ x1 ∧ x1 ≤ (3 : Int) from by omega) (show (-1 : Int) ≤ x2 ∧ x2 ≤ (65535 : Int) from by omega) (show (-2147483648 : Int) ≤ x3 ∧ x3 ≤ (2147483647 : Int) from by omega) (show (0 : Int) ≤ x4 ∧ x4 ≤ (3 : Int) from by omega) (show (0 : Int) ≤ 0 ∧ 0 ≤ (2147483647 : Int) from by omega)
theorem sm_297_p66L {Q : Int → lf_Z → Prop} {x1 : Int} {x2 : Int} {x3 : Int} {x4 : Int} {s : lf_Z} (hQ : ∀ (r : Int) (s' : lf_Z), iv_A s'.1 s'.2.2 → lf_fq [95, 104, 107, 111, 112] 1000000 true s.1 s.2.2 s'.1 s'.2.2 → ((-1) ≤ r ∧ r ≤ 65535) → Q r s') (hI : iv_A s.1 s.2.2) (bx1 : 0 ≤ x1 ∧ x1 ≤ 3) (bx2 : (-1) ≤ x2 ∧ x2 ≤ 65535) (bx3 : (-2147483648) ≤ x3 ∧ x3 ≤ 2147483647) (bx4 : 0 ≤ x4 ∧ x4 ≤ 4) : fm_297_p66L Q x1 x2 x3 x4 s := by
  intro X66 hX
  have key : ∀ (m9 : Nat) (x2 : Int) (x4 : Int) (s' : lf_Z), iv_A s'.1 s'.2.2 → lf_fq [95, 104, 107, 111, 112] 1000000 true s.1 s.2.2 s'.1 s'.2.2 → (-1) ≤ x2 ∧ x2 ≤ 65535 → 0 ≤ x4 ∧ x4 ≤ 4 → (4 - x4).toNat < m9 → X66 x2 x4 s' := by
    intro m9
    induction m9 with
    | zero => intro x2 x4 s' _ _ bx2 bx4 h9; exact absurd h9 (Nat.not_lt_zero _)
    | succ m9 ih => intro x2 x4 s' i7 f7 bx2 bx4 h9; exact hX _ _ _ (sm_297_p66 (fun r9 t9 i9 f9 => hQ r9 t9 i9 (lf_fq_tr f7 f9))   (fun x2' x4' t8 i8 f8 bx2' bx4' h8 => ih x2' x4' t8 i8 (lf_fq_tr f7 f8) bx2' bx4' (by omega)) (Nat.le_refl _)  i7  bx1 bx2 bx3 bx4  )
  exact key _ _ _ s hI lf_fq_rf bx2 bx4 (Nat.lt_succ_self _)
theorem sm_297_p55 {X17 : Int → Int → lf_Z → Prop} {Q : Int → lf_Z → Prop} {x1 : Int} {x2 : Int} {x4 : Int} {y0 : Int} {y1 : Int} {s : lf_Z} (hQ : ∀ (r : Int) (s' : lf_Z), iv_A s'.1 s'.2.2 → lf_fq [95, 104, 107, 111, 112] 1000000 true s.1 s.2.2 s'.1 s'.2.2 → ((-1) ≤ r ∧ r ≤ 65535) → Q r s') {M17 : Nat} (hX17 : ∀ (x3 : Int) (x4 : Int) (s' : lf_Z), iv_A s'.1 s'.2.2 → lf_fq [95, 104, 107, 111, 112] 1000000 true s.1 s.2.2 s'.1 s'.2.2 → (-2147483648) ≤ x3 ∧ x3 ≤ 2147483647 → 0 ≤ x4 ∧ x4 ≤ 16 → (16 - x4).toNat < M17 → X17 x3 x4 s') (hM17 : (16 - x4).toNat ≤ M17) (hI : iv_A s.1 s.2.2) (bx1 : 0 ≤ x1 ∧ x1 ≤ 3) (bx2 : (-1) ≤ x2 ∧ x2 ≤ (-1)) (bx4 : 0 ≤ x4 ∧ x4 ≤ 15) (by0 : (-2147483648) ≤ y0 ∧ y0 ≤ 2147483647) (by1 : 0 ≤ y1 ∧ y1 ≤ 32768) : fm_297_p55 X17 Q x1 x2 x4 y0 y1 s := by
  unfold fm_297_p55
  have b35 : (-2147483648) ≤ lf_or y0 y1 ∧ lf_or y0 y1 ≤ 2147483647 := lf_orB
  exact hX17 (lf_or y0 y1) (x4 + 1) s hI (lf_fq_rf) (show (-2147483648 : Int) ≤ lf_or y0 y1 ∧ lf_or y0 y1 ≤ (2147483647 : Int) from by omega) (show (0 : Int) ≤ x4 + 1 ∧ x4 + 1 ≤ (16 : Int) from by omega) (show (16 - (x4 + 1)).toNat < M17 from by omega)
theorem sm_297_p54 {X17 : Int → Int → lf_Z → Prop} {Q : Int → lf_Z → Prop} {x1 : Int} {x2 : Int} {x4 : Int} {y0 : Int} {s : lf_Z} (hQ : ∀ (r : Int) (s' : lf_Z), iv_A s'.1 s'.2.2 → lf_fq [95, 104, 107, 111, 112] 1000000 true s.1 s.2.2 s'.1 s'.2.2 → ((-1) ≤ r ∧ r ≤ 65535) → Q r s') {M17 : Nat} (hX17 : ∀ (x3 : Int) (x4 : Int) (s' : lf_Z), iv_A s'.1 s'.2.2 → lf_fq [95, 104, 107, 111, 112] 1000000 true s.1 s.2.2 s'.1 s'.2.2 → (-2147483648) ≤ x3 ∧ x3 ≤ 2147483647 → 0 ≤ x4 ∧ x4 ≤ 16 → (16 - x4).toNat < M17 → X17 x3 x4 s') (hM17 : (16 - x4).toNat ≤ M17) (hI : iv_A s.1 s.2.2) (bx1 : 0 ≤ x1 ∧ x1 ≤ 3) (bx2 : (-1) ≤ x2 ∧ x2 ≤ (-1)) (bx4 : 0 ≤ x4 ∧ x4 ≤ 15) (by0 : (-2147483648) ≤ y0 ∧ y0 ≤ 2147483647) : fm_297_p54 X17 Q x1 x2 x4 y0 s := by
  unfold fm_297_p54
  exact sm_297_p55 hQ hX17 (show (16 - x4).toNat ≤ M17 from by omega) hI (show (0 : Int) ≤ x1 ∧ x1 ≤ (3 : Int) from by omega) (show (-1 : Int) ≤ x2 ∧ x2 ≤ (-1 : Int) from by omega) (show (0 : Int) ≤ x4 ∧ x4 ≤ (15 : Int) from by omega) (show (-2147483648 : Int) ≤ y0 ∧ y0 ≤ (2147483647 : Int) from by omega) (show (0 : Int) ≤ 0 ∧ 0 ≤ (32768 : Int) from by omega)
theorem sm_297_p17 {X17 : Int → Int → lf_Z → Prop} {Q : Int → lf_Z → Prop} {x1 : Int} {x2 : Int} {x3 : Int} {x4 : Int} {s : lf_Z} (hQ : ∀ (r : Int) (s' : lf_Z), iv_A s'.1 s'.2.2 → lf_fq [95, 104, 107, 111, 112] 1000000 true s.1 s.2.2 s'.1 s'.2.2 → ((-1) ≤ r ∧ r ≤ 65535) → Q r s') {M17 : Nat} (hX17 : ∀ (x3 : Int) (x4 : Int) (s' : lf_Z), iv_A s'.1 s'.2.2 → lf_fq [95, 104, 107, 111, 112] 1000000 true s.1 s.2.2 s'.1 s'.2.2 → (-2147483648) ≤ x3 ∧ x3 ≤ 2147483647 → 0 ≤ x4 ∧ x4 ≤ 16 → (16 - x4).toNat < M17 → X17 x3 x4 s') (hM17 : (16 - x4).toNat ≤ M17) (hI : iv_A s.1 s.2.2) (bx1 : 0 ≤ x1 ∧ x1 ≤ 3) (bx2 : (-1) ≤ x2 ∧ x2 ≤ (-1)) (bx3 : (-2147483648) ≤ x3 ∧ x3 ≤ 2147483647) (bx4 : 0 ≤ x4 ∧ x4 ≤ 16) : fm_297_p17 Q x1 x2 X17 x3 x4 s := by
  unfold fm_297_p17
  have b3 : 0 ≤ s.1 96 1 ∧ s.1 96 1 ≤ 16 := iv_rd96 hI (iv_fd6ad3e54 (by omega))
  have b4 : s.1 96 1 ≤ 0 ∨ 0 < s.1 96 0 := (show s.1 96 1 ≤ 0 ∨ 0 < s.1 96 0 from iv_l96_1 hI)
  refine ⟨(show lf_R x4 from lf_Rof (by omega)), ?_⟩
  refine ⟨(show lf_R (s.1 96 1) from lf_Rof (by omega)), ?_⟩
  refine ⟨fun c5 => ?_, fun c5 => ?_⟩
  · skip
    replace c5 : s.1 96 1 ≤ x4 := c5
    exact sm_297_p66L hQ hI (show (0 : Int) ≤ x1 ∧ x1 ≤ (3 : Int) from by omega) (show (-1 : Int) ≤ x2 ∧ x2 ≤ (65535 : Int) from by omega) (show (-2147483648 : Int) ≤ x3 ∧ x3 ≤ (2147483647 : Int) from by omega) (show (0 : Int) ≤ 0 ∧ 0 ≤ (4 : Int) from by omega)
  · skip
    replace c5 : ¬ (s.1 96 1 ≤ x4) := c5
    refine sm_245 hI (show (0 : Int) ≤ x4 ∧ x4 ≤ (15 : Int) from by omega) (fun z45 => ?_)
    refine ⟨fun c34 => ?_, fun c34 => ?_⟩
    · skip
      exact sm_297_p54 hQ hX17 (show (16 - x4).toNat ≤ M17 from by omega) hI (show (0 : Int) ≤ x1 ∧ x1 ≤ (3 : Int) from by omega) (show (-1 : Int) ≤ x2 ∧ x2 ≤ (-1 : Int) from by omega) (show (0 : Int) ≤ x4 ∧ x4 ≤ (15 : Int) from by omega) (show (-2147483648 : Int) ≤ x3 ∧ x3 ≤ (2147483647 : Int) from by omega)
    · skip
      refine sm_252 hI (show (0 : Int) ≤ x4 ∧ x4 ≤ (15 : Int) from by omega) (fun z47 => ?_)
      refine ⟨fun c37 => ?_, fun c37 => ?_⟩
      · skip
        exact sm_297_p54 hQ hX17 (show (16 - x4).toNat ≤ M17 from by omega) hI (show (0 : Int) ≤ x1 ∧ x1 ≤ (3 : Int) from by omega) (show (-1 : Int) ≤ x2 ∧ x2 ≤ (-1 : Int) from by omega) (show (0 : Int) ≤ x4 ∧ x4 ≤ (15 : Int) from by omega) (show (-2147483648 : Int) ≤ x3 ∧ x3 ≤ (2147483647 : Int) from by omega)
      · skip
        have b38 : 1 ≤ lf_shl 1 x4 ∧ lf_shl 1 x4 ≤ 32768 := lf_shl1 (m := 15) (by omega) (by omega) (by decide)
        exact sm_297_p55 hQ hX17 (show (16 - x4).toNat ≤ M17 from by omega) hI (show (0 : Int) ≤ x1 ∧ x1 ≤ (3 : Int) from by omega) (show (-1 : Int) ≤ x2 ∧ x2 ≤ (-1 : Int) from by omega) (show (0 : Int) ≤ x4 ∧ x4 ≤ (15 : Int) from by omega) (show (-2147483648 : Int) ≤ x3 ∧ x3 ≤ (2147483647 : Int) from by omega) (show (0 : Int) ≤ lf_shl 1 x4 ∧ lf_shl 1 x4 ≤ (32768 : Int) from by omega)
theorem sm_297_p17L {Q : Int → lf_Z → Prop} {x1 : Int} {x2 : Int} {x3 : Int} {x4 : Int} {s : lf_Z} (hQ : ∀ (r : Int) (s' : lf_Z), iv_A s'.1 s'.2.2 → lf_fq [95, 104, 107, 111, 112] 1000000 true s.1 s.2.2 s'.1 s'.2.2 → ((-1) ≤ r ∧ r ≤ 65535) → Q r s') (hI : iv_A s.1 s.2.2) (bx1 : 0 ≤ x1 ∧ x1 ≤ 3) (bx2 : (-1) ≤ x2 ∧ x2 ≤ (-1)) (bx3 : (-2147483648) ≤ x3 ∧ x3 ≤ 2147483647) (bx4 : 0 ≤ x4 ∧ x4 ≤ 16) : fm_297_p17L Q x1 x2 x3 x4 s := by
  intro X17 hX
  have key : ∀ (m9 : Nat) (x3 : Int) (x4 : Int) (s' : lf_Z), iv_A s'.1 s'.2.2 → lf_fq [95, 104, 107, 111, 112] 1000000 true s.1 s.2.2 s'.1 s'.2.2 → (-2147483648) ≤ x3 ∧ x3 ≤ 2147483647 → 0 ≤ x4 ∧ x4 ≤ 16 → (16 - x4).toNat < m9 → X17 x3 x4 s' := by
    intro m9
    induction m9 with
    | zero => intro x3 x4 s' _ _ bx3 bx4 h9; exact absurd h9 (Nat.not_lt_zero _)
    | succ m9 ih => intro x3 x4 s' i7 f7 bx3 bx4 h9; exact hX _ _ _ (sm_297_p17 (fun r9 t9 i9 f9 => hQ r9 t9 i9 (lf_fq_tr f7 f9))   (fun x3' x4' t8 i8 f8 bx3' bx4' h8 => ih x3' x4' t8 i8 (lf_fq_tr f7 f8) bx3' bx4' (by omega)) (Nat.le_refl _)  i7  bx1 bx2 bx3 bx4  )
  exact key _ _ _ s hI lf_fq_rf bx3 bx4 (Nat.lt_succ_self _)
theorem sm_297 {a1 : Int} {Q : Int → lf_Z → Prop} {s : lf_Z} (hI : iv_A s.1 s.2.2) (ba1 : (-2147483648) ≤ a1 ∧ a1 ≤ 2147483647) (hQ : ∀ (r : Int) (s' : lf_Z), iv_A s'.1 s'.2.2 → lf_fq [95, 104, 107, 111, 112] 1000000 true s.1 s.2.2 s'.1 s'.2.2 → ((-1) ≤ r ∧ r ≤ 65535) → Q r s') : fm_297 a1 Q s := by
  unfold fm_297
  refine sm_254 hI (show (-2147483648 : Int) ≤ a1 ∧ a1 ≤ (2147483647 : Int) from by omega) (fun z22 q1 => ?_)
  refine ⟨fun c2 => ?_, fun c2 => ?_⟩
  · skip
    have dc2 := q1.1 c2
    exact sm_297_p17L hQ hI (show (0 : Int) ≤ a1 ∧ a1 ≤ (3 : Int) from by omega) (show (-1 : Int) ≤ (-1) ∧ (-1) ≤ (-1 : Int) from by omega) (show (-2147483648 : Int) ≤ 0 ∧ 0 ≤ (2147483647 : Int) from by omega) (show (0 : Int) ≤ 0 ∧ 0 ≤ (16 : Int) from by omega)
  · skip
    have dc2 := q1.2 c2
    exact hQ (-1) s hI (lf_fq_rf) (show (-1 : Int) ≤ (-1) ∧ (-1) ≤ (65535 : Int) from by omega)
-- fm_146 Notes.addSight 25 i i
theorem sm_146 {a1 : Int} {a2 : Int} {Q : Int → lf_Z → Prop} {s : lf_Z} (hI : iv_A s.1 s.2.2) (ba1 : 0 ≤ a1 ∧ a1 ≤ 11) (ba2 : 0 ≤ a2 ∧ a2 ≤ 60) (hQ : ∀ (r : Int) (s' : lf_Z), iv_A s'.1 s'.2.2 → lf_fq [25, 26, 27] 1000000 true s.1 s.2.2 s'.1 s'.2.2 → ((-2) ≤ r ∧ r ≤ 6) → Q r s') : fm_146 a1 a2 Q s := by
  unfold fm_146
  have b1 : 0 ≤ s.1 25 2 ∧ s.1 25 2 ≤ 6 := iv_r25_2 hI
  refine ⟨(show lf_R (s.1 25 2) from lf_Rof (by omega)), ?_⟩
  refine ⟨fun c2 => ?_, fun c2 => ?_⟩
  · skip
    replace c2 : s.1 25 2 < 6 := c2
    refine ⟨(show (0 : Int) ≤ s.1 25 2 ∧ s.1 25 2 < (6 : Int) from by omega), ?_⟩
    have hI3 : iv_A (lf_up s.1 26 (s.1 25 2) a1) s.2.2 := iv_w26 hI (by omega)
    have fr4 : lf_fq [25, 26, 27] 1000000 true s.1 s.2.2 (lf_up s.1 26 (s.1 25 2) a1) s.2.2 := lf_fq_up (lf_fq_rf) rfl (fun h => absurd h (by decide))
    have hI5 : iv_A (lf_up (lf_up s.1 26 (s.1 25 2) a1) 27 (s.1 25 2) a2) s.2.2 := iv_w27 hI3 (by omega)
    have fr6 : lf_fq [25, 26, 27] 1000000 true s.1 s.2.2 (lf_up (lf_up s.1 26 (s.1 25 2) a1) 27 (s.1 25 2) a2) s.2.2 := lf_fq_up fr4 rfl (fun h => absurd h (by decide))
    have hI7 : iv_A (lf_up (lf_up (lf_up s.1 26 (s.1 25 2) a1) 27 (s.1 25 2) a2) 25 2 ((s.1 25 2) + 1)) s.2.2 := iv_w25_2 hI5 (by omega)
    have fr8 : lf_fq [25, 26, 27] 1000000 true s.1 s.2.2 (lf_up (lf_up (lf_up s.1 26 (s.1 25 2) a1) 27 (s.1 25 2) a2) 25 2 ((s.1 25 2) + 1)) s.2.2 := lf_fq_up fr6 rfl (fun h => absurd h (by decide))
    exact hQ ((s.1 25 2) + 1) (lf_up (lf_up (lf_up s.1 26 (s.1 25 2) a1) 27 (s.1 25 2) a2) 25 2 ((s.1 25 2) + 1), s.2.1, s.2.2) hI7 fr8 (show (-2 : Int) ≤ (s.1 25 2) + 1 ∧ (s.1 25 2) + 1 ≤ (6 : Int) from by omega)
  · skip
    replace c2 : ¬ (s.1 25 2 < 6) := c2
    exact hQ (-2) s hI (lf_fq_rf) (show (-2 : Int) ≤ (-2) ∧ (-2) ≤ (6 : Int) from by omega)
