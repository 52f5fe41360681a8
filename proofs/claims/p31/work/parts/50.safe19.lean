-- fm_142 ElevenBullocks.home 0 i
theorem sm_142 {a1 : Int} {Q : Int → lf_Z → Prop} {s : lf_Z} (hI : iv_A s.1 s.2.2) (ba1 : (-2147483648) ≤ a1 ∧ a1 ≤ 2147483647) (hQ : ∀ (r : Int) (s' : lf_Z), iv_A s'.1 s'.2.2 → lf_fq [63, 64, 65, 66, 68, 69, 70, 71] 1000000 true s.1 s.2.2 s'.1 s'.2.2 → ((-2147483648) ≤ r ∧ r ≤ 65535) → Q r s') : fm_142 a1 Q s := by
  unfold fm_142
  refine sm_80 hI (show (-2147483648 : Int) ≤ a1 ∧ a1 ≤ (2147483647 : Int) from by omega) (fun z22 q1 => ?_)
  have b2 : (-2147483648) ≤ s.1 16 a1 ∧ s.1 16 a1 ≤ 2147483647 := iv_full hI
  refine ⟨fun c3 => ?_, fun c3 => ?_⟩
  · skip
    have dc3 := q1.2 c3
    exact hQ (-1) s hI (lf_fq_rf) (show (-2147483648 : Int) ≤ (-1) ∧ (-1) ≤ (65535 : Int) from by omega)
  · skip
    have dc3 := q1.1 c3
    refine sm_143 hI (show (0 : Int) ≤ a1 ∧ a1 ≤ (3 : Int) from by omega) (show 0 < (s.1 16 a1) from by omega) (fun r24 s23 hI5 fr4 q6 => ?_)
    have fr7 : lf_fq [63, 64, 65, 66, 68, 69, 70, 71] 1000000 true s.1 s.2.2 s23.1 s23.2.2 := lf_fq_tr (lf_fq_rf) (lf_fq_wk fr4 rfl (by decide) (by decide))
    exact hQ r24 s23 hI5 fr7 (show (-2147483648 : Int) ≤ r24 ∧ r24 ≤ (65535 : Int) from by omega)
-- fm_297 Model.home 95 i
theorem sm_297_p176 {Q : Int → lf_Z → Prop} {x2 : Int} {s : lf_Z} (hQ : ∀ (r : Int) (s' : lf_Z), iv_A s'.1 s'.2.2 → lf_fq [95, 104, 107, 111, 112] 1000000 true s.1 s.2.2 s'.1 s'.2.2 → ((-1) ≤ r ∧ r ≤ 65535) → Q r s') (hI : iv_A s.1 s.2.2) (bx2 : (-1) ≤ x2 ∧ x2 ≤ 65535) : fm_297_p176 Q x2 s := by
  unfold fm_297_p176
  have hI7 : iv_A (lf_up s.1 95 31 0) s.2.2 := iv_w95_31 hI (by omega)
  have fr8 : lf_fq [95, 104, 107, 111, 112] 1000000 true s.1 s.2.2 (lf_up s.1 95 31 0) s.2.2 := lf_fq_up (lf_fq_rf) rfl (fun h => absurd h (by decide))
  exact hQ x2 (lf_up s.1 95 31 0, s.2.1, s.2.2) hI7 fr8 (show (-1 : Int) ≤ x2 ∧ x2 ≤ (65535 : Int) from by omega)
theorem sm_297_p170 {X66 : Int → Int → lf_Z → Prop} {Q : Int → lf_Z → Prop} {x1 : Int} {x2 : Int} {x3 : Int} {x4 : Int} {s : lf_Z} (hQ : ∀ (r : Int) (s' : lf_Z), iv_A s'.1 s'.2.2 → lf_fq [95, 104, 107, 111, 112] 1000000 true s.1 s.2.2 s'.1 s'.2.2 → ((-1) ≤ r ∧ r ≤ 65535) → Q r s') {M66 : Nat} (hX66 : ∀ (x2 : Int) (x4 : Int) (s' : lf_Z), iv_A s'.1 s'.2.2 → lf_fq [95, 104, 107, 111, 112] 1000000 true s.1 s.2.2 s'.1 s'.2.2 → (-1) ≤ x2 ∧ x2 ≤ 65535 → 0 ≤ x4 ∧ x4 ≤ 4 → (4 - x4).toNat < M66 → X66 x2 x4 s') (hM66 : (4 - x4).toNat ≤ M66) (hI : iv_A s.1 s.2.2) (bx1 : 0 ≤ x1 ∧ x1 ≤ 3) (bx2 : (-1) ≤ x2 ∧ x2 ≤ 65535) (bx3 : (-2147483648) ≤ x3 ∧ x3 ≤ 2147483647) (bx4 : 0 ≤ x4 ∧ x4 ≤ 3) : fm_297_p170 X66 Q x1 x2 x3 x4 s := by
  unfold fm_297_p170
  exact hX66 (x2) (x4 + 1) s hI (lf_fq_rf) (show (-1 : Int) ≤ x2 ∧ x2 ≤ (65535 : Int) from by omega) (show (0 : Int) ≤ x4 + 1 ∧ x4 + 1 ≤ (4 : Int) from by omega) (show (4 - (x4 + 1)).toNat < M66 from by omega)
theorem sm_297_p164 {X66 : Int → Int → lf_Z → Prop} {X79 : Int → Int → lf_Z → Prop} {Q : Int → lf_Z → Prop} {x1 : Int} {x2 : Int} {x3 : Int} {x4 : Int} {x5 : Int} {s : lf_Z} (hQ : ∀ (r : Int) (s' : lf_Z), iv_A s'.1 s'.2.2 → lf_fq [95, 104, 107, 111, 112] 1000000 true s.1 s.2.2 s'.1 s'.2.2 → ((-1) ≤ r ∧ r ≤ 65535) → Q r s') {M66 : Nat} (hX66 : ∀ (x2 : Int) (x4 : Int) (s' : lf_Z), iv_A s'.1 s'.2.2 → lf_fq [95, 104, 107, 111, 112] 1000000 true s.1 s.2.2 s'.1 s'.2.2 → (-1) ≤ x2 ∧ x2 ≤ 65535 → 0 ≤ x4 ∧ x4 ≤ 4 → (4 - x4).toNat < M66 → X66 x2 x4 s') (hM66 : (4 - x4).toNat ≤ M66) {M79 : Nat} (hX79 : ∀ (x2 : Int) (x5 : Int) (s' : lf_Z), iv_A s'.1 s'.2.2 → lf_fq [95, 104, 107, 111, 112] 1000000 true s.1 s.2.2 s'.1 s'.2.2 → (-1) ≤ x2 ∧ x2 ≤ 65535 → 0 ≤ x5 ∧ x5 ≤ 2147483647 → (2147483647 - x5).toNat < M79 → X79 x2 x5 s') (hM79 : (2147483647 - x5).toNat ≤ M79) (hI : iv_A s.1 s.2.2) (bx1 : 0 ≤ x1 ∧ x1 ≤ 3) (bx2 : (-1) ≤ x2 ∧ x2 ≤ 65535) (bx3 : (-2147483648) ≤ x3 ∧ x3 ≤ 2147483647) (bx4 : 0 ≤ x4 ∧ x4 ≤ 3) (bx5 : 0 ≤ x5 ∧ x5 ≤ 2147483646) : fm_297_p164 X66 X79 Q x1 x2 x3 x4 x5 s := by
  unfold fm_297_p164
  exact hX79 (x2) (x5 + 1) s hI (lf_fq_rf) (show (-1 : Int) ≤ x2 ∧ x2 ≤ (65535 : Int) from by omega) (show (0 : Int) ≤ x5 + 1 ∧ x5 + 1 ≤ (2147483647 : Int) from by omega) (show (2147483647 - (x5 + 1)).toNat < M79 from by omega)
theorem sm_297_p79 {X66 : Int → Int → lf_Z → Prop} {X79 : Int → Int → lf_Z → Prop} {Q : Int → lf_Z → Prop} {x1 : Int} {x2 : Int} {x3 : Int} {x4 : Int} {x5 : Int} {s : lf_Z} (hQ : ∀ (r : Int) (s' : lf_Z), iv_A s'.1 s'.2.2 → lf_fq [95, 104, 107, 111, 112] 1000000 true s.1 s.2.2 s'.1 s'.2.2 → ((-1) ≤ r ∧ r ≤ 65535) → Q r s') {M66 : Nat} (hX66 : ∀ (x2 : Int) (x4 : Int) (s' : lf_Z), iv_A s'.1 s'.2.2 → lf_fq [95, 104, 107, 111, 112] 1000000 true s.1 s.2.2 s'.1 s'.2.2 → (-1) ≤ x2 ∧ x2 ≤ 65535 → 0 ≤ x4 ∧ x4 ≤ 4 → (4 - x4).toNat < M66 → X66 x2 x4 s') (hM66 : (4 - x4).toNat ≤ M66) {M79 : Nat} (hX79 : ∀ (x2 : Int) (x5 : Int) (s' : lf_Z), iv_A s'.1 s'.2.2 → lf_fq [95, 104, 107, 111, 112] 1000000 true s.1 s.2.2 s'.1 s'.2.2 → (-1) ≤ x2 ∧ x2 ≤ 65535 → 0 ≤ x5 ∧ x5 ≤ 2147483647 → (2147483647 - x5).toNat < M79 → X79 x2 x5 s') (hM79 : (2147483647 - x5).toNat ≤ M79) (hI : iv_A s.1 s.2.2) (bx1 : 0 ≤ x1 ∧ x1 ≤ 3) (bx2 : (-1) ≤ x2 ∧ x2 ≤ 65535) (bx3 : (-2147483648) ≤ x3 ∧ x3 ≤ 2147483647) (bx4 : 0 ≤ x4 ∧ x4 ≤ 3) (bx5 : 0 ≤ x5 ∧ x5 ≤ 2147483647) : fm_297_p79 X66 Q x1 x3 x4 X79 x2 x5 s := by
  unfold fm_297_p79
  have b10 : 0 ≤ s.1 96 1 ∧ s.1 96 1 ≤ 16 := iv_rd96 hI (iv_fd6ad3e54 (by omega))
  have b11 : s.1 96 1 ≤ 0 ∨ 0 < s.1 96 0 := (show s.1 96 1 ≤ 0 ∨ 0 < s.1 96 0 from iv_l96_1 hI)
  have b12 : 1 ≤ lf_shl 1 (s.1 96 1) ∧ lf_shl 1 (s.1 96 1) ≤ 65536 := lf_shl1 (m := 16) (by omega) (by omega) (by decide)
  refine ⟨(show lf_R x5 from lf_Rof (by omega)), ?_⟩
  refine ⟨fun c13 => ?_, fun c13 => ?_⟩
  · skip
    replace c13 : lf_shl 1 (s.1 96 1) ≤ x5 := c13
    exact sm_297_p170 hQ hX66 (show (4 - x4).toNat ≤ M66 from by omega) hI (show (0 : Int) ≤ x1 ∧ x1 ≤ (3 : Int) from by omega) (show (-1 : Int) ≤ x2 ∧ x2 ≤ (65535 : Int) from by omega) (show (-2147483648 : Int) ≤ x3 ∧ x3 ≤ (2147483647 : Int) from by omega) (show (0 : Int) ≤ x4 ∧ x4 ≤ (3 : Int) from by omega)
  · skip
    replace c13 : ¬ (lf_shl 1 (s.1 96 1) ≤ x5) := c13
    refine ⟨(show lf_R x2 from lf_Rof (by omega)), ?_⟩
    refine ⟨fun c14 => ?_, fun c14 => ?_⟩
    · skip
      replace c14 : 0 ≤ x2 := c14
      exact sm_297_p170 hQ hX66 (show (4 - x4).toNat ≤ M66 from by omega) hI (show (0 : Int) ≤ x1 ∧ x1 ≤ (3 : Int) from by omega) (show (-1 : Int) ≤ x2 ∧ x2 ≤ (65535 : Int) from by omega) (show (-2147483648 : Int) ≤ x3 ∧ x3 ≤ (2147483647 : Int) from by omega) (show (0 : Int) ≤ x4 ∧ x4 ≤ (3 : Int) from by omega)
    · skip
      replace c14 : ¬ (0 ≤ x2) := c14
      refine sm_188 hI (show (-2147483648 : Int) ≤ x5 ∧ x5 ≤ (2147483647 : Int) from by omega) (fun r30 ps16 q15 => ?_)
      replace ps16 : r30 = lf_bt (x5) 16 := ps16
      refine ⟨(show lf_R r30 from lf_Rof (by omega)), ?_⟩
      refine ⟨(show lf_R x4 from lf_Rof (by omega)), ?_⟩
      refine ⟨fun c17 => ?_, fun c17 => ?_⟩
      · skip
        replace c17 : r30 ≠ x4 := c17
        exact sm_297_p164 hQ hX66 (show (4 - x4).toNat ≤ M66 from by omega) hX79 (show (2147483647 - x5).toNat ≤ M79 from by omega) hI (show (0 : Int) ≤ x1 ∧ x1 ≤ (3 : Int) from by omega) (show (-1 : Int) ≤ x2 ∧ x2 ≤ (65535 : Int) from by omega) (show (-2147483648 : Int) ≤ x3 ∧ x3 ≤ (2147483647 : Int) from by omega) (show (0 : Int) ≤ x4 ∧ x4 ≤ (3 : Int) from by omega) (show (0 : Int) ≤ x5 ∧ x5 ≤ (2147483646 : Int) from by omega)
      · skip
        replace c17 : ¬ (r30 ≠ x4) := c17
        have b18 : (-2147483648) ≤ lf_xor x3 (-1) ∧ lf_xor x3 (-1) ≤ 2147483647 := lf_xorB
        have b19 : 0 ≤ lf_and x5 (lf_xor x3 (-1)) ∧ lf_and x5 (lf_xor x3 (-1)) ≤ 65535 := lf_andBl (by omega) (by omega)
        refine ⟨fun c20 => ?_, fun c20 => ?_⟩
        · skip
          replace c20 : lf_and x5 (lf_xor x3 (-1)) = 0 := c20
          have hI21 : iv_A (lf_up s.1 95 31 x5) s.2.2 := iv_w95_31 hI (by omega)
          have fr22 : lf_fq [95, 104, 107, 111, 112] 1000000 true s.1 s.2.2 (lf_up s.1 95 31 x5) s.2.2 := lf_fq_up (lf_fq_rf) rfl (fun h => absurd h (by decide))
          refine sm_294 hI21 (show (0 : Int) ≤ x1 ∧ x1 ≤ (3 : Int) from by omega) (fun r34 s33 hI24 fr23 q25 => ?_)
          have fr26 : lf_fq [95, 104, 107, 111, 112] 1000000 true s.1 s.2.2 s33.1 s33.2.2 := lf_fq_tr fr22 (lf_fq_wk fr23 rfl (by decide) (by decide))
          refine sm_296 hI24 (show (-2147483648 : Int) ≤ r34 ∧ r34 ≤ (2147483647 : Int) from by omega) (show (0 : Int) ≤ 3 ∧ 3 ≤ (3 : Int) from by omega) (fun r36 q27 => ?_)
          refine ⟨(show lf_R r36 from lf_Rof (by omega)), ?_⟩
          refine ⟨fun c28 => ?_, fun c28 => ?_⟩
          · skip
            replace c28 : r36 = 0 := c28
            exact sm_297_p164 (fun r9 t9 i9 f9 => hQ r9 t9 i9 (lf_fq_tr fr26 f9)) (fun p0 p1 t9 i9 f9 => hX66 p0 p1 t9 i9 (lf_fq_tr fr26 f9)) (show (4 - x4).toNat ≤ M66 from by omega) (fun p0 p1 t9 i9 f9 => hX79 p0 p1 t9 i9 (lf_fq_tr fr26 f9)) (show (2147483647 - x5).toNat ≤ M79 from by omega) hI24 (show (0 : Int) ≤ x1 ∧ x1 ≤ (3 : Int) from by omega) (show (-1 : Int) ≤ x2 ∧ x2 ≤ (65535 : Int) from by omega) (show (-2147483648 : Int) ≤ x3 ∧ x3 ≤ (2147483647 : Int) from by omega) (show (0 : Int) ≤ x4 ∧ x4 ≤ (3 : Int) from by omega) (show (0 : Int) ≤ x5 ∧ x5 ≤ (2147483646 : Int) from by omega)
          · skip
            replace c28 : ¬ (r36 = 0) := c28
            refine sm_296 hI24 (show (-2147483648 : Int) ≤ r34 ∧ r34 ≤ (2147483647 : Int) from by omega) (show (0 : Int) ≤ 1 ∧ 1 ≤ (3 : Int) from by omega) (fun r39 q29 => ?_)
            refine ⟨(show lf_R r39 from lf_Rof (by omega)), ?_⟩
            refine ⟨fun c30 => ?_, fun c30 => ?_⟩
            · skip
              replace c30 : r39 ≠ 0 := c30
              exact sm_297_p164 (fun r9 t9 i9 f9 => hQ r9 t9 i9 (lf_fq_tr fr26 f9)) (fun p0 p1 t9 i9 f9 => hX66 p0 p1 t9 i9 (lf_fq_tr fr26 f9)) (show (4 - x4).toNat ≤ M66 from by omega) (fun p0 p1 t9 i9 f9 => hX79 p0 p1 t9 i9 (lf_fq_tr fr26 f9)) (show (2147483647 - x5).toNat ≤ M79 from by omega) hI24 (show (0 : Int) ≤ x1 ∧ x1 ≤ (3 : Int) from by omega) (show (-1 : Int) ≤ x2 ∧ x2 ≤ (65535 : Int) from by omega) (show (-2147483648 : Int) ≤ x3 ∧ x3 ≤ (2147483647 : Int) from by omega) (show (0 : Int) ≤ x4 ∧ x4 ≤ (3 : Int) from by omega) (show (0 : Int) ≤ x5 ∧ x5 ≤ (2147483646 : Int) from by omega)
            · skip
              replace c30 : ¬ (r39 ≠ 0) := c30
              refine sm_296 hI24 (show (-2147483648 : Int) ≤ r34 ∧ r34 ≤ (2147483647 : Int) from by omega) (show (0 : Int) ≤ 2 ∧ 2 ≤ (3 : Int) from by omega) (fun r42 q31 => ?_)
              refine ⟨(show lf_R r42 from lf_Rof (by omega)), ?_⟩
              refine ⟨fun c32 => ?_, fun c32 => ?_⟩
              · skip
                replace c32 : r42 ≠ 0 := c32
                exact sm_297_p164 (fun r9 t9 i9 f9 => hQ r9 t9 i9 (lf_fq_tr fr26 f9)) (fun p0 p1 t9 i9 f9 => hX66 p0 p1 t9 i9 (lf_fq_tr fr26 f9)) (show (4 - x4).toNat ≤ M66 from by omega) (fun p0 p1 t9 i9 f9 => hX79 p0 p1 t9 i9 (lf_fq_tr fr26 f9)) (show (2147483647 - x5).toNat ≤ M79 from by omega) hI24 (show (0 : Int) ≤ x1 ∧ x1 ≤ (3 : Int) from by omega) (show (-1 : Int) ≤ x2 ∧ x2 ≤ (65535 : Int) from by omega) (show (-2147483648 : Int) ≤ x3 ∧ x3 ≤ (2147483647 : Int) from by omega) (show (0 : Int) ≤ x4 ∧ x4 ≤ (3 : Int) from by omega) (show (0 : Int) ≤ x5 ∧ x5 ≤ (2147483646 : Int) from by omega)
              · skip
                replace c32 : ¬ (r42 ≠ 0) := c32
                exact sm_297_p164 (fun r9 t9 i9 f9 => hQ r9 t9 i9 (lf_fq_tr fr26 f9)) (fun p0 p1 t9 i9 f9 => hX66 p0 p1 t9 i9 (lf_fq_tr fr26 f9)) (show (4 - x4).toNat ≤ M66 from by omega) (fun p0 p1 t9 i9 f9 => hX79 p0 p1 t9 i9 (lf_fq_tr fr26 f9)) (show (2147483647 - x5).toNat ≤ M79 from by omega) hI24 (show (0 : Int) ≤ x1 ∧ x1 ≤ (3 : Int) from by omega) (show (-1 : Int) ≤ x5 ∧ x5 ≤ (65535 : Int) from by omega) (show (-2147483648 : Int) ≤ x3 ∧ x3 ≤ (2147483647 : Int) from by omega) (show (0 : Int) ≤ x4 ∧ x4 ≤ (3 : Int) from by omega) (show (0 : Int) ≤ x5 ∧ x5 ≤ (2147483646 : Int) from by omega)
        · skip
          replace c20 : ¬ (lf_and x5 (lf_xor x3 (-1)) = 0) := c20
          exact sm_297_p164 hQ hX66 (show (4 - x4).toNat ≤ M66 from by omega) hX79 (show (2147483647 - x5).toNat ≤ M79 from by omega) hI (show (0 : Int) ≤ x1 ∧ x1 ≤ (3 : Int) from by omega) (show (-1 : Int) ≤ x2 ∧ x2 ≤ (65535 : Int) from by omega) (show (-2147483648 : Int) ≤ x3 ∧ x3 ≤ (2147483647 : Int) from by omega) (show (0 : Int) ≤ x4 ∧ x4 ≤ (3 : Int) from by omega) (show (0 : Int) ≤ x5 ∧ x5 ≤ (2147483646 : Int) from by omega)
theorem sm_297_p79L {X66 : Int → Int → lf_Z → Prop} {Q : Int → lf_Z → Prop} {x1 : Int} {x2 : Int} {x3 : Int} {x4 : Int} {x5 : Int} {s : lf_Z} (hQ : ∀ (r : Int) (s' : lf_Z), iv_A s'.1 s'.2.2 → lf_fq [95, 104, 107, 111, 112] 1000000 true s.1 s.2.2 s'.1 s'.2.2 → ((-1) ≤ r ∧ r ≤ 65535) → Q r s') {M66 : Nat} (hX66 : ∀ (x2 : Int) (x4 : Int) (s' : lf_Z), iv_A s'.1 s'.2.2 → lf_fq [95, 104, 107, 111, 112] 1000000 true s.1 s.2.2 s'.1 s'.2.2 → (-1) ≤ x2 ∧ x2 ≤ 65535 → 0 ≤ x4 ∧ x4 ≤ 4 → (4 - x4).toNat < M66 → X66 x2 x4 s') (hM66 : (4 - x4).toNat ≤ M66) (hI : iv_A s.1 s.2.2) (bx1 : 0 ≤ x1 ∧ x1 ≤ 3) (bx2 : (-1) ≤ x2 ∧ x2 ≤ 65535) (bx3 : (-2147483648) ≤ x3 ∧ x3 ≤ 2147483647) (bx4 : 0 ≤ x4 ∧ x4 ≤ 3) (bx5 : 0 ≤ x5 ∧ x5 ≤ 2147483647) : fm_297_p79L X66 Q x1 x2 x3 x4 x5 s := by
  intro X79 hX
  have key : ∀ (m9 : Nat) (x2 : Int) (x5 : Int) (s' : lf_Z), iv_A s'.1 s'.2.2 → lf_fq [95, 104, 107, 111, 112] 1000000 true s.1 s.2.2 s'.1 s'.2.2 → (-1) ≤ x2 ∧ x2 ≤ 65535 → 0 ≤ x5 ∧ x5 ≤ 2147483647 → (2147483647 - x5).toNat < m9 → X79 x2 x5 s' := by
    intro m9
    induction m9 with
    | zero => intro x2 x5 s' _ _ bx2 bx5 h9; exact absurd h9 (Nat.not_lt_zero _)
    | succ m9 ih => intro x2 x5 s' i7 f7 bx2 bx5 h9; exact hX _ _ _ (sm_297_p79 (fun r9 t9 i9 f9 => hQ r9 t9 i9 (lf_fq_tr f7 f9))  (fun p0 p1 t9 i9 f9 => hX66 p0 p1 t9 i9 (lf_fq_tr f7 f9)) hM66 (fun x2' x5' t8 i8 f8 bx2' bx5' h8 => ih x2' x5' t8 i8 (lf_fq_tr f7 f8) bx2' bx5' (by omega)) (Nat.le_refl _)  i7  bx1 bx2 bx3 bx4 bx5  )
  exact key _ _ _ s hI lf_fq_rf bx2 bx5 (Nat.lt_succ_self _)
theorem sm_297_p66 {X66 : Int → Int → lf_Z → Prop} {Q : Int → lf_Z → Prop} {x1 : Int} {x2 : Int} {x3 : Int} {x4 : Int} {s : lf_Z} (hQ : ∀ (r : Int) (s' : lf_Z), iv_A s'.1 s'.2.2 → lf_fq [95, 104, 107, 111, 112] 1000000 true s.1 s.2.2 s'.1 s'.2.2 → ((-1) ≤ r ∧ r ≤ 65535) → Q r s') {M66 : Nat} (hX66 : ∀ (x2 : Int) (x4 : Int) (s' : lf_Z), iv_A s'.1 s'.2.2 → lf_fq [95, 104, 107, 111, 112] 1000000 true s.1 s.2.2 s'.1 s'.2.2 → (-1) ≤ x2 ∧ x2 ≤ 65535 → 0 ≤ x4 ∧ x4 ≤ 4 → (4 - x4).toNat < M66 → X66 x2 x4 s') (hM66 : (4 - x4).toNat ≤ M66) (hI : iv_A s.1 s.2.2) (bx1 : 0 ≤ x1 ∧ x1 ≤ 3) (bx2 : (-1) ≤ x2 ∧ x2 ≤ 65535) (bx3 : (-2147483648) ≤ x3 ∧ x3 ≤ 2147483647) (bx4 : 0 ≤ x4 ∧ x4 ≤ 4) : fm_297_p66 Q x1 x3 X66 x2 x4 s := by
  unfold fm_297_p66
  refine ⟨(show lf_R x4 from lf_Rof (by omega)), ?_⟩
  refine ⟨fun c6 => ?_, fun c6 => ?_⟩
  · skip
    replace c6 : 3 < x4 := c6
    exact sm_297_p176 hQ hI (show (-1 : Int) ≤ x2 ∧ x2 ≤ (65535 : Int) from by omega)
  · skip
    replace c6 : ¬ (3 < x4) := c6
    refine ⟨(show lf_R x2 from lf_Rof (by omega)), ?_⟩
    refine ⟨fun c9 => ?_, fun c9 => ?_⟩
    · skip
      replace c9 : 0 ≤ x2 := c9
      exact sm_297_p176 hQ hI (show (-1 : Int) ≤ x2 ∧ x2 ≤ (65535 : Int) from by omega)
    · skip
      replace c9 : ¬ (0 ≤ x2) := c9
      exact sm_297_p79L hQ hX66 (show (4 - x4).toNat ≤ M66 from by omega) hI (show (0 : Int) ≤ x1 ∧ x1 ≤ (3 : Int) from by omega) (show (-1 : Int) ≤ x2 ∧ x2 ≤ (65535 : Int) from by omega) (show (-2147483648 : Int) ≤ x3 ∧ x3 ≤ (2147483647 : Int) from by omega) (show (0 : Int) ≤ x4 ∧ x4 ≤ (3 : Int) from by omega) (show (0 : Int) ≤ 0 ∧ 0 ≤ (2147483647 : Int) from by omega)
theorem sm_297_p66L {Q : Int → lf_Z → Prop} {x1 : Int} {x2 : Int} {x3 : Int} {x4 : Int} {s : lf_Z} (hQ : ∀ (r : Int) (s' : lf_Z), iv_A s'.1 s'.2.2 → lf_fq [95, 104, 107, 111, 112] 1000000 true s.1 s.2.2 s'.1 s'.2.2 → ((-1) ≤ r ∧ r ≤ 65535) → Q r s') (hI : iv_A s.1 s.2.2) (bx1 : 0 ≤ x1 ∧ x1 ≤ 3) (bx2 : (-1) ≤ x2 ∧ x2 ≤ 65535) (bx3 : (-2147483648) ≤ x3 ∧ x3 ≤ 2147483647) (bx4 : 0 ≤ x4 ∧ x4 ≤ 4) : fm_297_p66L Q x1 x2 x3 x4 s := by
  intro X66 hX
  have key : ∀ (m9 : Nat) (x2 : Int) (x4 : Int) (s' : lf_Z), iv_A s'.1 s'.2.2 → lf_fq [95, 104, 107, 111, 112] 1000000 true s.1 s.2.2 s'.1 s'.2.2 → (-1) ≤ x2 ∧ x2 ≤ 65535 → 0 ≤ x4 ∧ x4 ≤ 4 → (4 - x4).toNat < m9 → X66 x2 x4 s' := by
    intro m9
    induction m9 with
    | zero => intro x2 x4 s' _ _ bx2 bx4 h9; exact absurd h9 (Nat.not_lt_zero _)
    | succ m9 ih => intro x2 x4 s' i7 f7 bx2 bx4 h9; exact hX _ _ _ (sm_297_p66 (fun r9 t9 i9 f9 => hQ r9 t9 i9 (lf_fq_tr f7 f9))   (fun x2' x4' t8 i8 f8 bx2' bx4' h8 => ih x2' x4' t8 i8 (lf_fq_tr f7 f8) bx2' bx4' (by omega)) (Nat.le_refl _)  i7  bx1 bx2 bx3 bx4  )
  exact key _ _ _ s hI lf_fq_rf bx2 bx4 (Nat.lt_succ_self _)
theorem sm_297_p55 {X17 : Int → Int → lf_Z → Prop} {Q : Int → lf_Z → Prop} {x1 : Int} {x2 : Int} {x4 : Int} {y0 : Int} {y1 : Int} {s : lf_Z} (hQ : ∀ (r : Int) (s' : lf_Z), iv_A s'.1 s'.2.2 → lf_fq [95, 104, 107, 111, 112] 1000000 true s.1 s.2.2 s'.1 s'.2.2 → ((-1) ≤ r ∧ r ≤ 65535) → Q r s') {M17 : Nat} (hX17 : ∀ (x3 : Int) (x4 : Int) (s' : lf_Z), iv_A s'.1 s'.2.2 → lf_fq [95, 104, 107, 111, 112] 1000000 true s.1 s.2.2 s'.1 s'.2.2 → (-2147483648) ≤ x3 ∧ x3 ≤ 2147483647 → 0 ≤ x4 ∧ x4 ≤ 16 → (16 - x4).toNat < M17 → X17 x3 x4 s') (hM17 : (16 - x4).toNat ≤ M17) (hI : iv_A s.1 s.2.2) (bx1 : 0 ≤ x1 ∧ x1 ≤ 3) (bx2 : (-1) ≤ x2 ∧ x2 ≤ (-1)) (bx4 : 0 ≤ x4 ∧ x4 ≤ 15) (by0 : (-2147483648) ≤ y0 ∧ y0 ≤ 2147483647) (by1 : 0 ≤ y1 ∧ y1 ≤ 32768) : fm_297_p55 X17 Q x1 x2 x4 y0 y1 s := by
  unfold fm_297_p55
  have b35 : (-2147483648) ≤ lf_or y0 y1 ∧ lf_or y0 y1 ≤ 2147483647 := lf_orB
  exact hX17 (lf_or y0 y1) (x4 + 1) s hI (lf_fq_rf) (show (-2147483648 : Int) ≤ lf_or y0 y1 ∧ lf_or y0 y1 ≤ (2147483647 : Int) from by omega) (show (0 : Int) ≤ x4 + 1 ∧ x4 + 1 ≤ (16 : Int) from by omega) (show (16 - (x4 + 1)).toNat < M17 from by omega)
theorem sm_297_p54 {X17 : Int → Int → lf_Z → Prop} {Q : Int → lf_Z → Prop} {x1 : Int} {x2 : Int} {x4 : Int} {y0 : Int} {s : lf_Z} (hQ : ∀ (r : Int) (s' : lf_Z), iv_A s'.1 s'.2.2 → lf_fq [95, 104, 107, 111, 112] 1000000 true s.1 s.2.2 s'.1 s'.2.2 → ((-1) ≤ r ∧ r ≤ 65535) → Q r s') {M17 : Nat} (hX17 : ∀ (x3 : Int) (x4 : Int) (s' : lf_Z), iv_A s'.1 s'.2.2 → lf_fq [95, 104, 107, 111, 112] 1000000 true s.1 s.2.2 s'.1 s'.2.2 → (-2147483648) ≤ x3 ∧ x3 ≤ 2147483647 → 0 ≤ x4 ∧ x4 ≤ 16 → (16 - x4).toNat < M17 → X17 x3 x4 s') (hM17 : (16 - x4).toNat ≤ M17) (hI : iv_A s.1 s.2.2) (bx1 : 0 ≤ x1 ∧ x1 ≤ 3) (bx2 : (-1) ≤ x2 ∧ x2 ≤ (-1)) (bx4 : 0 ≤ x4 ∧ x4 ≤ 15) (by0 : (-2147483648) ≤ y0 ∧ y0 ≤ 2147483647) : fm_297_p54 X17 Q x1 x2 x4 y0 s := by
  unfold fm_297_p54
  exact sm_297_p55 hQ hX17 (show (16 - x4).toNat ≤ M17 from by omega) hI (show (0 : Int) ≤ x1 ∧ x1 ≤ (3 : Int) from by omega) (show (-1 : Int) ≤ x2 ∧ x2 ≤ (-1 : Int) from by omega) (show (0 : Int) ≤ x4 ∧ x4 ≤ (15 : Int) from by omega) (show (-2147483648 : Int) ≤ y0 ∧ y0 ≤ (2147483647 : Int) from by omega) (show (0 : Int) ≤ 0 ∧ 0 ≤ (32768 : Int) from by omega)
theorem sm_297_p17 {X17 : Int → Int → lf_Z → Prop} {Q : Int → lf_Z → Prop} {x1 : Int} {x2 : Int} {x3 : Int} {x4 : Int} {s : lf_Z} (hQ : ∀ (r : Int) (s' : lf_Z), iv_A s'.1 s'.2.2 → lf_fq [95, 104, 107, 111, 112] 1000000 true s.1 s.2.2 s'.1 s'.2.2 → ((-1) ≤ r ∧ r ≤ 65535) → Q r s') {M17 : Nat} (hX17 : ∀ (x3 : Int) (x4 : Int) (s' : lf_Z), iv_A s'.1 s'.2.2 → lf_fq [95, 104, 107, 111, 112] 1000000 true s.1 s.2.2 s'.1 s'.2.2 → (-2147483648) ≤ x3 ∧ x3 ≤ 2147483647 → 0 ≤ x4 ∧ x4 ≤ 16 → (16 - x4).toNat < M17 → X17 x3 x4 s') (hM17 : (16 - x4).toNat ≤ M17) (hI : iv_A s.1 s.2.2) (bx1 : 0 ≤ x1 ∧ x1 ≤ 3) (bx2 : (-1) ≤ x2 ∧ x2 ≤ (-1)) (bx3 : (-2147483648) ≤ x3 ∧ x3 ≤ 2147483647) (bx4 : 0 ≤ x4 ∧ x4 ≤ 16) : fm_297_p17 Q x1 x2 X17 x3 x4 s := by
  unfold fm_297_p17
  have b3 : 0 ≤ s.1 96 1 ∧ s.1 96 1 ≤ 16 := iv_rd96 hI (iv_fd6ad3e54 (by omega))
  have b4 : s.1 96 1 ≤ 0 ∨ 0 < s.1 96 0 := (show s.1 96 1 ≤ 0 ∨ 0 < s.1 96 0 from iv_l96_1 hI)
  refine ⟨(show lf_R x4 from lf_Rof (by omega)), ?_⟩
  refine ⟨(show lf_R (s.1 96 1) from lf_Rof (by omega)), ?_⟩
  refine ⟨fun c5 => ?_, fun c5 => ?_⟩
  · skip
    replace c5 : s.1 96 1 ≤ x4 := c5
    exact sm_297_p66L hQ hI (show (0 : Int) ≤ x1 ∧ x1 ≤ (3 : Int) from by omega) (show (-1 : Int) ≤ x2 ∧ x2 ≤ (65535 : Int) from by omega) (show (-2147483648 : Int) ≤ x3 ∧ x3 ≤ (2147483647 : Int) from by omega) (show (0 : Int) ≤ 0 ∧ 0 ≤ (4 : Int) from by omega)
  · skip
    replace c5 : ¬ (s.1 96 1 ≤ x4) := c5
    refine sm_245 hI (show (0 : Int) ≤ x4 ∧ x4 ≤ (15 : Int) from by omega) (fun z45 => ?_)
    refine ⟨fun c34 => ?_, fun c34 => ?_⟩
    · skip
      exact sm_297_p54 hQ hX17 (show (16 - x4).toNat ≤ M17 from by omega) hI (show (0 : Int) ≤ x1 ∧ x1 ≤ (3 : Int) from by omega) (show (-1 : Int) ≤ x2 ∧ x2 ≤ (-1 : Int) from by omega) (show (0 : Int) ≤ x4 ∧ x4 ≤ (15 : Int) from by omega) (show (-2147483648 : Int) ≤ x3 ∧ x3 ≤ (2147483647 : Int) from by omega)
    · skip
      refine sm_252 hI (show (0 : Int) ≤ x4 ∧ x4 ≤ (15 : Int) from by omega) (fun z47 => ?_)
      refine ⟨fun c37 => ?_, fun c37 => ?_⟩
      · skip
        exact sm_297_p54 hQ hX17 (show (16 - x4).toNat ≤ M17 from by omega) hI (show (0 : Int) ≤ x1 ∧ x1 ≤ (3 : Int) from by omega) (show (-1 : Int) ≤ x2 ∧ x2 ≤ (-1 : Int) from by omega) (show (0 : Int) ≤ x4 ∧ x4 ≤ (15 : Int) from by omega) (show (-2147483648 : Int) ≤ x3 ∧ x3 ≤ (2147483647 : Int) from by omega)
      · skip
        have b38 : 1 ≤ lf_shl 1 x4 ∧ lf_shl 1 x4 ≤ 32768 := lf_shl1 (m := 15) (by omega) (by omega) (by decide)
        exact sm_297_p55 hQ hX17 (show (16 - x4).toNat ≤ M17 from by omega) hI (show (0 : Int) ≤ x1 ∧ x1 ≤ (3 : Int) from by omega) (show (-1 : Int) ≤ x2 ∧ x2 ≤ (-1 : Int) from by omega) (show (0 : Int) ≤ x4 ∧ x4 ≤ (15 : Int) from by omega) (show (-2147483648 : Int) ≤ x3 ∧ x3 ≤ (2147483647 : Int) from by omega) (show (0 : Int) ≤ lf_shl 1 x4 ∧ lf_shl 1 x4 ≤ (32768 : Int) from by omega)
theorem sm_297_p17L {Q : Int → lf_Z → Prop} {x1 : Int} {x2 : Int} {x3 : Int} {x4 : Int} {s : lf_Z} (hQ : ∀ (r : Int) (s' : lf_Z), iv_A s'.1 s'.2.2 → lf_fq [95, 104, 107, 111, 112] 1000000 true s.1 s.2.2 s'.1 s'.2.2 → ((-1) ≤ r ∧ r ≤ 65535) → Q r s') (hI : iv_A s.1 s.2.2) (bx1 : 0 ≤ x1 ∧ x1 ≤ 3) (bx2 : (-1) ≤ x2 ∧ x2 ≤ (-1)) (bx3 : (-2147483648) ≤ x3 ∧ x3 ≤ 2147483647) (bx4 : 0 ≤ x4 ∧ x4 ≤ 16) : fm_297_p17L Q x1 x2 x3 x4 s := by
  intro X17 hX
  have key : ∀ (m9 : Nat) (x3 : Int) (x4 : Int) (s' : lf_Z), iv_A s'.1 s'.2.2 → lf_fq [95, 104, 107, 111, 112] 1000000 true s.1 s.2.2 s'.1 s'.2.2 → (-2147483648) ≤ x3 ∧ x3 ≤ 2147483647 → 0 ≤ x4 ∧ x4 ≤ 16 → (16 - x4).toNat < m9 → X17 x3 x4 s' := by
    intro m9
    induction m9 with
    | zero => intro x3 x4 s' _ _ bx3 bx4 h9; exact absurd h9 (Nat.not_lt_zero _)
    | succ m9 ih => intro x3 x4 s' i7 f7 bx3 bx4 h9; exact hX _ _ _ (sm_297_p17 (fun r9 t9 i9 f9 => hQ r9 t9 i9 (lf_fq_tr f7 f9))   (fun x3' x4' t8 i8 f8 bx3' bx4' h8 => ih x3' x4' t8 i8 (lf_fq_tr f7 f8) bx3' bx4' (by omega)) (Nat.le_refl _)  i7  bx1 bx2 bx3 bx4  )
  exact key _ _ _ s hI lf_fq_rf bx3 bx4 (Nat.lt_succ_self _)
theorem sm_297 {a1 : Int} {Q : Int → lf_Z → Prop} {s : lf_Z} (hI : iv_A s.1 s.2.2) (ba1 : (-2147483648) ≤ a1 ∧ a1 ≤ 2147483647) (hQ : ∀ (r : Int) (s' : lf_Z), iv_A s'.1 s'.2.2 → lf_fq [95, 104, 107, 111, 112] 1000000 true s.1 s.2.2 s'.1 s'.2.2 → ((-1) ≤ r ∧ r ≤ 65535) → Q r s') : fm_297 a1 Q s := by
  unfold fm_297
  refine sm_254 hI (show (-2147483648 : Int) ≤ a1 ∧ a1 ≤ (2147483647 : Int) from by omega) (fun z22 q1 => ?_)
  refine ⟨fun c2 => ?_, fun c2 => ?_⟩
  · skip
    have dc2 := q1.1 c2
    exact sm_297_p17L hQ hI (show (0 : Int) ≤ a1 ∧ a1 ≤ (3 : Int) from by omega) (show (-1 : Int) ≤ (-1) ∧ (-1) ≤ (-1 : Int) from by omega) (show (-2147483648 : Int) ≤ 0 ∧ 0 ≤ (2147483647 : Int) from by omega) (show (0 : Int) ≤ 0 ∧ 0 ≤ (16 : Int) from by omega)
  · skip
    have dc2 := q1.2 c2
    exact hQ (-1) s hI (lf_fq_rf) (show (-1 : Int) ≤ (-1) ∧ (-1) ≤ (65535 : Int) from by omega)
-- fm_146 Notes.addSight 25 i i
theorem sm_146 {a1 : Int} {a2 : Int} {Q : Int → lf_Z → Prop} {s : lf_Z} (hI : iv_A s.1 s.2.2) (ba1 : 0 ≤ a1 ∧ a1 ≤ 11) (ba2 : 0 ≤ a2 ∧ a2 ≤ 60) (hQ : ∀ (r : Int) (s' : lf_Z), iv_A s'.1 s'.2.2 → lf_fq [25, 26, 27] 1000000 true s.1 s.2.2 s'.1 s'.2.2 → ((-2) ≤ r ∧ r ≤ 6) → Q r s') : fm_146 a1 a2 Q s := by
  unfold fm_146
  have b1 : 0 ≤ s.1 25 2 ∧ s.1 25 2 ≤ 6 := iv_r25_2 hI
  refine ⟨(show lf_R (s.1 25 2) from lf_Rof (by omega)), ?_⟩
  refine ⟨fun c2 => ?_, fun c2 => ?_⟩
  · skip
    replace c2 : s.1 25 2 < 6 := c2
    refine ⟨(show (0 : Int) ≤ s.1 25 2 ∧ s.1 25 2 < (6 : Int) from by omega), ?_⟩
    have hI3 : iv_A (lf_up s.1 26 (s.1 25 2) a1) s.2.2 := iv_w26 hI (by omega)
    have fr4 : lf_fq [25, 26, 27] 1000000 true s.1 s.2.2 (lf_up s.1 26 (s.1 25 2) a1) s.2.2 := lf_fq_up (lf_fq_rf) rfl (fun h => absurd h (by decide))
    have hI5 : iv_A (lf_up (lf_up s.1 26 (s.1 25 2) a1) 27 (s.1 25 2) a2) s.2.2 := iv_w27 hI3 (by omega)
    have fr6 : lf_fq [25, 26, 27] 1000000 true s.1 s.2.2 (lf_up (lf_up s.1 26 (s.1 25 2) a1) 27 (s.1 25 2) a2) s.2.2 := lf_fq_up fr4 rfl (fun h => absurd h (by decide))
    have hI7 : iv_A (lf_up (lf_up (lf_up s.1 26 (s.1 25 2) a1) 27 (s.1 25 2) a2) 25 2 ((s.1 25 2) + 1)) s.2.2 := iv_w25_2 hI5 (by omega)
    have fr8 : lf_fq [25, 26, 27] 1000000 true s.1 s.2.2 (lf_up (lf_up (lf_up s.1 26 (s.1 25 2) a1) 27 (s.1 25 2) a2) 25 2 ((s.1 25 2) + 1)) s.2.2 := lf_fq_up fr6 rfl (fun h => absurd h (by decide))
    exact hQ ((s.1 25 2) + 1) (lf_up (lf_up (lf_up s.1 26 (s.1 25 2) a1) 27 (s.1 25 2) a2) 25 2 ((s.1 25 2) + 1), s.2.1, s.2.2) hI7 fr8 (show (-2 : Int) ≤ (s.1 25 2) + 1 ∧ (s.1 25 2) + 1 ≤ (6 : Int) from by omega)
  · skip
    replace c2 : ¬ (s.1 25 2 < 6) := c2
    exact hQ (-2) s hI (lf_fq_rf) (show (-2 : Int) ≤ (-2) ∧ (-2) ≤ (6 : Int) from by omega)
-- fm_145 ElevenBullocks.seen 0 i i
theorem sm_145 {a1 : Int} {a2 : Int} {Q : Int → lf_Z → Prop} {s : lf_Z} (hI : iv_A s.1 s.2.2) (ba1 : (-2147483648) ≤ a1 ∧ a1 ≤ 2147483647) (ba2 : (-2147483648) ≤ a2 ∧ a2 ≤ 2147483647) (hQ : ∀ (r : Int) (s' : lf_Z), iv_A s'.1 s'.2.2 → lf_fq [25, 26, 27] 1000000 true s.1 s.2.2 s'.1 s'.2.2 → ((-2) ≤ r ∧ r ≤ 6) → Q r s') : fm_145 a1 a2 Q s := by
  unfold fm_145
  refine ⟨(show lf_R a1 from lf_Rof (by omega)), ?_⟩
  refine ⟨fun c1 => ?_, fun c1 => ?_⟩
  · skip
    replace c1 : a1 ≠ (-1) := c1
    refine sm_18 hI (show (-2147483648 : Int) ≤ a1 ∧ a1 ≤ (2147483647 : Int) from by omega) (fun z23 q2 => ?_)
    have b3 : 0 ≤ s.1 1 0 ∧ s.1 1 0 ≤ 12 := iv_r1_0 hI
    refine ⟨fun c4 => ?_, fun c4 => ?_⟩
    · skip
      have dc4 := q2.2 c4
      exact hQ (-2) s hI (lf_fq_rf) (show (-2 : Int) ≤ (-2) ∧ (-2) ≤ (6 : Int) from by omega)
    · skip
      have dc4 := q2.1 c4
      refine sm_15 hI (show (-2147483648 : Int) ≤ a2 ∧ a2 ≤ (2147483647 : Int) from by omega) (show (-1 : Int) ≤ 0 ∧ 0 ≤ (99 : Int) from by omega) (show (-2147483648 : Int) ≤ 60 ∧ 60 ≤ (2147483647 : Int) from by omega) (fun z25 q5 => ?_)
      refine ⟨fun c6 => ?_, fun c6 => ?_⟩
      · skip
        have dc6 := q5.1 c6
        refine sm_146 hI (show (0 : Int) ≤ a1 ∧ a1 ≤ (11 : Int) from by omega) (show (0 : Int) ≤ a2 ∧ a2 ≤ (60 : Int) from by omega) (fun r27 s26 hI8 fr7 q9 => ?_)
        have fr10 : lf_fq [25, 26, 27] 1000000 true s.1 s.2.2 s26.1 s26.2.2 := lf_fq_tr (lf_fq_rf) (lf_fq_wk fr7 rfl (by decide) (by decide))
        exact hQ r27 s26 hI8 fr10 (show (-2 : Int) ≤ r27 ∧ r27 ≤ (6 : Int) from by omega)
      · skip
        have dc6 := q5.2 c6
        exact hQ (-2) s hI (lf_fq_rf) (show (-2 : Int) ≤ (-2) ∧ (-2) ≤ (6 : Int) from by omega)
  · skip
    replace c1 : ¬ (a1 ≠ (-1)) := c1
    have hI11 : iv_A (lf_up s.1 25 2 0) s.2.2 := iv_w25_2 hI (by omega)
    have fr12 : lf_fq [25, 26, 27] 1000000 true s.1 s.2.2 (lf_up s.1 25 2 0) s.2.2 := lf_fq_up (lf_fq_rf) rfl (fun h => absurd h (by decide))
    exact hQ 0 (lf_up s.1 25 2 0, s.2.1, s.2.2) hI11 fr12 (show (-2 : Int) ≤ 0 ∧ 0 ≤ (6 : Int) from by omega)
-- fm_305 Model.seen 95 i i
theorem sm_305 {a1 : Int} {a2 : Int} {Q : Int → lf_Z → Prop} {s : lf_Z} (hI : iv_A s.1 s.2.2) (ba1 : (-2147483648) ≤ a1 ∧ a1 ≤ 2147483647) (ba2 : (-2147483648) ≤ a2 ∧ a2 ≤ 2147483647) (hQ : ∀ (r : Int) (s' : lf_Z), iv_A s'.1 s'.2.2 → lf_fq [96] 10 true s.1 s.2.2 s'.1 s'.2.2 → ((-2) ≤ r ∧ r ≤ 6) → Q r s') : fm_305 a1 a2 Q s := by
  unfold fm_305
  refine ⟨(show lf_R a1 from lf_Rof (by omega)), ?_⟩
  refine ⟨fun c1 => ?_, fun c1 => ?_⟩
  · skip
    replace c1 : a1 ≠ (-1) := c1
    refine sm_185 hI (show (-2147483648 : Int) ≤ a1 ∧ a1 ≤ (2147483647 : Int) from by omega) (fun z23 q2 => ?_)
    have b3 : 0 ≤ s.1 96 0 ∧ s.1 96 0 ≤ 12 := iv_rd96 hI (iv_f3e1fa21c (by omega))
    refine ⟨fun c4 => ?_, fun c4 => ?_⟩
    · skip
      have dc4 := q2.2 c4
      exact hQ (-2) s hI (lf_fq_rf) (show (-2 : Int) ≤ (-2) ∧ (-2) ≤ (6 : Int) from by omega)
    · skip
      have dc4 := q2.1 c4
      refine sm_183 hI (show (-2147483648 : Int) ≤ a2 ∧ a2 ≤ (2147483647 : Int) from by omega) (show (-1 : Int) ≤ 0 ∧ 0 ≤ (97 : Int) from by omega) (show (-1 : Int) ≤ 60 ∧ 60 ≤ (9999 : Int) from by omega) (fun z25 q5 => ?_)
      refine ⟨fun c6 => ?_, fun c6 => ?_⟩
      · skip
        have dc6 := q5.2 c6
        exact hQ (-2) s hI (lf_fq_rf) (show (-2 : Int) ≤ (-2) ∧ (-2) ≤ (6 : Int) from by omega)
      · skip
        have dc6 := q5.1 c6
        have b7 : 0 ≤ s.1 96 10 ∧ s.1 96 10 ≤ 6 := iv_rd96 hI (iv_f2f8ad25f (by omega))
        refine ⟨(show lf_R (s.1 96 10) from lf_Rof (by omega)), ?_⟩
        refine ⟨fun c8 => ?_, fun c8 => ?_⟩
        · skip
          replace c8 : s.1 96 10 ≠ 6 := c8
          refine ⟨(show (0 : Int) ≤ 162 + (2 * (s.1 96 10)) ∧ 162 + (2 * (s.1 96 10)) < (1538 : Int) from by omega), ?_⟩
          have hI9 : iv_A (lf_up s.1 96 (162 + (2 * (s.1 96 10))) a1) s.2.2 := iv_wd96 hI (lf_le2 (iv_fe7a41342 (s.1 96 10) (by omega) (by omega)) (by omega)) (fun h => absurd h (by omega))
          have fr10 : lf_fq [96] 10 true s.1 s.2.2 (lf_up s.1 96 (162 + (2 * (s.1 96 10))) a1) s.2.2 := lf_fq_up (lf_fq_rf) rfl (fun _ => by omega)
          have b11 : 0 ≤ (lf_up s.1 96 (162 + (2 * (s.1 96 10))) a1) 96 10 ∧ (lf_up s.1 96 (162 + (2 * (s.1 96 10))) a1) 96 10 ≤ 6 := iv_rd96 hI9 (iv_f2f8ad25f (by omega))
          have b12 : (lf_up s.1 96 (162 + (2 * (s.1 96 10))) a1) 96 10 = s.1 96 10 := lf_up_i (by omega)
          refine ⟨(show (0 : Int) ≤ (162 + (2 * ((lf_up s.1 96 (162 + (2 * (s.1 96 10))) a1) 96 10))) + 1 ∧ (162 + (2 * ((lf_up s.1 96 (162 + (2 * (s.1 96 10))) a1) 96 10))) + 1 < (1538 : Int) from by omega), ?_⟩
          have hI13 : iv_A (lf_up (lf_up s.1 96 (162 + (2 * (s.1 96 10))) a1) 96 ((162 + (2 * ((lf_up s.1 96 (162 + (2 * (s.1 96 10))) a1) 96 10))) + 1) a2) s.2.2 := iv_wd96 hI9 (lf_le2 (iv_fcdead904 ((lf_up s.1 96 (162 + (2 * (s.1 96 10))) a1) 96 10) (by omega) (by omega)) (by omega)) (fun h => absurd h (by omega))
          have fr14 : lf_fq [96] 10 true s.1 s.2.2 (lf_up (lf_up s.1 96 (162 + (2 * (s.1 96 10))) a1) 96 ((162 + (2 * ((lf_up s.1 96 (162 + (2 * (s.1 96 10))) a1) 96 10))) + 1) a2) s.2.2 := lf_fq_up fr10 rfl (fun _ => by omega)
          have b15 : 0 ≤ (lf_up (lf_up s.1 96 (162 + (2 * (s.1 96 10))) a1) 96 ((162 + (2 * ((lf_up s.1 96 (162 + (2 * (s.1 96 10))) a1) 96 10))) + 1) a2) 96 10 ∧ (lf_up (lf_up s.1 96 (162 + (2 * (s.1 96 10))) a1) 96 ((162 + (2 * ((lf_up s.1 96 (162 + (2 * (s.1 96 10))) a1) 96 10))) + 1) a2) 96 10 ≤ 6 := iv_rd96 hI13 (iv_f2f8ad25f (by omega))
          have b16 : (lf_up (lf_up s.1 96 (162 + (2 * (s.1 96 10))) a1) 96 ((162 + (2 * ((lf_up s.1 96 (162 + (2 * (s.1 96 10))) a1) 96 10))) + 1) a2) 96 10 = (lf_up s.1 96 (162 + (2 * (s.1 96 10))) a1) 96 10 := lf_up_i (by omega)
          have hI17 : iv_A (lf_up (lf_up (lf_up s.1 96 (162 + (2 * (s.1 96 10))) a1) 96 ((162 + (2 * ((lf_up s.1 96 (162 + (2 * (s.1 96 10))) a1) 96 10))) + 1) a2) 96 10 (((lf_up (lf_up s.1 96 (162 + (2 * (s.1 96 10))) a1) 96 ((162 + (2 * ((lf_up s.1 96 (162 + (2 * (s.1 96 10))) a1) 96 10))) + 1) a2) 96 10) + 1)) s.2.2 := iv_wd96 hI13 (lf_le2 (iv_f38c39aa3 (by omega)) (by omega)) (fun h => absurd h (by omega))
          have fr18 : lf_fq [96] 10 true s.1 s.2.2 (lf_up (lf_up (lf_up s.1 96 (162 + (2 * (s.1 96 10))) a1) 96 ((162 + (2 * ((lf_up s.1 96 (162 + (2 * (s.1 96 10))) a1) 96 10))) + 1) a2) 96 10 (((lf_up (lf_up s.1 96 (162 + (2 * (s.1 96 10))) a1) 96 ((162 + (2 * ((lf_up s.1 96 (162 + (2 * (s.1 96 10))) a1) 96 10))) + 1) a2) 96 10) + 1)) s.2.2 := lf_fq_up fr14 rfl (fun _ => by omega)
          exact hQ (((lf_up (lf_up s.1 96 (162 + (2 * (s.1 96 10))) a1) 96 ((162 + (2 * ((lf_up s.1 96 (162 + (2 * (s.1 96 10))) a1) 96 10))) + 1) a2) 96 10) + 1) (lf_up (lf_up (lf_up s.1 96 (162 + (2 * (s.1 96 10))) a1) 96 ((162 + (2 * ((lf_up s.1 96 (162 + (2 * (s.1 96 10))) a1) 96 10))) + 1) a2) 96 10 (((lf_up (lf_up s.1 96 (162 + (2 * (s.1 96 10))) a1) 96 ((162 + (2 * ((lf_up s.1 96 (162 + (2 * (s.1 96 10))) a1) 96 10))) + 1) a2) 96 10) + 1), s.2.1, s.2.2) hI17 fr18 (show (-2 : Int) ≤ ((lf_up (lf_up s.1 96 (162 + (2 * (s.1 96 10))) a1) 96 ((162 + (2 * ((lf_up s.1 96 (162 + (2 * (s.1 96 10))) a1) 96 10))) + 1) a2) 96 10) + 1 ∧ ((lf_up (lf_up s.1 96 (162 + (2 * (s.1 96 10))) a1) 96 ((162 + (2 * ((lf_up s.1 96 (162 + (2 * (s.1 96 10))) a1) 96 10))) + 1) a2) 96 10) + 1 ≤ (6 : Int) from by omega)
        · skip
          replace c8 : ¬ (s.1 96 10 ≠ 6) := c8
          exact hQ (-2) s hI (lf_fq_rf) (show (-2 : Int) ≤ (-2) ∧ (-2) ≤ (6 : Int) from by omega)
  · skip
    replace c1 : ¬ (a1 ≠ (-1)) := c1
    have hI19 : iv_A (lf_up s.1 96 10 0) s.2.2 := iv_wd96 hI (lf_le2 (iv_f38c39aa3 (by omega)) (by omega)) (fun h => absurd h (by omega))
    have fr20 : lf_fq [96] 10 true s.1 s.2.2 (lf_up s.1 96 10 0) s.2.2 := lf_fq_up (lf_fq_rf) rfl (fun _ => by omega)
    exact hQ 0 (lf_up s.1 96 10 0, s.2.1, s.2.2) hI19 fr20 (show (-2 : Int) ≤ 0 ∧ 0 ≤ (6 : Int) from by omega)
-- fm_2 Land.setApart 14
theorem sm_2_p9 {X9 : Int → lf_Z → Prop} {Q : lf_Z → Prop} {x1 : Int} {s : lf_Z} (hQ : ∀  (s' : lf_Z), iv_A s'.1 s'.2.2 → lf_fq [14] 1000000 true s.1 s.2.2 s'.1 s'.2.2 → Q  s') {M9 : Nat} (hX9 : ∀ (x1 : Int) (s' : lf_Z), iv_A s'.1 s'.2.2 → lf_fq [14] 1000000 true s.1 s.2.2 s'.1 s'.2.2 → 0 ≤ x1 ∧ x1 ≤ 12 → (12 - x1).toNat < M9 → X9 x1 s') (hM9 : (12 - x1).toNat ≤ M9) (hI : iv_A s.1 s.2.2) (bx1 : 0 ≤ x1 ∧ x1 ≤ 12) : fm_2_p9 Q X9 x1 s := by
  unfold fm_2_p9
  refine ⟨(show lf_R x1 from lf_Rof (by omega)), ?_⟩
  refine ⟨fun c3 => ?_, fun c3 => ?_⟩
  · skip
    replace c3 : 12 ≤ x1 := c3
    exact hQ s hI (lf_fq_rf)
  · skip
    replace c3 : ¬ (12 ≤ x1) := c3
    refine ⟨(show (0 : Int) ≤ (x1 * 12) + x1 ∧ (x1 * 12) + x1 < (144 : Int) from by omega), ?_⟩
    have hI4 : iv_A (lf_up s.1 14 ((x1 * 12) + x1) 0) s.2.2 := iv_w14 hI (by omega)
    have fr5 : lf_fq [14] 1000000 true s.1 s.2.2 (lf_up s.1 14 ((x1 * 12) + x1) 0) s.2.2 := lf_fq_up (lf_fq_rf) rfl (fun h => absurd h (by decide))
    exact hX9 (x1 + 1) (lf_up s.1 14 ((x1 * 12) + x1) 0, s.2.1, s.2.2) hI4 fr5 (show (0 : Int) ≤ x1 + 1 ∧ x1 + 1 ≤ (12 : Int) from by omega) (show (12 - (x1 + 1)).toNat < M9 from by omega)
theorem sm_2_p9L {Q : lf_Z → Prop} {x1 : Int} {s : lf_Z} (hQ : ∀  (s' : lf_Z), iv_A s'.1 s'.2.2 → lf_fq [14] 1000000 true s.1 s.2.2 s'.1 s'.2.2 → Q  s') (hI : iv_A s.1 s.2.2) (bx1 : 0 ≤ x1 ∧ x1 ≤ 12) : fm_2_p9L Q x1 s := by
  intro X9 hX
  have key : ∀ (m9 : Nat) (x1 : Int) (s' : lf_Z), iv_A s'.1 s'.2.2 → lf_fq [14] 1000000 true s.1 s.2.2 s'.1 s'.2.2 → 0 ≤ x1 ∧ x1 ≤ 12 → (12 - x1).toNat < m9 → X9 x1 s' := by
    intro m9
    induction m9 with
    | zero => intro x1 s' _ _ bx1 h9; exact absurd h9 (Nat.not_lt_zero _)
    | succ m9 ih => intro x1 s' i7 f7 bx1 h9; exact hX _ _ (sm_2_p9 (fun t9 i9 f9 => hQ t9 i9 (lf_fq_tr f7 f9))   (fun x1' t8 i8 f8 bx1' h8 => ih x1' t8 i8 (lf_fq_tr f7 f8) bx1' (by omega)) (Nat.le_refl _)  i7  bx1  )
  exact key _ _ s hI lf_fq_rf bx1 (Nat.lt_succ_self _)
theorem sm_2 {Q : lf_Z → Prop} {s : lf_Z} (hI : iv_A s.1 s.2.2) (hQ : ∀  (s' : lf_Z), iv_A s'.1 s'.2.2 → lf_fq [14] 1000000 true s.1 s.2.2 s'.1 s'.2.2 → Q  s') : fm_2 Q s := by
  unfold fm_2
  have hI1 : iv_A (lf_fl s.1 14 144 1000) s.2.2 := iv_fl14 hI (by omega)
  have fr2 : lf_fq [14] 1000000 true s.1 s.2.2 (lf_fl s.1 14 144 1000) s.2.2 := lf_fq_fl (lf_fq_rf) rfl (by decide)
  exact sm_2_p9L (fun t9 i9 f9 => hQ t9 i9 (lf_fq_tr fr2 f9)) hI1 (show (0 : Int) ≤ 0 ∧ 0 ≤ (12 : Int) from by omega)
-- fm_22b Land.bringNear 1 14 i i
theorem sm_22b_p22 {X3 : Int → lf_Z → Prop} {X22 : Int → lf_Z → Prop} {Q : lf_Z → Prop} {x2 : Int} {x3 : Int} {x4 : Int} {x5 : Int} {x6 : Int} {s : lf_Z} (hQ : ∀  (s' : lf_Z), iv_A s'.1 s'.2.2 → lf_fq [14] 1000000 true s.1 s.2.2 s'.1 s'.2.2 → Q  s') {M3 : Nat} (hX3 : ∀ (x4 : Int) (s' : lf_Z), iv_A s'.1 s'.2.2 → lf_fq [14] 1000000 true s.1 s.2.2 s'.1 s'.2.2 → 0 ≤ x4 ∧ x4 ≤ 12 → (12 - x4).toNat < M3 → X3 x4 s') (hM3 : (12 - x4).toNat ≤ M3) {M22 : Nat} (hX22 : ∀ (x6 : Int) (s' : lf_Z), iv_A s'.1 s'.2.2 → lf_fq [14] 1000000 true s.1 s.2.2 s'.1 s'.2.2 → 0 ≤ x6 ∧ x6 ≤ 12 → (12 - x6).toNat < M22 → X22 x6 s') (hM22 : (12 - x6).toNat ≤ M22) (hI : iv_A s.1 s.2.2) (bx2 : 0 ≤ x2 ∧ x2 ≤ 11) (bx3 : 0 ≤ x3 ∧ x3 ≤ 11) (bx4 : 0 ≤ x4 ∧ x4 ≤ 11) (bx5 : 0 ≤ x5 ∧ x5 ≤ 132) (bx6 : 0 ≤ x6 ∧ x6 ≤ 12) : fm_22b_p22 X3 Q x2 x3 x4 x5 X22 x6 s := by
  unfold fm_22b_p22
  have b3 : 0 ≤ s.1 1 0 ∧ s.1 1 0 ≤ 12 := iv_r1_0 hI
  refine ⟨(show lf_R x6 from lf_Rof (by omega)), ?_⟩
  refine ⟨(show lf_R (s.1 1 0) from lf_Rof (by omega)), ?_⟩
  refine ⟨fun c4 => ?_, fun c4 => ?_⟩
  · skip
    replace c4 : s.1 1 0 ≤ x6 := c4
    exact hX3 (x4 + 1) s hI (lf_fq_rf) (show (0 : Int) ≤ x4 + 1 ∧ x4 + 1 ≤ (12 : Int) from by omega) (show (12 - (x4 + 1)).toNat < M3 from by omega)
  · skip
    replace c4 : ¬ (s.1 1 0 ≤ x6) := c4
    refine ⟨(show (0 : Int) ≤ x5 + x2 ∧ x5 + x2 < (144 : Int) from by omega), ?_⟩
    have b5 : 0 ≤ s.1 14 (x5 + x2) ∧ s.1 14 (x5 + x2) ≤ 1000 := iv_r14 hI _
    refine ⟨(show (0 : Int) ≤ (x3 * 12) + x6 ∧ (x3 * 12) + x6 < (144 : Int) from by omega), ?_⟩
    have b6 : 0 ≤ s.1 14 ((x3 * 12) + x6) ∧ s.1 14 ((x3 * 12) + x6) ≤ 1000 := iv_r14 hI _
    refine ⟨(show (0 : Int) ≤ x5 + x3 ∧ x5 + x3 < (144 : Int) from by omega), ?_⟩
    have b7 : 0 ≤ s.1 14 (x5 + x3) ∧ s.1 14 (x5 + x3) ≤ 1000 := iv_r14 hI _
    refine ⟨(show (0 : Int) ≤ (x2 * 12) + x6 ∧ (x2 * 12) + x6 < (144 : Int) from by omega), ?_⟩
    have b8 : 0 ≤ s.1 14 ((x2 * 12) + x6) ∧ s.1 14 ((x2 * 12) + x6) ≤ 1000 := iv_r14 hI _
    refine ⟨(show (0 : Int) ≤ x5 + x6 ∧ x5 + x6 < (144 : Int) from by omega), ?_⟩
    have b9 : 0 ≤ s.1 14 (x5 + x6) ∧ s.1 14 (x5 + x6) ≤ 1000 := iv_r14 hI _
    refine ⟨(show lf_R (((s.1 14 (x5 + x2)) + 1) + (s.1 14 ((x3 * 12) + x6))) from lf_Rof (by omega)), ?_⟩
    refine ⟨(show lf_R (((s.1 14 (x5 + x3)) + 1) + (s.1 14 ((x2 * 12) + x6))) from lf_Rof (by omega)), ?_⟩
    refine ⟨(show lf_R (s.1 14 (x5 + x6)) from lf_Rof (by omega)), ?_⟩
    refine ⟨(show lf_R (min (((s.1 14 (x5 + x2)) + 1) + (s.1 14 ((x3 * 12) + x6))) (((s.1 14 (x5 + x3)) + 1) + (s.1 14 ((x2 * 12) + x6)))) from lf_Rof (by omega)), ?_⟩
    have hI10 : iv_A (lf_up s.1 14 (x5 + x6) (min (s.1 14 (x5 + x6)) (min (((s.1 14 (x5 + x2)) + 1) + (s.1 14 ((x3 * 12) + x6))) (((s.1 14 (x5 + x3)) + 1) + (s.1 14 ((x2 * 12) + x6)))))) s.2.2 := iv_w14 hI (by omega)
    have fr11 : lf_fq [14] 1000000 true s.1 s.2.2 (lf_up s.1 14 (x5 + x6) (min (s.1 14 (x5 + x6)) (min (((s.1 14 (x5 + x2)) + 1) + (s.1 14 ((x3 * 12) + x6))) (((s.1 14 (x5 + x3)) + 1) + (s.1 14 ((x2 * 12) + x6)))))) s.2.2 := lf_fq_up (lf_fq_rf) rfl (fun h => absurd h (by decide))
    exact hX22 (x6 + 1) (lf_up s.1 14 (x5 + x6) (min (s.1 14 (x5 + x6)) (min (((s.1 14 (x5 + x2)) + 1) + (s.1 14 ((x3 * 12) + x6))) (((s.1 14 (x5 + x3)) + 1) + (s.1 14 ((x2 * 12) + x6))))), s.2.1, s.2.2) hI10 fr11 (show (0 : Int) ≤ x6 + 1 ∧ x6 + 1 ≤ (12 : Int) from by omega) (show (12 - (x6 + 1)).toNat < M22 from by omega)
theorem sm_22b_p22L {X3 : Int → lf_Z → Prop} {Q : lf_Z → Prop} {x2 : Int} {x3 : Int} {x4 : Int} {x5 : Int} {x6 : Int} {s : lf_Z} (hQ : ∀  (s' : lf_Z), iv_A s'.1 s'.2.2 → lf_fq [14] 1000000 true s.1 s.2.2 s'.1 s'.2.2 → Q  s') {M3 : Nat} (hX3 : ∀ (x4 : Int) (s' : lf_Z), iv_A s'.1 s'.2.2 → lf_fq [14] 1000000 true s.1 s.2.2 s'.1 s'.2.2 → 0 ≤ x4 ∧ x4 ≤ 12 → (12 - x4).toNat < M3 → X3 x4 s') (hM3 : (12 - x4).toNat ≤ M3) (hI : iv_A s.1 s.2.2) (bx2 : 0 ≤ x2 ∧ x2 ≤ 11) (bx3 : 0 ≤ x3 ∧ x3 ≤ 11) (bx4 : 0 ≤ x4 ∧ x4 ≤ 11) (bx5 : 0 ≤ x5 ∧ x5 ≤ 132) (bx6 : 0 ≤ x6 ∧ x6 ≤ 12) : fm_22b_p22L X3 Q x2 x3 x4 x5 x6 s := by
  intro X22 hX
  have key : ∀ (m9 : Nat) (x6 : Int) (s' : lf_Z), iv_A s'.1 s'.2.2 → lf_fq [14] 1000000 true s.1 s.2.2 s'.1 s'.2.2 → 0 ≤ x6 ∧ x6 ≤ 12 → (12 - x6).toNat < m9 → X22 x6 s' := by
    intro m9
    induction m9 with
    | zero => intro x6 s' _ _ bx6 h9; exact absurd h9 (Nat.not_lt_zero _)
    | succ m9 ih => intro x6 s' i7 f7 bx6 h9; exact hX _ _ (sm_22b_p22 (fun t9 i9 f9 => hQ t9 i9 (lf_fq_tr f7 f9))  (fun p0 t9 i9 f9 => hX3 p0 t9 i9 (lf_fq_tr f7 f9)) hM3 (fun x6' t8 i8 f8 bx6' h8 => ih x6' t8 i8 (lf_fq_tr f7 f8) bx6' (by omega)) (Nat.le_refl _)  i7  bx2 bx3 bx4 bx5 bx6  )
  exact key _ _ s hI lf_fq_rf bx6 (Nat.lt_succ_self _)
theorem sm_22b_p3 {X3 : Int → lf_Z → Prop} {Q : lf_Z → Prop} {x2 : Int} {x3 : Int} {x4 : Int} {s : lf_Z} (hQ : ∀  (s' : lf_Z), iv_A s'.1 s'.2.2 → lf_fq [14] 1000000 true s.1 s.2.2 s'.1 s'.2.2 → Q  s') {M3 : Nat} (hX3 : ∀ (x4 : Int) (s' : lf_Z), iv_A s'.1 s'.2.2 → lf_fq [14] 1000000 true s.1 s.2.2 s'.1 s'.2.2 → 0 ≤ x4 ∧ x4 ≤ 12 → (12 - x4).toNat < M3 → X3 x4 s') (hM3 : (12 - x4).toNat ≤ M3) (hI : iv_A s.1 s.2.2) (bx2 : 0 ≤ x2 ∧ x2 ≤ 11) (bx3 : 0 ≤ x3 ∧ x3 ≤ 11) (bx4 : 0 ≤ x4 ∧ x4 ≤ 12) : fm_22b_p3 Q x2 x3 X3 x4 s := by
  unfold fm_22b_p3
  have b1 : 0 ≤ s.1 1 0 ∧ s.1 1 0 ≤ 12 := iv_r1_0 hI
  refine ⟨(show lf_R x4 from lf_Rof (by omega)), ?_⟩
  refine ⟨(show lf_R (s.1 1 0) from lf_Rof (by omega)), ?_⟩
  refine ⟨fun c2 => ?_, fun c2 => ?_⟩
  · skip
    replace c2 : s.1 1 0 ≤ x4 := c2
    exact hQ s hI (lf_fq_rf)
  · skip
    replace c2 : ¬ (s.1 1 0 ≤ x4) := c2
    exact sm_22b_p22L hQ hX3 (show (12 - x4).toNat ≤ M3 from by omega) hI (show (0 : Int) ≤ x2 ∧ x2 ≤ (11 : Int) from by omega) (show (0 : Int) ≤ x3 ∧ x3 ≤ (11 : Int) from by omega) (show (0 : Int) ≤ x4 ∧ x4 ≤ (11 : Int) from by omega) (show (0 : Int) ≤ x4 * 12 ∧ x4 * 12 ≤ (132 : Int) from by omega) (show (0 : Int) ≤ 0 ∧ 0 ≤ (12 : Int) from by omega)
theorem sm_22b_p3L {Q : lf_Z → Prop} {x2 : Int} {x3 : Int} {x4 : Int} {s : lf_Z} (hQ : ∀  (s' : lf_Z), iv_A s'.1 s'.2.2 → lf_fq [14] 1000000 true s.1 s.2.2 s'.1 s'.2.2 → Q  s') (hI : iv_A s.1 s.2.2) (bx2 : 0 ≤ x2 ∧ x2 ≤ 11) (bx3 : 0 ≤ x3 ∧ x3 ≤ 11) (bx4 : 0 ≤ x4 ∧ x4 ≤ 12) : fm_22b_p3L Q x2 x3 x4 s := by
  intro X3 hX
  have key : ∀ (m9 : Nat) (x4 : Int) (s' : lf_Z), iv_A s'.1 s'.2.2 → lf_fq [14] 1000000 true s.1 s.2.2 s'.1 s'.2.2 → 0 ≤ x4 ∧ x4 ≤ 12 → (12 - x4).toNat < m9 → X3 x4 s' := by
    intro m9
    induction m9 with
    | zero => intro x4 s' _ _ bx4 h9; exact absurd h9 (Nat.not_lt_zero _)
    | succ m9 ih => intro x4 s' i7 f7 bx4 h9; exact hX _ _ (sm_22b_p3 (fun t9 i9 f9 => hQ t9 i9 (lf_fq_tr f7 f9))   (fun x4' t8 i8 f8 bx4' h8 => ih x4' t8 i8 (lf_fq_tr f7 f8) bx4' (by omega)) (Nat.le_refl _)  i7  bx2 bx3 bx4  )
  exact key _ _ s hI lf_fq_rf bx4 (Nat.lt_succ_self _)
theorem sm_22b {a2 : Int} {a3 : Int} {Q : lf_Z → Prop} {s : lf_Z} (hI : iv_A s.1 s.2.2) (ba2 : 0 ≤ a2 ∧ a2 ≤ 11) (ba3 : 0 ≤ a3 ∧ a3 ≤ 11) (hQ : ∀  (s' : lf_Z), iv_A s'.1 s'.2.2 → lf_fq [14] 1000000 true s.1 s.2.2 s'.1 s'.2.2 → Q  s') : fm_22b a2 a3 Q s := by
  unfold fm_22b
  exact sm_22b_p3L hQ hI (show (0 : Int) ≤ a2 ∧ a2 ≤ (11 : Int) from by omega) (show (0 : Int) ≤ a3 ∧ a3 ≤ (11 : Int) from by omega) (show (0 : Int) ≤ 0 ∧ 0 ≤ (12 : Int) from by omega)
-- fm_148 Land.measureGates 1
theorem sm_148_p46 {X9 : Int → lf_Z → Prop} {Q : lf_Z → Prop} {x1 : Int} {s : lf_Z} (hQ : ∀  (s' : lf_Z), iv_A s'.1 s'.2.2 → lf_fq [14] 1000000 true s.1 s.2.2 s'.1 s'.2.2 → Q  s') {M9 : Nat} (hX9 : ∀ (x1 : Int) (s' : lf_Z), iv_A s'.1 s'.2.2 → lf_fq [14] 1000000 true s.1 s.2.2 s'.1 s'.2.2 → 0 ≤ x1 ∧ x1 ≤ 16 → (16 - x1).toNat < M9 → X9 x1 s') (hM9 : (16 - x1).toNat ≤ M9) (hI : iv_A s.1 s.2.2) (bx1 : 0 ≤ x1 ∧ x1 ≤ 15) : fm_148_p46 X9 Q x1 s := by
  unfold fm_148_p46
  exact hX9 (x1 + 1) s hI (lf_fq_rf) (show (0 : Int) ≤ x1 + 1 ∧ x1 + 1 ≤ (16 : Int) from by omega) (show (16 - (x1 + 1)).toNat < M9 from by omega)
theorem sm_148_p9 {X9 : Int → lf_Z → Prop} {Q : lf_Z → Prop} {x1 : Int} {s : lf_Z} (hQ : ∀  (s' : lf_Z), iv_A s'.1 s'.2.2 → lf_fq [14] 1000000 true s.1 s.2.2 s'.1 s'.2.2 → Q  s') {M9 : Nat} (hX9 : ∀ (x1 : Int) (s' : lf_Z), iv_A s'.1 s'.2.2 → lf_fq [14] 1000000 true s.1 s.2.2 s'.1 s'.2.2 → 0 ≤ x1 ∧ x1 ≤ 16 → (16 - x1).toNat < M9 → X9 x1 s') (hM9 : (16 - x1).toNat ≤ M9) (hI : iv_A s.1 s.2.2) (bx1 : 0 ≤ x1 ∧ x1 ≤ 16) : fm_148_p9 Q X9 x1 s := by
  unfold fm_148_p9
  have b5 : 0 ≤ s.1 1 1 ∧ s.1 1 1 ≤ 16 := iv_r1_1 hI
  refine ⟨(show lf_R x1 from lf_Rof (by omega)), ?_⟩
  refine ⟨(show lf_R (s.1 1 1) from lf_Rof (by omega)), ?_⟩
  refine ⟨fun c6 => ?_, fun c6 => ?_⟩
  · skip
    replace c6 : s.1 1 1 ≤ x1 := c6
    exact hQ s hI (lf_fq_rf)
  · skip
    replace c6 : ¬ (s.1 1 1 ≤ x1) := c6
    refine ⟨(show (0 : Int) ≤ x1 ∧ x1 < (16 : Int) from by omega), ?_⟩
    have b7 : 0 ≤ s.1 6 x1 ∧ s.1 6 x1 ≤ 1 := iv_r6 hI _
    refine ⟨(show lf_R (s.1 6 x1) from lf_Rof (by omega)), ?_⟩
    refine ⟨fun c8 => ?_, fun c8 => ?_⟩
    · skip
      replace c8 : s.1 6 x1 ≠ 0 := c8
      exact sm_148_p46 hQ hX9 (show (16 - x1).toNat ≤ M9 from by omega) hI (show (0 : Int) ≤ x1 ∧ x1 ≤ (15 : Int) from by omega)
    · skip
      replace c8 : ¬ (s.1 6 x1 ≠ 0) := c8
      have b9 : 0 ≤ s.1 4 x1 ∧ s.1 4 x1 ≤ 11 := iv_r4 hI _
      have b10 : 0 ≤ s.1 5 x1 ∧ s.1 5 x1 ≤ 11 := iv_r5 hI _
      refine sm_22b hI (show (0 : Int) ≤ s.1 4 x1 ∧ s.1 4 x1 ≤ (11 : Int) from by omega) (show (0 : Int) ≤ s.1 5 x1 ∧ s.1 5 x1 ≤ (11 : Int) from by omega) (fun s26 hI12 fr11 => ?_)
      have fr14 : lf_fq [14] 1000000 true s.1 s.2.2 s26.1 s26.2.2 := lf_fq_tr (lf_fq_rf) (lf_fq_wk fr11 rfl (by decide) (by decide))
      exact sm_148_p46 (fun t9 i9 f9 => hQ t9 i9 (lf_fq_tr fr14 f9)) (fun p0 t9 i9 f9 => hX9 p0 t9 i9 (lf_fq_tr fr14 f9)) (show (16 - x1).toNat ≤ M9 from by omega) hI12 (show (0 : Int) ≤ x1 ∧ x1 ≤ (15 : Int) from by omega)
theorem sm_148_p9L {Q : lf_Z → Prop} {x1 : Int} {s : lf_Z} (hQ : ∀  (s' : lf_Z), iv_A s'.1 s'.2.2 → lf_fq [14] 1000000 true s.1 s.2.2 s'.1 s'.2.2 → Q  s') (hI : iv_A s.1 s.2.2) (bx1 : 0 ≤ x1 ∧ x1 ≤ 16) : fm_148_p9L Q x1 s := by
  intro X9 hX
  have key : ∀ (m9 : Nat) (x1 : Int) (s' : lf_Z), iv_A s'.1 s'.2.2 → lf_fq [14] 1000000 true s.1 s.2.2 s'.1 s'.2.2 → 0 ≤ x1 ∧ x1 ≤ 16 → (16 - x1).toNat < m9 → X9 x1 s' := by
    intro m9
    induction m9 with
    | zero => intro x1 s' _ _ bx1 h9; exact absurd h9 (Nat.not_lt_zero _)
    | succ m9 ih => intro x1 s' i7 f7 bx1 h9; exact hX _ _ (sm_148_p9 (fun t9 i9 f9 => hQ t9 i9 (lf_fq_tr f7 f9))   (fun x1' t8 i8 f8 bx1' h8 => ih x1' t8 i8 (lf_fq_tr f7 f8) bx1' (by omega)) (Nat.le_refl _)  i7  bx1  )
  exact key _ _ s hI lf_fq_rf bx1 (Nat.lt_succ_self _)
theorem sm_148 {Q : lf_Z → Prop} {s : lf_Z} (hI : iv_A s.1 s.2.2) (hQ : ∀  (s' : lf_Z), iv_A s'.1 s'.2.2 → lf_fq [14] 1000000 true s.1 s.2.2 s'.1 s'.2.2 → Q  s') : fm_148 Q s := by
  unfold fm_148
  refine sm_2 hI (fun s21 hI2 fr1 => ?_)
  have fr4 : lf_fq [14] 1000000 true s.1 s.2.2 s21.1 s21.2.2 := lf_fq_tr (lf_fq_rf) (lf_fq_wk fr1 rfl (by decide) (by decide))
  exact sm_148_p9L (fun t9 i9 f9 => hQ t9 i9 (lf_fq_tr fr4 f9)) hI2 (show (0 : Int) ≤ 0 ∧ 0 ≤ (16 : Int) from by omega)
-- fm_149 Land.outsideOf 1 i
theorem sm_149_p51 {Q : Int → lf_Z → Prop} {x1 : Int} {x2 : Int} {y0 : Int} {s : lf_Z} (hQ : ∀ (r : Int), ((-1) ≤ r ∧ r ≤ 11) → Q r s) (hI : iv_A s.1 s.2.2) (bx1 : 0 ≤ x1 ∧ x1 ≤ 15) (bx2 : 0 ≤ x2 ∧ x2 ≤ 1) (by0 : 0 ≤ y0 ∧ y0 ≤ 1) : fm_149_p51 Q x1 x2 y0 s := by
  unfold fm_149_p51
  refine ⟨(show lf_R x2 from lf_Rof (by omega)), ?_⟩
  refine ⟨(show lf_R y0 from lf_Rof (by omega)), ?_⟩
  refine ⟨fun c11 => ?_, fun c11 => ?_⟩
  · skip
    replace c11 : x2 ≠ y0 := c11
    refine ⟨fun c12 => ?_, fun c12 => ?_⟩
    · skip
      replace c12 : x2 = 0 := c12
      refine ⟨(show (0 : Int) ≤ x1 ∧ x1 < (16 : Int) from by omega), ?_⟩
      have b13 : 0 ≤ s.1 4 x1 ∧ s.1 4 x1 ≤ 11 := iv_r4 hI _
      exact hQ (s.1 4 x1) (show (-1 : Int) ≤ s.1 4 x1 ∧ s.1 4 x1 ≤ (11 : Int) from by omega)
    · skip
      replace c12 : ¬ (x2 = 0) := c12
      refine ⟨(show (0 : Int) ≤ x1 ∧ x1 < (16 : Int) from by omega), ?_⟩
      have b14 : 0 ≤ s.1 5 x1 ∧ s.1 5 x1 ≤ 11 := iv_r5 hI _
      exact hQ (s.1 5 x1) (show (-1 : Int) ≤ s.1 5 x1 ∧ s.1 5 x1 ≤ (11 : Int) from by omega)
  · skip
    replace c11 : ¬ (x2 ≠ y0) := c11
    exact hQ (-1) (show (-1 : Int) ≤ (-1) ∧ (-1) ≤ (11 : Int) from by omega)
theorem sm_149_p30 {Q : Int → lf_Z → Prop} {x1 : Int} {y0 : Int} {s : lf_Z} (hQ : ∀ (r : Int), ((-1) ≤ r ∧ r ≤ 11) → Q r s) (hI : iv_A s.1 s.2.2) (bx1 : 0 ≤ x1 ∧ x1 ≤ 15) (by0 : 0 ≤ y0 ∧ y0 ≤ 1) : fm_149_p30 Q x1 y0 s := by
  unfold fm_149_p30
  refine ⟨(show (0 : Int) ≤ x1 ∧ x1 < (16 : Int) from by omega), ?_⟩
  have b8 : 0 ≤ s.1 5 x1 ∧ s.1 5 x1 ≤ 11 := iv_r5 hI _
  refine ⟨(show (0 : Int) ≤ s.1 5 x1 ∧ s.1 5 x1 < (12 : Int) from by omega), ?_⟩
  have b9 : 0 ≤ s.1 2 (s.1 5 x1) ∧ s.1 2 (s.1 5 x1) ≤ 3 := iv_r2 hI _
  refine ⟨(show lf_R (s.1 2 (s.1 5 x1)) from lf_Rof (by omega)), ?_⟩
  refine ⟨fun c10 => ?_, fun c10 => ?_⟩
  · skip
    replace c10 : s.1 2 (s.1 5 x1) ≠ 3 := c10
    exact sm_149_p51 hQ hI (show (0 : Int) ≤ x1 ∧ x1 ≤ (15 : Int) from by omega) (show (0 : Int) ≤ y0 ∧ y0 ≤ (1 : Int) from by omega) (show (0 : Int) ≤ 0 ∧ 0 ≤ (1 : Int) from by omega)
  · skip
    replace c10 : ¬ (s.1 2 (s.1 5 x1) ≠ 3) := c10
    exact sm_149_p51 hQ hI (show (0 : Int) ≤ x1 ∧ x1 ≤ (15 : Int) from by omega) (show (0 : Int) ≤ y0 ∧ y0 ≤ (1 : Int) from by omega) (show (0 : Int) ≤ 1 ∧ 1 ≤ (1 : Int) from by omega)
theorem sm_149 {a1 : Int} {Q : Int → lf_Z → Prop} {s : lf_Z} (hI : iv_A s.1 s.2.2) (ba1 : 0 ≤ a1 ∧ a1 ≤ 15) (hQ : ∀ (r : Int), ((-1) ≤ r ∧ r ≤ 11) → Q r s) : fm_149 a1 Q s := by
  unfold fm_149
  refine sm_89 hI (show (-2147483648 : Int) ≤ a1 ∧ a1 ≤ (2147483647 : Int) from by omega) (fun z22 q1 => ?_)
  have b2 : 0 ≤ s.1 1 1 ∧ s.1 1 1 ≤ 16 := iv_r1_1 hI
  have b3 : 0 ≤ s.1 6 a1 ∧ s.1 6 a1 ≤ 1 := iv_r6 hI _
  refine ⟨fun c4 => ?_, fun c4 => ?_⟩
  · skip
    have dc4 := q1.1 c4
    refine ⟨(show (0 : Int) ≤ a1 ∧ a1 < (16 : Int) from by omega), ?_⟩
    have b5 : 0 ≤ s.1 4 a1 ∧ s.1 4 a1 ≤ 11 := iv_r4 hI _
    refine ⟨(show (0 : Int) ≤ s.1 4 a1 ∧ s.1 4 a1 < (12 : Int) from by omega), ?_⟩
    have b6 : 0 ≤ s.1 2 (s.1 4 a1) ∧ s.1 2 (s.1 4 a1) ≤ 3 := iv_r2 hI _
    refine ⟨(show lf_R (s.1 2 (s.1 4 a1)) from lf_Rof (by omega)), ?_⟩
    refine ⟨fun c7 => ?_, fun c7 => ?_⟩
    · skip
      replace c7 : s.1 2 (s.1 4 a1) ≠ 3 := c7
      exact sm_149_p30 hQ hI (show (0 : Int) ≤ a1 ∧ a1 ≤ (15 : Int) from by omega) (show (0 : Int) ≤ 0 ∧ 0 ≤ (1 : Int) from by omega)
    · skip
      replace c7 : ¬ (s.1 2 (s.1 4 a1) ≠ 3) := c7
      exact sm_149_p30 hQ hI (show (0 : Int) ≤ a1 ∧ a1 ≤ (15 : Int) from by omega) (show (0 : Int) ≤ 1 ∧ 1 ≤ (1 : Int) from by omega)
  · skip
    have dc4 := q1.2 c4
    exact hQ (-1) (show (-1 : Int) ≤ (-1) ∧ (-1) ≤ (11 : Int) from by omega)
-- fm_151 Land.distanceByGates 1 i i
theorem sm_151 {a1 : Int} {a2 : Int} {Q : Int → lf_Z → Prop} {s : lf_Z} (hI : iv_A s.1 s.2.2) (ba1 : 0 ≤ a1 ∧ a1 ≤ 11) (ba2 : (-2147483648) ≤ a2 ∧ a2 ≤ 2147483647) (hQ : ∀ (r : Int), ((0 ≤ r ∧ r ≤ 1000) ∧ (1000 ≤ r ∨ (0 ≤ a1 ∧ a1 < s.1 1 0 ∧ 0 ≤ a2 ∧ a2 < s.1 1 0))) → Q r s) : fm_151 a1 a2 Q s := by
  unfold fm_151
  refine sm_18 hI (show (-2147483648 : Int) ≤ a1 ∧ a1 ≤ (2147483647 : Int) from by omega) (fun z22 q1 => ?_)
  have b2 : 0 ≤ s.1 1 0 ∧ s.1 1 0 ≤ 12 := iv_r1_0 hI
  refine ⟨fun c3 => ?_, fun c3 => ?_⟩
  · skip
    have dc3 := q1.2 c3
    exact hQ 1000 ⟨(show (0 : Int) ≤ 1000 ∧ 1000 ≤ (1000 : Int) from by omega), (show 1000 ≤ 1000 ∨ (0 ≤ a1 ∧ a1 < s.1 1 0 ∧ 0 ≤ a2 ∧ a2 < s.1 1 0) from by omega)⟩
  · skip
    have dc3 := q1.1 c3
    refine sm_18 hI (show (-2147483648 : Int) ≤ a2 ∧ a2 ≤ (2147483647 : Int) from by omega) (fun z24 q4 => ?_)
    refine ⟨fun c5 => ?_, fun c5 => ?_⟩
    · skip
      have dc5 := q4.2 c5
      exact hQ 1000 ⟨(show (0 : Int) ≤ 1000 ∧ 1000 ≤ (1000 : Int) from by omega), (show 1000 ≤ 1000 ∨ (0 ≤ a1 ∧ a1 < s.1 1 0 ∧ 0 ≤ a2 ∧ a2 < s.1 1 0) from by omega)⟩
    · skip
      have dc5 := q4.1 c5
      refine ⟨(show (0 : Int) ≤ (a1 * 12) + a2 ∧ (a1 * 12) + a2 < (144 : Int) from by omega), ?_⟩
      have b6 : 0 ≤ s.1 14 ((a1 * 12) + a2) ∧ s.1 14 ((a1 * 12) + a2) ≤ 1000 := iv_r14 hI _
      exact hQ (s.1 14 ((a1 * 12) + a2)) ⟨(show (0 : Int) ≤ s.1 14 ((a1 * 12) + a2) ∧ s.1 14 ((a1 * 12) + a2) ≤ (1000 : Int) from by omega), (show 1000 ≤ s.1 14 ((a1 * 12) + a2) ∨ (0 ≤ a1 ∧ a1 < s.1 1 0 ∧ 0 ≤ a2 ∧ a2 < s.1 1 0) from by omega)⟩
-- fm_150 Notes.couldAllBeFrom 25 i 1
theorem sm_150_p2 {X2 : Int → lf_Z → Prop} {Q : Bool → lf_Z → Prop} {x1 : Int} {x3 : Int} {s : lf_Z} (hQ : ∀ (z : Bool), Q z s) {M2 : Nat} (hX2 : ∀ (x3 : Int), 0 ≤ x3 ∧ x3 ≤ 6 → (6 - x3).toNat < M2 → X2 x3 s) (hM2 : (6 - x3).toNat ≤ M2) (hI : iv_A s.1 s.2.2) (bx1 : 0 ≤ x1 ∧ x1 ≤ 11) (bx3 : 0 ≤ x3 ∧ x3 ≤ 6) : fm_150_p2 Q x1 X2 x3 s := by
  unfold fm_150_p2
  have b1 : 0 ≤ s.1 25 2 ∧ s.1 25 2 ≤ 6 := iv_r25_2 hI
  refine ⟨(show lf_R x3 from lf_Rof (by omega)), ?_⟩
  refine ⟨(show lf_R (s.1 25 2) from lf_Rof (by omega)), ?_⟩
  refine ⟨fun c2 => ?_, fun c2 => ?_⟩
  · skip
    replace c2 : s.1 25 2 ≤ x3 := c2
    exact hQ true
  · skip
    replace c2 : ¬ (s.1 25 2 ≤ x3) := c2
    refine ⟨(show (0 : Int) ≤ x3 ∧ x3 < (6 : Int) from by omega), ?_⟩
    have b3 : (-2147483648) ≤ s.1 26 x3 ∧ s.1 26 x3 ≤ 2147483647 := iv_full hI
    refine sm_151 hI (show (0 : Int) ≤ x1 ∧ x1 ≤ (11 : Int) from by omega) (show (-2147483648 : Int) ≤ s.1 26 x3 ∧ s.1 26 x3 ≤ (2147483647 : Int) from by omega) (fun r25 q4 => ?_)
    obtain ⟨q4, q4x⟩ := q4
    have b5 : 0 ≤ s.1 1 0 ∧ s.1 1 0 ≤ 12 := iv_r1_0 hI
    replace q4x : 1000 ≤ r25 ∨ (0 ≤ x1 ∧ x1 < s.1 1 0 ∧ 0 ≤ (s.1 26 x3) ∧ (s.1 26 x3) < s.1 1 0) := q4x
    have b6 : (-2147483648) ≤ s.1 27 x3 ∧ s.1 27 x3 ≤ 2147483647 := iv_full hI
    refine ⟨(show lf_R r25 from lf_Rof (by omega)), ?_⟩
    refine ⟨(show lf_R (s.1 27 x3) from lf_Rof (by omega)), ?_⟩
    refine ⟨fun c7 => ?_, fun c7 => ?_⟩
    · skip
      replace c7 : r25 ≤ s.1 27 x3 := c7
      exact hX2 (x3 + 1) (show (0 : Int) ≤ x3 + 1 ∧ x3 + 1 ≤ (6 : Int) from by omega) (show (6 - (x3 + 1)).toNat < M2 from by omega)
    · skip
      replace c7 : ¬ (r25 ≤ s.1 27 x3) := c7
      exact hQ false
theorem sm_150_p2L {Q : Bool → lf_Z → Prop} {x1 : Int} {x3 : Int} {s : lf_Z} (hQ : ∀ (z : Bool), Q z s) (hI : iv_A s.1 s.2.2) (bx1 : 0 ≤ x1 ∧ x1 ≤ 11) (bx3 : 0 ≤ x3 ∧ x3 ≤ 6) : fm_150_p2L Q x1 x3 s := by
  intro X2 hX
  have key : ∀ (m9 : Nat) (x3 : Int), 0 ≤ x3 ∧ x3 ≤ 6 → (6 - x3).toNat < m9 → X2 x3 s := by
    intro m9
    induction m9 with
    | zero => intro x3 bx3 h9; exact absurd h9 (Nat.not_lt_zero _)
    | succ m9 ih => intro x3 bx3 h9; exact hX _ _ (sm_150_p2 hQ   (fun x3' bx3' h8 => ih x3' bx3' (by omega)) (Nat.le_refl _)  hI  bx1 bx3  )
  exact key _ _ bx3   (Nat.lt_succ_self _)
theorem sm_150 {a1 : Int} {Q : Bool → lf_Z → Prop} {s : lf_Z} (hI : iv_A s.1 s.2.2) (ba1 : 0 ≤ a1 ∧ a1 ≤ 11) (hQ : ∀ (z : Bool), Q z s) : fm_150 a1 Q s := by
  unfold fm_150
  exact sm_150_p2L hQ hI (show (0 : Int) ≤ a1 ∧ a1 ≤ (11 : Int) from by omega) (show (0 : Int) ≤ 0 ∧ 0 ≤ (6 : Int) from by omega)
-- fm_147 ElevenBullocks.which 0
theorem sm_147_p57 {X11 : Int → Int → lf_Z → Prop} {Q : Int → lf_Z → Prop} {x1 : Int} {x2 : Int} {s : lf_Z} (hQ : ∀ (r : Int) (s' : lf_Z), iv_A s'.1 s'.2.2 → lf_fq [14] 1000000 true s.1 s.2.2 s'.1 s'.2.2 → ((-2147483648) ≤ r ∧ r ≤ 2147483647) → Q r s') {M11 : Nat} (hX11 : ∀ (x1 : Int) (x2 : Int) (s' : lf_Z), iv_A s'.1 s'.2.2 → lf_fq [14] 1000000 true s.1 s.2.2 s'.1 s'.2.2 → (-2147483648) ≤ x1 ∧ x1 ≤ 2147483647 → 0 ≤ x2 ∧ x2 ≤ 16 → (16 - x2).toNat < M11 → X11 x1 x2 s') (hM11 : (16 - x2).toNat ≤ M11) (hI : iv_A s.1 s.2.2) (bx1 : (-2147483648) ≤ x1 ∧ x1 ≤ 2147483647) (bx2 : 0 ≤ x2 ∧ x2 ≤ 15) : fm_147_p57 X11 Q x1 x2 s := by
  unfold fm_147_p57
  exact hX11 (x1) (x2 + 1) s hI (lf_fq_rf) (show (-2147483648 : Int) ≤ x1 ∧ x1 ≤ (2147483647 : Int) from by omega) (show (0 : Int) ≤ x2 + 1 ∧ x2 + 1 ≤ (16 : Int) from by omega) (show (16 - (x2 + 1)).toNat < M11 from by omega)
theorem sm_147_p11 {X11 : Int → Int → lf_Z → Prop} {Q : Int → lf_Z → Prop} {x1 : Int} {x2 : Int} {s : lf_Z} (hQ : ∀ (r : Int) (s' : lf_Z), iv_A s'.1 s'.2.2 → lf_fq [14] 1000000 true s.1 s.2.2 s'.1 s'.2.2 → ((-2147483648) ≤ r ∧ r ≤ 2147483647) → Q r s') {M11 : Nat} (hX11 : ∀ (x1 : Int) (x2 : Int) (s' : lf_Z), iv_A s'.1 s'.2.2 → lf_fq [14] 1000000 true s.1 s.2.2 s'.1 s'.2.2 → (-2147483648) ≤ x1 ∧ x1 ≤ 2147483647 → 0 ≤ x2 ∧ x2 ≤ 16 → (16 - x2).toNat < M11 → X11 x1 x2 s') (hM11 : (16 - x2).toNat ≤ M11) (hI : iv_A s.1 s.2.2) (bx1 : (-2147483648) ≤ x1 ∧ x1 ≤ 2147483647) (bx2 : 0 ≤ x2 ∧ x2 ≤ 16) : fm_147_p11 Q X11 x1 x2 s := by
  unfold fm_147_p11
  have b5 : 0 ≤ s.1 1 1 ∧ s.1 1 1 ≤ 16 := iv_r1_1 hI
  refine ⟨(show lf_R x2 from lf_Rof (by omega)), ?_⟩
  refine ⟨(show lf_R (s.1 1 1) from lf_Rof (by omega)), ?_⟩
  refine ⟨fun c6 => ?_, fun c6 => ?_⟩
  · skip
    replace c6 : s.1 1 1 ≤ x2 := c6
    exact hQ x1 s hI (lf_fq_rf) (show (-2147483648 : Int) ≤ x1 ∧ x1 ≤ (2147483647 : Int) from by omega)
  · skip
    replace c6 : ¬ (s.1 1 1 ≤ x2) := c6
    refine sm_149 hI (show (0 : Int) ≤ x2 ∧ x2 ≤ (15 : Int) from by omega) (fun r25 q7 => ?_)
    refine ⟨(show lf_R r25 from lf_Rof (by omega)), ?_⟩
    refine ⟨fun c8 => ?_, fun c8 => ?_⟩
    · skip
      replace c8 : r25 = (-1) := c8
      exact sm_147_p57 hQ hX11 (show (16 - x2).toNat ≤ M11 from by omega) hI (show (-2147483648 : Int) ≤ x1 ∧ x1 ≤ (2147483647 : Int) from by omega) (show (0 : Int) ≤ x2 ∧ x2 ≤ (15 : Int) from by omega)
    · skip
      replace c8 : ¬ (r25 = (-1)) := c8
      refine sm_150 hI (show (0 : Int) ≤ r25 ∧ r25 ≤ (11 : Int) from by omega) (fun z28 => ?_)
      refine ⟨fun c10 => ?_, fun c10 => ?_⟩
      · skip
        exact sm_147_p57 hQ hX11 (show (16 - x2).toNat ≤ M11 from by omega) hI (show (-2147483648 : Int) ≤ x1 ∧ x1 ≤ (2147483647 : Int) from by omega) (show (0 : Int) ≤ x2 ∧ x2 ≤ (15 : Int) from by omega)
      · skip
        have b11 : 1 ≤ lf_shl 1 x2 ∧ lf_shl 1 x2 ≤ 32768 := lf_shl1 (m := 15) (by omega) (by omega) (by decide)
        have b12 : (-2147483648) ≤ lf_or x1 (lf_shl 1 x2) ∧ lf_or x1 (lf_shl 1 x2) ≤ 2147483647 := lf_orB
        exact sm_147_p57 hQ hX11 (show (16 - x2).toNat ≤ M11 from by omega) hI (show (-2147483648 : Int) ≤ lf_or x1 (lf_shl 1 x2) ∧ lf_or x1 (lf_shl 1 x2) ≤ (2147483647 : Int) from by omega) (show (0 : Int) ≤ x2 ∧ x2 ≤ (15 : Int) from by omega)
theorem sm_147_p11L {Q : Int → lf_Z → Prop} {x1 : Int} {x2 : Int} {s : lf_Z} (hQ : ∀ (r : Int) (s' : lf_Z), iv_A s'.1 s'.2.2 → lf_fq [14] 1000000 true s.1 s.2.2 s'.1 s'.2.2 → ((-2147483648) ≤ r ∧ r ≤ 2147483647) → Q r s') (hI : iv_A s.1 s.2.2) (bx1 : (-2147483648) ≤ x1 ∧ x1 ≤ 2147483647) (bx2 : 0 ≤ x2 ∧ x2 ≤ 16) : fm_147_p11L Q x1 x2 s := by
  intro X11 hX
  have key : ∀ (m9 : Nat) (x1 : Int) (x2 : Int) (s' : lf_Z), iv_A s'.1 s'.2.2 → lf_fq [14] 1000000 true s.1 s.2.2 s'.1 s'.2.2 → (-2147483648) ≤ x1 ∧ x1 ≤ 2147483647 → 0 ≤ x2 ∧ x2 ≤ 16 → (16 - x2).toNat < m9 → X11 x1 x2 s' := by
    intro m9
    induction m9 with
    | zero => intro x1 x2 s' _ _ bx1 bx2 h9; exact absurd h9 (Nat.not_lt_zero _)
    | succ m9 ih => intro x1 x2 s' i7 f7 bx1 bx2 h9; exact hX _ _ _ (sm_147_p11 (fun r9 t9 i9 f9 => hQ r9 t9 i9 (lf_fq_tr f7 f9))   (fun x1' x2' t8 i8 f8 bx1' bx2' h8 => ih x1' x2' t8 i8 (lf_fq_tr f7 f8) bx1' bx2' (by omega)) (Nat.le_refl _)  i7  bx1 bx2  )
  exact key _ _ _ s hI lf_fq_rf bx1 bx2 (Nat.lt_succ_self _)
theorem sm_147 {Q : Int → lf_Z → Prop} {s : lf_Z} (hI : iv_A s.1 s.2.2) (hQ : ∀ (r : Int) (s' : lf_Z), iv_A s'.1 s'.2.2 → lf_fq [14] 1000000 true s.1 s.2.2 s'.1 s'.2.2 → ((-2147483648) ≤ r ∧ r ≤ 2147483647) → Q r s') : fm_147 Q s := by
  unfold fm_147
  refine sm_148 hI (fun s21 hI2 fr1 => ?_)
  have fr4 : lf_fq [14] 1000000 true s.1 s.2.2 s21.1 s21.2.2 := lf_fq_tr (lf_fq_rf) (lf_fq_wk fr1 rfl (by decide) (by decide))
  exact sm_147_p11L (fun r9 t9 i9 f9 => hQ r9 t9 i9 (lf_fq_tr fr4 f9)) hI2 (show (-2147483648 : Int) ≤ 0 ∧ 0 ≤ (2147483647 : Int) from by omega) (show (0 : Int) ≤ 0 ∧ 0 ≤ (16 : Int) from by omega)
-- fm_307 Model.isFrom 95 i
theorem sm_307_p8 {X8 : Int → lf_Z → Prop} {Q : Bool → lf_Z → Prop} {x2 : Int} {s : lf_Z} (hQ : ∀ (z : Bool) (s' : lf_Z), iv_A s'.1 s'.2.2 → lf_fq [108] 1000000 true s.1 s.2.2 s'.1 s'.2.2 → Q z s') {M8 : Nat} (hX8 : ∀ (x2 : Int) (s' : lf_Z), iv_A s'.1 s'.2.2 → lf_fq [108] 1000000 true s.1 s.2.2 s'.1 s'.2.2 → 0 ≤ x2 ∧ x2 ≤ 6 → (6 - x2).toNat < M8 → X8 x2 s') (hM8 : (6 - x2).toNat ≤ M8) (hI : iv_A s.1 s.2.2) (bx2 : 0 ≤ x2 ∧ x2 ≤ 6) : fm_307_p8 Q X8 x2 s := by
  unfold fm_307_p8
  have b6 : 0 ≤ s.1 96 10 ∧ s.1 96 10 ≤ 6 := iv_rd96 hI (iv_f2f8ad25f (by omega))
  refine ⟨(show lf_R x2 from lf_Rof (by omega)), ?_⟩
  refine ⟨(show lf_R (s.1 96 10) from lf_Rof (by omega)), ?_⟩
  refine ⟨fun c7 => ?_, fun c7 => ?_⟩
  · skip
    replace c7 : s.1 96 10 ≤ x2 := c7
    exact hQ true s hI (lf_fq_rf)
  · skip
    replace c7 : ¬ (s.1 96 10 ≤ x2) := c7
    refine ⟨(show (0 : Int) ≤ 162 + (2 * x2) ∧ 162 + (2 * x2) < (1538 : Int) from by omega), ?_⟩
    have b8 : 0 ≤ s.1 96 (162 + (2 * x2)) ∧ s.1 96 (162 + (2 * x2)) ≤ 11 := iv_rd96 hI (iv_f0460dfb4 (x2) (by omega) (by omega))
    refine ⟨(show (0 : Int) ≤ s.1 96 (162 + (2 * x2)) ∧ s.1 96 (162 + (2 * x2)) < (12 : Int) from by omega), ?_⟩
    have b9 : 0 ≤ s.1 108 (s.1 96 (162 + (2 * x2))) ∧ s.1 108 (s.1 96 (162 + (2 * x2))) ≤ 1000 := iv_r108 hI _
    refine ⟨(show (0 : Int) ≤ (162 + (2 * x2)) + 1 ∧ (162 + (2 * x2)) + 1 < (1538 : Int) from by omega), ?_⟩
    have b10 : (-2147483648) ≤ s.1 96 ((162 + (2 * x2)) + 1) ∧ s.1 96 ((162 + (2 * x2)) + 1) ≤ 2147483647 := iv_full hI
    refine ⟨(show lf_R (s.1 108 (s.1 96 (162 + (2 * x2)))) from lf_Rof (by omega)), ?_⟩
    refine ⟨(show lf_R (s.1 96 ((162 + (2 * x2)) + 1)) from lf_Rof (by omega)), ?_⟩
    refine ⟨fun c11 => ?_, fun c11 => ?_⟩
    · skip
      replace c11 : s.1 108 (s.1 96 (162 + (2 * x2))) ≤ s.1 96 ((162 + (2 * x2)) + 1) := c11
      exact hX8 (x2 + 1) s hI (lf_fq_rf) (show (0 : Int) ≤ x2 + 1 ∧ x2 + 1 ≤ (6 : Int) from by omega) (show (6 - (x2 + 1)).toNat < M8 from by omega)
    · skip
      replace c11 : ¬ (s.1 108 (s.1 96 (162 + (2 * x2))) ≤ s.1 96 ((162 + (2 * x2)) + 1)) := c11
      exact hQ false s hI (lf_fq_rf)
theorem sm_307_p8L {Q : Bool → lf_Z → Prop} {x2 : Int} {s : lf_Z} (hQ : ∀ (z : Bool) (s' : lf_Z), iv_A s'.1 s'.2.2 → lf_fq [108] 1000000 true s.1 s.2.2 s'.1 s'.2.2 → Q z s') (hI : iv_A s.1 s.2.2) (bx2 : 0 ≤ x2 ∧ x2 ≤ 6) : fm_307_p8L Q x2 s := by
  intro X8 hX
  have key : ∀ (m9 : Nat) (x2 : Int) (s' : lf_Z), iv_A s'.1 s'.2.2 → lf_fq [108] 1000000 true s.1 s.2.2 s'.1 s'.2.2 → 0 ≤ x2 ∧ x2 ≤ 6 → (6 - x2).toNat < m9 → X8 x2 s' := by
    intro m9
    induction m9 with
    | zero => intro x2 s' _ _ bx2 h9; exact absurd h9 (Nat.not_lt_zero _)
    | succ m9 ih => intro x2 s' i7 f7 bx2 h9; exact hX _ _ (sm_307_p8 (fun r9 t9 i9 f9 => hQ r9 t9 i9 (lf_fq_tr f7 f9))   (fun x2' t8 i8 f8 bx2' h8 => ih x2' t8 i8 (lf_fq_tr f7 f8) bx2' (by omega)) (Nat.le_refl _)  i7  bx2  )
  exact key _ _ s hI lf_fq_rf bx2 (Nat.lt_succ_self _)
theorem sm_307 {a1 : Int} {Q : Bool → lf_Z → Prop} {s : lf_Z} (hI : iv_A s.1 s.2.2) (ba1 : 0 ≤ a1 ∧ a1 ≤ 11) (hQ : ∀ (z : Bool) (s' : lf_Z), iv_A s'.1 s'.2.2 → lf_fq [108] 1000000 true s.1 s.2.2 s'.1 s'.2.2 → Q z s') : fm_307 a1 Q s := by
  unfold fm_307
  refine sm_261 hI (show (-1 : Int) ≤ a1 ∧ a1 ≤ (11 : Int) from by omega) (show (0 : Int) ≤ 0 ∧ 0 ≤ (1 : Int) from by omega) (fun s21 hI2 fr1 ps4 => ?_)
  replace ps4 : (0 : Int) = 1 → bf_G (s21.1 96) (s21.1 108) (a1) := ps4
  have fr5 : lf_fq [108] 1000000 true s.1 s.2.2 s21.1 s21.2.2 := lf_fq_tr (lf_fq_rf) (lf_fq_wk fr1 rfl (by decide) (by decide))
  exact sm_307_p8L (fun r9 t9 i9 f9 => hQ r9 t9 i9 (lf_fq_tr fr5 f9)) hI2 (show (0 : Int) ≤ 0 ∧ 0 ≤ (6 : Int) from by omega)
-- fm_306 Model.which 95
theorem sm_306_p116 {X4 : Int → Int → lf_Z → Prop} {Q : Int → lf_Z → Prop} {x1 : Int} {x2 : Int} {s : lf_Z} (hQ : ∀ (r : Int) (s' : lf_Z), iv_A s'.1 s'.2.2 → lf_fq [108] 1000000 true s.1 s.2.2 s'.1 s'.2.2 → ((-2147483648) ≤ r ∧ r ≤ 2147483647) → Q r s') {M4 : Nat} (hX4 : ∀ (x1 : Int) (x2 : Int) (s' : lf_Z), iv_A s'.1 s'.2.2 → lf_fq [108] 1000000 true s.1 s.2.2 s'.1 s'.2.2 → (-2147483648) ≤ x1 ∧ x1 ≤ 2147483647 → 0 ≤ x2 ∧ x2 ≤ 16 → (16 - x2).toNat < M4 → X4 x1 x2 s') (hM4 : (16 - x2).toNat ≤ M4) (hI : iv_A s.1 s.2.2) (bx1 : (-2147483648) ≤ x1 ∧ x1 ≤ 2147483647) (bx2 : 0 ≤ x2 ∧ x2 ≤ 15) : fm_306_p116 X4 Q x1 x2 s := by
  unfold fm_306_p116
  exact hX4 (x1) (x2 + 1) s hI (lf_fq_rf) (show (-2147483648 : Int) ≤ x1 ∧ x1 ≤ (2147483647 : Int) from by omega) (show (0 : Int) ≤ x2 + 1 ∧ x2 + 1 ≤ (16 : Int) from by omega) (show (16 - (x2 + 1)).toNat < M4 from by omega)
theorem sm_306_p114 {X4 : Int → Int → lf_Z → Prop} {Q : Int → lf_Z → Prop} {x2 : Int} {y0 : Int} {y1 : Int} {s : lf_Z} (hQ : ∀ (r : Int) (s' : lf_Z), iv_A s'.1 s'.2.2 → lf_fq [108] 1000000 true s.1 s.2.2 s'.1 s'.2.2 → ((-2147483648) ≤ r ∧ r ≤ 2147483647) → Q r s') {M4 : Nat} (hX4 : ∀ (x1 : Int) (x2 : Int) (s' : lf_Z), iv_A s'.1 s'.2.2 → lf_fq [108] 1000000 true s.1 s.2.2 s'.1 s'.2.2 → (-2147483648) ≤ x1 ∧ x1 ≤ 2147483647 → 0 ≤ x2 ∧ x2 ≤ 16 → (16 - x2).toNat < M4 → X4 x1 x2 s') (hM4 : (16 - x2).toNat ≤ M4) (hI : iv_A s.1 s.2.2) (bx2 : 0 ≤ x2 ∧ x2 ≤ 15) (by0 : (-2147483648) ≤ y0 ∧ y0 ≤ 2147483647) (by1 : 0 ≤ y1 ∧ y1 ≤ 32768) : fm_306_p114 X4 Q x2 y0 y1 s := by
  unfold fm_306_p114
  have b20 : (-2147483648) ≤ lf_or y0 y1 ∧ lf_or y0 y1 ≤ 2147483647 := lf_orB
  exact sm_306_p116 hQ hX4 (show (16 - x2).toNat ≤ M4 from by omega) hI (show (-2147483648 : Int) ≤ lf_or y0 y1 ∧ lf_or y0 y1 ≤ (2147483647 : Int) from by omega) (show (0 : Int) ≤ x2 ∧ x2 ≤ (15 : Int) from by omega)
theorem sm_306_p101 {X4 : Int → Int → lf_Z → Prop} {Q : Int → lf_Z → Prop} {x2 : Int} {y0 : Int} {y2 : Int} {s : lf_Z} (hQ : ∀ (r : Int) (s' : lf_Z), iv_A s'.1 s'.2.2 → lf_fq [108] 1000000 true s.1 s.2.2 s'.1 s'.2.2 → ((-2147483648) ≤ r ∧ r ≤ 2147483647) → Q r s') {M4 : Nat} (hX4 : ∀ (x1 : Int) (x2 : Int) (s' : lf_Z), iv_A s'.1 s'.2.2 → lf_fq [108] 1000000 true s.1 s.2.2 s'.1 s'.2.2 → (-2147483648) ≤ x1 ∧ x1 ≤ 2147483647 → 0 ≤ x2 ∧ x2 ≤ 16 → (16 - x2).toNat < M4 → X4 x1 x2 s') (hM4 : (16 - x2).toNat ≤ M4) (hI : iv_A s.1 s.2.2) (bx2 : 0 ≤ x2 ∧ x2 ≤ 15) (by0 : (-2147483648) ≤ y0 ∧ y0 ≤ 2147483647) (by2 : 0 ≤ y2 ∧ y2 ≤ 11) : fm_306_p101 X4 Q x2 y0 y2 s := by
  unfold fm_306_p101
  refine sm_307 hI (show (0 : Int) ≤ y2 ∧ y2 ≤ (11 : Int) from by omega) (fun z39 s38 hI16 fr15 => ?_)
  have fr18 : lf_fq [108] 1000000 true s.1 s.2.2 s38.1 s38.2.2 := lf_fq_tr (lf_fq_rf) (lf_fq_wk fr15 rfl (by decide) (by decide))
  refine ⟨fun c19 => ?_, fun c19 => ?_⟩
  · skip
    exact sm_306_p114 (fun r9 t9 i9 f9 => hQ r9 t9 i9 (lf_fq_tr fr18 f9)) (fun p0 p1 t9 i9 f9 => hX4 p0 p1 t9 i9 (lf_fq_tr fr18 f9)) (show (16 - x2).toNat ≤ M4 from by omega) hI16 (show (0 : Int) ≤ x2 ∧ x2 ≤ (15 : Int) from by omega) (show (-2147483648 : Int) ≤ y0 ∧ y0 ≤ (2147483647 : Int) from by omega) (show (0 : Int) ≤ 0 ∧ 0 ≤ (32768 : Int) from by omega)
  · skip
    have b21 : 1 ≤ lf_shl 1 x2 ∧ lf_shl 1 x2 ≤ 32768 := lf_shl1 (m := 15) (by omega) (by omega) (by decide)
    exact sm_306_p114 (fun r9 t9 i9 f9 => hQ r9 t9 i9 (lf_fq_tr fr18 f9)) (fun p0 p1 t9 i9 f9 => hX4 p0 p1 t9 i9 (lf_fq_tr fr18 f9)) (show (16 - x2).toNat ≤ M4 from by omega) hI16 (show (0 : Int) ≤ x2 ∧ x2 ≤ (15 : Int) from by omega) (show (-2147483648 : Int) ≤ y0 ∧ y0 ≤ (2147483647 : Int) from by omega) (show (0 : Int) ≤ lf_shl 1 x2 ∧ lf_shl 1 x2 ≤ (32768 : Int) from by omega)
theorem sm_306_p78 {X4 : Int → Int → lf_Z → Prop} {Q : Int → lf_Z → Prop} {x1 : Int} {x2 : Int} {x3 : Int} {x4 : Int} {y0 : Int} {y1 : Int} {s : lf_Z} (hQ : ∀ (r : Int) (s' : lf_Z), iv_A s'.1 s'.2.2 → lf_fq [108] 1000000 true s.1 s.2.2 s'.1 s'.2.2 → ((-2147483648) ≤ r ∧ r ≤ 2147483647) → Q r s') {M4 : Nat} (hX4 : ∀ (x1 : Int) (x2 : Int) (s' : lf_Z), iv_A s'.1 s'.2.2 → lf_fq [108] 1000000 true s.1 s.2.2 s'.1 s'.2.2 → (-2147483648) ≤ x1 ∧ x1 ≤ 2147483647 → 0 ≤ x2 ∧ x2 ≤ 16 → (16 - x2).toNat < M4 → X4 x1 x2 s') (hM4 : (16 - x2).toNat ≤ M4) (hI : iv_A s.1 s.2.2) (bx1 : (-2147483648) ≤ x1 ∧ x1 ≤ 2147483647) (bx2 : 0 ≤ x2 ∧ x2 ≤ 15) (bx3 : 0 ≤ x3 ∧ x3 ≤ 11) (bx4 : 0 ≤ x4 ∧ x4 ≤ 11) (by0 : 0 ≤ y0 ∧ y0 ≤ 1) (by1 : 0 ≤ y1 ∧ y1 ≤ 1) : fm_306_p78 X4 Q x1 x2 x3 x4 y0 y1 s := by
  unfold fm_306_p78
  refine ⟨(show lf_R y0 from lf_Rof (by omega)), ?_⟩
  refine ⟨(show lf_R y1 from lf_Rof (by omega)), ?_⟩
  refine ⟨fun c12 => ?_, fun c12 => ?_⟩
  · skip
    replace c12 : y0 ≠ y1 := c12
    refine sm_265 hI (show (0 : Int) ≤ x3 ∧ x3 ≤ (11 : Int) from by omega) (fun r36 q13 => ?_)
    refine ⟨(show lf_R r36 from lf_Rof (by omega)), ?_⟩
    refine ⟨fun c14 => ?_, fun c14 => ?_⟩
    · skip
      replace c14 : r36 ≠ 3 := c14
      exact sm_306_p101 hQ hX4 (show (16 - x2).toNat ≤ M4 from by omega) hI (show (0 : Int) ≤ x2 ∧ x2 ≤ (15 : Int) from by omega) (show (-2147483648 : Int) ≤ x1 ∧ x1 ≤ (2147483647 : Int) from by omega) (show (0 : Int) ≤ x3 ∧ x3 ≤ (11 : Int) from by omega)
    · skip
      replace c14 : ¬ (r36 ≠ 3) := c14
      exact sm_306_p101 hQ hX4 (show (16 - x2).toNat ≤ M4 from by omega) hI (show (0 : Int) ≤ x2 ∧ x2 ≤ (15 : Int) from by omega) (show (-2147483648 : Int) ≤ x1 ∧ x1 ≤ (2147483647 : Int) from by omega) (show (0 : Int) ≤ x4 ∧ x4 ≤ (11 : Int) from by omega)
  · skip
    replace c12 : ¬ (y0 ≠ y1) := c12
    exact sm_306_p116 hQ hX4 (show (16 - x2).toNat ≤ M4 from by omega) hI (show (-2147483648 : Int) ≤ x1 ∧ x1 ≤ (2147483647 : Int) from by omega) (show (0 : Int) ≤ x2 ∧ x2 ≤ (15 : Int) from by omega)
theorem sm_306_p63 {X4 : Int → Int → lf_Z → Prop} {Q : Int → lf_Z → Prop} {x1 : Int} {x2 : Int} {x3 : Int} {x4 : Int} {y0 : Int} {s : lf_Z} (hQ : ∀ (r : Int) (s' : lf_Z), iv_A s'.1 s'.2.2 → lf_fq [108] 1000000 true s.1 s.2.2 s'.1 s'.2.2 → ((-2147483648) ≤ r ∧ r ≤ 2147483647) → Q r s') {M4 : Nat} (hX4 : ∀ (x1 : Int) (x2 : Int) (s' : lf_Z), iv_A s'.1 s'.2.2 → lf_fq [108] 1000000 true s.1 s.2.2 s'.1 s'.2.2 → (-2147483648) ≤ x1 ∧ x1 ≤ 2147483647 → 0 ≤ x2 ∧ x2 ≤ 16 → (16 - x2).toNat < M4 → X4 x1 x2 s') (hM4 : (16 - x2).toNat ≤ M4) (hI : iv_A s.1 s.2.2) (bx1 : (-2147483648) ≤ x1 ∧ x1 ≤ 2147483647) (bx2 : 0 ≤ x2 ∧ x2 ≤ 15) (bx3 : 0 ≤ x3 ∧ x3 ≤ 11) (bx4 : 0 ≤ x4 ∧ x4 ≤ 11) (by0 : 0 ≤ y0 ∧ y0 ≤ 1) : fm_306_p63 X4 Q x1 x2 x3 x4 y0 s := by
  unfold fm_306_p63
  refine sm_265 hI (show (0 : Int) ≤ x4 ∧ x4 ≤ (11 : Int) from by omega) (fun r31 q10 => ?_)
  refine ⟨(show lf_R r31 from lf_Rof (by omega)), ?_⟩
  refine ⟨fun c11 => ?_, fun c11 => ?_⟩
  · skip
    replace c11 : r31 ≠ 3 := c11
    exact sm_306_p78 hQ hX4 (show (16 - x2).toNat ≤ M4 from by omega) hI (show (-2147483648 : Int) ≤ x1 ∧ x1 ≤ (2147483647 : Int) from by omega) (show (0 : Int) ≤ x2 ∧ x2 ≤ (15 : Int) from by omega) (show (0 : Int) ≤ x3 ∧ x3 ≤ (11 : Int) from by omega) (show (0 : Int) ≤ x4 ∧ x4 ≤ (11 : Int) from by omega) (show (0 : Int) ≤ y0 ∧ y0 ≤ (1 : Int) from by omega) (show (0 : Int) ≤ 0 ∧ 0 ≤ (1 : Int) from by omega)
  · skip
    replace c11 : ¬ (r31 ≠ 3) := c11
    exact sm_306_p78 hQ hX4 (show (16 - x2).toNat ≤ M4 from by omega) hI (show (-2147483648 : Int) ≤ x1 ∧ x1 ≤ (2147483647 : Int) from by omega) (show (0 : Int) ≤ x2 ∧ x2 ≤ (15 : Int) from by omega) (show (0 : Int) ≤ x3 ∧ x3 ≤ (11 : Int) from by omega) (show (0 : Int) ≤ x4 ∧ x4 ≤ (11 : Int) from by omega) (show (0 : Int) ≤ y0 ∧ y0 ≤ (1 : Int) from by omega) (show (0 : Int) ≤ 1 ∧ 1 ≤ (1 : Int) from by omega)
theorem sm_306_p4 {X4 : Int → Int → lf_Z → Prop} {Q : Int → lf_Z → Prop} {x1 : Int} {x2 : Int} {s : lf_Z} (hQ : ∀ (r : Int) (s' : lf_Z), iv_A s'.1 s'.2.2 → lf_fq [108] 1000000 true s.1 s.2.2 s'.1 s'.2.2 → ((-2147483648) ≤ r ∧ r ≤ 2147483647) → Q r s') {M4 : Nat} (hX4 : ∀ (x1 : Int) (x2 : Int) (s' : lf_Z), iv_A s'.1 s'.2.2 → lf_fq [108] 1000000 true s.1 s.2.2 s'.1 s'.2.2 → (-2147483648) ≤ x1 ∧ x1 ≤ 2147483647 → 0 ≤ x2 ∧ x2 ≤ 16 → (16 - x2).toNat < M4 → X4 x1 x2 s') (hM4 : (16 - x2).toNat ≤ M4) (hI : iv_A s.1 s.2.2) (bx1 : (-2147483648) ≤ x1 ∧ x1 ≤ 2147483647) (bx2 : 0 ≤ x2 ∧ x2 ≤ 16) : fm_306_p4 Q X4 x1 x2 s := by
  unfold fm_306_p4
  have b1 : 0 ≤ s.1 96 1 ∧ s.1 96 1 ≤ 16 := iv_rd96 hI (iv_fd6ad3e54 (by omega))
  have b2 : s.1 96 1 ≤ 0 ∨ 0 < s.1 96 0 := (show s.1 96 1 ≤ 0 ∨ 0 < s.1 96 0 from iv_l96_1 hI)
  refine ⟨(show lf_R x2 from lf_Rof (by omega)), ?_⟩
  refine ⟨(show lf_R (s.1 96 1) from lf_Rof (by omega)), ?_⟩
  refine ⟨fun c3 => ?_, fun c3 => ?_⟩
  · skip
    replace c3 : s.1 96 1 ≤ x2 := c3
    exact hQ x1 s hI (lf_fq_rf) (show (-2147483648 : Int) ≤ x1 ∧ x1 ≤ (2147483647 : Int) from by omega)
  · skip
    replace c3 : ¬ (s.1 96 1 ≤ x2) := c3
    refine ⟨(show (0 : Int) ≤ 50 + (4 * x2) ∧ 50 + (4 * x2) < (1538 : Int) from by omega), ?_⟩
    have b4 : 0 ≤ s.1 96 (50 + (4 * x2)) ∧ s.1 96 (50 + (4 * x2)) ≤ 11 := iv_rd96 hI (iv_f76190a29 (x2) (by omega) (by omega))
    refine ⟨(show (0 : Int) ≤ (50 + (4 * x2)) + 1 ∧ (50 + (4 * x2)) + 1 < (1538 : Int) from by omega), ?_⟩
    have b5 : 0 ≤ s.1 96 ((50 + (4 * x2)) + 1) ∧ s.1 96 ((50 + (4 * x2)) + 1) ≤ 11 := iv_rd96 hI (iv_fba8b7512 (x2) (by omega) (by omega))
    refine sm_252 hI (show (0 : Int) ≤ x2 ∧ x2 ≤ (15 : Int) from by omega) (fun z26 => ?_)
    refine ⟨fun c7 => ?_, fun c7 => ?_⟩
    · skip
      exact sm_306_p116 hQ hX4 (show (16 - x2).toNat ≤ M4 from by omega) hI (show (-2147483648 : Int) ≤ x1 ∧ x1 ≤ (2147483647 : Int) from by omega) (show (0 : Int) ≤ x2 ∧ x2 ≤ (15 : Int) from by omega)
    · skip
      refine sm_265 hI (show (0 : Int) ≤ s.1 96 (50 + (4 * x2)) ∧ s.1 96 (50 + (4 * x2)) ≤ (11 : Int) from by omega) (fun r28 q8 => ?_)
      refine ⟨(show lf_R r28 from lf_Rof (by omega)), ?_⟩
      refine ⟨fun c9 => ?_, fun c9 => ?_⟩
      · skip
        replace c9 : r28 ≠ 3 := c9
        exact sm_306_p63 hQ hX4 (show (16 - x2).toNat ≤ M4 from by omega) hI (show (-2147483648 : Int) ≤ x1 ∧ x1 ≤ (2147483647 : Int) from by omega) (show (0 : Int) ≤ x2 ∧ x2 ≤ (15 : Int) from by omega) (show (0 : Int) ≤ s.1 96 (50 + (4 * x2)) ∧ s.1 96 (50 + (4 * x2)) ≤ (11 : Int) from by omega) (show (0 : Int) ≤ s.1 96 ((50 + (4 * x2)) + 1) ∧ s.1 96 ((50 + (4 * x2)) + 1) ≤ (11 : Int) from by omega) (show (0 : Int) ≤ 0 ∧ 0 ≤ (1 : Int) from by omega)
      · skip
        replace c9 : ¬ (r28 ≠ 3) := c9
        exact sm_306_p63 hQ hX4 (show (16 - x2).toNat ≤ M4 from by omega) hI (show (-2147483648 : Int) ≤ x1 ∧ x1 ≤ (2147483647 : Int) from by omega) (show (0 : Int) ≤ x2 ∧ x2 ≤ (15 : Int) from by omega) (show (0 : Int) ≤ s.1 96 (50 + (4 * x2)) ∧ s.1 96 (50 + (4 * x2)) ≤ (11 : Int) from by omega) (show (0 : Int) ≤ s.1 96 ((50 + (4 * x2)) + 1) ∧ s.1 96 ((50 + (4 * x2)) + 1) ≤ (11 : Int) from by omega) (show (0 : Int) ≤ 1 ∧ 1 ≤ (1 : Int) from by omega)
theorem sm_306_p4L {Q : Int → lf_Z → Prop} {x1 : Int} {x2 : Int} {s : lf_Z} (hQ : ∀ (r : Int) (s' : lf_Z), iv_A s'.1 s'.2.2 → lf_fq [108] 1000000 true s.1 s.2.2 s'.1 s'.2.2 → ((-2147483648) ≤ r ∧ r ≤ 2147483647) → Q r s') (hI : iv_A s.1 s.2.2) (bx1 : (-2147483648) ≤ x1 ∧ x1 ≤ 2147483647) (bx2 : 0 ≤ x2 ∧ x2 ≤ 16) : fm_306_p4L Q x1 x2 s := by
  intro X4 hX
  have key : ∀ (m9 : Nat) (x1 : Int) (x2 : Int) (s' : lf_Z), iv_A s'.1 s'.2.2 → lf_fq [108] 1000000 true s.1 s.2.2 s'.1 s'.2.2 → (-2147483648) ≤ x1 ∧ x1 ≤ 2147483647 → 0 ≤ x2 ∧ x2 ≤ 16 → (16 - x2).toNat < m9 → X4 x1 x2 s' := by
    intro m9
    induction m9 with
    | zero => intro x1 x2 s' _ _ bx1 bx2 h9; exact absurd h9 (Nat.not_lt_zero _)
    | succ m9 ih => intro x1 x2 s' i7 f7 bx1 bx2 h9; exact hX _ _ _ (sm_306_p4 (fun r9 t9 i9 f9 => hQ r9 t9 i9 (lf_fq_tr f7 f9))   (fun x1' x2' t8 i8 f8 bx1' bx2' h8 => ih x1' x2' t8 i8 (lf_fq_tr f7 f8) bx1' bx2' (by omega)) (Nat.le_refl _)  i7  bx1 bx2  )
  exact key _ _ _ s hI lf_fq_rf bx1 bx2 (Nat.lt_succ_self _)
theorem sm_306 {Q : Int → lf_Z → Prop} {s : lf_Z} (hI : iv_A s.1 s.2.2) (hQ : ∀ (r : Int) (s' : lf_Z), iv_A s'.1 s'.2.2 → lf_fq [108] 1000000 true s.1 s.2.2 s'.1 s'.2.2 → ((-2147483648) ≤ r ∧ r ≤ 2147483647) → Q r s') : fm_306 Q s := by
  unfold fm_306
  exact sm_306_p4L hQ hI (show (-2147483648 : Int) ≤ 0 ∧ 0 ≤ (2147483647 : Int) from by omega) (show (0 : Int) ≤ 0 ∧ 0 ≤ (16 : Int) from by omega)
