-- fm_221 Model.isCompared 95
theorem sm_221_p30 {Q : Bool → lf_Z → Prop} {x1 : Int} {s : lf_Z} (hQ : ∀ (z : Bool), Q z s) (hI : iv_A s.1 s.2.2) (bx1 : (-1) ≤ x1 ∧ x1 ≤ 159) : fm_221_p30 Q x1 s := by
  unfold fm_221_p30
  refine ⟨(show lf_R x1 from lf_Rof (by omega)), ?_⟩
  refine ⟨fun c3 => ?_, fun c3 => ?_⟩
  · skip
    have c3 : x1 < 0 := c3
    exact hQ false
  · skip
    have c3 : ¬ (x1 < 0) := c3
    refine ⟨(show (0 : Int) ≤ x1 ∧ x1 < (160 : Int) from by omega), ?_⟩
    have b4 : 0 ≤ s.1 100 x1 ∧ s.1 100 x1 ≤ 45 := iv_r100 hI _
    refine sm_222 hI (show (0 : Int) ≤ s.1 100 x1 ∧ s.1 100 x1 ≤ (45 : Int) from by omega) (fun r25 q5 => ?_)
    refine ⟨(show lf_R r25 from lf_Rof (by omega)), ?_⟩
    refine ⟨fun c6 => ?_, fun c6 => ?_⟩
    · skip
      have c6 : r25 ≠ 4 := c6
      exact hQ false
    · skip
      have c6 : ¬ (r25 ≠ 4) := c6
      exact hQ true
theorem sm_221_p7 {X7 : Int → lf_Z → Prop} {Q : Bool → lf_Z → Prop} {x1 : Int} {s : lf_Z} (hQ : ∀ (z : Bool), Q z s) {M7 : Nat} (hX7 : ∀ (x1 : Int), (-1) ≤ x1 ∧ x1 ≤ 159 → (x1 - (-1)).toNat < M7 → X7 x1 s) (hM7 : (x1 - (-1)).toNat ≤ M7) (hI : iv_A s.1 s.2.2) (bx1 : (-1) ≤ x1 ∧ x1 ≤ 159) : fm_221_p7 Q X7 x1 s := by
  unfold fm_221_p7
  refine ⟨(show lf_R x1 from lf_Rof (by omega)), ?_⟩
  refine ⟨fun c2 => ?_, fun c2 => ?_⟩
  · skip
    have c2 : x1 < 0 := c2
    exact sm_221_p30 hQ hI (show (-1 : Int) ≤ x1 ∧ x1 ≤ (159 : Int) from by omega)
  · skip
    have c2 : ¬ (x1 < 0) := c2
    refine ⟨(show (0 : Int) ≤ x1 ∧ x1 < (160 : Int) from by omega), ?_⟩
    have b7 : 0 ≤ s.1 100 x1 ∧ s.1 100 x1 ≤ 45 := iv_r100 hI _
    refine sm_222 hI (show (0 : Int) ≤ s.1 100 x1 ∧ s.1 100 x1 ≤ (45 : Int) from by omega) (fun r29 q8 => ?_)
    refine ⟨(show lf_R r29 from lf_Rof (by omega)), ?_⟩
    refine ⟨fun c9 => ?_, fun c9 => ?_⟩
    · skip
      have c9 : r29 ≤ 4 := c9
      exact sm_221_p30 hQ hI (show (-1 : Int) ≤ x1 ∧ x1 ≤ (159 : Int) from by omega)
    · skip
      have c9 : ¬ (r29 ≤ 4) := c9
      exact hX7 (x1 + (-1)) (show (-1 : Int) ≤ x1 + (-1) ∧ x1 + (-1) ≤ (159 : Int) from by omega) (show ((x1 + (-1)) - (-1)).toNat < M7 from by omega)
theorem sm_221_p7L {Q : Bool → lf_Z → Prop} {x1 : Int} {s : lf_Z} (hQ : ∀ (z : Bool), Q z s) (hI : iv_A s.1 s.2.2) (bx1 : (-1) ≤ x1 ∧ x1 ≤ 159) : fm_221_p7L Q x1 s := by
  intro X7 hX
  have key : ∀ (m9 : Nat) (x1 : Int), (-1) ≤ x1 ∧ x1 ≤ 159 → (x1 - (-1)).toNat < m9 → X7 x1 s := by
    intro m9
    induction m9 with
    | zero => intro x1 bx1 h9; exact absurd h9 (Nat.not_lt_zero _)
    | succ m9 ih => intro x1 bx1 h9; exact hX _ _ (sm_221_p7 hQ   (fun x1' bx1' h8 => ih x1' bx1' (by omega)) (Nat.le_refl _)  hI  bx1  )
  exact key _ _ bx1   (Nat.lt_succ_self _)
theorem sm_221 {Q : Bool → lf_Z → Prop} {s : lf_Z} (hI : iv_A s.1 s.2.2) (hQ : ∀ (z : Bool), Q z s) : fm_221 Q s := by
  unfold fm_221
  have b1 : 0 ≤ s.1 95 19 ∧ s.1 95 19 ≤ 160 := iv_r95_19 hI
  exact sm_221_p7L hQ hI (show (-1 : Int) ≤ (s.1 95 19) - 1 ∧ (s.1 95 19) - 1 ≤ (159 : Int) from by omega)
-- fm_223 Model.compareOf 95
theorem sm_223 {Q : Int → lf_Z → Prop} {s : lf_Z} (hI : iv_A s.1 s.2.2) (hQ : ∀ (r : Int), ((-1) ≤ r ∧ r ≤ 15) → Q r s) : fm_223 Q s := by
  unfold fm_223
  have b1 : (-2147483648) ≤ s.1 95 9 ∧ s.1 95 9 ≤ 2147483647 := iv_full hI
  refine ⟨(show lf_R (s.1 95 9) from lf_Rof (by omega)), ?_⟩
  refine ⟨fun c2 => ?_, fun c2 => ?_⟩
  · skip
    have c2 : s.1 95 9 ≠ 60 := c2
    refine ⟨fun c3 => ?_, fun c3 => ?_⟩
    · skip
      have c3 : s.1 95 9 ≠ 4 := c3
      refine ⟨fun c4 => ?_, fun c4 => ?_⟩
      · skip
        have c4 : s.1 95 9 ≠ 62 := c4
        refine ⟨fun c5 => ?_, fun c5 => ?_⟩
        · skip
          have c5 : s.1 95 9 ≠ 5 := c5
          refine ⟨fun c6 => ?_, fun c6 => ?_⟩
          · skip
            have c6 : s.1 95 9 ≠ 61 := c6
            refine ⟨fun c7 => ?_, fun c7 => ?_⟩
            · skip
              have c7 : s.1 95 9 ≠ 35 := c7
              exact hQ (-1) (show (-1 : Int) ≤ (-1) ∧ (-1) ≤ (15 : Int) from by omega)
            · skip
              have c7 : ¬ (s.1 95 9 ≠ 35) := c7
              exact hQ 15 (show (-1 : Int) ≤ 15 ∧ 15 ≤ (15 : Int) from by omega)
          · skip
            have c6 : ¬ (s.1 95 9 ≠ 61) := c6
            exact hQ 14 (show (-1 : Int) ≤ 14 ∧ 14 ≤ (15 : Int) from by omega)
        · skip
          have c5 : ¬ (s.1 95 9 ≠ 5) := c5
          exact hQ 13 (show (-1 : Int) ≤ 13 ∧ 13 ≤ (15 : Int) from by omega)
      · skip
        have c4 : ¬ (s.1 95 9 ≠ 62) := c4
        exact hQ 12 (show (-1 : Int) ≤ 12 ∧ 12 ≤ (15 : Int) from by omega)
    · skip
      have c3 : ¬ (s.1 95 9 ≠ 4) := c3
      exact hQ 11 (show (-1 : Int) ≤ 11 ∧ 11 ≤ (15 : Int) from by omega)
  · skip
    have c2 : ¬ (s.1 95 9 ≠ 60) := c2
    exact hQ 10 (show (-1 : Int) ≤ 10 ∧ 10 ≤ (15 : Int) from by omega)
-- fm_218 Model.betweenOf 95
theorem sm_218 {Q : Int → lf_Z → Prop} {s : lf_Z} (hI : iv_A s.1 s.2.2) (hQ : ∀ (r : Int), ((-1) ≤ r ∧ r ≤ 22) → Q r s) : fm_218 Q s := by
  unfold fm_218
  have b1 : (-2147483648) ≤ s.1 95 9 ∧ s.1 95 9 ≤ 2147483647 := iv_full hI
  refine ⟨(show lf_R (s.1 95 9) from lf_Rof (by omega)), ?_⟩
  refine ⟨fun c2 => ?_, fun c2 => ?_⟩
  · skip
    have c2 : s.1 95 9 ≠ 43 := c2
    refine ⟨fun c3 => ?_, fun c3 => ?_⟩
    · skip
      have c3 : s.1 95 9 ≠ 45 := c3
      refine ⟨fun c4 => ?_, fun c4 => ?_⟩
      · skip
        have c4 : s.1 95 9 ≠ 42 := c4
        refine ⟨fun c5 => ?_, fun c5 => ?_⟩
        · skip
          have c5 : s.1 95 9 ≠ 47 := c5
          refine sm_219 hI (fun r23 q6 => ?_)
          refine ⟨(show lf_R r23 from lf_Rof (by omega)), ?_⟩
          refine ⟨fun c7 => ?_, fun c7 => ?_⟩
          · skip
            have c7 : r23 = 41 := c7
            refine sm_221 hI (fun z26 => ?_)
            refine ⟨fun c9 => ?_, fun c9 => ?_⟩
            · skip
              refine sm_205 hI (show (97 : Int) ≤ 97 ∧ 97 ≤ (119 : Int) from by omega) (show (97 : Int) ≤ 110 ∧ 110 ≤ (117 : Int) from by omega) (show (97 : Int) ≤ 100 ∧ 100 ≤ (122 : Int) from by omega) (fun r28 => ?_)
              refine sm_207 hI (fun z30 => ?_)
              refine ⟨fun c12 => ?_, fun c12 => ?_⟩
              · skip
                refine sm_206 hI (show (97 : Int) ≤ 111 ∧ 111 ≤ (119 : Int) from by omega) (show (97 : Int) ≤ 114 ∧ 114 ≤ (121 : Int) from by omega) (fun r32 => ?_)
                refine sm_207 hI (fun z34 => ?_)
                refine ⟨fun c15 => ?_, fun c15 => ?_⟩
                · skip
                  exact hQ (-1) (show (-1 : Int) ≤ (-1) ∧ (-1) ≤ (22 : Int) from by omega)
                · skip
                  exact hQ 22 (show (-1 : Int) ≤ 22 ∧ 22 ≤ (22 : Int) from by omega)
              · skip
                exact hQ 21 (show (-1 : Int) ≤ 21 ∧ 21 ≤ (22 : Int) from by omega)
            · skip
              refine sm_223 hI (fun r36 q16 => ?_)
              exact hQ r36 (show (-1 : Int) ≤ r36 ∧ r36 ≤ (22 : Int) from by omega)
          · skip
            have c7 : ¬ (r23 = 41) := c7
            exact hQ (-1) (show (-1 : Int) ≤ (-1) ∧ (-1) ≤ (22 : Int) from by omega)
        · skip
          have c5 : ¬ (s.1 95 9 ≠ 47) := c5
          exact hQ 7 (show (-1 : Int) ≤ 7 ∧ 7 ≤ (22 : Int) from by omega)
      · skip
        have c4 : ¬ (s.1 95 9 ≠ 42) := c4
        exact hQ 6 (show (-1 : Int) ≤ 6 ∧ 6 ≤ (22 : Int) from by omega)
    · skip
      have c3 : ¬ (s.1 95 9 ≠ 45) := c3
      exact hQ 5 (show (-1 : Int) ≤ 5 ∧ 5 ≤ (22 : Int) from by omega)
  · skip
    have c2 : ¬ (s.1 95 9 ≠ 43) := c2
    exact hQ 4 (show (-1 : Int) ≤ 4 ∧ 4 ≤ (22 : Int) from by omega)
-- fm_226 Model.partOf 95 i
theorem sm_226 {a1 : Int} {Q : Int → lf_Z → Prop} {s : lf_Z} (hI : iv_A s.1 s.2.2) (ba1 : (-1) ≤ a1 ∧ a1 ≤ 45) (hQ : ∀ (r : Int), ((-1) ≤ r ∧ r ≤ 45) → Q r s) : fm_226 a1 Q s := by
  unfold fm_226
  refine ⟨(show lf_R a1 from lf_Rof (by omega)), ?_⟩
  refine ⟨fun c1 => ?_, fun c1 => ?_, fun c1 => ?_, fun c1 => ?_, fun c1 => ?_, fun c1 => ?_⟩
  · have c1 : a1 ≠ (-1) ∧ a1 ≠ 40 ∧ a1 ≠ 41 ∧ a1 ≠ 42 ∧ a1 ≠ 44 := c1
    refine sm_205 hI (show (97 : Int) ≤ 101 ∧ 101 ≤ (119 : Int) from by omega) (show (97 : Int) ≤ 110 ∧ 110 ≤ (117 : Int) from by omega) (show (97 : Int) ≤ 100 ∧ 100 ≤ (122 : Int) from by omega) (fun r23 => ?_)
    refine sm_207 hI (fun z25 => ?_)
    refine ⟨fun c4 => ?_, fun c4 => ?_⟩
    · skip
      exact hQ (-1) (show (-1 : Int) ≤ (-1) ∧ (-1) ≤ (45 : Int) from by omega)
    · skip
      exact hQ 0 (show (-1 : Int) ≤ 0 ∧ 0 ≤ (45 : Int) from by omega)
  · have c1 : a1 = (-1) := c1
    exact hQ (-1) (show (-1 : Int) ≤ (-1) ∧ (-1) ≤ (45 : Int) from by omega)
  · have c1 : a1 = 40 := c1
    have b5 : (-2147483648) ≤ s.1 95 9 ∧ s.1 95 9 ≤ 2147483647 := iv_full hI
    refine ⟨(show lf_R (s.1 95 9) from lf_Rof (by omega)), ?_⟩
    refine ⟨fun c6 => ?_, fun c6 => ?_⟩
    · skip
      have c6 : s.1 95 9 ≠ 41 := c6
      exact hQ (-1) (show (-1 : Int) ≤ (-1) ∧ (-1) ≤ (45 : Int) from by omega)
    · skip
      have c6 : ¬ (s.1 95 9 ≠ 41) := c6
      exact hQ 0 (show (-1 : Int) ≤ 0 ∧ 0 ≤ (45 : Int) from by omega)
  · have c1 : a1 = 41 := c1
    refine sm_204 hI (show (97 : Int) ≤ 116 ∧ 116 ≤ (116 : Int) from by omega) (show (97 : Int) ≤ 104 ∧ 104 ≤ (117 : Int) from by omega) (show (97 : Int) ≤ 101 ∧ 101 ≤ (122 : Int) from by omega) (show (97 : Int) ≤ 110 ∧ 110 ≤ (117 : Int) from by omega) (fun r28 => ?_)
    refine sm_207 hI (fun z30 => ?_)
    refine ⟨fun c9 => ?_, fun c9 => ?_⟩
    · skip
      exact hQ (-1) (show (-1 : Int) ≤ (-1) ∧ (-1) ≤ (45 : Int) from by omega)
    · skip
      refine sm_221 hI (fun z32 => ?_)
      refine ⟨fun c11 => ?_, fun c11 => ?_⟩
      · skip
        exact hQ (-1) (show (-1 : Int) ≤ (-1) ∧ (-1) ≤ (45 : Int) from by omega)
      · skip
        exact hQ 42 (show (-1 : Int) ≤ 42 ∧ 42 ≤ (45 : Int) from by omega)
  · have c1 : a1 = 42 := c1
    refine sm_204 hI (show (97 : Int) ≤ 101 ∧ 101 ≤ (116 : Int) from by omega) (show (97 : Int) ≤ 108 ∧ 108 ≤ (117 : Int) from by omega) (show (97 : Int) ≤ 115 ∧ 115 ≤ (122 : Int) from by omega) (show (97 : Int) ≤ 101 ∧ 101 ≤ (117 : Int) from by omega) (fun r34 => ?_)
    refine sm_207 hI (fun z36 => ?_)
    refine ⟨fun c14 => ?_, fun c14 => ?_⟩
    · skip
      exact hQ (-1) (show (-1 : Int) ≤ (-1) ∧ (-1) ≤ (45 : Int) from by omega)
    · skip
      exact hQ 43 (show (-1 : Int) ≤ 43 ∧ 43 ≤ (45 : Int) from by omega)
  · have c1 : a1 = 44 := c1
    refine sm_206 hI (show (97 : Int) ≤ 105 ∧ 105 ≤ (119 : Int) from by omega) (show (97 : Int) ≤ 110 ∧ 110 ≤ (121 : Int) from by omega) (fun r38 => ?_)
    refine sm_207 hI (fun z40 => ?_)
    refine ⟨fun c17 => ?_, fun c17 => ?_⟩
    · skip
      exact hQ (-1) (show (-1 : Int) ≤ (-1) ∧ (-1) ≤ (45 : Int) from by omega)
    · skip
      exact hQ 45 (show (-1 : Int) ≤ 45 ∧ 45 ≤ (45 : Int) from by omega)
-- fm_228 Model.shut 95 i
theorem sm_228_p32 {Q : lf_Z → Prop} {x1 : Int} {s : lf_Z} (hQ : ∀  (s' : lf_Z), iv_A s'.1 s'.2.2 → lf_fq [95, 98, 103] 1000000 true s.1 s.2.2 s'.1 s'.2.2 → Q  s') (hI : iv_A s.1 s.2.2) (bx1 : (-1) ≤ x1 ∧ x1 ≤ 45) : fm_228_p32 Q x1 s := by
  unfold fm_228_p32
  refine ⟨(show lf_R x1 from lf_Rof (by omega)), ?_⟩
  refine ⟨fun c9 => ?_, fun c9 => ?_⟩
  · skip
    have c9 : x1 ≠ 45 := c9
    exact hQ s hI (lf_fq_rf)
  · skip
    have c9 : ¬ (x1 ≠ 45) := c9
    have b10 : 0 ≤ s.1 95 21 ∧ s.1 95 21 ≤ 8 := iv_r95_21 hI
    have hI11 : iv_A (lf_up s.1 95 21 ((s.1 95 21) - 1)) s.2.2 := iv_w95_21 hI (by omega)
    have fr12 : lf_fq [95, 98, 103] 1000000 true s.1 s.2.2 (lf_up s.1 95 21 ((s.1 95 21) - 1)) s.2.2 := lf_fq_up (lf_fq_rf) rfl (fun h => absurd h (by decide))
    refine ⟨(show (0 : Int) ≤ (s.1 95 21) - 1 ∧ (s.1 95 21) - 1 < (10 : Int) from by omega), ?_⟩
    have b13 : 0 ≤ s.1 101 ((s.1 95 21) - 1) ∧ s.1 101 ((s.1 95 21) - 1) ≤ 25 := (show 0 ≤ (lf_up s.1 95 21 ((s.1 95 21) - 1)) 101 ((s.1 95 21) - 1) ∧ (lf_up s.1 95 21 ((s.1 95 21) - 1)) 101 ((s.1 95 21) - 1) ≤ 25 from iv_r101 hI11 _)
    have b14 : (-1) ≤ s.1 102 ((s.1 95 21) - 1) ∧ s.1 102 ((s.1 95 21) - 1) ≤ 79 := (show (-1) ≤ (lf_up s.1 95 21 ((s.1 95 21) - 1)) 102 ((s.1 95 21) - 1) ∧ (lf_up s.1 95 21 ((s.1 95 21) - 1)) 102 ((s.1 95 21) - 1) ≤ 79 from iv_r102 hI11 _)
    refine ⟨(show (0 : Int) ≤ s.1 101 ((s.1 95 21) - 1) ∧ s.1 101 ((s.1 95 21) - 1) < (26 : Int) from by omega), ?_⟩
    have hI15 : iv_A (lf_up (lf_up s.1 95 21 ((s.1 95 21) - 1)) 103 (s.1 101 ((s.1 95 21) - 1)) (s.1 102 ((s.1 95 21) - 1))) s.2.2 := iv_w103 hI11 (by omega)
    have fr16 : lf_fq [95, 98, 103] 1000000 true s.1 s.2.2 (lf_up (lf_up s.1 95 21 ((s.1 95 21) - 1)) 103 (s.1 101 ((s.1 95 21) - 1)) (s.1 102 ((s.1 95 21) - 1))) s.2.2 := lf_fq_up fr12 rfl (fun h => absurd h (by decide))
    exact hQ (lf_up (lf_up s.1 95 21 ((s.1 95 21) - 1)) 103 (s.1 101 ((s.1 95 21) - 1)) (s.1 102 ((s.1 95 21) - 1)), s.2.1, s.2.2) hI15 fr16
theorem sm_228 {a1 : Int} {Q : lf_Z → Prop} {s : lf_Z} (hI : iv_A s.1 s.2.2) (ba1 : (-1) ≤ a1 ∧ a1 ≤ 45) (hQ : ∀  (s' : lf_Z), iv_A s'.1 s'.2.2 → lf_fq [95, 98, 103] 1000000 true s.1 s.2.2 s'.1 s'.2.2 → Q  s') : fm_228 a1 Q s := by
  unfold fm_228
  have b1 : 0 ≤ s.1 95 19 ∧ s.1 95 19 ≤ 160 := iv_r95_19 hI
  have hI2 : iv_A (lf_up s.1 95 19 ((s.1 95 19) - 1)) s.2.2 := iv_w95_19 hI (by omega)
  have fr3 : lf_fq [95, 98, 103] 1000000 true s.1 s.2.2 (lf_up s.1 95 19 ((s.1 95 19) - 1)) s.2.2 := lf_fq_up (lf_fq_rf) rfl (fun h => absurd h (by decide))
  have b4 : 0 ≤ s.1 95 20 ∧ s.1 95 20 ≤ 8 := (show 0 ≤ (lf_up s.1 95 19 ((s.1 95 19) - 1)) 95 20 ∧ (lf_up s.1 95 19 ((s.1 95 19) - 1)) 95 20 ≤ 8 from iv_r95_20 hI2)
  have b5 : (lf_up s.1 95 19 ((s.1 95 19) - 1)) 95 20 = s.1 95 20 := lf_up_i (by omega)
  have hI6 : iv_A (lf_up (lf_up s.1 95 19 ((s.1 95 19) - 1)) 95 20 ((s.1 95 20) - 1)) s.2.2 := iv_w95_20 hI2 (by omega)
  have fr7 : lf_fq [95, 98, 103] 1000000 true s.1 s.2.2 (lf_up (lf_up s.1 95 19 ((s.1 95 19) - 1)) 95 20 ((s.1 95 20) - 1)) s.2.2 := lf_fq_up fr3 rfl (fun h => absurd h (by decide))
  refine ⟨(show lf_R a1 from lf_Rof (by omega)), ?_⟩
  refine ⟨fun c8 => ?_, fun c8 => ?_⟩
  · skip
    have c8 : a1 ≠ 43 := c8
    exact sm_228_p32 (fun t9 i9 f9 => hQ t9 i9 (lf_fq_tr fr7 f9)) hI6 (show (-1 : Int) ≤ a1 ∧ a1 ≤ (45 : Int) from by omega)
  · skip
    have c8 : ¬ (a1 ≠ 43) := c8
    refine sm_225 hI6 (show (0 : Int) ≤ 2 ∧ 2 ≤ (45 : Int) from by omega) (show (-2147483648 : Int) ≤ 0 ∧ 0 ≤ (2147483647 : Int) from by omega) (fun s25 hI18 fr17 => ?_)
    have fr20 : lf_fq [95, 98, 103] 1000000 true s.1 s.2.2 s25.1 s25.2.2 := lf_fq_tr fr7 (lf_fq_wk fr17 rfl (by decide) (by decide))
    exact sm_228_p32 (fun t9 i9 f9 => hQ t9 i9 (lf_fq_tr fr20 f9)) hI18 (show (-1 : Int) ≤ a1 ∧ a1 ≤ (45 : Int) from by omega)
-- fm_227 Model.bind 95
theorem sm_227 {Q : lf_Z → Prop} {s : lf_Z} (hI : iv_A s.1 s.2.2) (hQ : ∀  (s' : lf_Z), iv_A s'.1 s'.2.2 → lf_fq [95, 98, 102, 103] 1000000 true s.1 s.2.2 s'.1 s'.2.2 → Q  s') : fm_227 Q s := by
  unfold fm_227
  have b1 : 0 ≤ s.1 95 21 ∧ s.1 95 21 ≤ 8 := iv_r95_21 hI
  refine ⟨(show (0 : Int) ≤ (s.1 95 21) - 1 ∧ (s.1 95 21) - 1 < (10 : Int) from by omega), ?_⟩
  have b2 : 0 ≤ s.1 101 ((s.1 95 21) - 1) ∧ s.1 101 ((s.1 95 21) - 1) ≤ 25 := iv_r101 hI _
  refine ⟨(show (0 : Int) ≤ s.1 101 ((s.1 95 21) - 1) ∧ s.1 101 ((s.1 95 21) - 1) < (26 : Int) from by omega), ?_⟩
  have b3 : (-1) ≤ s.1 103 (s.1 101 ((s.1 95 21) - 1)) ∧ s.1 103 (s.1 101 ((s.1 95 21) - 1)) ≤ 79 := iv_r103 hI _
  have hI4 : iv_A (lf_up s.1 102 ((s.1 95 21) - 1) (s.1 103 (s.1 101 ((s.1 95 21) - 1)))) s.2.2 := iv_w102 hI (by omega)
  have fr5 : lf_fq [95, 98, 102, 103] 1000000 true s.1 s.2.2 (lf_up s.1 102 ((s.1 95 21) - 1) (s.1 103 (s.1 101 ((s.1 95 21) - 1)))) s.2.2 := lf_fq_up (lf_fq_rf) rfl (fun h => absurd h (by decide))
  have b6 : 0 ≤ s.1 95 22 ∧ s.1 95 22 ≤ 80 := (show 0 ≤ (lf_up s.1 102 ((s.1 95 21) - 1) (s.1 103 (s.1 101 ((s.1 95 21) - 1)))) 95 22 ∧ (lf_up s.1 102 ((s.1 95 21) - 1) (s.1 103 (s.1 101 ((s.1 95 21) - 1)))) 95 22 ≤ 80 from iv_r95_22 hI4)
  have hI7 : iv_A (lf_up (lf_up s.1 102 ((s.1 95 21) - 1) (s.1 103 (s.1 101 ((s.1 95 21) - 1)))) 103 (s.1 101 ((s.1 95 21) - 1)) (s.1 95 22)) s.2.2 := iv_w103 hI4 (by omega)
  have fr8 : lf_fq [95, 98, 102, 103] 1000000 true s.1 s.2.2 (lf_up (lf_up s.1 102 ((s.1 95 21) - 1) (s.1 103 (s.1 101 ((s.1 95 21) - 1)))) 103 (s.1 101 ((s.1 95 21) - 1)) (s.1 95 22)) s.2.2 := lf_fq_up fr5 rfl (fun h => absurd h (by decide))
  refine sm_225 hI7 (show (0 : Int) ≤ 30 ∧ 30 ≤ (45 : Int) from by omega) (show (-2147483648 : Int) ≤ s.1 95 22 ∧ s.1 95 22 ≤ (2147483647 : Int) from by omega) (fun s23 hI10 fr9 => ?_)
  have fr12 : lf_fq [95, 98, 102, 103] 1000000 true s.1 s.2.2 s23.1 s23.2.2 := lf_fq_tr fr8 (lf_fq_wk fr9 rfl (by decide) (by decide))
  have b13 : 0 ≤ s23.1 95 22 ∧ s23.1 95 22 ≤ 80 := iv_r95_22 hI10
  have hI14 : iv_A (lf_up s23.1 95 22 ((s23.1 95 22) + 1)) s23.2.2 := iv_w95_22 hI10 (by omega)
  have fr15 : lf_fq [95, 98, 102, 103] 1000000 true s.1 s.2.2 (lf_up s23.1 95 22 ((s23.1 95 22) + 1)) s23.2.2 := lf_fq_up fr12 rfl (fun h => absurd h (by decide))
  exact hQ (lf_up s23.1 95 22 ((s23.1 95 22) + 1), s23.2.1, s23.2.2) hI14 fr15
-- fm_217 Model.behindOne 95
theorem sm_217_p99 {Q : Bool → lf_Z → Prop} {s : lf_Z} (hQ : ∀ (z : Bool) (s' : lf_Z), iv_A s'.1 s'.2.2 → lf_fq [95, 98, 100, 102, 103] 1000000 true s.1 s.2.2 s'.1 s'.2.2 → Q z s') (hI : iv_A s.1 s.2.2) : fm_217_p99 Q s := by
  unfold fm_217_p99
  refine sm_197 hI (fun s36 hI30 fr29 => ?_)
  have fr32 : lf_fq [95, 98, 100, 102, 103] 1000000 true s.1 s.2.2 s36.1 s36.2.2 := lf_fq_tr (lf_fq_rf) (lf_fq_wk fr29 rfl (by decide) (by decide))
  exact hQ true s36 hI30 fr32
theorem sm_217 {Q : Bool → lf_Z → Prop} {s : lf_Z} (hI : iv_A s.1 s.2.2) (hQ : ∀ (z : Bool) (s' : lf_Z), iv_A s'.1 s'.2.2 → lf_fq [95, 98, 100, 102, 103] 1000000 true s.1 s.2.2 s'.1 s'.2.2 → Q z s') : fm_217 Q s := by
  unfold fm_217
  refine sm_218 hI (fun r22 q1 => ?_)
  refine ⟨(show lf_R r22 from lf_Rof (by omega)), ?_⟩
  refine ⟨fun c2 => ?_, fun c2 => ?_⟩
  · skip
    have c2 : r22 < 0 := c2
    refine sm_219 hI (fun r25 q3 => ?_)
    refine sm_226 hI (show (-1 : Int) ≤ r25 ∧ r25 ≤ (45 : Int) from by omega) (fun r27 q4 => ?_)
    refine ⟨(show lf_R r27 from lf_Rof (by omega)), ?_⟩
    refine ⟨fun c5 => ?_, fun c5 => ?_⟩
    · skip
      have c5 : 0 ≤ r27 := c5
      refine sm_224 hI (show (0 : Int) ≤ 1 ∧ 1 ≤ (7 : Int) from by omega) (fun s29 hI7 fr6 => ?_)
      have fr9 : lf_fq [95, 98, 100, 102, 103] 1000000 true s.1 s.2.2 s29.1 s29.2.2 := lf_fq_tr (lf_fq_rf) (lf_fq_wk fr6 rfl (by decide) (by decide))
      refine ⟨fun c10 => ?_, fun c10 => ?_⟩
      · skip
        have c10 : r27 ≤ 0 := c10
        refine sm_228 hI7 (show (-1 : Int) ≤ r25 ∧ r25 ≤ (45 : Int) from by omega) (fun s30 hI12 fr11 => ?_)
        have fr14 : lf_fq [95, 98, 100, 102, 103] 1000000 true s.1 s.2.2 s30.1 s30.2.2 := lf_fq_tr fr9 (lf_fq_wk fr11 rfl (by decide) (by decide))
        refine sm_197 hI12 (fun s31 hI16 fr15 => ?_)
        have fr18 : lf_fq [95, 98, 100, 102, 103] 1000000 true s.1 s.2.2 s31.1 s31.2.2 := lf_fq_tr fr14 (lf_fq_wk fr15 rfl (by decide) (by decide))
        refine sm_224 hI16 (show (0 : Int) ≤ 7 ∧ 7 ≤ (7 : Int) from by omega) (fun s32 hI20 fr19 => ?_)
        have fr22 : lf_fq [95, 98, 100, 102, 103] 1000000 true s.1 s.2.2 s32.1 s32.2.2 := lf_fq_tr fr18 (lf_fq_wk fr19 rfl (by decide) (by decide))
        exact hQ true s32 hI20 fr22
      · skip
        have c10 : ¬ (r27 ≤ 0) := c10
        refine sm_220 hI7 (fun r34 q23 => ?_)
        refine ⟨(show (0 : Int) ≤ r34 ∧ r34 < (160 : Int) from by omega), ?_⟩
        have hI24 : iv_A (lf_up s29.1 100 r34 r27) s29.2.2 := iv_w100 hI7 (by omega)
        have fr25 : lf_fq [95, 98, 100, 102, 103] 1000000 true s.1 s.2.2 (lf_up s29.1 100 r34 r27) s29.2.2 := lf_fq_up fr9 rfl (fun h => absurd h (by decide))
        have hI26 : iv_A (lf_up (lf_up s29.1 100 r34 r27) 95 23 0) s29.2.2 := iv_w95_23 hI24 (by omega)
        have fr27 : lf_fq [95, 98, 100, 102, 103] 1000000 true s.1 s.2.2 (lf_up (lf_up s29.1 100 r34 r27) 95 23 0) s29.2.2 := lf_fq_up fr25 rfl (fun h => absurd h (by decide))
        refine ⟨fun c28 => ?_, fun c28 => ?_⟩
        · skip
          have c28 : r27 ≠ 45 := c28
          exact sm_217_p99 (fun r9 t9 i9 f9 => hQ r9 t9 i9 (lf_fq_tr fr27 f9)) hI26
        · skip
          have c28 : ¬ (r27 ≠ 45) := c28
          refine sm_227 hI26 (fun s37 hI34 fr33 => ?_)
          have fr36 : lf_fq [95, 98, 100, 102, 103] 1000000 true s.1 s.2.2 s37.1 s37.2.2 := lf_fq_tr fr27 (lf_fq_wk fr33 rfl (by decide) (by decide))
          exact sm_217_p99 (fun r9 t9 i9 f9 => hQ r9 t9 i9 (lf_fq_tr fr36 f9)) hI34
    · skip
      have c5 : ¬ (0 ≤ r27) := c5
      exact hQ false s hI (lf_fq_rf)
  · skip
    have c2 : ¬ (r22 < 0) := c2
    refine sm_222 hI (show (0 : Int) ≤ r22 ∧ r22 ≤ (45 : Int) from by omega) (fun r39 q37 => ?_)
    refine sm_224 hI (show (0 : Int) ≤ r39 ∧ r39 ≤ (7 : Int) from by omega) (fun s40 hI39 fr38 => ?_)
    have fr41 : lf_fq [95, 98, 100, 102, 103] 1000000 true s.1 s.2.2 s40.1 s40.2.2 := lf_fq_tr (lf_fq_rf) (lf_fq_wk fr38 rfl (by decide) (by decide))
    have b42 : 0 ≤ s40.1 95 19 ∧ s40.1 95 19 ≤ 160 := iv_r95_19 hI39
    refine ⟨(show (0 : Int) ≤ s40.1 95 19 ∧ s40.1 95 19 < (160 : Int) from by omega), ?_⟩
    have hI43 : iv_A (lf_up s40.1 100 (s40.1 95 19) r22) s40.2.2 := iv_w100 hI39 (by omega)
    have fr44 : lf_fq [95, 98, 100, 102, 103] 1000000 true s.1 s.2.2 (lf_up s40.1 100 (s40.1 95 19) r22) s40.2.2 := lf_fq_up fr41 rfl (fun h => absurd h (by decide))
    have hI45 : iv_A (lf_up (lf_up s40.1 100 (s40.1 95 19) r22) 95 19 ((s40.1 95 19) + 1)) s40.2.2 := iv_w95_19 hI43 (by omega)
    have fr46 : lf_fq [95, 98, 100, 102, 103] 1000000 true s.1 s.2.2 (lf_up (lf_up s40.1 100 (s40.1 95 19) r22) 95 19 ((s40.1 95 19) + 1)) s40.2.2 := lf_fq_up fr44 rfl (fun h => absurd h (by decide))
    have hI47 : iv_A (lf_up (lf_up (lf_up s40.1 100 (s40.1 95 19) r22) 95 19 ((s40.1 95 19) + 1)) 95 23 0) s40.2.2 := iv_w95_23 hI45 (by omega)
    have fr48 : lf_fq [95, 98, 100, 102, 103] 1000000 true s.1 s.2.2 (lf_up (lf_up (lf_up s40.1 100 (s40.1 95 19) r22) 95 19 ((s40.1 95 19) + 1)) 95 23 0) s40.2.2 := lf_fq_up fr46 rfl (fun h => absurd h (by decide))
    refine sm_197 hI47 (fun s42 hI50 fr49 => ?_)
    have fr52 : lf_fq [95, 98, 100, 102, 103] 1000000 true s.1 s.2.2 s42.1 s42.2.2 := lf_fq_tr fr48 (lf_fq_wk fr49 rfl (by decide) (by decide))
    exact hQ true s42 hI50 fr52
-- fm_216 Model.summed 95
theorem sm_216_p46 {X46 : lf_Z → Prop} {Q : Int → lf_Z → Prop} {s : lf_Z} (hQ : ∀ (r : Int) (s' : lf_Z), iv_A s'.1 s'.2.2 → lf_fq [95, 98, 100, 101, 102, 103] 1000000 true s.1 s.2.2 s'.1 s'.2.2 → (0 ≤ r ∧ r ≤ 5) → Q r s') {M46 : Nat} (hX46 : ∀ (s' : lf_Z), iv_A s'.1 s'.2.2 → lf_fq [95, 98, 100, 101, 102, 103] 1000000 true s.1 s.2.2 s'.1 s'.2.2 → 0 < M46 → X46 s') (hM46 : 0 ≤ M46) (hI : iv_A s.1 s.2.2) : fm_216_p46 Q X46 s := by
  unfold fm_216_p46
  have b12 : 0 ≤ s.1 95 23 ∧ s.1 95 23 ≤ 1 := iv_r95_23 hI
  refine ⟨(show lf_R (s.1 95 23) from lf_Rof (by omega)), ?_⟩
  refine ⟨fun c13 => ?_, fun c13 => ?_⟩
  · skip
    have c13 : s.1 95 23 = 0 := c13
    refine sm_229 hI (fun r24 s23 hI15 fr14 q16 => ?_)
    have fr17 : lf_fq [95, 98, 100, 101, 102, 103] 1000000 true s.1 s.2.2 s23.1 s23.2.2 := lf_fq_tr (lf_fq_rf) (lf_fq_wk fr14 rfl (by decide) (by decide))
    refine ⟨(show lf_R r24 from lf_Rof (by omega)), ?_⟩
    refine ⟨fun c18 => ?_, fun c18 => ?_⟩
    · skip
      have c18 : r24 = 0 := c18
      exact hX46  s23 hI15 fr17 (show 0 < M46 from by omega)
    · skip
      have c18 : ¬ (r24 = 0) := c18
      exact hQ r24 s23 hI15 fr17 (show (0 : Int) ≤ r24 ∧ r24 ≤ (5 : Int) from by omega)
  · skip
    have c13 : ¬ (s.1 95 23 = 0) := c13
    refine sm_217 hI (fun z27 s26 hI20 fr19 => ?_)
    have fr22 : lf_fq [95, 98, 100, 101, 102, 103] 1000000 true s.1 s.2.2 s26.1 s26.2.2 := lf_fq_tr (lf_fq_rf) (lf_fq_wk fr19 rfl (by decide) (by decide))
    refine ⟨fun c23 => ?_, fun c23 => ?_⟩
    · skip
      refine sm_219 hI20 (fun r29 q24 => ?_)
      refine ⟨(show lf_R r29 from lf_Rof (by omega)), ?_⟩
      refine ⟨fun c25 => ?_, fun c25 => ?_⟩
      · skip
        have c25 : r29 < 0 := c25
        refine sm_224 hI20 (show (0 : Int) ≤ 1 ∧ 1 ≤ (7 : Int) from by omega) (fun s31 hI27 fr26 => ?_)
        have fr29 : lf_fq [95, 98, 100, 101, 102, 103] 1000000 true s.1 s.2.2 s31.1 s31.2.2 := lf_fq_tr fr22 (lf_fq_wk fr26 rfl (by decide) (by decide))
        exact hQ 0 s31 hI27 fr29 (show (0 : Int) ≤ 0 ∧ 0 ≤ (5 : Int) from by omega)
      · skip
        have c25 : ¬ (r29 < 0) := c25
        exact hQ 1 s26 hI20 fr22 (show (0 : Int) ≤ 1 ∧ 1 ≤ (5 : Int) from by omega)
    · skip
      exact hX46  s26 hI20 fr22 (show 0 < M46 from by omega)
theorem sm_216_p46L {Q : Int → lf_Z → Prop} {s : lf_Z} (hQ : ∀ (r : Int) (s' : lf_Z), iv_A s'.1 s'.2.2 → lf_fq [95, 98, 100, 101, 102, 103] 1000000 true s.1 s.2.2 s'.1 s'.2.2 → (0 ≤ r ∧ r ≤ 5) → Q r s') (hI : iv_A s.1 s.2.2) : fm_216_p46L Q s := by
  intro X46 hX
  have key : ∀ (m9 : Nat) (s' : lf_Z), iv_A s'.1 s'.2.2 → lf_fq [95, 98, 100, 101, 102, 103] 1000000 true s.1 s.2.2 s'.1 s'.2.2 → 0 < m9 → X46 s' := by
    intro m9
    induction m9 with
    | zero => intro  s' _ _  h9; exact absurd h9 (Nat.not_lt_zero _)
    | succ m9 ih => intro  s' i7 f7  h9; exact hX  _ (sm_216_p46 (fun r9 t9 i9 f9 => hQ r9 t9 i9 (lf_fq_tr f7 f9))   (fun  t8 i8 f8  h8 => ih  t8 i8 (lf_fq_tr f7 f8)  (by omega)) (Nat.le_refl _)  i7    )
  exact key _  s hI lf_fq_rf  (Nat.lt_succ_self _)
theorem sm_216_p22 {X22 : Int → lf_Z → Prop} {Q : Int → lf_Z → Prop} {x1 : Int} {s : lf_Z} (hQ : ∀ (r : Int) (s' : lf_Z), iv_A s'.1 s'.2.2 → lf_fq [95, 98, 100, 101, 102, 103] 1000000 true s.1 s.2.2 s'.1 s'.2.2 → (0 ≤ r ∧ r ≤ 5) → Q r s') {M22 : Nat} (hX22 : ∀ (x1 : Int) (s' : lf_Z), iv_A s'.1 s'.2.2 → lf_fq [95, 98, 100, 101, 102, 103] 1000000 true s.1 s.2.2 s'.1 s'.2.2 → 0 ≤ x1 ∧ x1 ≤ 26 → (26 - x1).toNat < M22 → X22 x1 s') (hM22 : (26 - x1).toNat ≤ M22) (hI : iv_A s.1 s.2.2) (bx1 : 0 ≤ x1 ∧ x1 ≤ 26) : fm_216_p22 Q X22 x1 s := by
  unfold fm_216_p22
  refine ⟨(show lf_R x1 from lf_Rof (by omega)), ?_⟩
  refine ⟨fun c9 => ?_, fun c9 => ?_⟩
  · skip
    have c9 : 26 ≤ x1 := c9
    have hI10 : iv_A (lf_up s.1 95 23 0) s.2.2 := iv_w95_23 hI (by omega)
    have fr11 : lf_fq [95, 98, 100, 101, 102, 103] 1000000 true s.1 s.2.2 (lf_up s.1 95 23 0) s.2.2 := lf_fq_up (lf_fq_rf) rfl (fun h => absurd h (by decide))
    exact sm_216_p46L (fun r9 t9 i9 f9 => hQ r9 t9 i9 (lf_fq_tr fr11 f9)) hI10
  · skip
    have c9 : ¬ (26 ≤ x1) := c9
    refine ⟨(show (0 : Int) ≤ x1 ∧ x1 < (26 : Int) from by omega), ?_⟩
    have hI30 : iv_A (lf_up s.1 103 x1 (-1)) s.2.2 := iv_w103 hI (by omega)
    have fr31 : lf_fq [95, 98, 100, 101, 102, 103] 1000000 true s.1 s.2.2 (lf_up s.1 103 x1 (-1)) s.2.2 := lf_fq_up (lf_fq_rf) rfl (fun h => absurd h (by decide))
    exact hX22 (x1 + 1) (lf_up s.1 103 x1 (-1), s.2.1, s.2.2) hI30 fr31 (show (0 : Int) ≤ x1 + 1 ∧ x1 + 1 ≤ (26 : Int) from by omega) (show (26 - (x1 + 1)).toNat < M22 from by omega)
theorem sm_216_p22L {Q : Int → lf_Z → Prop} {x1 : Int} {s : lf_Z} (hQ : ∀ (r : Int) (s' : lf_Z), iv_A s'.1 s'.2.2 → lf_fq [95, 98, 100, 101, 102, 103] 1000000 true s.1 s.2.2 s'.1 s'.2.2 → (0 ≤ r ∧ r ≤ 5) → Q r s') (hI : iv_A s.1 s.2.2) (bx1 : 0 ≤ x1 ∧ x1 ≤ 26) : fm_216_p22L Q x1 s := by
  intro X22 hX
  have key : ∀ (m9 : Nat) (x1 : Int) (s' : lf_Z), iv_A s'.1 s'.2.2 → lf_fq [95, 98, 100, 101, 102, 103] 1000000 true s.1 s.2.2 s'.1 s'.2.2 → 0 ≤ x1 ∧ x1 ≤ 26 → (26 - x1).toNat < m9 → X22 x1 s' := by
    intro m9
    induction m9 with
    | zero => intro x1 s' _ _ bx1 h9; exact absurd h9 (Nat.not_lt_zero _)
    | succ m9 ih => intro x1 s' i7 f7 bx1 h9; exact hX _ _ (sm_216_p22 (fun r9 t9 i9 f9 => hQ r9 t9 i9 (lf_fq_tr f7 f9))   (fun x1' t8 i8 f8 bx1' h8 => ih x1' t8 i8 (lf_fq_tr f7 f8) bx1' (by omega)) (Nat.le_refl _)  i7  bx1  )
  exact key _ _ s hI lf_fq_rf bx1 (Nat.lt_succ_self _)
theorem sm_216 {Q : Int → lf_Z → Prop} {s : lf_Z} (hI : iv_A s.1 s.2.2) (hQ : ∀ (r : Int) (s' : lf_Z), iv_A s'.1 s'.2.2 → lf_fq [95, 98, 100, 101, 102, 103] 1000000 true s.1 s.2.2 s'.1 s'.2.2 → (0 ≤ r ∧ r ≤ 5) → Q r s') : fm_216 Q s := by
  unfold fm_216
  have hI1 : iv_A (lf_up s.1 95 19 0) s.2.2 := iv_w95_19 hI (by omega)
  have fr2 : lf_fq [95, 98, 100, 101, 102, 103] 1000000 true s.1 s.2.2 (lf_up s.1 95 19 0) s.2.2 := lf_fq_up (lf_fq_rf) rfl (fun h => absurd h (by decide))
  have hI3 : iv_A (lf_up (lf_up s.1 95 19 0) 95 20 0) s.2.2 := iv_w95_20 hI1 (by omega)
  have fr4 : lf_fq [95, 98, 100, 101, 102, 103] 1000000 true s.1 s.2.2 (lf_up (lf_up s.1 95 19 0) 95 20 0) s.2.2 := lf_fq_up fr2 rfl (fun h => absurd h (by decide))
  have hI5 : iv_A (lf_up (lf_up (lf_up s.1 95 19 0) 95 20 0) 95 21 0) s.2.2 := iv_w95_21 hI3 (by omega)
  have fr6 : lf_fq [95, 98, 100, 101, 102, 103] 1000000 true s.1 s.2.2 (lf_up (lf_up (lf_up s.1 95 19 0) 95 20 0) 95 21 0) s.2.2 := lf_fq_up fr4 rfl (fun h => absurd h (by decide))
  have hI7 : iv_A (lf_up (lf_up (lf_up (lf_up s.1 95 19 0) 95 20 0) 95 21 0) 95 22 0) s.2.2 := iv_w95_22 hI5 (by omega)
  have fr8 : lf_fq [95, 98, 100, 101, 102, 103] 1000000 true s.1 s.2.2 (lf_up (lf_up (lf_up (lf_up s.1 95 19 0) 95 20 0) 95 21 0) 95 22 0) s.2.2 := lf_fq_up fr6 rfl (fun h => absurd h (by decide))
  exact sm_216_p22L (fun r9 t9 i9 f9 => hQ r9 t9 i9 (lf_fq_tr fr8 f9)) hI7 (show (0 : Int) ≤ 0 ∧ 0 ≤ (26 : Int) from by omega)
-- fm_215 Model.lawClause 95 i
theorem sm_215 {a1 : Int} {Q : Int → lf_Z → Prop} {s : lf_Z} (hI : iv_A s.1 s.2.2) (ba1 : 0 ≤ a1 ∧ a1 ≤ 2819) (hQ : ∀ (r : Int) (s' : lf_Z), iv_A s'.1 s'.2.2 → lf_fq [95, 98, 100, 101, 102, 103] 1000000 true s.1 s.2.2 s'.1 s'.2.2 → (0 ≤ r ∧ r ≤ 5) → Q r s') : fm_215 a1 Q s := by
  unfold fm_215
  have b1 : 0 ≤ s.1 95 13 ∧ s.1 95 13 ≤ 304 := iv_r95_13 hI
  refine ⟨(show (0 : Int) ≤ a1 + 1 ∧ a1 + 1 < (2820 : Int) from by omega), ?_⟩
  have hI2 : iv_A (lf_up s.1 98 (a1 + 1) (s.1 95 13)) s.2.2 := iv_wd98 hI (lf_le2 (iv_f921d6447 (a1) (by omega) (by omega)) (by omega))
  have fr3 : lf_fq [95, 98, 100, 101, 102, 103] 1000000 true s.1 s.2.2 (lf_up s.1 98 (a1 + 1) (s.1 95 13)) s.2.2 := lf_fq_up (lf_fq_rf) rfl (fun h => absurd h (by decide))
  refine sm_216 hI2 (fun r23 s22 hI5 fr4 q6 => ?_)
  have fr7 : lf_fq [95, 98, 100, 101, 102, 103] 1000000 true s.1 s.2.2 s22.1 s22.2.2 := lf_fq_tr fr3 (lf_fq_wk fr4 rfl (by decide) (by decide))
  have b8 : 0 ≤ s22.1 95 13 ∧ s22.1 95 13 ≤ 304 := iv_r95_13 hI5
  refine ⟨(show (0 : Int) ≤ a1 + 2 ∧ a1 + 2 < (2820 : Int) from by omega), ?_⟩
  have hI9 : iv_A (lf_up s22.1 98 (a1 + 2) (s22.1 95 13)) s22.2.2 := iv_wd98 hI5 (lf_le2 (iv_f13f79f2d (a1) (by omega) (by omega)) (by omega))
  have fr10 : lf_fq [95, 98, 100, 101, 102, 103] 1000000 true s.1 s.2.2 (lf_up s22.1 98 (a1 + 2) (s22.1 95 13)) s22.2.2 := lf_fq_up fr7 rfl (fun h => absurd h (by decide))
  exact hQ r23 (lf_up s22.1 98 (a1 + 2) (s22.1 95 13), s22.2.1, s22.2.2) hI9 fr10 (show (0 : Int) ≤ r23 ∧ r23 ≤ (5 : Int) from by omega)
-- fm_213 Model.figure 95 i i i
theorem sm_213 {a1 : Int} {a2 : Int} {a3 : Int} {Q : Int → lf_Z → Prop} {s : lf_Z} (hI : iv_A s.1 s.2.2) (ba1 : 1 ≤ a1 ∧ a1 ≤ 2821) (ba2 : 0 ≤ a2 ∧ a2 ≤ 1) (ba3 : 3 ≤ a3 ∧ a3 ≤ 99) (hQ : ∀ (r : Int) (s' : lf_Z), iv_A s'.1 s'.2.2 → lf_fq [95, 98] 1000000 true s.1 s.2.2 s'.1 s'.2.2 → (0 ≤ r ∧ r ≤ 2) → Q r s') : fm_213 a1 a2 a3 Q s := by
  unfold fm_213
  have b1 : (-2147483648) ≤ s.1 95 9 ∧ s.1 95 9 ≤ 2147483647 := iv_full hI
  refine ⟨(show lf_R (s.1 95 9) from lf_Rof (by omega)), ?_⟩
  refine ⟨fun c2 => ?_, fun c2 => ?_⟩
  · skip
    have c2 : s.1 95 9 = 1 := c2
    have b3 : (-2147483648) ≤ s.1 95 10 ∧ s.1 95 10 ≤ 2147483647 := iv_full hI
    refine sm_183 hI (show (-2147483648 : Int) ≤ s.1 95 10 ∧ s.1 95 10 ≤ (2147483647 : Int) from by omega) (show (-1 : Int) ≤ a2 ∧ a2 ≤ (97 : Int) from by omega) (show (-2147483648 : Int) ≤ a3 ∧ a3 ≤ (2147483647 : Int) from by omega) (fun z23 q4 => ?_)
    refine ⟨fun c5 => ?_, fun c5 => ?_⟩
    · skip
      have dc5 := q4.1 c5
      refine ⟨(show (0 : Int) ≤ a1 ∧ a1 < (2820 : Int) from by omega), ?_⟩
      have hI6 : iv_A (lf_up s.1 98 a1 (s.1 95 10)) s.2.2 := iv_wd98 hI (lf_le2 (iv_fb9e888e2 (a1) (by omega) (by omega)) (by omega))
      have fr7 : lf_fq [95, 98] 1000000 true s.1 s.2.2 (lf_up s.1 98 a1 (s.1 95 10)) s.2.2 := lf_fq_up (lf_fq_rf) rfl (fun h => absurd h (by decide))
      refine sm_197 hI6 (fun s25 hI9 fr8 => ?_)
      have fr11 : lf_fq [95, 98] 1000000 true s.1 s.2.2 s25.1 s25.2.2 := lf_fq_tr fr7 (lf_fq_wk fr8 rfl (by decide) (by decide))
      exact hQ 0 s25 hI9 fr11 (show (0 : Int) ≤ 0 ∧ 0 ≤ (2 : Int) from by omega)
    · skip
      have dc5 := q4.2 c5
      exact hQ 2 s hI (lf_fq_rf) (show (0 : Int) ≤ 2 ∧ 2 ≤ (2 : Int) from by omega)
  · skip
    have c2 : ¬ (s.1 95 9 = 1) := c2
    exact hQ 1 s hI (lf_fq_rf) (show (0 : Int) ≤ 1 ∧ 1 ≤ (2 : Int) from by omega)
-- fm_214 Model.worded 95 l i i i
theorem sm_214 {a1 : Int} {a2 : Int} {a3 : Int} {a4 : Int} {Q : Int → lf_Z → Prop} {s : lf_Z} (hI : iv_A s.1 s.2.2) (ba2 : 2 ≤ a2 ∧ a2 ≤ 2821) (ba3 : 0 ≤ a3 ∧ a3 ≤ 1) (ba4 : 11 ≤ a4 ∧ a4 ≤ 99) (hQ : ∀ (r : Int) (s' : lf_Z), iv_A s'.1 s'.2.2 → lf_fq [95, 98] 1000000 true s.1 s.2.2 s'.1 s'.2.2 → (0 ≤ r ∧ r ≤ 2) → Q r s') : fm_214 a1 a2 a3 a4 Q s := by
  unfold fm_214
  refine sm_207 hI (fun z22 => ?_)
  refine ⟨fun c2 => ?_, fun c2 => ?_⟩
  · skip
    refine sm_197 hI (fun s23 hI4 fr3 => ?_)
    have fr6 : lf_fq [95, 98] 1000000 true s.1 s.2.2 s23.1 s23.2.2 := lf_fq_tr (lf_fq_rf) (lf_fq_wk fr3 rfl (by decide) (by decide))
    refine sm_213 hI4 (show (1 : Int) ≤ a2 ∧ a2 ≤ (2821 : Int) from by omega) (show (0 : Int) ≤ a3 ∧ a3 ≤ (1 : Int) from by omega) (show (3 : Int) ≤ a4 ∧ a4 ≤ (99 : Int) from by omega) (fun r25 s24 hI8 fr7 q9 => ?_)
    have fr10 : lf_fq [95, 98] 1000000 true s.1 s.2.2 s24.1 s24.2.2 := lf_fq_tr fr6 (lf_fq_wk fr7 rfl (by decide) (by decide))
    exact hQ r25 s24 hI8 fr10 (show (0 : Int) ≤ r25 ∧ r25 ≤ (2 : Int) from by omega)
  · skip
    exact hQ 1 s hI (lf_fq_rf) (show (0 : Int) ≤ 1 ∧ 1 ≤ (2 : Int) from by omega)
-- fm_212 Model.pair 95 i i i l i i
theorem sm_212 {a1 : Int} {a2 : Int} {a3 : Int} {a4 : Int} {a5 : Int} {a6 : Int} {Q : Int → lf_Z → Prop} {s : lf_Z} (hI : iv_A s.1 s.2.2) (ba1 : 0 ≤ a1 ∧ a1 ≤ 2819) (ba2 : 0 ≤ a2 ∧ a2 ≤ 1) (ba3 : 3 ≤ a3 ∧ a3 ≤ 24) (ba5 : 0 ≤ a5 ∧ a5 ≤ 1) (ba6 : 11 ≤ a6 ∧ a6 ≤ 99) (hQ : ∀ (r : Int) (s' : lf_Z), iv_A s'.1 s'.2.2 → lf_fq [95, 98] 1000000 true s.1 s.2.2 s'.1 s'.2.2 → (0 ≤ r ∧ r ≤ 2) → Q r s') : fm_212 a1 a2 a3 a4 a5 a6 Q s := by
  unfold fm_212
  refine sm_213 hI (show (1 : Int) ≤ a1 + 1 ∧ a1 + 1 ≤ (2821 : Int) from by omega) (show (0 : Int) ≤ a2 ∧ a2 ≤ (1 : Int) from by omega) (show (3 : Int) ≤ a3 ∧ a3 ≤ (99 : Int) from by omega) (fun r22 s21 hI2 fr1 q3 => ?_)
  have fr4 : lf_fq [95, 98] 1000000 true s.1 s.2.2 s21.1 s21.2.2 := lf_fq_tr (lf_fq_rf) (lf_fq_wk fr1 rfl (by decide) (by decide))
  refine ⟨(show lf_R r22 from lf_Rof (by omega)), ?_⟩
  refine ⟨fun c5 => ?_, fun c5 => ?_⟩
  · skip
    have c5 : r22 = 0 := c5
    refine sm_214 hI2 (show (2 : Int) ≤ a1 + 2 ∧ a1 + 2 ≤ (2821 : Int) from by omega) (show (0 : Int) ≤ a5 ∧ a5 ≤ (1 : Int) from by omega) (show (11 : Int) ≤ a6 ∧ a6 ≤ (99 : Int) from by omega) (fun r25 s24 hI7 fr6 q8 => ?_)
    have fr9 : lf_fq [95, 98] 1000000 true s.1 s.2.2 s24.1 s24.2.2 := lf_fq_tr fr4 (lf_fq_wk fr6 rfl (by decide) (by decide))
    exact hQ r25 s24 hI7 fr9 (show (0 : Int) ≤ r25 ∧ r25 ≤ (2 : Int) from by omega)
  · skip
    have c5 : ¬ (r22 = 0) := c5
    exact hQ r22 s21 hI2 fr4 (show (0 : Int) ≤ r22 ∧ r22 ≤ (2 : Int) from by omega)
-- fm_211 Model.body 95 i i
theorem sm_211 {a1 : Int} {a2 : Int} {Q : Int → lf_Z → Prop} {s : lf_Z} (hI : iv_A s.1 s.2.2) (ba1 : 0 ≤ a1 ∧ a1 ≤ 12) (ba2 : 0 ≤ a2 ∧ a2 ≤ 2819) (hQ : ∀ (r : Int) (s' : lf_Z), iv_A s'.1 s'.2.2 → lf_fq [95, 98, 100, 101, 102, 103] 1000000 true s.1 s.2.2 s'.1 s'.2.2 → (0 ≤ r ∧ r ≤ 5) → Q r s') : fm_211 a1 a2 Q s := by
  unfold fm_211
  refine ⟨(show lf_R a1 from lf_Rof (by omega)), ?_⟩
  refine ⟨fun c1 => ?_, fun c1 => ?_, fun c1 => ?_, fun c1 => ?_, fun c1 => ?_, fun c1 => ?_, fun c1 => ?_, fun c1 => ?_, fun c1 => ?_, fun c1 => ?_, fun c1 => ?_⟩
  · have c1 : a1 < 3 ∨ 12 < a1 := c1
    refine sm_215 hI (show (0 : Int) ≤ a2 ∧ a2 ≤ (2819 : Int) from by omega) (fun r23 s22 hI3 fr2 q4 => ?_)
    have fr5 : lf_fq [95, 98, 100, 101, 102, 103] 1000000 true s.1 s.2.2 s22.1 s22.2.2 := lf_fq_tr (lf_fq_rf) (lf_fq_wk fr2 rfl (by decide) (by decide))
    exact hQ r23 s22 hI3 fr5 (show (0 : Int) ≤ r23 ∧ r23 ≤ (5 : Int) from by omega)
  · have c1 : a1 = 3 := c1
    refine sm_204 hI (show (97 : Int) ≤ 104 ∧ 104 ≤ (116 : Int) from by omega) (show (97 : Int) ≤ 97 ∧ 97 ≤ (117 : Int) from by omega) (show (97 : Int) ≤ 114 ∧ 114 ≤ (122 : Int) from by omega) (show (97 : Int) ≤ 109 ∧ 109 ≤ (117 : Int) from by omega) (fun r25 => ?_)
    refine sm_212 hI (show (0 : Int) ≤ a2 ∧ a2 ≤ (2819 : Int) from by omega) (show (0 : Int) ≤ 0 ∧ 0 ≤ (1 : Int) from by omega) (show (3 : Int) ≤ 3 ∧ 3 ≤ (24 : Int) from by omega) (show (0 : Int) ≤ 0 ∧ 0 ≤ (1 : Int) from by omega) (show (11 : Int) ≤ 99 ∧ 99 ≤ (99 : Int) from by omega) (fun r27 s26 hI8 fr7 q9 => ?_)
    have fr10 : lf_fq [95, 98, 100, 101, 102, 103] 1000000 true s.1 s.2.2 s26.1 s26.2.2 := lf_fq_tr (lf_fq_rf) (lf_fq_wk fr7 rfl (by decide) (by decide))
    exact hQ r27 s26 hI8 fr10 (show (0 : Int) ≤ r27 ∧ r27 ≤ (5 : Int) from by omega)
  · have c1 : a1 = 4 := c1
    refine sm_206 hI (show (97 : Int) ≤ 116 ∧ 116 ≤ (119 : Int) from by omega) (show (97 : Int) ≤ 111 ∧ 111 ≤ (121 : Int) from by omega) (fun r29 => ?_)
    refine sm_212 hI (show (0 : Int) ≤ a2 ∧ a2 ≤ (2819 : Int) from by omega) (show (0 : Int) ≤ 0 ∧ 0 ≤ (1 : Int) from by omega) (show (3 : Int) ≤ 11 ∧ 11 ≤ (24 : Int) from by omega) (show (0 : Int) ≤ 0 ∧ 0 ≤ (1 : Int) from by omega) (show (11 : Int) ≤ 11 ∧ 11 ≤ (99 : Int) from by omega) (fun r31 s30 hI13 fr12 q14 => ?_)
    have fr15 : lf_fq [95, 98, 100, 101, 102, 103] 1000000 true s.1 s.2.2 s30.1 s30.2.2 := lf_fq_tr (lf_fq_rf) (lf_fq_wk fr12 rfl (by decide) (by decide))
    exact hQ r31 s30 hI13 fr15 (show (0 : Int) ≤ r31 ∧ r31 ≤ (5 : Int) from by omega)
  · have c1 : a1 = 5 := c1
    refine sm_206 hI (show (97 : Int) ≤ 116 ∧ 116 ≤ (119 : Int) from by omega) (show (97 : Int) ≤ 111 ∧ 111 ≤ (121 : Int) from by omega) (fun r33 => ?_)
    refine sm_212 hI (show (0 : Int) ≤ a2 ∧ a2 ≤ (2819 : Int) from by omega) (show (0 : Int) ≤ 0 ∧ 0 ≤ (1 : Int) from by omega) (show (3 : Int) ≤ 11 ∧ 11 ≤ (24 : Int) from by omega) (show (0 : Int) ≤ 0 ∧ 0 ≤ (1 : Int) from by omega) (show (11 : Int) ≤ 11 ∧ 11 ≤ (99 : Int) from by omega) (fun r35 s34 hI18 fr17 q19 => ?_)
    have fr20 : lf_fq [95, 98, 100, 101, 102, 103] 1000000 true s.1 s.2.2 s34.1 s34.2.2 := lf_fq_tr (lf_fq_rf) (lf_fq_wk fr17 rfl (by decide) (by decide))
    exact hQ r35 s34 hI18 fr20 (show (0 : Int) ≤ r35 ∧ r35 ≤ (5 : Int) from by omega)
  · have c1 : a1 = 6 := c1
    refine sm_206 hI (show (97 : Int) ≤ 97 ∧ 97 ≤ (119 : Int) from by omega) (show (97 : Int) ≤ 116 ∧ 116 ≤ (121 : Int) from by omega) (fun r37 => ?_)
    refine sm_212 hI (show (0 : Int) ≤ a2 ∧ a2 ≤ (2819 : Int) from by omega) (show (0 : Int) ≤ 0 ∧ 0 ≤ (1 : Int) from by omega) (show (3 : Int) ≤ 9 ∧ 9 ≤ (24 : Int) from by omega) (show (0 : Int) ≤ 0 ∧ 0 ≤ (1 : Int) from by omega) (show (11 : Int) ≤ 11 ∧ 11 ≤ (99 : Int) from by omega) (fun r39 s38 hI23 fr22 q24 => ?_)
    have fr25 : lf_fq [95, 98, 100, 101, 102, 103] 1000000 true s.1 s.2.2 s38.1 s38.2.2 := lf_fq_tr (lf_fq_rf) (lf_fq_wk fr22 rfl (by decide) (by decide))
    exact hQ r39 s38 hI23 fr25 (show (0 : Int) ≤ r39 ∧ r39 ≤ (5 : Int) from by omega)
  · have c1 : a1 = 7 := c1
    refine sm_206 hI (show (97 : Int) ≤ 97 ∧ 97 ≤ (119 : Int) from by omega) (show (97 : Int) ≤ 116 ∧ 116 ≤ (121 : Int) from by omega) (fun r41 => ?_)
    refine sm_212 hI (show (0 : Int) ≤ a2 ∧ a2 ≤ (2819 : Int) from by omega) (show (0 : Int) ≤ 1 ∧ 1 ≤ (1 : Int) from by omega) (show (3 : Int) ≤ 24 ∧ 24 ≤ (24 : Int) from by omega) (show (0 : Int) ≤ 0 ∧ 0 ≤ (1 : Int) from by omega) (show (11 : Int) ≤ 11 ∧ 11 ≤ (99 : Int) from by omega) (fun r43 s42 hI28 fr27 q29 => ?_)
    have fr30 : lf_fq [95, 98, 100, 101, 102, 103] 1000000 true s.1 s.2.2 s42.1 s42.2.2 := lf_fq_tr (lf_fq_rf) (lf_fq_wk fr27 rfl (by decide) (by decide))
    exact hQ r43 s42 hI28 fr30 (show (0 : Int) ≤ r43 ∧ r43 ≤ (5 : Int) from by omega)
  · have c1 : a1 = 8 := c1
    refine sm_206 hI (show (97 : Int) ≤ 116 ∧ 116 ≤ (119 : Int) from by omega) (show (97 : Int) ≤ 111 ∧ 111 ≤ (121 : Int) from by omega) (fun r45 => ?_)
    refine sm_212 hI (show (0 : Int) ≤ a2 ∧ a2 ≤ (2819 : Int) from by omega) (show (0 : Int) ≤ 0 ∧ 0 ≤ (1 : Int) from by omega) (show (3 : Int) ≤ 5 ∧ 5 ≤ (24 : Int) from by omega) (show (0 : Int) ≤ 0 ∧ 0 ≤ (1 : Int) from by omega) (show (11 : Int) ≤ 11 ∧ 11 ≤ (99 : Int) from by omega) (fun r47 s46 hI33 fr32 q34 => ?_)
    have fr35 : lf_fq [95, 98, 100, 101, 102, 103] 1000000 true s.1 s.2.2 s46.1 s46.2.2 := lf_fq_tr (lf_fq_rf) (lf_fq_wk fr32 rfl (by decide) (by decide))
    exact hQ r47 s46 hI33 fr35 (show (0 : Int) ≤ r47 ∧ r47 ≤ (5 : Int) from by omega)
  · have c1 : a1 = 9 := c1
    refine sm_213 hI (show (1 : Int) ≤ a2 + 1 ∧ a2 + 1 ≤ (2821 : Int) from by omega) (show (0 : Int) ≤ 0 ∧ 0 ≤ (1 : Int) from by omega) (show (3 : Int) ≤ 15 ∧ 15 ≤ (99 : Int) from by omega) (fun r49 s48 hI37 fr36 q38 => ?_)
    have fr39 : lf_fq [95, 98, 100, 101, 102, 103] 1000000 true s.1 s.2.2 s48.1 s48.2.2 := lf_fq_tr (lf_fq_rf) (lf_fq_wk fr36 rfl (by decide) (by decide))
    exact hQ r49 s48 hI37 fr39 (show (0 : Int) ≤ r49 ∧ r49 ≤ (5 : Int) from by omega)
  · have c1 : a1 = 10 := c1
    refine sm_213 hI (show (1 : Int) ≤ a2 + 1 ∧ a2 + 1 ≤ (2821 : Int) from by omega) (show (0 : Int) ≤ 0 ∧ 0 ≤ (1 : Int) from by omega) (show (3 : Int) ≤ 15 ∧ 15 ≤ (99 : Int) from by omega) (fun r51 s50 hI41 fr40 q42 => ?_)
    have fr43 : lf_fq [95, 98, 100, 101, 102, 103] 1000000 true s.1 s.2.2 s50.1 s50.2.2 := lf_fq_tr (lf_fq_rf) (lf_fq_wk fr40 rfl (by decide) (by decide))
    exact hQ r51 s50 hI41 fr43 (show (0 : Int) ≤ r51 ∧ r51 ≤ (5 : Int) from by omega)
  · have c1 : a1 = 11 := c1
    refine sm_206 hI (show (97 : Int) ≤ 98 ∧ 98 ≤ (119 : Int) from by omega) (show (97 : Int) ≤ 121 ∧ 121 ≤ (121 : Int) from by omega) (fun r53 => ?_)
    refine sm_212 hI (show (0 : Int) ≤ a2 ∧ a2 ≤ (2819 : Int) from by omega) (show (0 : Int) ≤ 0 ∧ 0 ≤ (1 : Int) from by omega) (show (3 : Int) ≤ 3 ∧ 3 ≤ (24 : Int) from by omega) (show (0 : Int) ≤ 1 ∧ 1 ≤ (1 : Int) from by omega) (show (11 : Int) ≤ 24 ∧ 24 ≤ (99 : Int) from by omega) (fun r55 s54 hI46 fr45 q47 => ?_)
    have fr48 : lf_fq [95, 98, 100, 101, 102, 103] 1000000 true s.1 s.2.2 s54.1 s54.2.2 := lf_fq_tr (lf_fq_rf) (lf_fq_wk fr45 rfl (by decide) (by decide))
    exact hQ r55 s54 hI46 fr48 (show (0 : Int) ≤ r55 ∧ r55 ≤ (5 : Int) from by omega)
  · have c1 : a1 = 12 := c1
    refine sm_213 hI (show (1 : Int) ≤ a2 + 1 ∧ a2 + 1 ≤ (2821 : Int) from by omega) (show (0 : Int) ≤ 1 ∧ 1 ≤ (1 : Int) from by omega) (show (3 : Int) ≤ 60 ∧ 60 ≤ (99 : Int) from by omega) (fun r57 s56 hI50 fr49 q51 => ?_)
    have fr52 : lf_fq [95, 98, 100, 101, 102, 103] 1000000 true s.1 s.2.2 s56.1 s56.2.2 := lf_fq_tr (lf_fq_rf) (lf_fq_wk fr49 rfl (by decide) (by decide))
    exact hQ r57 s56 hI50 fr52 (show (0 : Int) ≤ r57 ∧ r57 ≤ (5 : Int) from by omega)
-- fm_210 Model.has i i
theorem sm_210 {a0 : Int} {a1 : Int} {Q : Bool → lf_Z → Prop} {s : lf_Z} (hI : iv_A s.1 s.2.2) (ba0 : (-2147483648) ≤ a0 ∧ a0 ≤ 2147483647) (ba1 : (-1) ≤ a1 ∧ a1 ≤ 15) (hQ : ∀ (z : Bool), ((z = true → (64 ≤ a0 ∨ a0 < 0 ∨ a1 < 0 ∨ 31 < a1 ∨ a1 < 6)) ∧ (z = false → True)) → Q z s) : fm_210 a0 a1 Q s := by
  unfold fm_210
  exact ⟨fun c => hQ false ⟨fun h => (by cases h), fun _ => trivial⟩, fun c => hQ true ⟨fun _ => lf_hasB (Classical.not_not.mp c), fun _ => trivial⟩⟩
-- fm_202 Model.clause 95
theorem sm_202_p65 {Q : Int → lf_Z → Prop} {x1 : Int} {x2 : Int} {s : lf_Z} (hQ : ∀ (r : Int) (s' : lf_Z), iv_A s'.1 s'.2.2 → lf_fq [95, 98, 100, 101, 102, 103] 1000000 true s.1 s.2.2 s'.1 s'.2.2 → (0 ≤ r ∧ r ≤ 6) → Q r s') (hI : iv_A s.1 s.2.2) (bx1 : 0 ≤ x1 ∧ x1 ≤ 12) (bx2 : (-2147483648) ≤ x2 ∧ x2 ≤ 2147483647) : fm_202_p65 Q x1 x2 s := by
  unfold fm_202_p65
  have hI8 : iv_A (lf_up s.1 95 14 x1) s.2.2 := iv_w95_14 hI (by omega)
  have fr9 : lf_fq [95, 98, 100, 101, 102, 103] 1000000 true s.1 s.2.2 (lf_up s.1 95 14 x1) s.2.2 := lf_fq_up (lf_fq_rf) rfl (fun h => absurd h (by decide))
  refine sm_197 hI8 (fun s27 hI11 fr10 => ?_)
  have fr13 : lf_fq [95, 98, 100, 101, 102, 103] 1000000 true s.1 s.2.2 s27.1 s27.2.2 := lf_fq_tr fr9 (lf_fq_wk fr10 rfl (by decide) (by decide))
  have b14 : 0 ≤ s27.1 95 12 ∧ s27.1 95 12 ≤ 2115 := iv_r95_12 hI11
  have b15 : (-2147483648) ≤ lf_w (4 * x2) ∧ lf_w (4 * x2) ≤ 2147483647 := lf_wB
  have b16 : (-2147483648) ≤ lf_w (((s27.1 95 12) + 1) + (lf_w (4 * x2))) ∧ lf_w (((s27.1 95 12) + 1) + (lf_w (4 * x2))) ≤ 2147483647 := lf_wB
  refine ⟨(show (0 : Int) ≤ lf_w (((s27.1 95 12) + 1) + (lf_w (4 * x2))) ∧ lf_w (((s27.1 95 12) + 1) + (lf_w (4 * x2))) < (2820 : Int) from by omega), ?_⟩
  have hI17 : iv_A (lf_up s27.1 98 (lf_w (((s27.1 95 12) + 1) + (lf_w (4 * x2)))) x1) s27.2.2 := iv_wd98 hI11 (lf_le2 (iv_ff9260591 (lf_w (((s27.1 95 12) + 1) + (lf_w (4 * x2)))) (by omega) (by omega)) (by omega))
  have fr18 : lf_fq [95, 98, 100, 101, 102, 103] 1000000 true s.1 s.2.2 (lf_up s27.1 98 (lf_w (((s27.1 95 12) + 1) + (lf_w (4 * x2)))) x1) s27.2.2 := lf_fq_up fr13 rfl (fun h => absurd h (by decide))
  refine sm_211 hI17 (show (0 : Int) ≤ x1 ∧ x1 ≤ (12 : Int) from by omega) (show (0 : Int) ≤ lf_w (((s27.1 95 12) + 1) + (lf_w (4 * x2))) ∧ lf_w (((s27.1 95 12) + 1) + (lf_w (4 * x2))) ≤ (2819 : Int) from by omega) (fun r30 s29 hI20 fr19 q21 => ?_)
  have fr22 : lf_fq [95, 98, 100, 101, 102, 103] 1000000 true s.1 s.2.2 s29.1 s29.2.2 := lf_fq_tr fr18 (lf_fq_wk fr19 rfl (by decide) (by decide))
  refine ⟨(show lf_R r30 from lf_Rof (by omega)), ?_⟩
  refine ⟨fun c23 => ?_, fun c23 => ?_⟩
  · skip
    have c23 : r30 = 0 := c23
    have b24 : 0 ≤ s29.1 95 12 ∧ s29.1 95 12 ≤ 2115 := iv_r95_12 hI20
    refine ⟨(show (0 : Int) ≤ s29.1 95 12 ∧ s29.1 95 12 < (2820 : Int) from by omega), ?_⟩
    have b25 : (-2147483648) ≤ s29.1 98 (s29.1 95 12) ∧ s29.1 98 (s29.1 95 12) ≤ 2147483647 := iv_full hI20
    have b26 : (-2147483648) ≤ lf_w ((s29.1 98 (s29.1 95 12)) + 1) ∧ lf_w ((s29.1 98 (s29.1 95 12)) + 1) ≤ 2147483647 := lf_wB
    have hI27 : iv_A (lf_up s29.1 98 (s29.1 95 12) (lf_w ((s29.1 98 (s29.1 95 12)) + 1))) s29.2.2 := iv_wd98 hI20 (lf_le2 (iv_f926acb4b (s29.1 95 12) (by omega) (by omega)) (by omega))
    have fr28 : lf_fq [95, 98, 100, 101, 102, 103] 1000000 true s.1 s.2.2 (lf_up s29.1 98 (s29.1 95 12) (lf_w ((s29.1 98 (s29.1 95 12)) + 1))) s29.2.2 := lf_fq_up fr22 rfl (fun h => absurd h (by decide))
    have b29 : (-2147483648) ≤ s29.1 95 9 ∧ s29.1 95 9 ≤ 2147483647 := (show (-2147483648) ≤ (lf_up s29.1 98 (s29.1 95 12) (lf_w ((s29.1 98 (s29.1 95 12)) + 1))) 95 9 ∧ (lf_up s29.1 98 (s29.1 95 12) (lf_w ((s29.1 98 (s29.1 95 12)) + 1))) 95 9 ≤ 2147483647 from iv_full hI27)
    refine ⟨(show lf_R (s29.1 95 9) from lf_Rof (by omega)), ?_⟩
    refine ⟨fun c30 => ?_, fun c30 => ?_⟩
    · skip
      have c30 : s29.1 95 9 = 59 := c30
      refine sm_197 hI27 (fun s34 hI32 fr31 => ?_)
      have fr34 : lf_fq [95, 98, 100, 101, 102, 103] 1000000 true s.1 s.2.2 s34.1 s34.2.2 := lf_fq_tr fr28 (lf_fq_wk fr31 rfl (by decide) (by decide))
      exact hQ 0 s34 hI32 fr34 (show (0 : Int) ≤ 0 ∧ 0 ≤ (6 : Int) from by omega)
    · skip
      have c30 : ¬ (s29.1 95 9 = 59) := c30
      exact hQ 1 (lf_up s29.1 98 (s29.1 95 12) (lf_w ((s29.1 98 (s29.1 95 12)) + 1)), s29.2.1, s29.2.2) hI27 fr28 (show (0 : Int) ≤ 1 ∧ 1 ≤ (6 : Int) from by omega)
  · skip
    have c23 : ¬ (r30 = 0) := c23
    exact hQ r30 s29 hI20 fr22 (show (0 : Int) ≤ r30 ∧ r30 ≤ (6 : Int) from by omega)
theorem sm_202_p29 {Q : Int → lf_Z → Prop} {x1 : Int} {s : lf_Z} (hQ : ∀ (r : Int) (s' : lf_Z), iv_A s'.1 s'.2.2 → lf_fq [95, 98, 100, 101, 102, 103] 1000000 true s.1 s.2.2 s'.1 s'.2.2 → (0 ≤ r ∧ r ≤ 6) → Q r s') (hI : iv_A s.1 s.2.2) (bx1 : 0 ≤ x1 ∧ x1 ≤ 12) : fm_202_p29 Q x1 s := by
  unfold fm_202_p29
  have b4 : 0 ≤ s.1 95 12 ∧ s.1 95 12 ≤ 2115 := iv_r95_12 hI
  refine ⟨(show (0 : Int) ≤ s.1 95 12 ∧ s.1 95 12 < (2820 : Int) from by omega), ?_⟩
  have b5 : (-2147483648) ≤ s.1 98 (s.1 95 12) ∧ s.1 98 (s.1 95 12) ≤ 2147483647 := iv_full hI
  refine ⟨(show lf_R (s.1 98 (s.1 95 12)) from lf_Rof (by omega)), ?_⟩
  refine ⟨fun c6 => ?_, fun c6 => ?_⟩
  · skip
    have c6 : s.1 98 (s.1 95 12) ≠ 24 := c6
    refine ⟨(show lf_R x1 from lf_Rof (by omega)), ?_⟩
    refine ⟨fun c7 => ?_, fun c7 => ?_⟩
    · skip
      have c7 : 2 < x1 := c7
      exact sm_202_p65 hQ hI (show (0 : Int) ≤ x1 ∧ x1 ≤ (12 : Int) from by omega) (show (-2147483648 : Int) ≤ s.1 98 (s.1 95 12) ∧ s.1 98 (s.1 95 12) ≤ (2147483647 : Int) from by omega)
    · skip
      have c7 : ¬ (2 < x1) := c7
      have b35 : (-2147483648) ≤ s.1 95 24 ∧ s.1 95 24 ≤ 2147483647 := iv_full hI
      have b36 : 1 ≤ lf_shl 1 x1 ∧ lf_shl 1 x1 ≤ 4 := lf_shl1 (m := 2) (by omega) (by omega) (by decide)
      have b37 : (-2147483648) ≤ lf_or (s.1 95 24) (lf_shl 1 x1) ∧ lf_or (s.1 95 24) (lf_shl 1 x1) ≤ 2147483647 := lf_orB
      have hI38 : iv_A (lf_up s.1 95 24 (lf_or (s.1 95 24) (lf_shl 1 x1))) s.2.2 := iv_w95_24 hI (by omega)
      have fr39 : lf_fq [95, 98, 100, 101, 102, 103] 1000000 true s.1 s.2.2 (lf_up s.1 95 24 (lf_or (s.1 95 24) (lf_shl 1 x1))) s.2.2 := lf_fq_up (lf_fq_rf) rfl (fun h => absurd h (by decide))
      exact sm_202_p65 (fun r9 t9 i9 f9 => hQ r9 t9 i9 (lf_fq_tr fr39 f9)) hI38 (show (0 : Int) ≤ x1 ∧ x1 ≤ (12 : Int) from by omega) (show (-2147483648 : Int) ≤ s.1 98 (s.1 95 12) ∧ s.1 98 (s.1 95 12) ≤ (2147483647 : Int) from by omega)
  · skip
    have c6 : ¬ (s.1 98 (s.1 95 12) ≠ 24) := c6
    exact hQ 6 s hI (lf_fq_rf) (show (0 : Int) ≤ 6 ∧ 6 ≤ (6 : Int) from by omega)
theorem sm_202 {Q : Int → lf_Z → Prop} {s : lf_Z} (hI : iv_A s.1 s.2.2) (hQ : ∀ (r : Int) (s' : lf_Z), iv_A s'.1 s'.2.2 → lf_fq [95, 98, 100, 101, 102, 103] 1000000 true s.1 s.2.2 s'.1 s'.2.2 → (0 ≤ r ∧ r ≤ 6) → Q r s') : fm_202 Q s := by
  unfold fm_202
  refine sm_203 hI (fun r22 q1 => ?_)
  refine ⟨(show lf_R r22 from lf_Rof (by omega)), ?_⟩
  refine ⟨fun c2 => ?_, fun c2 => ?_⟩
  · skip
    have c2 : 0 ≤ r22 := c2
    refine ⟨fun c3 => ?_, fun c3 => ?_⟩
    · skip
      have c3 : 2 < r22 := c3
      exact sm_202_p29 hQ hI (show (0 : Int) ≤ r22 ∧ r22 ≤ (12 : Int) from by omega)
    · skip
      have c3 : ¬ (2 < r22) := c3
      have b40 : (-2147483648) ≤ s.1 95 24 ∧ s.1 95 24 ≤ 2147483647 := iv_full hI
      refine sm_210 hI (show (-2147483648 : Int) ≤ s.1 95 24 ∧ s.1 95 24 ≤ (2147483647 : Int) from by omega) (show (-1 : Int) ≤ r22 ∧ r22 ≤ (15 : Int) from by omega) (fun z36 q41 => ?_)
      refine ⟨fun c42 => ?_, fun c42 => ?_⟩
      · skip
        have dc42 := q41.2 c42
        exact sm_202_p29 hQ hI (show (0 : Int) ≤ r22 ∧ r22 ≤ (12 : Int) from by omega)
      · skip
        have dc42 := q41.1 c42
        exact hQ 4 s hI (lf_fq_rf) (show (0 : Int) ≤ 4 ∧ 4 ≤ (6 : Int) from by omega)
  · skip
    have c2 : ¬ (0 ≤ r22) := c2
    exact hQ 1 s hI (lf_fq_rf) (show (0 : Int) ≤ 1 ∧ 1 ≤ (6 : Int) from by omega)
-- fm_196 Model.readText 95
theorem sm_196_p44 {X44 : lf_Z → Prop} {Q : Int → lf_Z → Prop} {s : lf_Z} (hQ : ∀ (r : Int) (s' : lf_Z), iv_A s'.1 s'.2.2 → lf_fq [95, 98, 100, 101, 102, 103] 1000000 true s.1 s.2.2 s'.1 s'.2.2 → (0 ≤ r ∧ r ≤ 6) → Q r s') {M44 : Nat} (hX44 : ∀ (s' : lf_Z), iv_A s'.1 s'.2.2 → lf_fq [95, 98, 100, 101, 102, 103] 1000000 true s.1 s.2.2 s'.1 s'.2.2 → 0 < M44 → X44 s') (hM44 : 0 ≤ M44) (hI : iv_A s.1 s.2.2) : fm_196_p44 Q X44 s := by
  unfold fm_196_p44
  have b16 : (-2147483648) ≤ s.1 95 9 ∧ s.1 95 9 ≤ 2147483647 := iv_full hI
  refine ⟨(show lf_R (s.1 95 9) from lf_Rof (by omega)), ?_⟩
  refine ⟨fun c17 => ?_, fun c17 => ?_⟩
  · skip
    have c17 : s.1 95 9 = 0 := c17
    exact hQ 0 s hI (lf_fq_rf) (show (0 : Int) ≤ 0 ∧ 0 ≤ (6 : Int) from by omega)
  · skip
    have c17 : ¬ (s.1 95 9 = 0) := c17
    refine sm_202 hI (fun r25 s24 hI19 fr18 q20 => ?_)
    have fr21 : lf_fq [95, 98, 100, 101, 102, 103] 1000000 true s.1 s.2.2 s24.1 s24.2.2 := lf_fq_tr (lf_fq_rf) (lf_fq_wk fr18 rfl (by decide) (by decide))
    refine ⟨(show lf_R r25 from lf_Rof (by omega)), ?_⟩
    refine ⟨fun c22 => ?_, fun c22 => ?_⟩
    · skip
      have c22 : r25 = 0 := c22
      exact hX44  s24 hI19 fr21 (show 0 < M44 from by omega)
    · skip
      have c22 : ¬ (r25 = 0) := c22
      exact hQ r25 s24 hI19 fr21 (show (0 : Int) ≤ r25 ∧ r25 ≤ (6 : Int) from by omega)
theorem sm_196_p44L {Q : Int → lf_Z → Prop} {s : lf_Z} (hQ : ∀ (r : Int) (s' : lf_Z), iv_A s'.1 s'.2.2 → lf_fq [95, 98, 100, 101, 102, 103] 1000000 true s.1 s.2.2 s'.1 s'.2.2 → (0 ≤ r ∧ r ≤ 6) → Q r s') (hI : iv_A s.1 s.2.2) : fm_196_p44L Q s := by
  intro X44 hX
  have key : ∀ (m9 : Nat) (s' : lf_Z), iv_A s'.1 s'.2.2 → lf_fq [95, 98, 100, 101, 102, 103] 1000000 true s.1 s.2.2 s'.1 s'.2.2 → 0 < m9 → X44 s' := by
    intro m9
    induction m9 with
    | zero => intro  s' _ _  h9; exact absurd h9 (Nat.not_lt_zero _)
    | succ m9 ih => intro  s' i7 f7  h9; exact hX  _ (sm_196_p44 (fun r9 t9 i9 f9 => hQ r9 t9 i9 (lf_fq_tr f7 f9))   (fun  t8 i8 f8  h8 => ih  t8 i8 (lf_fq_tr f7 f8)  (by omega)) (Nat.le_refl _)  i7    )
  exact key _  s hI lf_fq_rf  (Nat.lt_succ_self _)
theorem sm_196 {Q : Int → lf_Z → Prop} {s : lf_Z} (hI : iv_A s.1 s.2.2) (hQ : ∀ (r : Int) (s' : lf_Z), iv_A s'.1 s'.2.2 → lf_fq [95, 98, 100, 101, 102, 103] 1000000 true s.1 s.2.2 s'.1 s'.2.2 → (0 ≤ r ∧ r ≤ 6) → Q r s') : fm_196 Q s := by
  unfold fm_196
  have b1 : 0 ≤ s.1 96 7 ∧ s.1 96 7 ≤ 4 := iv_rd96 hI (iv_ffb272d5f (by omega))
  have hI2 : iv_A (lf_up s.1 95 12 (705 * (s.1 96 7))) s.2.2 := iv_w95_12 hI (by omega)
  have fr3 : lf_fq [95, 98, 100, 101, 102, 103] 1000000 true s.1 s.2.2 (lf_up s.1 95 12 (705 * (s.1 96 7))) s.2.2 := lf_fq_up (lf_fq_rf) rfl (fun h => absurd h (by decide))
  refine ⟨(show (0 : Int) ≤ 705 * (s.1 96 7) ∧ 705 * (s.1 96 7) < (2820 : Int) from by omega), ?_⟩
  have hI4 : iv_A (lf_up (lf_up s.1 95 12 (705 * (s.1 96 7))) 98 (705 * (s.1 96 7)) 0) s.2.2 := iv_wd98 hI2 (lf_le2 (iv_fae12ecb2 (s.1 96 7) (by omega) (by omega)) (by omega))
  have fr5 : lf_fq [95, 98, 100, 101, 102, 103] 1000000 true s.1 s.2.2 (lf_up (lf_up s.1 95 12 (705 * (s.1 96 7))) 98 (705 * (s.1 96 7)) 0) s.2.2 := lf_fq_up fr3 rfl (fun h => absurd h (by decide))
  have hI6 : iv_A (lf_up (lf_up (lf_up s.1 95 12 (705 * (s.1 96 7))) 98 (705 * (s.1 96 7)) 0) 95 13 0) s.2.2 := iv_w95_13 hI4 (by omega)
  have fr7 : lf_fq [95, 98, 100, 101, 102, 103] 1000000 true s.1 s.2.2 (lf_up (lf_up (lf_up s.1 95 12 (705 * (s.1 96 7))) 98 (705 * (s.1 96 7)) 0) 95 13 0) s.2.2 := lf_fq_up fr5 rfl (fun h => absurd h (by decide))
  have hI8 : iv_A (lf_up (lf_up (lf_up (lf_up s.1 95 12 (705 * (s.1 96 7))) 98 (705 * (s.1 96 7)) 0) 95 13 0) 95 24 0) s.2.2 := iv_w95_24 hI6 (by omega)
  have fr9 : lf_fq [95, 98, 100, 101, 102, 103] 1000000 true s.1 s.2.2 (lf_up (lf_up (lf_up (lf_up s.1 95 12 (705 * (s.1 96 7))) 98 (705 * (s.1 96 7)) 0) 95 13 0) 95 24 0) s.2.2 := lf_fq_up fr7 rfl (fun h => absurd h (by decide))
  have hI10 : iv_A (lf_up (lf_up (lf_up (lf_up (lf_up s.1 95 12 (705 * (s.1 96 7))) 98 (705 * (s.1 96 7)) 0) 95 13 0) 95 24 0) 95 7 0) s.2.2 := iv_w95_7 hI8 (by omega)
  have fr11 : lf_fq [95, 98, 100, 101, 102, 103] 1000000 true s.1 s.2.2 (lf_up (lf_up (lf_up (lf_up (lf_up s.1 95 12 (705 * (s.1 96 7))) 98 (705 * (s.1 96 7)) 0) 95 13 0) 95 24 0) 95 7 0) s.2.2 := lf_fq_up fr9 rfl (fun h => absurd h (by decide))
  refine sm_197 hI10 (fun s22 hI13 fr12 => ?_)
  have fr15 : lf_fq [95, 98, 100, 101, 102, 103] 1000000 true s.1 s.2.2 s22.1 s22.2.2 := lf_fq_tr fr11 (lf_fq_wk fr12 rfl (by decide) (by decide))
  exact sm_196_p44L (fun r9 t9 i9 f9 => hQ r9 t9 i9 (lf_fq_tr fr15 f9)) hI13
-- fm_195 Model.text 95
theorem sm_195_p37 {Q : Int → lf_Z → Prop} {y1 : Int} {s : lf_Z} (hQ : ∀ (r : Int) (s' : lf_Z), iv_A s'.1 s'.2.2 → lf_fq [95, 96, 98, 100, 101, 102, 103] 7 true s.1 s.2.2 s'.1 s'.2.2 → ((-1) ≤ r ∧ r ≤ 4) → Q r s') (hI : iv_A s.1 s.2.2) (by1 : (-1) ≤ y1 ∧ y1 ≤ 300) (kv0 : s.1 96 7 < 4) : fm_195_p37 Q y1 s := by
  unfold fm_195_p37
  have hI14 : iv_A (lf_up s.1 95 6 y1) s.2.2 := iv_w95_6 hI (by omega)
  have fr15 : lf_fq [95, 96, 98, 100, 101, 102, 103] 7 true s.1 s.2.2 (lf_up s.1 95 6 y1) s.2.2 := lf_fq_up (lf_fq_rf) rfl (fun h => absurd h (by decide))
  have hI16 : iv_A (lf_up (lf_up s.1 95 6 y1) 95 4 0) s.2.2 := iv_w95_4 hI14 (by omega)
  have fr17 : lf_fq [95, 96, 98, 100, 101, 102, 103] 7 true s.1 s.2.2 (lf_up (lf_up s.1 95 6 y1) 95 4 0) s.2.2 := lf_fq_up fr15 rfl (fun h => absurd h (by decide))
  have b18 : (-2147483648) ≤ s.1 95 5 ∧ s.1 95 5 ≤ 2147483647 := (show (-2147483648) ≤ (lf_up (lf_up s.1 95 6 y1) 95 4 0) 95 5 ∧ (lf_up (lf_up s.1 95 6 y1) 95 4 0) 95 5 ≤ 2147483647 from iv_full hI16)
  have b19 : (lf_up (lf_up s.1 95 6 y1) 95 4 0) 95 5 = (lf_up s.1 95 6 y1) 95 5 := lf_up_i (by omega)
  have b20 : (lf_up s.1 95 6 y1) 95 5 = s.1 95 5 := lf_up_i (by omega)
  refine ⟨(show lf_R (s.1 95 5) from lf_Rof (by omega)), ?_⟩
  refine ⟨fun c21 => ?_, fun c21 => ?_⟩
  · skip
    have c21 : s.1 95 5 = 0 := c21
    have b22 : 0 ≤ s.1 96 7 ∧ s.1 96 7 ≤ 4 := (show 0 ≤ (lf_up (lf_up s.1 95 6 y1) 95 4 0) 96 7 ∧ (lf_up (lf_up s.1 95 6 y1) 95 4 0) 96 7 ≤ 4 from iv_rd96 hI16 (iv_ffb272d5f (by omega)))
    have hI23 : iv_A (lf_up (lf_up (lf_up s.1 95 6 y1) 95 4 0) 96 7 ((s.1 96 7) + 1)) s.2.2 := iv_wd96 hI16 (lf_le2 (iv_f29303112 (by omega)) (by omega)) (fun h => absurd h (by omega))
    have fr24 : lf_fq [95, 96, 98, 100, 101, 102, 103] 7 true s.1 s.2.2 (lf_up (lf_up (lf_up s.1 95 6 y1) 95 4 0) 96 7 ((s.1 96 7) + 1)) s.2.2 := lf_fq_up fr17 rfl (fun _ => by omega)
    exact hQ (((s.1 96 7) + 1) - 1) (lf_up (lf_up (lf_up s.1 95 6 y1) 95 4 0) 96 7 ((s.1 96 7) + 1), s.2.1, s.2.2) hI23 fr24 (show (-1 : Int) ≤ ((s.1 96 7) + 1) - 1 ∧ ((s.1 96 7) + 1) - 1 ≤ (4 : Int) from by omega)
  · skip
    have c21 : ¬ (s.1 95 5 = 0) := c21
    exact hQ (-1) (lf_up (lf_up s.1 95 6 y1) 95 4 0, s.2.1, s.2.2) hI16 fr17 (show (-1 : Int) ≤ (-1) ∧ (-1) ≤ (4 : Int) from by omega)
theorem sm_195 {Q : Int → lf_Z → Prop} {s : lf_Z} (hI : iv_A s.1 s.2.2) (hQ : ∀ (r : Int) (s' : lf_Z), iv_A s'.1 s'.2.2 → lf_fq [95, 96, 98, 100, 101, 102, 103] 7 true s.1 s.2.2 s'.1 s'.2.2 → ((-1) ≤ r ∧ r ≤ 4) → Q r s') : fm_195 Q s := by
  unfold fm_195
  have b1 : 0 ≤ s.1 96 7 ∧ s.1 96 7 ≤ 4 := iv_rd96 hI (iv_ffb272d5f (by omega))
  refine ⟨(show lf_R (s.1 96 7) from lf_Rof (by omega)), ?_⟩
  refine ⟨fun c2 => ?_, fun c2 => ?_⟩
  · skip
    have c2 : s.1 96 7 ≠ 4 := c2
    refine sm_196 hI (fun r23 s22 hI4 fr3 q5 => ?_)
    have fr6 : lf_fq [95, 96, 98, 100, 101, 102, 103] 7 true s.1 s.2.2 s22.1 s22.2.2 := lf_fq_tr (lf_fq_rf) (lf_fq_wk fr3 rfl (by decide) (by decide))
    have hI7 : iv_A (lf_up s22.1 95 5 r23) s22.2.2 := iv_w95_5 hI4 (by omega)
    have fr8 : lf_fq [95, 96, 98, 100, 101, 102, 103] 7 true s.1 s.2.2 (lf_up s22.1 95 5 r23) s22.2.2 := lf_fq_up fr6 rfl (fun h => absurd h (by decide))
    refine ⟨(show lf_R r23 from lf_Rof (by omega)), ?_⟩
    refine ⟨fun c9 => ?_, fun c9 => ?_⟩
    · skip
      have c9 : r23 ≠ 0 := c9
      have b10 : 0 ≤ s22.1 95 8 ∧ s22.1 95 8 ≤ 300 := (show 0 ≤ (lf_up s22.1 95 5 r23) 95 8 ∧ (lf_up s22.1 95 5 r23) 95 8 ≤ 300 from iv_r95_8 hI7)
      have b11 : (lf_up s22.1 95 5 r23) 95 8 = s22.1 95 8 := lf_up_i (by omega)
      have b12 : 0 ≤ s22.1 96 7 ∧ s22.1 96 7 ≤ 4 := (show 0 ≤ (lf_up s22.1 95 5 r23) 96 7 ∧ (lf_up s22.1 95 5 r23) 96 7 ≤ 4 from iv_rd96 hI7 (iv_ffb272d5f (by omega)))
      have b13 : s22.1 96 7 = s.1 96 7 := congrFun (fr3.1 96 rfl) _
      exact sm_195_p37 (fun r9 t9 i9 f9 => hQ r9 t9 i9 (lf_fq_tr fr8 f9)) hI7 (show (-1 : Int) ≤ s22.1 95 8 ∧ s22.1 95 8 ≤ (300 : Int) from by omega) (show (s22.1 96 7) < 4 from by omega)
    · skip
      have c9 : ¬ (r23 ≠ 0) := c9
      have b25 : 0 ≤ s22.1 96 7 ∧ s22.1 96 7 ≤ 4 := (show 0 ≤ (lf_up s22.1 95 5 r23) 96 7 ∧ (lf_up s22.1 95 5 r23) 96 7 ≤ 4 from iv_rd96 hI7 (iv_ffb272d5f (by omega)))
      have b26 : s22.1 96 7 = s.1 96 7 := congrFun (fr3.1 96 rfl) _
      exact sm_195_p37 (fun r9 t9 i9 f9 => hQ r9 t9 i9 (lf_fq_tr fr8 f9)) hI7 (show (-1 : Int) ≤ (-1) ∧ (-1) ≤ (300 : Int) from by omega) (show (s22.1 96 7) < 4 from by omega)
  · skip
    have c2 : ¬ (s.1 96 7 ≠ 4) := c2
    exact hQ (-1) s hI (lf_fq_rf) (show (-1 : Int) ≤ (-1) ∧ (-1) ≤ (4 : Int) from by omega)
-- fm_59 ElevenBullocks.fault 0 i
theorem sm_59 {a1 : Int} {Q : Int → lf_Z → Prop} {s : lf_Z} (hI : iv_A s.1 s.2.2) (ba1 : (-2147483648) ≤ a1 ∧ a1 ≤ 2147483647) (hQ : ∀ (r : Int), ((-2147483648) ≤ r ∧ r ≤ 2147483647) → Q r s) : fm_59 a1 Q s := by
  unfold fm_59
  refine ⟨(show lf_R a1 from lf_Rof (by omega)), ?_⟩
  refine ⟨fun c1 => ?_, fun c1 => ?_⟩
  · skip
    have c1 : a1 ≠ 0 := c1
    refine ⟨fun c2 => ?_, fun c2 => ?_⟩
    · skip
      have c2 : a1 ≠ 1 := c2
      exact hQ (-1) (show (-2147483648 : Int) ≤ (-1) ∧ (-1) ≤ (2147483647 : Int) from by omega)
    · skip
      have c2 : ¬ (a1 ≠ 1) := c2
      have b3 : (-2147483648) ≤ s.1 31 3 ∧ s.1 31 3 ≤ 2147483647 := iv_full hI
      exact hQ (s.1 31 3) (show (-2147483648 : Int) ≤ s.1 31 3 ∧ s.1 31 3 ≤ (2147483647 : Int) from by omega)
  · skip
    have c1 : ¬ (a1 ≠ 0) := c1
    have b4 : (-2147483648) ≤ s.1 31 2 ∧ s.1 31 2 ≤ 2147483647 := iv_full hI
    exact hQ (s.1 31 2) (show (-2147483648 : Int) ≤ s.1 31 2 ∧ s.1 31 2 ≤ (2147483647 : Int) from by omega)
-- fm_236 Model.fault 95 i
theorem sm_236 {a1 : Int} {Q : Int → lf_Z → Prop} {s : lf_Z} (hI : iv_A s.1 s.2.2) (ba1 : (-2147483648) ≤ a1 ∧ a1 ≤ 2147483647) (hQ : ∀ (r : Int), ((-2147483648) ≤ r ∧ r ≤ 2147483647) → Q r s) : fm_236 a1 Q s := by
  unfold fm_236
  refine ⟨(show lf_R a1 from lf_Rof (by omega)), ?_⟩
  refine ⟨fun c1 => ?_, fun c1 => ?_⟩
  · skip
    have c1 : a1 ≠ 0 := c1
    refine ⟨fun c2 => ?_, fun c2 => ?_⟩
    · skip
      have c2 : a1 ≠ 1 := c2
      exact hQ (-1) (show (-2147483648 : Int) ≤ (-1) ∧ (-1) ≤ (2147483647 : Int) from by omega)
    · skip
      have c2 : ¬ (a1 ≠ 1) := c2
      have b3 : (-2147483648) ≤ s.1 95 6 ∧ s.1 95 6 ≤ 2147483647 := iv_full hI
      exact hQ (s.1 95 6) (show (-2147483648 : Int) ≤ s.1 95 6 ∧ s.1 95 6 ≤ (2147483647 : Int) from by omega)
  · skip
    have c1 : ¬ (a1 ≠ 0) := c1
    have b4 : (-2147483648) ≤ s.1 95 5 ∧ s.1 95 5 ≤ 2147483647 := iv_full hI
    exact hQ (s.1 95 5) (show (-2147483648 : Int) ≤ s.1 95 5 ∧ s.1 95 5 ≤ (2147483647 : Int) from by omega)
-- fm_62 ElevenBullocks.scriptOf 0 i
theorem sm_62_p28 {Q : Option Nat → lf_Z → Prop} {s : lf_Z} (hQ : ∀ (r : Option Nat), (∀ t : Nat, r = some t → t < 4) → Q r s) (hI : iv_A s.1 s.2.2) : fm_62_p28 Q s := by
  unfold fm_62_p28
  exact hQ none (fun t e => by cases e)
theorem sm_62 {a1 : Int} {Q : Option Nat → lf_Z → Prop} {s : lf_Z} (hI : iv_A s.1 s.2.2) (ba1 : (-2147483648) ≤ a1 ∧ a1 ≤ 2147483647) (hQ : ∀ (r : Option Nat), (∀ t : Nat, r = some t → t < 4) → Q r s) : fm_62 a1 Q s := by
  unfold fm_62
  have b1 : 0 ≤ s.1 0 11 ∧ s.1 0 11 ≤ 4 := iv_r0_11 hI
  refine sm_15 hI (show (-2147483648 : Int) ≤ a1 ∧ a1 ≤ (2147483647 : Int) from by omega) (show (-1 : Int) ≤ 0 ∧ 0 ≤ (99 : Int) from by omega) (show (-2147483648 : Int) ≤ (s.1 0 11) - 1 ∧ (s.1 0 11) - 1 ≤ (2147483647 : Int) from by omega) (fun z22 q2 => ?_)
  refine ⟨fun c3 => ?_, fun c3 => ?_⟩
  · skip
    have dc3 := q2.2 c3
    exact sm_62_p28 hQ hI
  · skip
    have dc3 := q2.1 c3
    refine ⟨(show lf_R a1 from lf_Rof (by omega)), ?_⟩
    refine ⟨fun c4 => ?_, fun c4 => ?_⟩
    · skip
      have c4 : 4 ≤ a1 := c4
      exfalso
      omega
    · skip
      have c4 : ¬ (4 ≤ a1) := c4
      refine ⟨(show (0 : Int) ≤ a1 ∧ a1 < (4 : Int) from by omega), ?_⟩
      intro t25 et25
      have htt25 : t25 < 4 := by have e9 : t25 = (a1).toNat := et25; omega
      exact hQ (some t25) (fun t e => by cases e; exact htt25)
-- fm_61 ElevenBullocks.rule 0 i
theorem sm_61 {a1 : Int} {Q : lf_Z → Prop} {s : lf_Z} (hI : iv_A s.1 s.2.2) (ba1 : (-1) ≤ a1 ∧ a1 ≤ 3) (hQ : ∀  (s' : lf_Z), iv_A s'.1 s'.2.2 → lf_fq [0] 1000000 false s.1 s.2.2 s'.1 s'.2.2 → Q  s') : fm_61 a1 Q s := by
  unfold fm_61
  have hI1 : iv_A (lf_up s.1 0 12 a1) s.2.2 := iv_w0_12 hI (by omega)
  have fr2 : lf_fq [0] 1000000 false s.1 s.2.2 (lf_up s.1 0 12 a1) s.2.2 := lf_fq_up (lf_fq_rf) rfl (fun h => absurd h (by decide))
  refine sm_62 hI1 (show (-2147483648 : Int) ≤ a1 ∧ a1 ≤ (2147483647 : Int) from by omega) (fun r23 q3 => ?_)
  refine ⟨fun et22 => ?_, fun t22 et22 => ?_⟩
  · skip
    have hI4 : iv_A (lf_up s.1 0 12 a1) (lf_ur s.2.2 3 none) := iv_un3 hI1
    have fr5 : lf_fq [0] 1000000 false s.1 s.2.2 (lf_up s.1 0 12 a1) (lf_ur s.2.2 3 none) := lf_fq_pp fr2
    exact hQ (lf_up s.1 0 12 a1, s.2.1, lf_ur s.2.2 3 none) hI4 fr5
  · have htt22 : t22 < 4 := q3 t22 et22
    refine ⟨htt22, ?_⟩
    have hI6 : iv_A (lf_up s.1 0 12 a1) (lf_ur s.2.2 3 (some t22)) := iv_ut3 hI1 htt22
    have fr7 : lf_fq [0] 1000000 false s.1 s.2.2 (lf_up s.1 0 12 a1) (lf_ur s.2.2 3 (some t22)) := lf_fq_pp fr2
    exact hQ (lf_up s.1 0 12 a1, s.2.1, lf_ur s.2.2 3 (some t22)) hI6 fr7
-- fm_60 ElevenBullocks.by 0 i
theorem sm_60 {a1 : Int} {Q : Bool → lf_Z → Prop} {s : lf_Z} (hI : iv_A s.1 s.2.2) (ba1 : (-2147483648) ≤ a1 ∧ a1 ≤ 2147483647) (hQ : ∀ (z : Bool) (s' : lf_Z), iv_A s'.1 s'.2.2 → lf_fq [0] 1000000 false s.1 s.2.2 s'.1 s'.2.2 → Q z s') : fm_60 a1 Q s := by
  unfold fm_60
  have b1 : 0 ≤ s.1 0 11 ∧ s.1 0 11 ≤ 4 := iv_r0_11 hI
  refine sm_15 hI (show (-2147483648 : Int) ≤ a1 ∧ a1 ≤ (2147483647 : Int) from by omega) (show (-1 : Int) ≤ (-1) ∧ (-1) ≤ (99 : Int) from by omega) (show (-2147483648 : Int) ≤ (s.1 0 11) - 1 ∧ (s.1 0 11) - 1 ≤ (2147483647 : Int) from by omega) (fun z22 q2 => ?_)
  refine ⟨fun c3 => ?_, fun c3 => ?_⟩
  · skip
    have dc3 := q2.1 c3
    refine sm_61 hI (show (-1 : Int) ≤ a1 ∧ a1 ≤ (3 : Int) from by omega) (fun s23 hI5 fr4 => ?_)
    have fr7 : lf_fq [0] 1000000 false s.1 s.2.2 s23.1 s23.2.2 := lf_fq_tr (lf_fq_rf) (lf_fq_wk fr4 rfl (by decide) (by decide))
    exact hQ true s23 hI5 fr7
  · skip
    have dc3 := q2.2 c3
    exact hQ false s hI (lf_fq_rf)
-- fm_237 Model.by 95 i
theorem sm_237 {a1 : Int} {Q : Bool → lf_Z → Prop} {s : lf_Z} (hI : iv_A s.1 s.2.2) (ba1 : (-2147483648) ≤ a1 ∧ a1 ≤ 2147483647) (hQ : ∀ (z : Bool) (s' : lf_Z), iv_A s'.1 s'.2.2 → lf_fq [96] 8 true s.1 s.2.2 s'.1 s'.2.2 → Q z s') : fm_237 a1 Q s := by
  unfold fm_237
  have b1 : 0 ≤ s.1 96 7 ∧ s.1 96 7 ≤ 4 := iv_rd96 hI (iv_ffb272d5f (by omega))
  refine sm_183 hI (show (-2147483648 : Int) ≤ a1 ∧ a1 ≤ (2147483647 : Int) from by omega) (show (-1 : Int) ≤ (-1) ∧ (-1) ≤ (97 : Int) from by omega) (show (-2147483648 : Int) ≤ (s.1 96 7) - 1 ∧ (s.1 96 7) - 1 ≤ (2147483647 : Int) from by omega) (fun z22 q2 => ?_)
  refine ⟨fun c3 => ?_, fun c3 => ?_⟩
  · skip
    have dc3 := q2.1 c3
    have hI4 : iv_A (lf_up s.1 96 8 a1) s.2.2 := iv_wd96 hI (lf_le2 (iv_f0c0828f9 (by omega)) (by omega)) (fun h => absurd h (by omega))
    have fr5 : lf_fq [96] 8 true s.1 s.2.2 (lf_up s.1 96 8 a1) s.2.2 := lf_fq_up (lf_fq_rf) rfl (fun _ => by omega)
    exact hQ true (lf_up s.1 96 8 a1, s.2.1, s.2.2) hI4 fr5
  · skip
    have dc3 := q2.2 c3
    exact hQ false s hI (lf_fq_rf)
-- fm_65 Stand.sum 16
theorem sm_65_p10 {X10 : Int → Int → lf_Z → Prop} {Q : Int → lf_Z → Prop} {x1 : Int} {x3 : Int} {x4 : Int} {s : lf_Z} (hQ : ∀ (r : Int), ((-2147483648) ≤ r ∧ r ≤ 2147483647) → Q r s) {M10 : Nat} (hX10 : ∀ (x1 : Int) (x4 : Int), (-2147483648) ≤ x1 ∧ x1 ≤ 2147483647 → 0 ≤ x4 ∧ x4 ≤ 4 → (4 - x4).toNat < M10 → X10 x1 x4 s) (hM10 : (4 - x4).toNat ≤ M10) (hI : iv_A s.1 s.2.2) (bx1 : (-2147483648) ≤ x1 ∧ x1 ≤ 2147483647) (bx3 : 4 ≤ x3 ∧ x3 ≤ 4) (bx4 : 0 ≤ x4 ∧ x4 ≤ 4) : fm_65_p10 Q x3 X10 x1 x4 s := by
  unfold fm_65_p10
  refine ⟨(show lf_R x4 from lf_Rof (by omega)), ?_⟩
  refine ⟨(show lf_R x3 from lf_Rof (by omega)), ?_⟩
  refine ⟨fun c1 => ?_, fun c1 => ?_⟩
  · skip
    have c1 : x3 ≤ x4 := c1
    exact hQ x1 (show (-2147483648 : Int) ≤ x1 ∧ x1 ≤ (2147483647 : Int) from by omega)
  · skip
    have c1 : ¬ (x3 ≤ x4) := c1
    refine ⟨(show (0 : Int) ≤ x4 ∧ x4 < (4 : Int) from by omega), ?_⟩
    have b2 : (-2147483648) ≤ s.1 16 x4 ∧ s.1 16 x4 ≤ 2147483647 := iv_full hI
    have b3 : (-2147483648) ≤ lf_w (x1 + (s.1 16 x4)) ∧ lf_w (x1 + (s.1 16 x4)) ≤ 2147483647 := lf_wB
    exact hX10 (lf_w (x1 + (s.1 16 x4))) (x4 + 1) (show (-2147483648 : Int) ≤ lf_w (x1 + (s.1 16 x4)) ∧ lf_w (x1 + (s.1 16 x4)) ≤ (2147483647 : Int) from by omega) (show (0 : Int) ≤ x4 + 1 ∧ x4 + 1 ≤ (4 : Int) from by omega) (show (4 - (x4 + 1)).toNat < M10 from by omega)
theorem sm_65_p10L {Q : Int → lf_Z → Prop} {x1 : Int} {x3 : Int} {x4 : Int} {s : lf_Z} (hQ : ∀ (r : Int), ((-2147483648) ≤ r ∧ r ≤ 2147483647) → Q r s) (hI : iv_A s.1 s.2.2) (bx1 : (-2147483648) ≤ x1 ∧ x1 ≤ 2147483647) (bx3 : 4 ≤ x3 ∧ x3 ≤ 4) (bx4 : 0 ≤ x4 ∧ x4 ≤ 4) : fm_65_p10L Q x1 x3 x4 s := by
  intro X10 hX
  have key : ∀ (m9 : Nat) (x1 : Int) (x4 : Int), (-2147483648) ≤ x1 ∧ x1 ≤ 2147483647 → 0 ≤ x4 ∧ x4 ≤ 4 → (4 - x4).toNat < m9 → X10 x1 x4 s := by
    intro m9
    induction m9 with
    | zero => intro x1 x4 bx1 bx4 h9; exact absurd h9 (Nat.not_lt_zero _)
    | succ m9 ih => intro x1 x4 bx1 bx4 h9; exact hX _ _ _ (sm_65_p10 hQ   (fun x1' x4' bx1' bx4' h8 => ih x1' x4' bx1' bx4' (by omega)) (Nat.le_refl _)  hI  bx1 bx3 bx4  )
  exact key _ _ _ bx1 bx4   (Nat.lt_succ_self _)
theorem sm_65 {Q : Int → lf_Z → Prop} {s : lf_Z} (hI : iv_A s.1 s.2.2) (hQ : ∀ (r : Int), ((-2147483648) ≤ r ∧ r ≤ 2147483647) → Q r s) : fm_65 Q s := by
  unfold fm_65
  exact sm_65_p10L hQ hI (show (-2147483648 : Int) ≤ 0 ∧ 0 ≤ (2147483647 : Int) from by omega) (show (4 : Int) ≤ 4 ∧ 4 ≤ (4 : Int) from by omega) (show (0 : Int) ≤ 0 ∧ 0 ≤ (4 : Int) from by omega)
-- fm_64 Stand.beasts 15
theorem sm_64 {Q : Int → lf_Z → Prop} {s : lf_Z} (hI : iv_A s.1 s.2.2) (hQ : ∀ (r : Int), ((-2147483648) ≤ r ∧ r ≤ 2147483647) → Q r s) : fm_64 Q s := by
  unfold fm_64
  refine sm_65 hI (fun r22 q1 => ?_)
  exact hQ r22 (show (-2147483648 : Int) ≤ r22 ∧ r22 ≤ (2147483647 : Int) from by omega)
-- fm_66 Stand.freeBunch 15
theorem sm_66_p2 {X2 : Int → lf_Z → Prop} {Q : Int → lf_Z → Prop} {x1 : Int} {s : lf_Z} (hQ : ∀ (r : Int), ((-1) ≤ r ∧ r ≤ 3) → Q r s) {M2 : Nat} (hX2 : ∀ (x1 : Int), 0 ≤ x1 ∧ x1 ≤ 4 → (4 - x1).toNat < M2 → X2 x1 s) (hM2 : (4 - x1).toNat ≤ M2) (hI : iv_A s.1 s.2.2) (bx1 : 0 ≤ x1 ∧ x1 ≤ 4) : fm_66_p2 Q X2 x1 s := by
  unfold fm_66_p2
  refine ⟨(show lf_R x1 from lf_Rof (by omega)), ?_⟩
  refine ⟨fun c1 => ?_, fun c1 => ?_⟩
  · skip
    have c1 : 4 ≤ x1 := c1
    exact hQ (-1) (show (-1 : Int) ≤ (-1) ∧ (-1) ≤ (3 : Int) from by omega)
  · skip
    have c1 : ¬ (4 ≤ x1) := c1
    refine ⟨(show (0 : Int) ≤ x1 ∧ x1 < (4 : Int) from by omega), ?_⟩
    have b2 : (-2147483648) ≤ s.1 16 x1 ∧ s.1 16 x1 ≤ 2147483647 := iv_full hI
    refine ⟨(show lf_R (s.1 16 x1) from lf_Rof (by omega)), ?_⟩
    refine ⟨fun c3 => ?_, fun c3 => ?_⟩
    · skip
      have c3 : s.1 16 x1 ≠ 0 := c3
      exact hX2 (x1 + 1) (show (0 : Int) ≤ x1 + 1 ∧ x1 + 1 ≤ (4 : Int) from by omega) (show (4 - (x1 + 1)).toNat < M2 from by omega)
    · skip
      have c3 : ¬ (s.1 16 x1 ≠ 0) := c3
      exact hQ x1 (show (-1 : Int) ≤ x1 ∧ x1 ≤ (3 : Int) from by omega)
theorem sm_66_p2L {Q : Int → lf_Z → Prop} {x1 : Int} {s : lf_Z} (hQ : ∀ (r : Int), ((-1) ≤ r ∧ r ≤ 3) → Q r s) (hI : iv_A s.1 s.2.2) (bx1 : 0 ≤ x1 ∧ x1 ≤ 4) : fm_66_p2L Q x1 s := by
  intro X2 hX
  have key : ∀ (m9 : Nat) (x1 : Int), 0 ≤ x1 ∧ x1 ≤ 4 → (4 - x1).toNat < m9 → X2 x1 s := by
    intro m9
    induction m9 with
    | zero => intro x1 bx1 h9; exact absurd h9 (Nat.not_lt_zero _)
    | succ m9 ih => intro x1 bx1 h9; exact hX _ _ (sm_66_p2 hQ   (fun x1' bx1' h8 => ih x1' bx1' (by omega)) (Nat.le_refl _)  hI  bx1  )
  exact key _ _ bx1   (Nat.lt_succ_self _)
theorem sm_66 {Q : Int → lf_Z → Prop} {s : lf_Z} (hI : iv_A s.1 s.2.2) (hQ : ∀ (r : Int), ((-1) ≤ r ∧ r ≤ 3) → Q r s) : fm_66 Q s := by
  unfold fm_66
  exact sm_66_p2L hQ hI (show (0 : Int) ≤ 0 ∧ 0 ≤ (4 : Int) from by omega)
