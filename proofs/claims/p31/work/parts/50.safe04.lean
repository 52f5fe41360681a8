-- fm_221 Model.isCompared 95
theorem sm_221_p30 {Q : Bool → lf_Z → Prop} {x1 : Int} {s : lf_Z} (hQ : ∀ (z : Bool), Q z s) (hI : iv_A s.1 s.2.2) (bx1 : (-1) ≤ x1 ∧ x1 ≤ 159) : fm_221_p30 Q x1 s := by
  unfold fm_221_p30
  refine ⟨(show lf_R x1 from lf_Rof (by omega)), ?_⟩
  refine ⟨fun c3 => ?_, fun c3 => ?_⟩
  · skip
    have c3 : x1 < 0 := c3
    exact hQ false
  · skip
    have c3 : ¬ (x1 < 0) := c3
    refine ⟨(show (0 : Int) ≤ x1 ∧ x1 < (160 : Int) from by omega), ?_⟩
    have b4 : 0 ≤ s.1 100 x1 ∧ s.1 100 x1 ≤ 45 := iv_r100 hI _
    refine sm_222 hI (show (0 : Int) ≤ s.1 100 x1 ∧ s.1 100 x1 ≤ (45 : Int) from by omega) (fun r25 q5 => ?_)
    refine ⟨(show lf_R r25 from lf_Rof (by omega)), ?_⟩
    refine ⟨fun c6 => ?_, fun c6 => ?_⟩
    · skip
      have c6 : r25 ≠ 4 := c6
      exact hQ false
    · skip
      have c6 : ¬ (r25 ≠ 4) := c6
      exact hQ true
theorem sm_221_p7 {X7 : Int → lf_Z → Prop} {Q : Bool → lf_Z → Prop} {x1 : Int} {s : lf_Z} (hQ : ∀ (z : Bool), Q z s) {M7 : Nat} (hX7 : ∀ (x1 : Int), (-1) ≤ x1 ∧ x1 ≤ 159 → (x1 - (-1)).toNat < M7 → X7 x1 s) (hM7 : (x1 - (-1)).toNat ≤ M7) (hI : iv_A s.1 s.2.2) (bx1 : (-1) ≤ x1 ∧ x1 ≤ 159) : fm_221_p7 Q X7 x1 s := by
  unfold fm_221_p7
  refine ⟨(show lf_R x1 from lf_Rof (by omega)), ?_⟩
  refine ⟨fun c2 => ?_, fun c2 => ?_⟩
  · skip
    have c2 : x1 < 0 := c2
    exact sm_221_p30 hQ hI (show (-1 : Int) ≤ x1 ∧ x1 ≤ (159 : Int) from by omega)
  · skip
    have c2 : ¬ (x1 < 0) := c2
    refine ⟨(show (0 : Int) ≤ x1 ∧ x1 < (160 : Int) from by omega), ?_⟩
    have b7 : 0 ≤ s.1 100 x1 ∧ s.1 100 x1 ≤ 45 := iv_r100 hI _
    refine sm_222 hI (show (0 : Int) ≤ s.1 100 x1 ∧ s.1 100 x1 ≤ (45 : Int) from by omega) (fun r29 q8 => ?_)
    refine ⟨(show lf_R r29 from lf_Rof (by omega)), ?_⟩
    refine ⟨fun c9 => ?_, fun c9 => ?_⟩
    · skip
      have c9 : r29 ≤ 4 := c9
      exact sm_221_p30 hQ hI (show (-1 : Int) ≤ x1 ∧ x1 ≤ (159 : Int) from by omega)
    · skip
      have c9 : ¬ (r29 ≤ 4) := c9
      exact hX7 (x1 + (-1)) (show (-1 : Int) ≤ x1 + (-1) ∧ x1 + (-1) ≤ (159 : Int) from by omega) (show ((x1 + (-1)) - (-1)).toNat < M7 from by omega)
theorem sm_221_p7L {Q : Bool → lf_Z → Prop} {x1 : Int} {s : lf_Z} (hQ : ∀ (z : Bool), Q z s) (hI : iv_A s.1 s.2.2) (bx1 : (-1) ≤ x1 ∧ x1 ≤ 159) : fm_221_p7L Q x1 s := by
  intro X7 hX
  have key : ∀ (m9 : Nat) (x1 : Int), (-1) ≤ x1 ∧ x1 ≤ 159 → (x1 - (-1)).toNat < m9 → X7 x1 s := by
    intro m9
    induction m9 with
    | zero => intro x1 bx1 h9; exact absurd h9 (Nat.not_lt_zero _)
    | succ m9 ih => intro x1 bx1 h9; exact hX _ _ (sm_221_p7 hQ   (fun x1' bx1' h8 => ih x1' bx1' (by omega)) (Nat.le_refl _)  hI  bx1  )
  exact key _ _ bx1   (Nat.lt_succ_self _)
theorem sm_221 {Q : Bool → lf_Z → Prop} {s : lf_Z} (hI : iv_A s.1 s.2.2) (hQ : ∀ (z : Bool), Q z s) : fm_221 Q s := by
  unfold fm_221
  have b1 : 0 ≤ s.1 95 19 ∧ s.1 95 19 ≤ 160 := iv_r95_19 hI
  exact sm_221_p7L hQ hI (show (-1 : Int) ≤ (s.1 95 19) - 1 ∧ (s.1 95 19) - 1 ≤ (159 : Int) from by omega)
-- fm_223 Model.compareOf 95
theorem sm_223 {Q : Int → lf_Z → Prop} {s : lf_Z} (hI : iv_A s.1 s.2.2) (hQ : ∀ (r : Int), ((-1) ≤ r ∧ r ≤ 15) → Q r s) : fm_223 Q s := by
  unfold fm_223
  have b1 : (-2147483648) ≤ s.1 95 9 ∧ s.1 95 9 ≤ 2147483647 := iv_full hI
  refine ⟨(show lf_R (s.1 95 9) from lf_Rof (by omega)), ?_⟩
  refine ⟨fun c2 => ?_, fun c2 => ?_⟩
  · skip
    have c2 : s.1 95 9 ≠ 60 := c2
    refine ⟨fun c3 => ?_, fun c3 => ?_⟩
    · skip
      have c3 : s.1 95 9 ≠ 4 := c3
      refine ⟨fun c4 => ?_, fun c4 => ?_⟩
      · skip
        have c4 : s.1 95 9 ≠ 62 := c4
        refine ⟨fun c5 => ?_, fun c5 => ?_⟩
        · skip
          have c5 : s.1 95 9 ≠ 5 := c5
          refine ⟨fun c6 => ?_, fun c6 => ?_⟩
          · skip
            have c6 : s.1 95 9 ≠ 61 := c6
            refine ⟨fun c7 => ?_, fun c7 => ?_⟩
            · skip
              have c7 : s.1 95 9 ≠ 35 := c7
              exact hQ (-1) (show (-1 : Int) ≤ (-1) ∧ (-1) ≤ (15 : Int) from by omega)
            · skip
              have c7 : ¬ (s.1 95 9 ≠ 35) := c7
              exact hQ 15 (show (-1 : Int) ≤ 15 ∧ 15 ≤ (15 : Int) from by omega)
          · skip
            have c6 : ¬ (s.1 95 9 ≠ 61) := c6
            exact hQ 14 (show (-1 : Int) ≤ 14 ∧ 14 ≤ (15 : Int) from by omega)
        · skip
          have c5 : ¬ (s.1 95 9 ≠ 5) := c5
          exact hQ 13 (show (-1 : Int) ≤ 13 ∧ 13 ≤ (15 : Int) from by omega)
      · skip
        have c4 : ¬ (s.1 95 9 ≠ 62) := c4
        exact hQ 12 (show (-1 : Int) ≤ 12 ∧ 12 ≤ (15 : Int) from by omega)
    · skip
      have c3 : ¬ (s.1 95 9 ≠ 4) := c3
      exact hQ 11 (show (-1 : Int) ≤ 11 ∧ 11 ≤ (15 : Int) from by omega)
  · skip
    have c2 : ¬ (s.1 95 9 ≠ 60) := c2
    exact hQ 10 (show (-1 : Int) ≤ 10 ∧ 10 ≤ (15 : Int) from by omega)
-- fm_218 Model.betweenOf 95
theorem sm_218 {Q : Int → lf_Z → Prop} {s : lf_Z} (hI : iv_A s.1 s.2.2) (hQ : ∀ (r : Int), ((-1) ≤ r ∧ r ≤ 22) → Q r s) : fm_218 Q s := by
  unfold fm_218
  have b1 : (-2147483648) ≤ s.1 95 9 ∧ s.1 95 9 ≤ 2147483647 := iv_full hI
  refine ⟨(show lf_R (s.1 95 9) from lf_Rof (by omega)), ?_⟩
  refine ⟨fun c2 => ?_, fun c2 => ?_⟩
  · skip
    have c2 : s.1 95 9 ≠ 43 := c2
    refine ⟨fun c3 => ?_, fun c3 => ?_⟩
    · skip
      have c3 : s.1 95 9 ≠ 45 := c3
      refine ⟨fun c4 => ?_, fun c4 => ?_⟩
      · skip
        have c4 : s.1 95 9 ≠ 42 := c4
        refine ⟨fun c5 => ?_, fun c5 => ?_⟩
        · skip
          have c5 : s.1 95 9 ≠ 47 := c5
          refine sm_219 hI (fun r23 q6 => ?_)
          refine ⟨(show lf_R r23 from lf_Rof (by omega)), ?_⟩
          refine ⟨fun c7 => ?_, fun c7 => ?_⟩
          · skip
            have c7 : r23 = 41 := c7
            refine sm_221 hI (fun z26 => ?_)
            refine ⟨fun c9 => ?_, fun c9 => ?_⟩
            · skip
              refine sm_205 hI (show (97 : Int) ≤ 97 ∧ 97 ≤ (119 : Int) from by omega) (show (97 : Int) ≤ 110 ∧ 110 ≤ (117 : Int) from by omega) (show (97 : Int) ≤ 100 ∧ 100 ≤ (122 : Int) from by omega) (fun r28 => ?_)
              refine sm_207 hI (fun z30 => ?_)
              refine ⟨fun c12 => ?_, fun c12 => ?_⟩
              · skip
                refine sm_206 hI (show (97 : Int) ≤ 111 ∧ 111 ≤ (119 : Int) from by omega) (show (97 : Int) ≤ 114 ∧ 114 ≤ (121 : Int) from by omega) (fun r32 => ?_)
                refine sm_207 hI (fun z34 => ?_)
                refine ⟨fun c15 => ?_, fun c15 => ?_⟩
                · skip
                  exact hQ (-1) (show (-1 : Int) ≤ (-1) ∧ (-1) ≤ (22 : Int) from by omega)
                · skip
                  exact hQ 22 (show (-1 : Int) ≤ 22 ∧ 22 ≤ (22 : Int) from by omega)
              · skip
                exact hQ 21 (show (-1 : Int) ≤ 21 ∧ 21 ≤ (22 : Int) from by omega)
            · skip
              refine sm_223 hI (fun r36 q16 => ?_)
              exact hQ r36 (show (-1 : Int) ≤ r36 ∧ r36 ≤ (22 : Int) from by omega)
          · skip
            have c7 : ¬ (r23 = 41) := c7
            exact hQ (-1) (show (-1 : Int) ≤ (-1) ∧ (-1) ≤ (22 : Int) from by omega)
        · skip
          have c5 : ¬ (s.1 95 9 ≠ 47) := c5
          exact hQ 7 (show (-1 : Int) ≤ 7 ∧ 7 ≤ (22 : Int) from by omega)
      · skip
        have c4 : ¬ (s.1 95 9 ≠ 42) := c4
        exact hQ 6 (show (-1 : Int) ≤ 6 ∧ 6 ≤ (22 : Int) from by omega)
    · skip
      have c3 : ¬ (s.1 95 9 ≠ 45) := c3
      exact hQ 5 (show (-1 : Int) ≤ 5 ∧ 5 ≤ (22 : Int) from by omega)
  · skip
    have c2 : ¬ (s.1 95 9 ≠ 43) := c2
    exact hQ 4 (show (-1 : Int) ≤ 4 ∧ 4 ≤ (22 : Int) from by omega)
-- fm_226 Model.partOf 95 i
theorem sm_226 {a1 : Int} {Q : Int → lf_Z → Prop} {s : lf_Z} (hI : iv_A s.1 s.2.2) (ba1 : (-1) ≤ a1 ∧ a1 ≤ 45) (hQ : ∀ (r : Int), ((-1) ≤ r ∧ r ≤ 45) → Q r s) : fm_226 a1 Q s := by
  unfold fm_226
  refine ⟨(show lf_R a1 from lf_Rof (by omega)), ?_⟩
  refine ⟨fun c1 => ?_, fun c1 => ?_, fun c1 => ?_, fun c1 => ?_, fun c1 => ?_, fun c1 => ?_⟩
  · have c1 : a1 ≠ (-1) ∧ a1 ≠ 40 ∧ a1 ≠ 41 ∧ a1 ≠ 42 ∧ a1 ≠ 44 := c1
    refine sm_205 hI (show (97 : Int) ≤ 101 ∧ 101 ≤ (119 : Int) from by omega) (show (97 : Int) ≤ 110 ∧ 110 ≤ (117 : Int) from by omega) (show (97 : Int) ≤ 100 ∧ 100 ≤ (122 : Int) from by omega) (fun r23 => ?_)
    refine sm_207 hI (fun z25 => ?_)
    refine ⟨fun c4 => ?_, fun c4 => ?_⟩
    · skip
      exact hQ (-1) (show (-1 : Int) ≤ (-1) ∧ (-1) ≤ (45 : Int) from by omega)
    · skip
      exact hQ 0 (show (-1 : Int) ≤ 0 ∧ 0 ≤ (45 : Int) from by omega)
  · have c1 : a1 = (-1) := c1
    exact hQ (-1) (show (-1 : Int) ≤ (-1) ∧ (-1) ≤ (45 : Int) from by omega)
  · have c1 : a1 = 40 := c1
    have b5 : (-2147483648) ≤ s.1 95 9 ∧ s.1 95 9 ≤ 2147483647 := iv_full hI
    refine ⟨(show lf_R (s.1 95 9) from lf_Rof (by omega)), ?_⟩
    refine ⟨fun c6 => ?_, fun c6 => ?_⟩
    · skip
      have c6 : s.1 95 9 ≠ 41 := c6
      exact hQ (-1) (show (-1 : Int) ≤ (-1) ∧ (-1) ≤ (45 : Int) from by omega)
    · skip
      have c6 : ¬ (s.1 95 9 ≠ 41) := c6
      exact hQ 0 (show (-1 : Int) ≤ 0 ∧ 0 ≤ (45 : Int) from by omega)
  · have c1 : a1 = 41 := c1
    refine sm_204 hI (show (97 : Int) ≤ 116 ∧ 116 ≤ (116 : Int) from by omega) (show (97 : Int) ≤ 104 ∧ 104 ≤ (117 : Int) from by omega) (show (97 : Int) ≤ 101 ∧ 101 ≤ (122 : Int) from by omega) (show (97 : Int) ≤ 110 ∧ 110 ≤ (117 : Int) from by omega) (fun r28 => ?_)
    refine sm_207 hI (fun z30 => ?_)
    refine ⟨fun c9 => ?_, fun c9 => ?_⟩
    · skip
      exact hQ (-1) (show (-1 : Int) ≤ (-1) ∧ (-1) ≤ (45 : Int) from by omega)
    · skip
      refine sm_221 hI (fun z32 => ?_)
      refine ⟨fun c11 => ?_, fun c11 => ?_⟩
      · skip
        exact hQ (-1) (show (-1 : Int) ≤ (-1) ∧ (-1) ≤ (45 : Int) from by omega)
      · skip
        exact hQ 42 (show (-1 : Int) ≤ 42 ∧ 42 ≤ (45 : Int) from by omega)
  · have c1 : a1 = 42 := c1
    refine sm_204 hI (show (97 : Int) ≤ 101 ∧ 101 ≤ (116 : Int) from by omega) (show (97 : Int) ≤ 108 ∧ 108 ≤ (117 : Int) from by omega) (show (97 : Int) ≤ 115 ∧ 115 ≤ (122 : Int) from by omega) (show (97 : Int) ≤ 101 ∧ 101 ≤ (117 : Int) from by omega) (fun r34 => ?_)
    refine sm_207 hI (fun z36 => ?_)
    refine ⟨fun c14 => ?_, fun c14 => ?_⟩
    · skip
      exact hQ (-1) (show (-1 : Int) ≤ (-1) ∧ (-1) ≤ (45 : Int) from by omega)
    · skip
      exact hQ 43 (show (-1 : Int) ≤ 43 ∧ 43 ≤ (45 : Int) from by omega)
  · have c1 : a1 = 44 := c1
    refine sm_206 hI (show (97 : Int) ≤ 105 ∧ 105 ≤ (119 : Int) from by omega) (show (97 : Int) ≤ 110 ∧ 110 ≤ (121 : Int) from by omega) (fun r38 => ?_)
    refine sm_207 hI (fun z40 => ?_)
    refine ⟨fun c17 => ?_, fun c17 => ?_⟩
    · skip
      exact hQ (-1) (show (-1 : Int) ≤ (-1) ∧ (-1) ≤ (45 : Int) from by omega)
    · skip
      exact hQ 45 (show (-1 : Int) ≤ 45 ∧ 45 ≤ (45 : Int) from by omega)
-- fm_228 Model.shut 95 i
theorem sm_228_p32 {Q : lf_Z → Prop} {x1 : Int} {s : lf_Z} (hQ : ∀  (s' : lf_Z), iv_A s'.1 s'.2.2 → lf_fq [95, 98, 103] 1000000 true s.1 s.2.2 s'.1 s'.2.2 → Q  s') (hI : iv_A s.1 s.2.2) (bx1 : (-1) ≤ x1 ∧ x1 ≤ 45) : fm_228_p32 Q x1 s := sorry
theorem sm_228 {a1 : Int} {Q : lf_Z → Prop} {s : lf_Z} (hI : iv_A s.1 s.2.2) (ba1 : (-1) ≤ a1 ∧ a1 ≤ 45) (hQ : ∀  (s' : lf_Z), iv_A s'.1 s'.2.2 → lf_fq [95, 98, 103] 1000000 true s.1 s.2.2 s'.1 s'.2.2 → Q  s') : fm_228 a1 Q s := sorry
-- fm_227 Model.bind 95
theorem sm_227 {Q : lf_Z → Prop} {s : lf_Z} (hI : iv_A s.1 s.2.2) (hQ : ∀  (s' : lf_Z), iv_A s'.1 s'.2.2 → lf_fq [95, 98, 102, 103] 1000000 true s.1 s.2.2 s'.1 s'.2.2 → Q  s') : fm_227 Q s := sorry
-- fm_217 Model.behindOne 95
theorem sm_217_p99 {Q : Bool → lf_Z → Prop} {s : lf_Z} (hQ : ∀ (z : Bool) (s' : lf_Z), iv_A s'.1 s'.2.2 → lf_fq [95, 98, 100, 102, 103] 1000000 true s.1 s.2.2 s'.1 s'.2.2 → Q z s') (hI : iv_A s.1 s.2.2) : fm_217_p99 Q s := by
  unfold fm_217_p99
  refine sm_197 hI (fun s36 hI30 fr29 => ?_)
  have fr32 : lf_fq [95, 98, 100, 102, 103] 1000000 true s.1 s.2.2 s36.1 s36.2.2 := lf_fq_tr (lf_fq_rf) (lf_fq_wk fr29 rfl (by decide) (by decide))
  exact hQ true s36 hI30 fr32
theorem sm_217 {Q : Bool → lf_Z → Prop} {s : lf_Z} (hI : iv_A s.1 s.2.2) (hQ : ∀ (z : Bool) (s' : lf_Z), iv_A s'.1 s'.2.2 → lf_fq [95, 98, 100, 102, 103] 1000000 true s.1 s.2.2 s'.1 s'.2.2 → Q z s') : fm_217 Q s := sorry
-- fm_216 Model.summed 95
theorem sm_216_p46 {X46 : lf_Z → Prop} {Q : Int → lf_Z → Prop} {s : lf_Z} (hQ : ∀ (r : Int) (s' : lf_Z), iv_A s'.1 s'.2.2 → lf_fq [95, 98, 100, 101, 102, 103] 1000000 true s.1 s.2.2 s'.1 s'.2.2 → (0 ≤ r ∧ r ≤ 5) → Q r s') {M46 : Nat} (hX46 : ∀ (s' : lf_Z), iv_A s'.1 s'.2.2 → lf_fq [95, 98, 100, 101, 102, 103] 1000000 true s.1 s.2.2 s'.1 s'.2.2 → 0 < M46 → X46 s') (hM46 : 0 ≤ M46) (hI : iv_A s.1 s.2.2) : fm_216_p46 Q X46 s := sorry
theorem sm_216_p46L {Q : Int → lf_Z → Prop} {s : lf_Z} (hQ : ∀ (r : Int) (s' : lf_Z), iv_A s'.1 s'.2.2 → lf_fq [95, 98, 100, 101, 102, 103] 1000000 true s.1 s.2.2 s'.1 s'.2.2 → (0 ≤ r ∧ r ≤ 5) → Q r s') (hI : iv_A s.1 s.2.2) : fm_216_p46L Q s := by
  intro X46 hX
  have key : ∀ (m9 : Nat) (s' : lf_Z), iv_A s'.1 s'.2.2 → lf_fq [95, 98, 100, 101, 102, 103] 1000000 true s.1 s.2.2 s'.1 s'.2.2 → 0 < m9 → X46 s' := by
    intro m9
    induction m9 with
    | zero => intro  s' _ _  h9; exact absurd h9 (Nat.not_lt_zero _)
    | succ m9 ih => intro  s' i7 f7  h9; exact hX  _ (sm_216_p46 (fun r9 t9 i9 f9 => hQ r9 t9 i9 (lf_fq_tr f7 f9))   (fun  t8 i8 f8  h8 => ih  t8 i8 (lf_fq_tr f7 f8)  (by omega)) (Nat.le_refl _)  i7    )
  exact key _  s hI lf_fq_rf  (Nat.lt_succ_self _)
theorem sm_216_p22 {X22 : Int → lf_Z → Prop} {Q : Int → lf_Z → Prop} {x1 : Int} {s : lf_Z} (hQ : ∀ (r : Int) (s' : lf_Z), iv_A s'.1 s'.2.2 → lf_fq [95, 98, 100, 101, 102, 103] 1000000 true s.1 s.2.2 s'.1 s'.2.2 → (0 ≤ r ∧ r ≤ 5) → Q r s') {M22 : Nat} (hX22 : ∀ (x1 : Int) (s' : lf_Z), iv_A s'.1 s'.2.2 → lf_fq [95, 98, 100, 101, 102, 103] 1000000 true s.1 s.2.2 s'.1 s'.2.2 → 0 ≤ x1 ∧ x1 ≤ 26 → (26 - x1).toNat < M22 → X22 x1 s') (hM22 : (26 - x1).toNat ≤ M22) (hI : iv_A s.1 s.2.2) (bx1 : 0 ≤ x1 ∧ x1 ≤ 26) : fm_216_p22 Q X22 x1 s := by
  unfold fm_216_p22
  refine ⟨(show lf_R x1 from lf_Rof (by omega)), ?_⟩
  refine ⟨fun c9 => ?_, fun c9 => ?_⟩
  · skip
    have c9 : 26 ≤ x1 := c9
    have hI10 : iv_A (lf_up s.1 95 23 0) s.2.2 := iv_w95_23 hI (by omega)
    have fr11 : lf_fq [95, 98, 100, 101, 102, 103] 1000000 true s.1 s.2.2 (lf_up s.1 95 23 0) s.2.2 := lf_fq_up (lf_fq_rf) rfl (fun h => absurd h (by decide))
    exact sm_216_p46L (fun r9 t9 i9 f9 => hQ r9 t9 i9 (lf_fq_tr fr11 f9)) hI10
  · skip
    have c9 : ¬ (26 ≤ x1) := c9
    refine ⟨(show (0 : Int) ≤ x1 ∧ x1 < (26 : Int) from by omega), ?_⟩
    have hI30 : iv_A (lf_up s.1 103 x1 (-1)) s.2.2 := iv_w103 hI (by omega)
    have fr31 : lf_fq [95, 98, 100, 101, 102, 103] 1000000 true s.1 s.2.2 (lf_up s.1 103 x1 (-1)) s.2.2 := lf_fq_up (lf_fq_rf) rfl (fun h => absurd h (by decide))
    exact hX22 (x1 + 1) (lf_up s.1 103 x1 (-1), s.2.1, s.2.2) hI30 fr31 (show (0 : Int) ≤ x1 + 1 ∧ x1 + 1 ≤ (26 : Int) from by omega) (show (26 - (x1 + 1)).toNat < M22 from by omega)
theorem sm_216_p22L {Q : Int → lf_Z → Prop} {x1 : Int} {s : lf_Z} (hQ : ∀ (r : Int) (s' : lf_Z), iv_A s'.1 s'.2.2 → lf_fq [95, 98, 100, 101, 102, 103] 1000000 true s.1 s.2.2 s'.1 s'.2.2 → (0 ≤ r ∧ r ≤ 5) → Q r s') (hI : iv_A s.1 s.2.2) (bx1 : 0 ≤ x1 ∧ x1 ≤ 26) : fm_216_p22L Q x1 s := by
  intro X22 hX
  have key : ∀ (m9 : Nat) (x1 : Int) (s' : lf_Z), iv_A s'.1 s'.2.2 → lf_fq [95, 98, 100, 101, 102, 103] 1000000 true s.1 s.2.2 s'.1 s'.2.2 → 0 ≤ x1 ∧ x1 ≤ 26 → (26 - x1).toNat < m9 → X22 x1 s' := by
    intro m9
    induction m9 with
    | zero => intro x1 s' _ _ bx1 h9; exact absurd h9 (Nat.not_lt_zero _)
    | succ m9 ih => intro x1 s' i7 f7 bx1 h9; exact hX _ _ (sm_216_p22 (fun r9 t9 i9 f9 => hQ r9 t9 i9 (lf_fq_tr f7 f9))   (fun x1' t8 i8 f8 bx1' h8 => ih x1' t8 i8 (lf_fq_tr f7 f8) bx1' (by omega)) (Nat.le_refl _)  i7  bx1  )
  exact key _ _ s hI lf_fq_rf bx1 (Nat.lt_succ_self _)
theorem sm_216 {Q : Int → lf_Z → Prop} {s : lf_Z} (hI : iv_A s.1 s.2.2) (hQ : ∀ (r : Int) (s' : lf_Z), iv_A s'.1 s'.2.2 → lf_fq [95, 98, 100, 101, 102, 103] 1000000 true s.1 s.2.2 s'.1 s'.2.2 → (0 ≤ r ∧ r ≤ 5) → Q r s') : fm_216 Q s := by
  unfold fm_216
  have hI1 : iv_A (lf_up s.1 95 19 0) s.2.2 := iv_w95_19 hI (by omega)
  have fr2 : lf_fq [95, 98, 100, 101, 102, 103] 1000000 true s.1 s.2.2 (lf_up s.1 95 19 0) s.2.2 := lf_fq_up (lf_fq_rf) rfl (fun h => absurd h (by decide))
  have hI3 : iv_A (lf_up (lf_up s.1 95 19 0) 95 20 0) s.2.2 := iv_w95_20 hI1 (by omega)
  have fr4 : lf_fq [95, 98, 100, 101, 102, 103] 1000000 true s.1 s.2.2 (lf_up (lf_up s.1 95 19 0) 95 20 0) s.2.2 := lf_fq_up fr2 rfl (fun h => absurd h (by decide))
  have hI5 : iv_A (lf_up (lf_up (lf_up s.1 95 19 0) 95 20 0) 95 21 0) s.2.2 := iv_w95_21 hI3 (by omega)
  have fr6 : lf_fq [95, 98, 100, 101, 102, 103] 1000000 true s.1 s.2.2 (lf_up (lf_up (lf_up s.1 95 19 0) 95 20 0) 95 21 0) s.2.2 := lf_fq_up fr4 rfl (fun h => absurd h (by decide))
  have hI7 : iv_A (lf_up (lf_up (lf_up (lf_up s.1 95 19 0) 95 20 0) 95 21 0) 95 22 0) s.2.2 := iv_w95_22 hI5 (by omega)
  have fr8 : lf_fq [95, 98, 100, 101, 102, 103] 1000000 true s.1 s.2.2 (lf_up (lf_up (lf_up (lf_up s.1 95 19 0) 95 20 0) 95 21 0) 95 22 0) s.2.2 := lf_fq_up fr6 rfl (fun h => absurd h (by decide))
  exact sm_216_p22L (fun r9 t9 i9 f9 => hQ r9 t9 i9 (lf_fq_tr fr8 f9)) hI7 (show (0 : Int) ≤ 0 ∧ 0 ≤ (26 : Int) from by omega)
-- fm_215 Model.lawClause 95 i
theorem sm_215 {a1 : Int} {Q : Int → lf_Z → Prop} {s : lf_Z} (hI : iv_A s.1 s.2.2) (ba1 : 0 ≤ a1 ∧ a1 ≤ 2819) (hQ : ∀ (r : Int) (s' : lf_Z), iv_A s'.1 s'.2.2 → lf_fq [95, 98, 100, 101, 102, 103] 1000000 true s.1 s.2.2 s'.1 s'.2.2 → (0 ≤ r ∧ r ≤ 5) → Q r s') : fm_215 a1 Q s := sorry
-- fm_213 Model.figure 95 i i i
theorem sm_213 {a1 : Int} {a2 : Int} {a3 : Int} {Q : Int → lf_Z → Prop} {s : lf_Z} (hI : iv_A s.1 s.2.2) (ba1 : 1 ≤ a1 ∧ a1 ≤ 2821) (ba2 : 0 ≤ a2 ∧ a2 ≤ 1) (ba3 : 3 ≤ a3 ∧ a3 ≤ 99) (hQ : ∀ (r : Int) (s' : lf_Z), iv_A s'.1 s'.2.2 → lf_fq [95, 98] 1000000 true s.1 s.2.2 s'.1 s'.2.2 → (0 ≤ r ∧ r ≤ 2) → Q r s') : fm_213 a1 a2 a3 Q s := sorry
-- fm_214 Model.worded 95 l i i i
theorem sm_214 {a1 : Int} {a2 : Int} {a3 : Int} {a4 : Int} {Q : Int → lf_Z → Prop} {s : lf_Z} (hI : iv_A s.1 s.2.2) (ba2 : 2 ≤ a2 ∧ a2 ≤ 2821) (ba3 : 0 ≤ a3 ∧ a3 ≤ 1) (ba4 : 11 ≤ a4 ∧ a4 ≤ 99) (hQ : ∀ (r : Int) (s' : lf_Z), iv_A s'.1 s'.2.2 → lf_fq [95, 98] 1000000 true s.1 s.2.2 s'.1 s'.2.2 → (0 ≤ r ∧ r ≤ 2) → Q r s') : fm_214 a1 a2 a3 a4 Q s := by
  unfold fm_214
  refine sm_207 hI (fun z22 => ?_)
  refine ⟨fun c2 => ?_, fun c2 => ?_⟩
  · skip
    refine sm_197 hI (fun s23 hI4 fr3 => ?_)
    have fr6 : lf_fq [95, 98] 1000000 true s.1 s.2.2 s23.1 s23.2.2 := lf_fq_tr (lf_fq_rf) (lf_fq_wk fr3 rfl (by decide) (by decide))
    refine sm_213 hI4 (show (1 : Int) ≤ a2 ∧ a2 ≤ (2821 : Int) from by omega) (show (0 : Int) ≤ a3 ∧ a3 ≤ (1 : Int) from by omega) (show (3 : Int) ≤ a4 ∧ a4 ≤ (99 : Int) from by omega) (fun r25 s24 hI8 fr7 q9 => ?_)
    have fr10 : lf_fq [95, 98] 1000000 true s.1 s.2.2 s24.1 s24.2.2 := lf_fq_tr fr6 (lf_fq_wk fr7 rfl (by decide) (by decide))
    exact hQ r25 s24 hI8 fr10 (show (0 : Int) ≤ r25 ∧ r25 ≤ (2 : Int) from by omega)
  · skip
    exact hQ 1 s hI (lf_fq_rf) (show (0 : Int) ≤ 1 ∧ 1 ≤ (2 : Int) from by omega)
-- fm_212 Model.pair 95 i i i l i i
theorem sm_212 {a1 : Int} {a2 : Int} {a3 : Int} {a4 : Int} {a5 : Int} {a6 : Int} {Q : Int → lf_Z → Prop} {s : lf_Z} (hI : iv_A s.1 s.2.2) (ba1 : 0 ≤ a1 ∧ a1 ≤ 2819) (ba2 : 0 ≤ a2 ∧ a2 ≤ 1) (ba3 : 3 ≤ a3 ∧ a3 ≤ 24) (ba5 : 0 ≤ a5 ∧ a5 ≤ 1) (ba6 : 11 ≤ a6 ∧ a6 ≤ 99) (hQ : ∀ (r : Int) (s' : lf_Z), iv_A s'.1 s'.2.2 → lf_fq [95, 98] 1000000 true s.1 s.2.2 s'.1 s'.2.2 → (0 ≤ r ∧ r ≤ 2) → Q r s') : fm_212 a1 a2 a3 a4 a5 a6 Q s := by
  unfold fm_212
  refine sm_213 hI (show (1 : Int) ≤ a1 + 1 ∧ a1 + 1 ≤ (2821 : Int) from by omega) (show (0 : Int) ≤ a2 ∧ a2 ≤ (1 : Int) from by omega) (show (3 : Int) ≤ a3 ∧ a3 ≤ (99 : Int) from by omega) (fun r22 s21 hI2 fr1 q3 => ?_)
  have fr4 : lf_fq [95, 98] 1000000 true s.1 s.2.2 s21.1 s21.2.2 := lf_fq_tr (lf_fq_rf) (lf_fq_wk fr1 rfl (by decide) (by decide))
  refine ⟨(show lf_R r22 from lf_Rof (by omega)), ?_⟩
  refine ⟨fun c5 => ?_, fun c5 => ?_⟩
  · skip
    have c5 : r22 = 0 := c5
    refine sm_214 hI2 (show (2 : Int) ≤ a1 + 2 ∧ a1 + 2 ≤ (2821 : Int) from by omega) (show (0 : Int) ≤ a5 ∧ a5 ≤ (1 : Int) from by omega) (show (11 : Int) ≤ a6 ∧ a6 ≤ (99 : Int) from by omega) (fun r25 s24 hI7 fr6 q8 => ?_)
    have fr9 : lf_fq [95, 98] 1000000 true s.1 s.2.2 s24.1 s24.2.2 := lf_fq_tr fr4 (lf_fq_wk fr6 rfl (by decide) (by decide))
    exact hQ r25 s24 hI7 fr9 (show (0 : Int) ≤ r25 ∧ r25 ≤ (2 : Int) from by omega)
  · skip
    have c5 : ¬ (r22 = 0) := c5
    exact hQ r22 s21 hI2 fr4 (show (0 : Int) ≤ r22 ∧ r22 ≤ (2 : Int) from by omega)
-- fm_211 Model.body 95 i i
theorem sm_211 {a1 : Int} {a2 : Int} {Q : Int → lf_Z → Prop} {s : lf_Z} (hI : iv_A s.1 s.2.2) (ba1 : 0 ≤ a1 ∧ a1 ≤ 12) (ba2 : 0 ≤ a2 ∧ a2 ≤ 2819) (hQ : ∀ (r : Int) (s' : lf_Z), iv_A s'.1 s'.2.2 → lf_fq [95, 98, 100, 101, 102, 103] 1000000 true s.1 s.2.2 s'.1 s'.2.2 → (0 ≤ r ∧ r ≤ 5) → Q r s') : fm_211 a1 a2 Q s := by
  unfold fm_211
  refine ⟨(show lf_R a1 from lf_Rof (by omega)), ?_⟩
  refine ⟨fun c1 => ?_, fun c1 => ?_, fun c1 => ?_, fun c1 => ?_, fun c1 => ?_, fun c1 => ?_, fun c1 => ?_, fun c1 => ?_, fun c1 => ?_, fun c1 => ?_, fun c1 => ?_⟩
  · have c1 : a1 < 3 ∨ 12 < a1 := c1
    refine sm_215 hI (show (0 : Int) ≤ a2 ∧ a2 ≤ (2819 : Int) from by omega) (fun r23 s22 hI3 fr2 q4 => ?_)
    have fr5 : lf_fq [95, 98, 100, 101, 102, 103] 1000000 true s.1 s.2.2 s22.1 s22.2.2 := lf_fq_tr (lf_fq_rf) (lf_fq_wk fr2 rfl (by decide) (by decide))
    exact hQ r23 s22 hI3 fr5 (show (0 : Int) ≤ r23 ∧ r23 ≤ (5 : Int) from by omega)
  · have c1 : a1 = 3 := c1
    refine sm_204 hI (show (97 : Int) ≤ 104 ∧ 104 ≤ (116 : Int) from by omega) (show (97 : Int) ≤ 97 ∧ 97 ≤ (117 : Int) from by omega) (show (97 : Int) ≤ 114 ∧ 114 ≤ (122 : Int) from by omega) (show (97 : Int) ≤ 109 ∧ 109 ≤ (117 : Int) from by omega) (fun r25 => ?_)
    refine sm_212 hI (show (0 : Int) ≤ a2 ∧ a2 ≤ (2819 : Int) from by omega) (show (0 : Int) ≤ 0 ∧ 0 ≤ (1 : Int) from by omega) (show (3 : Int) ≤ 3 ∧ 3 ≤ (24 : Int) from by omega) (show (0 : Int) ≤ 0 ∧ 0 ≤ (1 : Int) from by omega) (show (11 : Int) ≤ 99 ∧ 99 ≤ (99 : Int) from by omega) (fun r27 s26 hI8 fr7 q9 => ?_)
    have fr10 : lf_fq [95, 98, 100, 101, 102, 103] 1000000 true s.1 s.2.2 s26.1 s26.2.2 := lf_fq_tr (lf_fq_rf) (lf_fq_wk fr7 rfl (by decide) (by decide))
    exact hQ r27 s26 hI8 fr10 (show (0 : Int) ≤ r27 ∧ r27 ≤ (5 : Int) from by omega)
  · have c1 : a1 = 4 := c1
    refine sm_206 hI (show (97 : Int) ≤ 116 ∧ 116 ≤ (119 : Int) from by omega) (show (97 : Int) ≤ 111 ∧ 111 ≤ (121 : Int) from by omega) (fun r29 => ?_)
    refine sm_212 hI (show (0 : Int) ≤ a2 ∧ a2 ≤ (2819 : Int) from by omega) (show (0 : Int) ≤ 0 ∧ 0 ≤ (1 : Int) from by omega) (show (3 : Int) ≤ 11 ∧ 11 ≤ (24 : Int) from by omega) (show (0 : Int) ≤ 0 ∧ 0 ≤ (1 : Int) from by omega) (show (11 : Int) ≤ 11 ∧ 11 ≤ (99 : Int) from by omega) (fun r31 s30 hI13 fr12 q14 => ?_)
    have fr15 : lf_fq [95, 98, 100, 101, 102, 103] 1000000 true s.1 s.2.2 s30.1 s30.2.2 := lf_fq_tr (lf_fq_rf) (lf_fq_wk fr12 rfl (by decide) (by decide))
    exact hQ r31 s30 hI13 fr15 (show (0 : Int) ≤ r31 ∧ r31 ≤ (5 : Int) from by omega)
  · have c1 : a1 = 5 := c1
    refine sm_206 hI (show (97 : Int) ≤ 116 ∧ 116 ≤ (119 : Int) from by omega) (show (97 : Int) ≤ 111 ∧ 111 ≤ (121 : Int) from by omega) (fun r33 => ?_)
    refine sm_212 hI (show (0 : Int) ≤ a2 ∧ a2 ≤ (2819 : Int) from by omega) (show (0 : Int) ≤ 0 ∧ 0 ≤ (1 : Int) from by omega) (show (3 : Int) ≤ 11 ∧ 11 ≤ (24 : Int) from by omega) (show (0 : Int) ≤ 0 ∧ 0 ≤ (1 : Int) from by omega) (show (11 : Int) ≤ 11 ∧ 11 ≤ (99 : Int) from by omega) (fun r35 s34 hI18 fr17 q19 => ?_)
    have fr20 : lf_fq [95, 98, 100, 101, 102, 103] 1000000 true s.1 s.2.2 s34.1 s34.2.2 := lf_fq_tr (lf_fq_rf) (lf_fq_wk fr17 rfl (by decide) (by decide))
    exact hQ r35 s34 hI18 fr20 (show (0 : Int) ≤ r35 ∧ r35 ≤ (5 : Int) from by omega)
  · have c1 : a1 = 6 := c1
    refine sm_206 hI (show (97 : Int) ≤ 97 ∧ 97 ≤ (119 : Int) from by omega) (show (97 : Int) ≤ 116 ∧ 116 ≤ (121 : Int) from by omega) (fun r37 => ?_)
    refine sm_212 hI (show (0 : Int) ≤ a2 ∧ a2 ≤ (2819 : Int) from by omega) (show (0 : Int) ≤ 0 ∧ 0 ≤ (1 : Int) from by omega) (show (3 : Int) ≤ 9 ∧ 9 ≤ (24 : Int) from by omega) (show (0 : Int) ≤ 0 ∧ 0 ≤ (1 : Int) from by omega) (show (11 : Int) ≤ 11 ∧ 11 ≤ (99 : Int) from by omega) (fun r39 s38 hI23 fr22 q24 => ?_)
    have fr25 : lf_fq [95, 98, 100, 101, 102, 103] 1000000 true s.1 s.2.2 s38.1 s38.2.2 := lf_fq_tr (lf_fq_rf) (lf_fq_wk fr22 rfl (by decide) (by decide))
    exact hQ r39 s38 hI23 fr25 (show (0 : Int) ≤ r39 ∧ r39 ≤ (5 : Int) from by omega)
  · have c1 : a1 = 7 := c1
    refine sm_206 hI (show (97 : Int) ≤ 97 ∧ 97 ≤ (119 : Int) from by omega) (show (97 : Int) ≤ 116 ∧ 116 ≤ (121 : Int) from by omega) (fun r41 => ?_)
    refine sm_212 hI (show (0 : Int) ≤ a2 ∧ a2 ≤ (2819 : Int) from by omega) (show (0 : Int) ≤ 1 ∧ 1 ≤ (1 : Int) from by omega) (show (3 : Int) ≤ 24 ∧ 24 ≤ (24 : Int) from by omega) (show (0 : Int) ≤ 0 ∧ 0 ≤ (1 : Int) from by omega) (show (11 : Int) ≤ 11 ∧ 11 ≤ (99 : Int) from by omega) (fun r43 s42 hI28 fr27 q29 => ?_)
    have fr30 : lf_fq [95, 98, 100, 101, 102, 103] 1000000 true s.1 s.2.2 s42.1 s42.2.2 := lf_fq_tr (lf_fq_rf) (lf_fq_wk fr27 rfl (by decide) (by decide))
    exact hQ r43 s42 hI28 fr30 (show (0 : Int) ≤ r43 ∧ r43 ≤ (5 : Int) from by omega)
  · have c1 : a1 = 8 := c1
    refine sm_206 hI (show (97 : Int) ≤ 116 ∧ 116 ≤ (119 : Int) from by omega) (show (97 : Int) ≤ 111 ∧ 111 ≤ (121 : Int) from by omega) (fun r45 => ?_)
    refine sm_212 hI (show (0 : Int) ≤ a2 ∧ a2 ≤ (2819 : Int) from by omega) (show (0 : Int) ≤ 0 ∧ 0 ≤ (1 : Int) from by omega) (show (3 : Int) ≤ 5 ∧ 5 ≤ (24 : Int) from by omega) (show (0 : Int) ≤ 0 ∧ 0 ≤ (1 : Int) from by omega) (show (11 : Int) ≤ 11 ∧ 11 ≤ (99 : Int) from by omega) (fun r47 s46 hI33 fr32 q34 => ?_)
    have fr35 : lf_fq [95, 98, 100, 101, 102, 103] 1000000 true s.1 s.2.2 s46.1 s46.2.2 := lf_fq_tr (lf_fq_rf) (lf_fq_wk fr32 rfl (by decide) (by decide))
    exact hQ r47 s46 hI33 fr35 (show (0 : Int) ≤ r47 ∧ r47 ≤ (5 : Int) from by omega)
  · have c1 : a1 = 9 := c1
    refine sm_213 hI (show (1 : Int) ≤ a2 + 1 ∧ a2 + 1 ≤ (2821 : Int) from by omega) (show (0 : Int) ≤ 0 ∧ 0 ≤ (1 : Int) from by omega) (show (3 : Int) ≤ 15 ∧ 15 ≤ (99 : Int) from by omega) (fun r49 s48 hI37 fr36 q38 => ?_)
    have fr39 : lf_fq [95, 98, 100, 101, 102, 103] 1000000 true s.1 s.2.2 s48.1 s48.2.2 := lf_fq_tr (lf_fq_rf) (lf_fq_wk fr36 rfl (by decide) (by decide))
    exact hQ r49 s48 hI37 fr39 (show (0 : Int) ≤ r49 ∧ r49 ≤ (5 : Int) from by omega)
  · have c1 : a1 = 10 := c1
    refine sm_213 hI (show (1 : Int) ≤ a2 + 1 ∧ a2 + 1 ≤ (2821 : Int) from by omega) (show (0 : Int) ≤ 0 ∧ 0 ≤ (1 : Int) from by omega) (show (3 : Int) ≤ 15 ∧ 15 ≤ (99 : Int) from by omega) (fun r51 s50 hI41 fr40 q42 => ?_)
    have fr43 : lf_fq [95, 98, 100, 101, 102, 103] 1000000 true s.1 s.2.2 s50.1 s50.2.2 := lf_fq_tr (lf_fq_rf) (lf_fq_wk fr40 rfl (by decide) (by decide))
    exact hQ r51 s50 hI41 fr43 (show (0 : Int) ≤ r51 ∧ r51 ≤ (5 : Int) from by omega)
  · have c1 : a1 = 11 := c1
    refine sm_206 hI (show (97 : Int) ≤ 98 ∧ 98 ≤ (119 : Int) from by omega) (show (97 : Int) ≤ 121 ∧ 121 ≤ (121 : Int) from by omega) (fun r53 => ?_)
    refine sm_212 hI (show (0 : Int) ≤ a2 ∧ a2 ≤ (2819 : Int) from by omega) (show (0 : Int) ≤ 0 ∧ 0 ≤ (1 : Int) from by omega) (show (3 : Int) ≤ 3 ∧ 3 ≤ (24 : Int) from by omega) (show (0 : Int) ≤ 1 ∧ 1 ≤ (1 : Int) from by omega) (show (11 : Int) ≤ 24 ∧ 24 ≤ (99 : Int) from by omega) (fun r55 s54 hI46 fr45 q47 => ?_)
    have fr48 : lf_fq [95, 98, 100, 101, 102, 103] 1000000 true s.1 s.2.2 s54.1 s54.2.2 := lf_fq_tr (lf_fq_rf) (lf_fq_wk fr45 rfl (by decide) (by decide))
    exact hQ r55 s54 hI46 fr48 (show (0 : Int) ≤ r55 ∧ r55 ≤ (5 : Int) from by omega)
  · have c1 : a1 = 12 := c1
    refine sm_213 hI (show (1 : Int) ≤ a2 + 1 ∧ a2 + 1 ≤ (2821 : Int) from by omega) (show (0 : Int) ≤ 1 ∧ 1 ≤ (1 : Int) from by omega) (show (3 : Int) ≤ 60 ∧ 60 ≤ (99 : Int) from by omega) (fun r57 s56 hI50 fr49 q51 => ?_)
    have fr52 : lf_fq [95, 98, 100, 101, 102, 103] 1000000 true s.1 s.2.2 s56.1 s56.2.2 := lf_fq_tr (lf_fq_rf) (lf_fq_wk fr49 rfl (by decide) (by decide))
    exact hQ r57 s56 hI50 fr52 (show (0 : Int) ≤ r57 ∧ r57 ≤ (5 : Int) from by omega)
-- fm_210 Model.has i i
theorem sm_210 {a0 : Int} {a1 : Int} {Q : Bool → lf_Z → Prop} {s : lf_Z} (hI : iv_A s.1 s.2.2) (ba0 : (-2147483648) ≤ a0 ∧ a0 ≤ 2147483647) (ba1 : (-1) ≤ a1 ∧ a1 ≤ 15) (hQ : ∀ (z : Bool), ((z = true → (64 ≤ a0 ∨ a0 < 0 ∨ a1 < 0 ∨ 31 < a1 ∨ a1 < 6)) ∧ (z = false → True)) → Q z s) : fm_210 a0 a1 Q s := by
  unfold fm_210
  exact ⟨fun c => hQ false ⟨fun h => (by cases h), fun _ => trivial⟩, fun c => hQ true ⟨fun _ => lf_hasB (Classical.not_not.mp c), fun _ => trivial⟩⟩
-- fm_202 Model.clause 95
theorem sm_202_p65 {Q : Int → lf_Z → Prop} {x1 : Int} {x2 : Int} {s : lf_Z} (hQ : ∀ (r : Int) (s' : lf_Z), iv_A s'.1 s'.2.2 → lf_fq [95, 98, 100, 101, 102, 103] 1000000 true s.1 s.2.2 s'.1 s'.2.2 → (0 ≤ r ∧ r ≤ 6) → Q r s') (hI : iv_A s.1 s.2.2) (bx1 : 0 ≤ x1 ∧ x1 ≤ 12) (bx2 : (-2147483648) ≤ x2 ∧ x2 ≤ 2147483647) : fm_202_p65 Q x1 x2 s := sorry
theorem sm_202_p29 {Q : Int → lf_Z → Prop} {x1 : Int} {s : lf_Z} (hQ : ∀ (r : Int) (s' : lf_Z), iv_A s'.1 s'.2.2 → lf_fq [95, 98, 100, 101, 102, 103] 1000000 true s.1 s.2.2 s'.1 s'.2.2 → (0 ≤ r ∧ r ≤ 6) → Q r s') (hI : iv_A s.1 s.2.2) (bx1 : 0 ≤ x1 ∧ x1 ≤ 12) : fm_202_p29 Q x1 s := by
  unfold fm_202_p29
  have b4 : 0 ≤ s.1 95 12 ∧ s.1 95 12 ≤ 2115 := iv_r95_12 hI
  refine ⟨(show (0 : Int) ≤ s.1 95 12 ∧ s.1 95 12 < (2820 : Int) from by omega), ?_⟩
  have b5 : (-2147483648) ≤ s.1 98 (s.1 95 12) ∧ s.1 98 (s.1 95 12) ≤ 2147483647 := iv_full hI
  refine ⟨(show lf_R (s.1 98 (s.1 95 12)) from lf_Rof (by omega)), ?_⟩
  refine ⟨fun c6 => ?_, fun c6 => ?_⟩
  · skip
    have c6 : s.1 98 (s.1 95 12) ≠ 24 := c6
    refine ⟨(show lf_R x1 from lf_Rof (by omega)), ?_⟩
    refine ⟨fun c7 => ?_, fun c7 => ?_⟩
    · skip
      have c7 : 2 < x1 := c7
      exact sm_202_p65 hQ hI (show (0 : Int) ≤ x1 ∧ x1 ≤ (12 : Int) from by omega) (show (-2147483648 : Int) ≤ s.1 98 (s.1 95 12) ∧ s.1 98 (s.1 95 12) ≤ (2147483647 : Int) from by omega)
    · skip
      have c7 : ¬ (2 < x1) := c7
      have b35 : (-2147483648) ≤ s.1 95 24 ∧ s.1 95 24 ≤ 2147483647 := iv_full hI
      have b36 : 1 ≤ lf_shl 1 x1 ∧ lf_shl 1 x1 ≤ 4 := lf_shl1 (m := 2) (by omega) (by omega) (by decide)
      have b37 : (-2147483648) ≤ lf_or (s.1 95 24) (lf_shl 1 x1) ∧ lf_or (s.1 95 24) (lf_shl 1 x1) ≤ 2147483647 := lf_orB
      have hI38 : iv_A (lf_up s.1 95 24 (lf_or (s.1 95 24) (lf_shl 1 x1))) s.2.2 := iv_w95_24 hI (by omega)
      have fr39 : lf_fq [95, 98, 100, 101, 102, 103] 1000000 true s.1 s.2.2 (lf_up s.1 95 24 (lf_or (s.1 95 24) (lf_shl 1 x1))) s.2.2 := lf_fq_up (lf_fq_rf) rfl (fun h => absurd h (by decide))
      exact sm_202_p65 (fun r9 t9 i9 f9 => hQ r9 t9 i9 (lf_fq_tr fr39 f9)) hI38 (show (0 : Int) ≤ x1 ∧ x1 ≤ (12 : Int) from by omega) (show (-2147483648 : Int) ≤ s.1 98 (s.1 95 12) ∧ s.1 98 (s.1 95 12) ≤ (2147483647 : Int) from by omega)
  · skip
    have c6 : ¬ (s.1 98 (s.1 95 12) ≠ 24) := c6
    exact hQ 6 s hI (lf_fq_rf) (show (0 : Int) ≤ 6 ∧ 6 ≤ (6 : Int) from by omega)
theorem sm_202 {Q : Int → lf_Z → Prop} {s : lf_Z} (hI : iv_A s.1 s.2.2) (hQ : ∀ (r : Int) (s' : lf_Z), iv_A s'.1 s'.2.2 → lf_fq [95, 98, 100, 101, 102, 103] 1000000 true s.1 s.2.2 s'.1 s'.2.2 → (0 ≤ r ∧ r ≤ 6) → Q r s') : fm_202 Q s := by
  unfold fm_202
  refine sm_203 hI (fun r22 q1 => ?_)
  refine ⟨(show lf_R r22 from lf_Rof (by omega)), ?_⟩
  refine ⟨fun c2 => ?_, fun c2 => ?_⟩
  · skip
    have c2 : 0 ≤ r22 := c2
    refine ⟨fun c3 => ?_, fun c3 => ?_⟩
    · skip
      have c3 : 2 < r22 := c3
      exact sm_202_p29 hQ hI (show (0 : Int) ≤ r22 ∧ r22 ≤ (12 : Int) from by omega)
    · skip
      have c3 : ¬ (2 < r22) := c3
      have b40 : (-2147483648) ≤ s.1 95 24 ∧ s.1 95 24 ≤ 2147483647 := iv_full hI
      refine sm_210 hI (show (-2147483648 : Int) ≤ s.1 95 24 ∧ s.1 95 24 ≤ (2147483647 : Int) from by omega) (show (-1 : Int) ≤ r22 ∧ r22 ≤ (15 : Int) from by omega) (fun z36 q41 => ?_)
      refine ⟨fun c42 => ?_, fun c42 => ?_⟩
      · skip
        have dc42 := q41.2 c42
        exact sm_202_p29 hQ hI (show (0 : Int) ≤ r22 ∧ r22 ≤ (12 : Int) from by omega)
      · skip
        have dc42 := q41.1 c42
        exact hQ 4 s hI (lf_fq_rf) (show (0 : Int) ≤ 4 ∧ 4 ≤ (6 : Int) from by omega)
  · skip
    have c2 : ¬ (0 ≤ r22) := c2
    exact hQ 1 s hI (lf_fq_rf) (show (0 : Int) ≤ 1 ∧ 1 ≤ (6 : Int) from by omega)
-- fm_196 Model.readText 95
theorem sm_196_p44 {X44 : lf_Z → Prop} {Q : Int → lf_Z → Prop} {s : lf_Z} (hQ : ∀ (r : Int) (s' : lf_Z), iv_A s'.1 s'.2.2 → lf_fq [95, 98, 100, 101, 102, 103] 1000000 true s.1 s.2.2 s'.1 s'.2.2 → (0 ≤ r ∧ r ≤ 6) → Q r s') {M44 : Nat} (hX44 : ∀ (s' : lf_Z), iv_A s'.1 s'.2.2 → lf_fq [95, 98, 100, 101, 102, 103] 1000000 true s.1 s.2.2 s'.1 s'.2.2 → 0 < M44 → X44 s') (hM44 : 0 ≤ M44) (hI : iv_A s.1 s.2.2) : fm_196_p44 Q X44 s := sorry
theorem sm_196_p44L {Q : Int → lf_Z → Prop} {s : lf_Z} (hQ : ∀ (r : Int) (s' : lf_Z), iv_A s'.1 s'.2.2 → lf_fq [95, 98, 100, 101, 102, 103] 1000000 true s.1 s.2.2 s'.1 s'.2.2 → (0 ≤ r ∧ r ≤ 6) → Q r s') (hI : iv_A s.1 s.2.2) : fm_196_p44L Q s := by
  intro X44 hX
  have key : ∀ (m9 : Nat) (s' : lf_Z), iv_A s'.1 s'.2.2 → lf_fq [95, 98, 100, 101, 102, 103] 1000000 true s.1 s.2.2 s'.1 s'.2.2 → 0 < m9 → X44 s' := by
    intro m9
    induction m9 with
    | zero => intro  s' _ _  h9; exact absurd h9 (Nat.not_lt_zero _)
    | succ m9 ih => intro  s' i7 f7  h9; exact hX  _ (sm_196_p44 (fun r9 t9 i9 f9 => hQ r9 t9 i9 (lf_fq_tr f7 f9))   (fun  t8 i8 f8  h8 => ih  t8 i8 (lf_fq_tr f7 f8)  (by omega)) (Nat.le_refl _)  i7    )
  exact key _  s hI lf_fq_rf  (Nat.lt_succ_self _)
theorem sm_196 {Q : Int → lf_Z → Prop} {s : lf_Z} (hI : iv_A s.1 s.2.2) (hQ : ∀ (r : Int) (s' : lf_Z), iv_A s'.1 s'.2.2 → lf_fq [95, 98, 100, 101, 102, 103] 1000000 true s.1 s.2.2 s'.1 s'.2.2 → (0 ≤ r ∧ r ≤ 6) → Q r s') : fm_196 Q s := sorry
-- fm_195 Model.text 95
theorem sm_195_p37 {Q : Int → lf_Z → Prop} {y1 : Int} {s : lf_Z} (hQ : ∀ (r : Int) (s' : lf_Z), iv_A s'.1 s'.2.2 → lf_fq [95, 96, 98, 100, 101, 102, 103] 7 true s.1 s.2.2 s'.1 s'.2.2 → ((-1) ≤ r ∧ r ≤ 4) → Q r s') (hI : iv_A s.1 s.2.2) (by1 : (-1) ≤ y1 ∧ y1 ≤ 300) (kv0 : s.1 96 7 < 4) : fm_195_p37 Q y1 s := by
  unfold fm_195_p37
  have hI14 : iv_A (lf_up s.1 95 6 y1) s.2.2 := iv_w95_6 hI (by omega)
  have fr15 : lf_fq [95, 96, 98, 100, 101, 102, 103] 7 true s.1 s.2.2 (lf_up s.1 95 6 y1) s.2.2 := lf_fq_up (lf_fq_rf) rfl (fun h => absurd h (by decide))
  have hI16 : iv_A (lf_up (lf_up s.1 95 6 y1) 95 4 0) s.2.2 := iv_w95_4 hI14 (by omega)
  have fr17 : lf_fq [95, 96, 98, 100, 101, 102, 103] 7 true s.1 s.2.2 (lf_up (lf_up s.1 95 6 y1) 95 4 0) s.2.2 := lf_fq_up fr15 rfl (fun h => absurd h (by decide))
  have b18 : (-2147483648) ≤ s.1 95 5 ∧ s.1 95 5 ≤ 2147483647 := (show (-2147483648) ≤ (lf_up (lf_up s.1 95 6 y1) 95 4 0) 95 5 ∧ (lf_up (lf_up s.1 95 6 y1) 95 4 0) 95 5 ≤ 2147483647 from iv_full hI16)
  have b19 : (lf_up (lf_up s.1 95 6 y1) 95 4 0) 95 5 = (lf_up s.1 95 6 y1) 95 5 := lf_up_i (by omega)
  have b20 : (lf_up s.1 95 6 y1) 95 5 = s.1 95 5 := lf_up_i (by omega)
  refine ⟨(show lf_R (s.1 95 5) from lf_Rof (by omega)), ?_⟩
  refine ⟨fun c21 => ?_, fun c21 => ?_⟩
  · skip
    have c21 : s.1 95 5 = 0 := c21
    have b22 : 0 ≤ s.1 96 7 ∧ s.1 96 7 ≤ 4 := (show 0 ≤ (lf_up (lf_up s.1 95 6 y1) 95 4 0) 96 7 ∧ (lf_up (lf_up s.1 95 6 y1) 95 4 0) 96 7 ≤ 4 from iv_rd96 hI16 (iv_ffb272d5f (by omega)))
    have hI23 : iv_A (lf_up (lf_up (lf_up s.1 95 6 y1) 95 4 0) 96 7 ((s.1 96 7) + 1)) s.2.2 := iv_wd96 hI16 (lf_le2 (iv_f29303112 (by omega)) (by omega)) (fun h => absurd h (by omega))
    have fr24 : lf_fq [95, 96, 98, 100, 101, 102, 103] 7 true s.1 s.2.2 (lf_up (lf_up (lf_up s.1 95 6 y1) 95 4 0) 96 7 ((s.1 96 7) + 1)) s.2.2 := lf_fq_up fr17 rfl (fun _ => by omega)
    exact hQ (((s.1 96 7) + 1) - 1) (lf_up (lf_up (lf_up s.1 95 6 y1) 95 4 0) 96 7 ((s.1 96 7) + 1), s.2.1, s.2.2) hI23 fr24 (show (-1 : Int) ≤ ((s.1 96 7) + 1) - 1 ∧ ((s.1 96 7) + 1) - 1 ≤ (4 : Int) from by omega)
  · skip
    have c21 : ¬ (s.1 95 5 = 0) := c21
    exact hQ (-1) (lf_up (lf_up s.1 95 6 y1) 95 4 0, s.2.1, s.2.2) hI16 fr17 (show (-1 : Int) ≤ (-1) ∧ (-1) ≤ (4 : Int) from by omega)
theorem sm_195 {Q : Int → lf_Z → Prop} {s : lf_Z} (hI : iv_A s.1 s.2.2) (hQ : ∀ (r : Int) (s' : lf_Z), iv_A s'.1 s'.2.2 → lf_fq [95, 96, 98, 100, 101, 102, 103] 7 true s.1 s.2.2 s'.1 s'.2.2 → ((-1) ≤ r ∧ r ≤ 4) → Q r s') : fm_195 Q s := by
  unfold fm_195
  have b1 : 0 ≤ s.1 96 7 ∧ s.1 96 7 ≤ 4 := iv_rd96 hI (iv_ffb272d5f (by omega))
  refine ⟨(show lf_R (s.1 96 7) from lf_Rof (by omega)), ?_⟩
  refine ⟨fun c2 => ?_, fun c2 => ?_⟩
  · skip
    have c2 : s.1 96 7 ≠ 4 := c2
    refine sm_196 hI (fun r23 s22 hI4 fr3 q5 => ?_)
    have fr6 : lf_fq [95, 96, 98, 100, 101, 102, 103] 7 true s.1 s.2.2 s22.1 s22.2.2 := lf_fq_tr (lf_fq_rf) (lf_fq_wk fr3 rfl (by decide) (by decide))
    have hI7 : iv_A (lf_up s22.1 95 5 r23) s22.2.2 := iv_w95_5 hI4 (by omega)
    have fr8 : lf_fq [95, 96, 98, 100, 101, 102, 103] 7 true s.1 s.2.2 (lf_up s22.1 95 5 r23) s22.2.2 := lf_fq_up fr6 rfl (fun h => absurd h (by decide))
    refine ⟨(show lf_R r23 from lf_Rof (by omega)), ?_⟩
    refine ⟨fun c9 => ?_, fun c9 => ?_⟩
    · skip
      have c9 : r23 ≠ 0 := c9
      have b10 : 0 ≤ s22.1 95 8 ∧ s22.1 95 8 ≤ 300 := (show 0 ≤ (lf_up s22.1 95 5 r23) 95 8 ∧ (lf_up s22.1 95 5 r23) 95 8 ≤ 300 from iv_r95_8 hI7)
      have b11 : (lf_up s22.1 95 5 r23) 95 8 = s22.1 95 8 := lf_up_i (by omega)
      have b12 : 0 ≤ s22.1 96 7 ∧ s22.1 96 7 ≤ 4 := (show 0 ≤ (lf_up s22.1 95 5 r23) 96 7 ∧ (lf_up s22.1 95 5 r23) 96 7 ≤ 4 from iv_rd96 hI7 (iv_ffb272d5f (by omega)))
      have b13 : s22.1 96 7 = s.1 96 7 := congrFun (fr3.1 96 rfl) _
      exact sm_195_p37 (fun r9 t9 i9 f9 => hQ r9 t9 i9 (lf_fq_tr fr8 f9)) hI7 (show (-1 : Int) ≤ s22.1 95 8 ∧ s22.1 95 8 ≤ (300 : Int) from by omega) (show (s22.1 96 7) < 4 from by omega)
    · skip
      have c9 : ¬ (r23 ≠ 0) := c9
      have b25 : 0 ≤ s22.1 96 7 ∧ s22.1 96 7 ≤ 4 := (show 0 ≤ (lf_up s22.1 95 5 r23) 96 7 ∧ (lf_up s22.1 95 5 r23) 96 7 ≤ 4 from iv_rd96 hI7 (iv_ffb272d5f (by omega)))
      have b26 : s22.1 96 7 = s.1 96 7 := congrFun (fr3.1 96 rfl) _
      exact sm_195_p37 (fun r9 t9 i9 f9 => hQ r9 t9 i9 (lf_fq_tr fr8 f9)) hI7 (show (-1 : Int) ≤ (-1) ∧ (-1) ≤ (300 : Int) from by omega) (show (s22.1 96 7) < 4 from by omega)
  · skip
    have c2 : ¬ (s.1 96 7 ≠ 4) := c2
    exact hQ (-1) s hI (lf_fq_rf) (show (-1 : Int) ≤ (-1) ∧ (-1) ≤ (4 : Int) from by omega)
-- fm_59 ElevenBullocks.fault 0 i
theorem sm_59 {a1 : Int} {Q : Int → lf_Z → Prop} {s : lf_Z} (hI : iv_A s.1 s.2.2) (ba1 : (-2147483648) ≤ a1 ∧ a1 ≤ 2147483647) (hQ : ∀ (r : Int), ((-2147483648) ≤ r ∧ r ≤ 2147483647) → Q r s) : fm_59 a1 Q s := by
  unfold fm_59
  refine ⟨(show lf_R a1 from lf_Rof (by omega)), ?_⟩
  refine ⟨fun c1 => ?_, fun c1 => ?_⟩
  · skip
    have c1 : a1 ≠ 0 := c1
    refine ⟨fun c2 => ?_, fun c2 => ?_⟩
    · skip
      have c2 : a1 ≠ 1 := c2
      exact hQ (-1) (show (-2147483648 : Int) ≤ (-1) ∧ (-1) ≤ (2147483647 : Int) from by omega)
    · skip
      have c2 : ¬ (a1 ≠ 1) := c2
      have b3 : (-2147483648) ≤ s.1 31 3 ∧ s.1 31 3 ≤ 2147483647 := iv_full hI
      exact hQ (s.1 31 3) (show (-2147483648 : Int) ≤ s.1 31 3 ∧ s.1 31 3 ≤ (2147483647 : Int) from by omega)
  · skip
    have c1 : ¬ (a1 ≠ 0) := c1
    have b4 : (-2147483648) ≤ s.1 31 2 ∧ s.1 31 2 ≤ 2147483647 := iv_full hI
    exact hQ (s.1 31 2) (show (-2147483648 : Int) ≤ s.1 31 2 ∧ s.1 31 2 ≤ (2147483647 : Int) from by omega)
-- fm_236 Model.fault 95 i
theorem sm_236 {a1 : Int} {Q : Int → lf_Z → Prop} {s : lf_Z} (hI : iv_A s.1 s.2.2) (ba1 : (-2147483648) ≤ a1 ∧ a1 ≤ 2147483647) (hQ : ∀ (r : Int), ((-2147483648) ≤ r ∧ r ≤ 2147483647) → Q r s) : fm_236 a1 Q s := by
  unfold fm_236
  refine ⟨(show lf_R a1 from lf_Rof (by omega)), ?_⟩
  refine ⟨fun c1 => ?_, fun c1 => ?_⟩
  · skip
    have c1 : a1 ≠ 0 := c1
    refine ⟨fun c2 => ?_, fun c2 => ?_⟩
    · skip
      have c2 : a1 ≠ 1 := c2
      exact hQ (-1) (show (-2147483648 : Int) ≤ (-1) ∧ (-1) ≤ (2147483647 : Int) from by omega)
    · skip
      have c2 : ¬ (a1 ≠ 1) := c2
      have b3 : (-2147483648) ≤ s.1 95 6 ∧ s.1 95 6 ≤ 2147483647 := iv_full hI
      exact hQ (s.1 95 6) (show (-2147483648 : Int) ≤ s.1 95 6 ∧ s.1 95 6 ≤ (2147483647 : Int) from by omega)
  · skip
    have c1 : ¬ (a1 ≠ 0) := c1
    have b4 : (-2147483648) ≤ s.1 95 5 ∧ s.1 95 5 ≤ 2147483647 := iv_full hI
    exact hQ (s.1 95 5) (show (-2147483648 : Int) ≤ s.1 95 5 ∧ s.1 95 5 ≤ (2147483647 : Int) from by omega)
-- fm_62 ElevenBullocks.scriptOf 0 i
theorem sm_62_p28 {Q : Option Nat → lf_Z → Prop} {s : lf_Z} (hQ : ∀ (r : Option Nat), (∀ t : Nat, r = some t → t < 4) → Q r s) (hI : iv_A s.1 s.2.2) : fm_62_p28 Q s := by
  unfold fm_62_p28
  exact hQ none (fun t e => by cases e)
theorem sm_62 {a1 : Int} {Q : Option Nat → lf_Z → Prop} {s : lf_Z} (hI : iv_A s.1 s.2.2) (ba1 : (-2147483648) ≤ a1 ∧ a1 ≤ 2147483647) (hQ : ∀ (r : Option Nat), (∀ t : Nat, r = some t → t < 4) → Q r s) : fm_62 a1 Q s := by
  unfold fm_62
  have b1 : 0 ≤ s.1 0 11 ∧ s.1 0 11 ≤ 4 := iv_r0_11 hI
  refine sm_15 hI (show (-2147483648 : Int) ≤ a1 ∧ a1 ≤ (2147483647 : Int) from by omega) (show (-1 : Int) ≤ 0 ∧ 0 ≤ (99 : Int) from by omega) (show (-2147483648 : Int) ≤ (s.1 0 11) - 1 ∧ (s.1 0 11) - 1 ≤ (2147483647 : Int) from by omega) (fun z22 q2 => ?_)
  refine ⟨fun c3 => ?_, fun c3 => ?_⟩
  · skip
    have dc3 := q2.2 c3
    exact sm_62_p28 hQ hI
  · skip
    have dc3 := q2.1 c3
    refine ⟨(show lf_R a1 from lf_Rof (by omega)), ?_⟩
    refine ⟨fun c4 => ?_, fun c4 => ?_⟩
    · skip
      have c4 : 4 ≤ a1 := c4
      exfalso
      omega
    · skip
      have c4 : ¬ (4 ≤ a1) := c4
      refine ⟨(show (0 : Int) ≤ a1 ∧ a1 < (4 : Int) from by omega), ?_⟩
      intro t25 et25
      have htt25 : t25 < 4 := by have e9 : t25 = (a1).toNat := et25; omega
      exact hQ (some t25) (fun t e => by cases e; exact htt25)
-- fm_61 ElevenBullocks.rule 0 i
theorem sm_61 {a1 : Int} {Q : lf_Z → Prop} {s : lf_Z} (hI : iv_A s.1 s.2.2) (ba1 : (-1) ≤ a1 ∧ a1 ≤ 3) (hQ : ∀  (s' : lf_Z), iv_A s'.1 s'.2.2 → lf_fq [0] 1000000 false s.1 s.2.2 s'.1 s'.2.2 → Q  s') : fm_61 a1 Q s := by
  unfold fm_61
  have hI1 : iv_A (lf_up s.1 0 12 a1) s.2.2 := iv_w0_12 hI (by omega)
  have fr2 : lf_fq [0] 1000000 false s.1 s.2.2 (lf_up s.1 0 12 a1) s.2.2 := lf_fq_up (lf_fq_rf) rfl (fun h => absurd h (by decide))
  refine sm_62 hI1 (show (-2147483648 : Int) ≤ a1 ∧ a1 ≤ (2147483647 : Int) from by omega) (fun r23 q3 => ?_)
  refine ⟨fun et22 => ?_, fun t22 et22 => ?_⟩
  · skip
    have hI4 : iv_A (lf_up s.1 0 12 a1) (lf_ur s.2.2 3 none) := iv_un3 hI1
    have fr5 : lf_fq [0] 1000000 false s.1 s.2.2 (lf_up s.1 0 12 a1) (lf_ur s.2.2 3 none) := lf_fq_pp fr2
    exact hQ (lf_up s.1 0 12 a1, s.2.1, lf_ur s.2.2 3 none) hI4 fr5
  · have htt22 : t22 < 4 := q3 t22 et22
    refine ⟨htt22, ?_⟩
    have hI6 : iv_A (lf_up s.1 0 12 a1) (lf_ur s.2.2 3 (some t22)) := iv_ut3 hI1 htt22
    have fr7 : lf_fq [0] 1000000 false s.1 s.2.2 (lf_up s.1 0 12 a1) (lf_ur s.2.2 3 (some t22)) := lf_fq_pp fr2
    exact hQ (lf_up s.1 0 12 a1, s.2.1, lf_ur s.2.2 3 (some t22)) hI6 fr7
-- fm_60 ElevenBullocks.by 0 i
theorem sm_60 {a1 : Int} {Q : Bool → lf_Z → Prop} {s : lf_Z} (hI : iv_A s.1 s.2.2) (ba1 : (-2147483648) ≤ a1 ∧ a1 ≤ 2147483647) (hQ : ∀ (z : Bool) (s' : lf_Z), iv_A s'.1 s'.2.2 → lf_fq [0] 1000000 false s.1 s.2.2 s'.1 s'.2.2 → Q z s') : fm_60 a1 Q s := by
  unfold fm_60
  have b1 : 0 ≤ s.1 0 11 ∧ s.1 0 11 ≤ 4 := iv_r0_11 hI
  refine sm_15 hI (show (-2147483648 : Int) ≤ a1 ∧ a1 ≤ (2147483647 : Int) from by omega) (show (-1 : Int) ≤ (-1) ∧ (-1) ≤ (99 : Int) from by omega) (show (-2147483648 : Int) ≤ (s.1 0 11) - 1 ∧ (s.1 0 11) - 1 ≤ (2147483647 : Int) from by omega) (fun z22 q2 => ?_)
  refine ⟨fun c3 => ?_, fun c3 => ?_⟩
  · skip
    have dc3 := q2.1 c3
    refine sm_61 hI (show (-1 : Int) ≤ a1 ∧ a1 ≤ (3 : Int) from by omega) (fun s23 hI5 fr4 => ?_)
    have fr7 : lf_fq [0] 1000000 false s.1 s.2.2 s23.1 s23.2.2 := lf_fq_tr (lf_fq_rf) (lf_fq_wk fr4 rfl (by decide) (by decide))
    exact hQ true s23 hI5 fr7
  · skip
    have dc3 := q2.2 c3
    exact hQ false s hI (lf_fq_rf)
-- fm_237 Model.by 95 i
theorem sm_237 {a1 : Int} {Q : Bool → lf_Z → Prop} {s : lf_Z} (hI : iv_A s.1 s.2.2) (ba1 : (-2147483648) ≤ a1 ∧ a1 ≤ 2147483647) (hQ : ∀ (z : Bool) (s' : lf_Z), iv_A s'.1 s'.2.2 → lf_fq [96] 8 true s.1 s.2.2 s'.1 s'.2.2 → Q z s') : fm_237 a1 Q s := by
  unfold fm_237
  have b1 : 0 ≤ s.1 96 7 ∧ s.1 96 7 ≤ 4 := iv_rd96 hI (iv_ffb272d5f (by omega))
  refine sm_183 hI (show (-2147483648 : Int) ≤ a1 ∧ a1 ≤ (2147483647 : Int) from by omega) (show (-1 : Int) ≤ (-1) ∧ (-1) ≤ (97 : Int) from by omega) (show (-2147483648 : Int) ≤ (s.1 96 7) - 1 ∧ (s.1 96 7) - 1 ≤ (2147483647 : Int) from by omega) (fun z22 q2 => ?_)
  refine ⟨fun c3 => ?_, fun c3 => ?_⟩
  · skip
    have dc3 := q2.1 c3
    have hI4 : iv_A (lf_up s.1 96 8 a1) s.2.2 := iv_wd96 hI (lf_le2 (iv_f0c0828f9 (by omega)) (by omega)) (fun h => absurd h (by omega))
    have fr5 : lf_fq [96] 8 true s.1 s.2.2 (lf_up s.1 96 8 a1) s.2.2 := lf_fq_up (lf_fq_rf) rfl (fun _ => by omega)
    exact hQ true (lf_up s.1 96 8 a1, s.2.1, s.2.2) hI4 fr5
  · skip
    have dc3 := q2.2 c3
    exact hQ false s hI (lf_fq_rf)
-- fm_65 Stand.sum 16
theorem sm_65_p10 {X10 : Int → Int → lf_Z → Prop} {Q : Int → lf_Z → Prop} {x1 : Int} {x3 : Int} {x4 : Int} {s : lf_Z} (hQ : ∀ (r : Int), ((-2147483648) ≤ r ∧ r ≤ 2147483647) → Q r s) {M10 : Nat} (hX10 : ∀ (x1 : Int) (x4 : Int), (-2147483648) ≤ x1 ∧ x1 ≤ 2147483647 → 0 ≤ x4 ∧ x4 ≤ 4 → (4 - x4).toNat < M10 → X10 x1 x4 s) (hM10 : (4 - x4).toNat ≤ M10) (hI : iv_A s.1 s.2.2) (bx1 : (-2147483648) ≤ x1 ∧ x1 ≤ 2147483647) (bx3 : 4 ≤ x3 ∧ x3 ≤ 4) (bx4 : 0 ≤ x4 ∧ x4 ≤ 4) : fm_65_p10 Q x3 X10 x1 x4 s := by
  unfold fm_65_p10
  refine ⟨(show lf_R x4 from lf_Rof (by omega)), ?_⟩
  refine ⟨(show lf_R x3 from lf_Rof (by omega)), ?_⟩
  refine ⟨fun c1 => ?_, fun c1 => ?_⟩
  · skip
    have c1 : x3 ≤ x4 := c1
    exact hQ x1 (show (-2147483648 : Int) ≤ x1 ∧ x1 ≤ (2147483647 : Int) from by omega)
  · skip
    have c1 : ¬ (x3 ≤ x4) := c1
    refine ⟨(show (0 : Int) ≤ x4 ∧ x4 < (4 : Int) from by omega), ?_⟩
    have b2 : (-2147483648) ≤ s.1 16 x4 ∧ s.1 16 x4 ≤ 2147483647 := iv_full hI
    have b3 : (-2147483648) ≤ lf_w (x1 + (s.1 16 x4)) ∧ lf_w (x1 + (s.1 16 x4)) ≤ 2147483647 := lf_wB
    exact hX10 (lf_w (x1 + (s.1 16 x4))) (x4 + 1) (show (-2147483648 : Int) ≤ lf_w (x1 + (s.1 16 x4)) ∧ lf_w (x1 + (s.1 16 x4)) ≤ (2147483647 : Int) from by omega) (show (0 : Int) ≤ x4 + 1 ∧ x4 + 1 ≤ (4 : Int) from by omega) (show (4 - (x4 + 1)).toNat < M10 from by omega)
theorem sm_65_p10L {Q : Int → lf_Z → Prop} {x1 : Int} {x3 : Int} {x4 : Int} {s : lf_Z} (hQ : ∀ (r : Int), ((-2147483648) ≤ r ∧ r ≤ 2147483647) → Q r s) (hI : iv_A s.1 s.2.2) (bx1 : (-2147483648) ≤ x1 ∧ x1 ≤ 2147483647) (bx3 : 4 ≤ x3 ∧ x3 ≤ 4) (bx4 : 0 ≤ x4 ∧ x4 ≤ 4) : fm_65_p10L Q x1 x3 x4 s := by
  intro X10 hX
  have key : ∀ (m9 : Nat) (x1 : Int) (x4 : Int), (-2147483648) ≤ x1 ∧ x1 ≤ 2147483647 → 0 ≤ x4 ∧ x4 ≤ 4 → (4 - x4).toNat < m9 → X10 x1 x4 s := by
    intro m9
    induction m9 with
    | zero => intro x1 x4 bx1 bx4 h9; exact absurd h9 (Nat.not_lt_zero _)
    | succ m9 ih => intro x1 x4 bx1 bx4 h9; exact hX _ _ _ (sm_65_p10 hQ   (fun x1' x4' bx1' bx4' h8 => ih x1' x4' bx1' bx4' (by omega)) (Nat.le_refl _)  hI  bx1 bx3 bx4  )
  exact key _ _ _ bx1 bx4   (Nat.lt_succ_self _)
theorem sm_65 {Q : Int → lf_Z → Prop} {s : lf_Z} (hI : iv_A s.1 s.2.2) (hQ : ∀ (r : Int), ((-2147483648) ≤ r ∧ r ≤ 2147483647) → Q r s) : fm_65 Q s := by
  unfold fm_65
  exact sm_65_p10L hQ hI (show (-2147483648 : Int) ≤ 0 ∧ 0 ≤ (2147483647 : Int) from by omega) (show (4 : Int) ≤ 4 ∧ 4 ≤ (4 : Int) from by omega) (show (0 : Int) ≤ 0 ∧ 0 ≤ (4 : Int) from by omega)
-- fm_64 Stand.beasts 15
theorem sm_64 {Q : Int → lf_Z → Prop} {s : lf_Z} (hI : iv_A s.1 s.2.2) (hQ : ∀ (r : Int), ((-2147483648) ≤ r ∧ r ≤ 2147483647) → Q r s) : fm_64 Q s := by
  unfold fm_64
  refine sm_65 hI (fun r22 q1 => ?_)
  exact hQ r22 (show (-2147483648 : Int) ≤ r22 ∧ r22 ≤ (2147483647 : Int) from by omega)
-- fm_66 Stand.freeBunch 15
theorem sm_66_p2 {X2 : Int → lf_Z → Prop} {Q : Int → lf_Z → Prop} {x1 : Int} {s : lf_Z} (hQ : ∀ (r : Int), ((-1) ≤ r ∧ r ≤ 3) → Q r s) {M2 : Nat} (hX2 : ∀ (x1 : Int), 0 ≤ x1 ∧ x1 ≤ 4 → (4 - x1).toNat < M2 → X2 x1 s) (hM2 : (4 - x1).toNat ≤ M2) (hI : iv_A s.1 s.2.2) (bx1 : 0 ≤ x1 ∧ x1 ≤ 4) : fm_66_p2 Q X2 x1 s := by
  unfold fm_66_p2
  refine ⟨(show lf_R x1 from lf_Rof (by omega)), ?_⟩
  refine ⟨fun c1 => ?_, fun c1 => ?_⟩
  · skip
    have c1 : 4 ≤ x1 := c1
    exact hQ (-1) (show (-1 : Int) ≤ (-1) ∧ (-1) ≤ (3 : Int) from by omega)
  · skip
    have c1 : ¬ (4 ≤ x1) := c1
    refine ⟨(show (0 : Int) ≤ x1 ∧ x1 < (4 : Int) from by omega), ?_⟩
    have b2 : (-2147483648) ≤ s.1 16 x1 ∧ s.1 16 x1 ≤ 2147483647 := iv_full hI
    refine ⟨(show lf_R (s.1 16 x1) from lf_Rof (by omega)), ?_⟩
    refine ⟨fun c3 => ?_, fun c3 => ?_⟩
    · skip
      have c3 : s.1 16 x1 ≠ 0 := c3
      exact hX2 (x1 + 1) (show (0 : Int) ≤ x1 + 1 ∧ x1 + 1 ≤ (4 : Int) from by omega) (show (4 - (x1 + 1)).toNat < M2 from by omega)
    · skip
      have c3 : ¬ (s.1 16 x1 ≠ 0) := c3
      exact hQ x1 (show (-1 : Int) ≤ x1 ∧ x1 ≤ (3 : Int) from by omega)
theorem sm_66_p2L {Q : Int → lf_Z → Prop} {x1 : Int} {s : lf_Z} (hQ : ∀ (r : Int), ((-1) ≤ r ∧ r ≤ 3) → Q r s) (hI : iv_A s.1 s.2.2) (bx1 : 0 ≤ x1 ∧ x1 ≤ 4) : fm_66_p2L Q x1 s := by
  intro X2 hX
  have key : ∀ (m9 : Nat) (x1 : Int), 0 ≤ x1 ∧ x1 ≤ 4 → (4 - x1).toNat < m9 → X2 x1 s := by
    intro m9
    induction m9 with
    | zero => intro x1 bx1 h9; exact absurd h9 (Nat.not_lt_zero _)
    | succ m9 ih => intro x1 bx1 h9; exact hX _ _ (sm_66_p2 hQ   (fun x1' bx1' h8 => ih x1' bx1' (by omega)) (Nat.le_refl _)  hI  bx1  )
  exact key _ _ bx1   (Nat.lt_succ_self _)
theorem sm_66 {Q : Int → lf_Z → Prop} {s : lf_Z} (hI : iv_A s.1 s.2.2) (hQ : ∀ (r : Int), ((-1) ≤ r ∧ r ≤ 3) → Q r s) : fm_66 Q s := by
  unfold fm_66
  exact sm_66_p2L hQ hI (show (0 : Int) ≤ 0 ∧ 0 ≤ (4 : Int) from by omega)
-- fm_68 Stand.writeTo 15 23 i
theorem sm_68_p57 {X57 : Int → Int → lf_Z → Prop} {Q : lf_Z → Prop} {x3 : Int} {x4 : Int} {s : lf_Z} (hQ : ∀  (s' : lf_Z), iv_A s'.1 s'.2.2 → lf_fq [23] 1000000 true s.1 s.2.2 s'.1 s'.2.2 → Q  s') {M57 : Nat} (hX57 : ∀ (x3 : Int) (x4 : Int) (s' : lf_Z), iv_A s'.1 s'.2.2 → lf_fq [23] 1000000 true s.1 s.2.2 s'.1 s'.2.2 → 12 ≤ x3 ∧ x3 ≤ 1155 → 0 ≤ x4 ∧ x4 ≤ 6 → (x3 = 39 * s'.1 22 2 + 12 + 2 * x4) → (6 - x4).toNat < M57 → X57 x3 x4 s') (hM57 : (6 - x4).toNat ≤ M57) (hI : iv_A s.1 s.2.2) (bx3 : 12 ≤ x3 ∧ x3 ≤ 1155) (bx4 : 0 ≤ x4 ∧ x4 ≤ 6) (kv0 : x3 = 39 * s.1 22 2 + 12 + 2 * x4) : fm_68_p57 Q X57 x3 x4 s := by
  unfold fm_68_p57
  refine ⟨(show lf_R x4 from lf_Rof (by omega)), ?_⟩
  refine ⟨fun c4 => ?_, fun c4 => ?_⟩
  · skip
    have c4 : 6 ≤ x4 := c4
    refine ⟨(show (0 : Int) ≤ 0 ∧ (0 : Int) ≤ x3 ∧ (0 : Int) ≤ 12 ∧ (0 : Int) + 12 ≤ 12 ∧ (x3 : Int) + 12 ≤ 1170 from by omega), ?_⟩
    have hI5 : iv_A (lf_cp s.1 21 23 0 x3 12) s.2.2 := iv_cp21_23 hI (lf_m39 (q := s.1 22 2) (r := 24) (by omega) (by omega))
    have fr6 : lf_fq [23] 1000000 true s.1 s.2.2 (lf_cp s.1 21 23 0 x3 12) s.2.2 := lf_fq_cp (lf_fq_rf) rfl (by decide)
    have b7 : (-2147483648) ≤ (lf_cp s.1 21 23 0 x3 12) 15 6 ∧ (lf_cp s.1 21 23 0 x3 12) 15 6 ≤ 2147483647 := iv_full hI5
    have b8 : (lf_cp s.1 21 23 0 x3 12) 15 6 = s.1 15 6 := lf_cp_c (by omega)
    refine ⟨(show (0 : Int) ≤ x3 + 12 ∧ x3 + 12 < (1170 : Int) from by omega), ?_⟩
    have hI9 : iv_A (lf_up (lf_cp s.1 21 23 0 x3 12) 23 (x3 + 12) ((lf_cp s.1 21 23 0 x3 12) 15 6)) s.2.2 := iv_wd23 hI5 (lf_le2 (iv_f94fa157c (s.1 22 2) (x4) (by omega) (by omega) (by omega)) (by omega)) (by rw [lf_m39 (q := s.1 22 2) (r := 24 + 2 * x4) (by omega) (by omega)]; omega)
    have fr10 : lf_fq [23] 1000000 true s.1 s.2.2 (lf_up (lf_cp s.1 21 23 0 x3 12) 23 (x3 + 12) ((lf_cp s.1 21 23 0 x3 12) 15 6)) s.2.2 := lf_fq_up fr6 rfl (fun h => absurd h (by decide))
    have b11 : (-2147483648) ≤ (lf_cp s.1 21 23 0 x3 12) 15 7 ∧ (lf_cp s.1 21 23 0 x3 12) 15 7 ≤ 2147483647 := (show (-2147483648) ≤ (lf_up (lf_cp s.1 21 23 0 x3 12) 23 (x3 + 12) ((lf_cp s.1 21 23 0 x3 12) 15 6)) 15 7 ∧ (lf_up (lf_cp s.1 21 23 0 x3 12) 23 (x3 + 12) ((lf_cp s.1 21 23 0 x3 12) 15 6)) 15 7 ≤ 2147483647 from iv_full hI9)
    have b12 : (lf_cp s.1 21 23 0 x3 12) 15 7 = s.1 15 7 := lf_cp_c (by omega)
    refine ⟨(show (0 : Int) ≤ (x3 + 12) + 1 ∧ (x3 + 12) + 1 < (1170 : Int) from by omega), ?_⟩
    have hI13 : iv_A (lf_up (lf_up (lf_cp s.1 21 23 0 x3 12) 23 (x3 + 12) ((lf_cp s.1 21 23 0 x3 12) 15 6)) 23 ((x3 + 12) + 1) ((lf_cp s.1 21 23 0 x3 12) 15 7)) s.2.2 := iv_wd23 hI9 (lf_le2 (iv_f5e4c071d (s.1 22 2) (x4) (by omega) (by omega) (by omega)) (by omega)) (by rw [lf_m39 (q := s.1 22 2) (r := 25 + 2 * x4) (by omega) (by omega)]; omega)
    have fr14 : lf_fq [23] 1000000 true s.1 s.2.2 (lf_up (lf_up (lf_cp s.1 21 23 0 x3 12) 23 (x3 + 12) ((lf_cp s.1 21 23 0 x3 12) 15 6)) 23 ((x3 + 12) + 1) ((lf_cp s.1 21 23 0 x3 12) 15 7)) s.2.2 := lf_fq_up fr10 rfl (fun h => absurd h (by decide))
    have b15 : (-2147483648) ≤ (lf_cp s.1 21 23 0 x3 12) 15 8 ∧ (lf_cp s.1 21 23 0 x3 12) 15 8 ≤ 2147483647 := (show (-2147483648) ≤ (lf_up (lf_up (lf_cp s.1 21 23 0 x3 12) 23 (x3 + 12) ((lf_cp s.1 21 23 0 x3 12) 15 6)) 23 ((x3 + 12) + 1) ((lf_cp s.1 21 23 0 x3 12) 15 7)) 15 8 ∧ (lf_up (lf_up (lf_cp s.1 21 23 0 x3 12) 23 (x3 + 12) ((lf_cp s.1 21 23 0 x3 12) 15 6)) 23 ((x3 + 12) + 1) ((lf_cp s.1 21 23 0 x3 12) 15 7)) 15 8 ≤ 2147483647 from iv_full hI13)
    have b16 : (lf_cp s.1 21 23 0 x3 12) 15 8 = s.1 15 8 := lf_cp_c (by omega)
    refine ⟨(show (0 : Int) ≤ (x3 + 12) + 2 ∧ (x3 + 12) + 2 < (1170 : Int) from by omega), ?_⟩
    have hI17 : iv_A (lf_up (lf_up (lf_up (lf_cp s.1 21 23 0 x3 12) 23 (x3 + 12) ((lf_cp s.1 21 23 0 x3 12) 15 6)) 23 ((x3 + 12) + 1) ((lf_cp s.1 21 23 0 x3 12) 15 7)) 23 ((x3 + 12) + 2) ((lf_cp s.1 21 23 0 x3 12) 15 8)) s.2.2 := iv_wd23 hI13 (lf_le2 (iv_fc75fd977 (s.1 22 2) (x4) (by omega) (by omega) (by omega)) (by omega)) (by rw [lf_m39 (q := s.1 22 2) (r := 26 + 2 * x4) (by omega) (by omega)]; omega)
    have fr18 : lf_fq [23] 1000000 true s.1 s.2.2 (lf_up (lf_up (lf_up (lf_cp s.1 21 23 0 x3 12) 23 (x3 + 12) ((lf_cp s.1 21 23 0 x3 12) 15 6)) 23 ((x3 + 12) + 1) ((lf_cp s.1 21 23 0 x3 12) 15 7)) 23 ((x3 + 12) + 2) ((lf_cp s.1 21 23 0 x3 12) 15 8)) s.2.2 := lf_fq_up fr14 rfl (fun h => absurd h (by decide))
    exact hQ (lf_up (lf_up (lf_up (lf_cp s.1 21 23 0 x3 12) 23 (x3 + 12) ((lf_cp s.1 21 23 0 x3 12) 15 6)) 23 ((x3 + 12) + 1) ((lf_cp s.1 21 23 0 x3 12) 15 7)) 23 ((x3 + 12) + 2) ((lf_cp s.1 21 23 0 x3 12) 15 8), s.2.1, s.2.2) hI17 fr18
  · skip
    have c4 : ¬ (6 ≤ x4) := c4
    refine ⟨(show (0 : Int) ≤ x4 ∧ x4 < (6 : Int) from by omega), ?_⟩
    have b19 : (-2147483648) ≤ s.1 19 x4 ∧ s.1 19 x4 ≤ 2147483647 := iv_full hI
    refine ⟨(show (0 : Int) ≤ x3 ∧ x3 < (1170 : Int) from by omega), ?_⟩
    have hI20 : iv_A (lf_up s.1 23 x3 (s.1 19 x4)) s.2.2 := iv_wd23 hI (lf_le2 (iv_f8e736285 (s.1 22 2) (x4) (by omega) (by omega) (by omega)) (by omega)) (by rw [lf_m39 (q := s.1 22 2) (r := 12 + 2 * x4) (by omega) (by omega)]; omega)
    have fr21 : lf_fq [23] 1000000 true s.1 s.2.2 (lf_up s.1 23 x3 (s.1 19 x4)) s.2.2 := lf_fq_up (lf_fq_rf) rfl (fun h => absurd h (by decide))
    have b22 : (-2147483648) ≤ s.1 20 x4 ∧ s.1 20 x4 ≤ 2147483647 := (show (-2147483648) ≤ (lf_up s.1 23 x3 (s.1 19 x4)) 20 x4 ∧ (lf_up s.1 23 x3 (s.1 19 x4)) 20 x4 ≤ 2147483647 from iv_full hI20)
    refine ⟨(show (0 : Int) ≤ x3 + 1 ∧ x3 + 1 < (1170 : Int) from by omega), ?_⟩
    have hI23 : iv_A (lf_up (lf_up s.1 23 x3 (s.1 19 x4)) 23 (x3 + 1) (s.1 20 x4)) s.2.2 := iv_wd23 hI20 (lf_le2 (iv_f055a89ee (s.1 22 2) (x4) (by omega) (by omega) (by omega)) (by omega)) (by rw [lf_m39 (q := s.1 22 2) (r := 13 + 2 * x4) (by omega) (by omega)]; omega)
    have fr24 : lf_fq [23] 1000000 true s.1 s.2.2 (lf_up (lf_up s.1 23 x3 (s.1 19 x4)) 23 (x3 + 1) (s.1 20 x4)) s.2.2 := lf_fq_up fr21 rfl (fun h => absurd h (by decide))
    have b25 : 0 ≤ s.1 22 2 ∧ s.1 22 2 ≤ 29 := (show 0 ≤ (lf_up (lf_up s.1 23 x3 (s.1 19 x4)) 23 (x3 + 1) (s.1 20 x4)) 22 2 ∧ (lf_up (lf_up s.1 23 x3 (s.1 19 x4)) 23 (x3 + 1) (s.1 20 x4)) 22 2 ≤ 29 from iv_r22_2 hI23)
    exact hX57 (x3 + 2) (x4 + 1) (lf_up (lf_up s.1 23 x3 (s.1 19 x4)) 23 (x3 + 1) (s.1 20 x4), s.2.1, s.2.2) hI23 fr24 (show (12 : Int) ≤ x3 + 2 ∧ x3 + 2 ≤ (1155 : Int) from by omega) (show (0 : Int) ≤ x4 + 1 ∧ x4 + 1 ≤ (6 : Int) from by omega) (show (x3 + 2) = 39 * (s.1 22 2) + 12 + 2 * (x4 + 1) from by omega) (show (6 - (x4 + 1)).toNat < M57 from by omega)
theorem sm_68_p57L {Q : lf_Z → Prop} {x3 : Int} {x4 : Int} {s : lf_Z} (hQ : ∀  (s' : lf_Z), iv_A s'.1 s'.2.2 → lf_fq [23] 1000000 true s.1 s.2.2 s'.1 s'.2.2 → Q  s') (hI : iv_A s.1 s.2.2) (bx3 : 12 ≤ x3 ∧ x3 ≤ 1155) (bx4 : 0 ≤ x4 ∧ x4 ≤ 6) (kv0 : x3 = 39 * s.1 22 2 + 12 + 2 * x4) : fm_68_p57L Q x3 x4 s := by
  intro X57 hX
  have key : ∀ (m9 : Nat) (x3 : Int) (x4 : Int) (s' : lf_Z), iv_A s'.1 s'.2.2 → lf_fq [23] 1000000 true s.1 s.2.2 s'.1 s'.2.2 → 12 ≤ x3 ∧ x3 ≤ 1155 → 0 ≤ x4 ∧ x4 ≤ 6 → (x3 = 39 * s'.1 22 2 + 12 + 2 * x4) → (6 - x4).toNat < m9 → X57 x3 x4 s' := by
    intro m9
    induction m9 with
    | zero => intro x3 x4 s' _ _ bx3 bx4 kv0 h9; exact absurd h9 (Nat.not_lt_zero _)
    | succ m9 ih => intro x3 x4 s' i7 f7 bx3 bx4 kv0 h9; exact hX _ _ _ (sm_68_p57 (fun t9 i9 f9 => hQ t9 i9 (lf_fq_tr f7 f9))   (fun x3' x4' t8 i8 f8 bx3' bx4' kv0' h8 => ih x3' x4' t8 i8 (lf_fq_tr f7 f8) bx3' bx4' kv0' (by omega)) (Nat.le_refl _)  i7  bx3 bx4  kv0)
  exact key _ _ _ s hI lf_fq_rf bx3 bx4 kv0 (Nat.lt_succ_self _)
theorem sm_68_p5 {X5 : Int → Int → lf_Z → Prop} {Q : lf_Z → Prop} {x3 : Int} {x4 : Int} {s : lf_Z} (hQ : ∀  (s' : lf_Z), iv_A s'.1 s'.2.2 → lf_fq [23] 1000000 true s.1 s.2.2 s'.1 s'.2.2 → Q  s') {M5 : Nat} (hX5 : ∀ (x3 : Int) (x4 : Int) (s' : lf_Z), iv_A s'.1 s'.2.2 → lf_fq [23] 1000000 true s.1 s.2.2 s'.1 s'.2.2 → 0 ≤ x3 ∧ x3 ≤ 1143 → 0 ≤ x4 ∧ x4 ≤ 4 → (x3 = 39 * s'.1 22 2 + 3 * x4) → (4 - x4).toNat < M5 → X5 x3 x4 s') (hM5 : (4 - x4).toNat ≤ M5) (hI : iv_A s.1 s.2.2) (bx3 : 0 ≤ x3 ∧ x3 ≤ 1143) (bx4 : 0 ≤ x4 ∧ x4 ≤ 4) (kv0 : x3 = 39 * s.1 22 2 + 3 * x4) : fm_68_p5 Q X5 x3 x4 s := by
  unfold fm_68_p5
  refine ⟨(show lf_R x4 from lf_Rof (by omega)), ?_⟩
  refine ⟨fun c2 => ?_, fun c2 => ?_⟩
  · skip
    have c2 : 4 ≤ x4 := c2
    have b3 : 0 ≤ s.1 22 2 ∧ s.1 22 2 ≤ 29 := iv_r22_2 hI
    exact sm_68_p57L hQ hI (show (12 : Int) ≤ x3 ∧ x3 ≤ (1155 : Int) from by omega) (show (0 : Int) ≤ 0 ∧ 0 ≤ (6 : Int) from by omega) (show x3 = 39 * (s.1 22 2) + 12 + 2 * 0 from by omega)
  · skip
    have c2 : ¬ (4 ≤ x4) := c2
    refine ⟨(show (0 : Int) ≤ x4 ∧ x4 < (4 : Int) from by omega), ?_⟩
    have b26 : (-2147483648) ≤ s.1 16 x4 ∧ s.1 16 x4 ≤ 2147483647 := iv_full hI
    refine ⟨(show (0 : Int) ≤ x3 ∧ x3 < (1170 : Int) from by omega), ?_⟩
    have fr27 : lf_fq [23] 1000000 true s.1 s.2.2 (lf_up s.1 23 x3 (s.1 16 x4)) s.2.2 := lf_fq_up (lf_fq_rf) rfl (fun h => absurd h (by decide))
    have b28 : (-1) ≤ s.1 17 x4 ∧ s.1 17 x4 ≤ 11 := (show (-1) ≤ (lf_up s.1 23 x3 (s.1 16 x4)) 17 x4 ∧ (lf_up s.1 23 x3 (s.1 16 x4)) 17 x4 ≤ 11 from iv_r17 hI _)
    have b29 : s.1 16 x4 ≤ 0 ∨ 0 ≤ s.1 17 x4 := iv_sp hI (by omega) (by omega)
    refine ⟨(show (0 : Int) ≤ x3 + 1 ∧ x3 + 1 < (1170 : Int) from by omega), ?_⟩
    have fr30 : lf_fq [23] 1000000 true s.1 s.2.2 (lf_up (lf_up s.1 23 x3 (s.1 16 x4)) 23 (x3 + 1) (s.1 17 x4)) s.2.2 := lf_fq_up fr27 rfl (fun h => absurd h (by decide))
    have b31 : (-1) ≤ s.1 18 x4 ∧ s.1 18 x4 ≤ 11 := (show (-1) ≤ (lf_up (lf_up s.1 23 x3 (s.1 16 x4)) 23 (x3 + 1) (s.1 17 x4)) 18 x4 ∧ (lf_up (lf_up s.1 23 x3 (s.1 16 x4)) 23 (x3 + 1) (s.1 17 x4)) 18 x4 ≤ 11 from iv_r18 hI _)
    refine ⟨(show (0 : Int) ≤ x3 + 2 ∧ x3 + 2 < (1170 : Int) from by omega), ?_⟩
    have hI32 : iv_A (lf_up (lf_up (lf_up s.1 23 x3 (s.1 16 x4)) 23 (x3 + 1) (s.1 17 x4)) 23 (x3 + 2) (s.1 18 x4)) s.2.2 := iv_row3 hI (r := s.1 22 2) (j := x4) (by omega) (by omega) (by omega) (by omega) (by omega) (by omega) (by omega) (by omega)
    have fr33 : lf_fq [23] 1000000 true s.1 s.2.2 (lf_up (lf_up (lf_up s.1 23 x3 (s.1 16 x4)) 23 (x3 + 1) (s.1 17 x4)) 23 (x3 + 2) (s.1 18 x4)) s.2.2 := lf_fq_up fr30 rfl (fun h => absurd h (by decide))
    have b34 : 0 ≤ s.1 22 2 ∧ s.1 22 2 ≤ 29 := (show 0 ≤ (lf_up (lf_up (lf_up s.1 23 x3 (s.1 16 x4)) 23 (x3 + 1) (s.1 17 x4)) 23 (x3 + 2) (s.1 18 x4)) 22 2 ∧ (lf_up (lf_up (lf_up s.1 23 x3 (s.1 16 x4)) 23 (x3 + 1) (s.1 17 x4)) 23 (x3 + 2) (s.1 18 x4)) 22 2 ≤ 29 from iv_r22_2 hI32)
    exact hX5 (x3 + 3) (x4 + 1) (lf_up (lf_up (lf_up s.1 23 x3 (s.1 16 x4)) 23 (x3 + 1) (s.1 17 x4)) 23 (x3 + 2) (s.1 18 x4), s.2.1, s.2.2) hI32 fr33 (show (0 : Int) ≤ x3 + 3 ∧ x3 + 3 ≤ (1143 : Int) from by omega) (show (0 : Int) ≤ x4 + 1 ∧ x4 + 1 ≤ (4 : Int) from by omega) (show (x3 + 3) = 39 * (s.1 22 2) + 3 * (x4 + 1) from by omega) (show (4 - (x4 + 1)).toNat < M5 from by omega)
theorem sm_68_p5L {Q : lf_Z → Prop} {x3 : Int} {x4 : Int} {s : lf_Z} (hQ : ∀  (s' : lf_Z), iv_A s'.1 s'.2.2 → lf_fq [23] 1000000 true s.1 s.2.2 s'.1 s'.2.2 → Q  s') (hI : iv_A s.1 s.2.2) (bx3 : 0 ≤ x3 ∧ x3 ≤ 1143) (bx4 : 0 ≤ x4 ∧ x4 ≤ 4) (kv0 : x3 = 39 * s.1 22 2 + 3 * x4) : fm_68_p5L Q x3 x4 s := by
  intro X5 hX
  have key : ∀ (m9 : Nat) (x3 : Int) (x4 : Int) (s' : lf_Z), iv_A s'.1 s'.2.2 → lf_fq [23] 1000000 true s.1 s.2.2 s'.1 s'.2.2 → 0 ≤ x3 ∧ x3 ≤ 1143 → 0 ≤ x4 ∧ x4 ≤ 4 → (x3 = 39 * s'.1 22 2 + 3 * x4) → (4 - x4).toNat < m9 → X5 x3 x4 s' := by
    intro m9
    induction m9 with
    | zero => intro x3 x4 s' _ _ bx3 bx4 kv0 h9; exact absurd h9 (Nat.not_lt_zero _)
    | succ m9 ih => intro x3 x4 s' i7 f7 bx3 bx4 kv0 h9; exact hX _ _ _ (sm_68_p5 (fun t9 i9 f9 => hQ t9 i9 (lf_fq_tr f7 f9))   (fun x3' x4' t8 i8 f8 bx3' bx4' kv0' h8 => ih x3' x4' t8 i8 (lf_fq_tr f7 f8) bx3' bx4' kv0' (by omega)) (Nat.le_refl _)  i7  bx3 bx4  kv0)
  exact key _ _ _ s hI lf_fq_rf bx3 bx4 kv0 (Nat.lt_succ_self _)
theorem sm_68 {a2 : Int} {Q : lf_Z → Prop} {s : lf_Z} (hI : iv_A s.1 s.2.2) (ba2 : 0 ≤ a2 ∧ a2 ≤ 1131) (kp0 : a2 = 39 * s.1 22 2) (hQ : ∀  (s' : lf_Z), iv_A s'.1 s'.2.2 → lf_fq [23] 1000000 true s.1 s.2.2 s'.1 s'.2.2 → Q  s') : fm_68 a2 Q s := by
  unfold fm_68
  have b1 : 0 ≤ s.1 22 2 ∧ s.1 22 2 ≤ 29 := iv_r22_2 hI
  exact sm_68_p5L hQ hI (show (0 : Int) ≤ a2 ∧ a2 ≤ (1143 : Int) from by omega) (show (0 : Int) ≤ 0 ∧ 0 ≤ (4 : Int) from by omega) (show a2 = 39 * (s.1 22 2) + 3 * 0 from by omega)
-- fm_67 Steps.keep 22 15 i
theorem sm_67 {a2 : Int} {Q : lf_Z → Prop} {s : lf_Z} (hI : iv_A s.1 s.2.2) (ba2 : 0 ≤ a2 ∧ a2 ≤ 6) (hQ : ∀  (s' : lf_Z), iv_A s'.1 s'.2.2 → lf_fq [22, 23, 24] 1000000 true s.1 s.2.2 s'.1 s'.2.2 → Q  s') : fm_67 a2 Q s := by
  unfold fm_67
  have b1 : 0 ≤ s.1 22 2 ∧ s.1 22 2 ≤ 29 := iv_r22_2 hI
  refine ⟨(show lf_R ((s.1 22 2) + 1) from lf_Rof (by omega)), ?_⟩
  have b2 : 0 ≤ ((s.1 22 2) + 1).tmod 30 ∧ ((s.1 22 2) + 1).tmod 30 ≤ 29 := lf_tmodP (by omega) (by omega) (by omega)
  have hI3 : iv_A (lf_up s.1 22 2 (((s.1 22 2) + 1).tmod 30)) s.2.2 := iv_w22_2 hI (by omega)
  have fr4 : lf_fq [22, 23, 24] 1000000 true s.1 s.2.2 (lf_up s.1 22 2 (((s.1 22 2) + 1).tmod 30)) s.2.2 := lf_fq_up (lf_fq_rf) rfl (fun h => absurd h (by decide))
  have b5 : 0 ≤ s.1 22 3 ∧ s.1 22 3 ≤ 30 := (show 0 ≤ (lf_up s.1 22 2 (((s.1 22 2) + 1).tmod 30)) 22 3 ∧ (lf_up s.1 22 2 (((s.1 22 2) + 1).tmod 30)) 22 3 ≤ 30 from iv_r22_3 hI3)
  have b6 : (lf_up s.1 22 2 (((s.1 22 2) + 1).tmod 30)) 22 3 = s.1 22 3 := lf_up_i (by omega)
  refine ⟨(show lf_R ((s.1 22 3) + 1) from lf_Rof (by omega)), ?_⟩
  have hI7 : iv_A (lf_up (lf_up s.1 22 2 (((s.1 22 2) + 1).tmod 30)) 22 3 (min 30 ((s.1 22 3) + 1))) s.2.2 := iv_w22_3 hI3 (by omega)
  have fr8 : lf_fq [22, 23, 24] 1000000 true s.1 s.2.2 (lf_up (lf_up s.1 22 2 (((s.1 22 2) + 1).tmod 30)) 22 3 (min 30 ((s.1 22 3) + 1))) s.2.2 := lf_fq_up fr4 rfl (fun h => absurd h (by decide))
  refine sm_68 hI7 (show (0 : Int) ≤ (((s.1 22 2) + 1).tmod 30) * 39 ∧ (((s.1 22 2) + 1).tmod 30) * 39 ≤ (1131 : Int) from by omega) (show ((((s.1 22 2) + 1).tmod 30) * 39) = 39 * (((s.1 22 2) + 1).tmod 30) from by omega) (fun s23 hI10 fr9 => ?_)
  have fr12 : lf_fq [22, 23, 24] 1000000 true s.1 s.2.2 s23.1 s23.2.2 := lf_fq_tr fr8 (lf_fq_wk fr9 rfl (by decide) (by decide))
  have b13 : 0 ≤ s23.1 22 2 ∧ s23.1 22 2 ≤ 29 := iv_r22_2 hI10
  have b14 : s23.1 22 2 = ((s.1 22 2) + 1).tmod 30 := congrFun (fr9.1 22 rfl) _
  refine ⟨(show (0 : Int) ≤ s23.1 22 2 ∧ s23.1 22 2 < (30 : Int) from by omega), ?_⟩
  have hI15 : iv_A (lf_up s23.1 24 (s23.1 22 2) a2) s23.2.2 := iv_w24 hI10 (by omega)
  have fr16 : lf_fq [22, 23, 24] 1000000 true s.1 s.2.2 (lf_up s23.1 24 (s23.1 22 2) a2) s23.2.2 := lf_fq_up fr12 rfl (fun h => absurd h (by decide))
  exact hQ (lf_up s23.1 24 (s23.1 22 2) a2, s23.2.1, s23.2.2) hI15 fr16
-- fm_69 Stand.put 15 i i i i
theorem sm_69 {a1 : Int} {a2 : Int} {a3 : Int} {a4 : Int} {Q : lf_Z → Prop} {s : lf_Z} (hI : iv_A s.1 s.2.2) (ba1 : 0 ≤ a1 ∧ a1 ≤ 3) (ba2 : (-2147483648) ≤ a2 ∧ a2 ≤ 2147483647) (ba3 : (-1) ≤ a3 ∧ a3 ≤ 11) (ba4 : (-1) ≤ a4 ∧ a4 ≤ 11) (kp0 : a2 ≤ 0 ∨ 0 ≤ a3) (hQ : ∀  (s' : lf_Z), iv_A s'.1 s'.2.2 → lf_fq [16, 17, 18] 1000000 true s.1 s.2.2 s'.1 s'.2.2 → Q  s') : fm_69 a1 a2 a3 a4 Q s := by
  unfold fm_69
  refine ⟨by omega, ?_⟩
  exact hQ (lf_up (lf_up (lf_up s.1 16 a1 a2) 17 a1 a3) 18 a1 a4, s.2.1, s.2.2) (iv_put hI ba2 ba3 ba4 kp0) (lf_fq_up (lf_fq_up (lf_fq_up lf_fq_rf rfl (fun h => absurd h (by decide))) rfl (fun h => absurd h (by decide))) rfl (fun h => absurd h (by decide)))
-- fm_63 ElevenBullocks.stray 0 i i
theorem sm_63 {a1 : Int} {a2 : Int} {Q : Int → lf_Z → Prop} {s : lf_Z} (hI : iv_A s.1 s.2.2) (ba1 : (-2147483648) ≤ a1 ∧ a1 ≤ 2147483647) (ba2 : (-2147483648) ≤ a2 ∧ a2 ≤ 2147483647) (hQ : ∀ (r : Int) (s' : lf_Z), iv_A s'.1 s'.2.2 → lf_fq [16, 17, 18, 22, 23, 24] 1000000 true s.1 s.2.2 s'.1 s'.2.2 → ((-1) ≤ r ∧ r ≤ 3) → Q r s') : fm_63 a1 a2 Q s := by
  unfold fm_63
  refine sm_64 hI (fun r22 q1 => ?_)
  have b2 : (-2147483648) ≤ lf_w (24 - r22) ∧ lf_w (24 - r22) ≤ 2147483647 := lf_wB
  refine sm_15 hI (show (-2147483648 : Int) ≤ a1 ∧ a1 ≤ (2147483647 : Int) from by omega) (show (-1 : Int) ≤ 1 ∧ 1 ≤ (99 : Int) from by omega) (show (-2147483648 : Int) ≤ lf_w (24 - r22) ∧ lf_w (24 - r22) ≤ (2147483647 : Int) from by omega) (fun z24 q3 => ?_)
  refine ⟨fun c4 => ?_, fun c4 => ?_⟩
  · skip
    have dc4 := q3.2 c4
    exact hQ (-1) s hI (lf_fq_rf) (show (-1 : Int) ≤ (-1) ∧ (-1) ≤ (3 : Int) from by omega)
  · skip
    have dc4 := q3.1 c4
    refine sm_18 hI (show (-2147483648 : Int) ≤ a2 ∧ a2 ≤ (2147483647 : Int) from by omega) (fun z26 q5 => ?_)
    have b6 : 0 ≤ s.1 1 0 ∧ s.1 1 0 ≤ 12 := iv_r1_0 hI
    refine ⟨fun c7 => ?_, fun c7 => ?_⟩
    · skip
      have dc7 := q5.1 c7
      refine sm_66 hI (fun r28 q8 => ?_)
      refine ⟨(show lf_R r28 from lf_Rof (by omega)), ?_⟩
      refine ⟨fun c9 => ?_, fun c9 => ?_⟩
      · skip
        have c9 : r28 = (-1) := c9
        exact hQ r28 s hI (lf_fq_rf) (show (-1 : Int) ≤ r28 ∧ r28 ≤ (3 : Int) from by omega)
      · skip
        have c9 : ¬ (r28 = (-1)) := c9
        have b10 : 0 ≤ s.1 1 2 ∧ s.1 1 2 ≤ 6 := iv_r1_2 hI
        refine sm_67 hI (show (0 : Int) ≤ s.1 1 2 ∧ s.1 1 2 ≤ (6 : Int) from by omega) (fun s30 hI12 fr11 => ?_)
        have fr14 : lf_fq [16, 17, 18, 22, 23, 24] 1000000 true s.1 s.2.2 s30.1 s30.2.2 := lf_fq_tr (lf_fq_rf) (lf_fq_wk fr11 rfl (by decide) (by decide))
        refine sm_69 hI12 (show (0 : Int) ≤ r28 ∧ r28 ≤ (3 : Int) from by omega) (show (-2147483648 : Int) ≤ a1 ∧ a1 ≤ (2147483647 : Int) from by omega) (show (-1 : Int) ≤ a2 ∧ a2 ≤ (11 : Int) from by omega) (show (-1 : Int) ≤ (-1) ∧ (-1) ≤ (11 : Int) from by omega) (show a1 ≤ 0 ∨ 0 ≤ a2 from by omega) (fun s31 hI16 fr15 => ?_)
        have fr18 : lf_fq [16, 17, 18, 22, 23, 24] 1000000 true s.1 s.2.2 s31.1 s31.2.2 := lf_fq_tr fr14 (lf_fq_wk fr15 rfl (by decide) (by decide))
        exact hQ r28 s31 hI16 fr18 (show (-1 : Int) ≤ r28 ∧ r28 ≤ (3 : Int) from by omega)
    · skip
      have dc7 := q5.2 c7
      exact hQ (-1) s hI (lf_fq_rf) (show (-1 : Int) ≤ (-1) ∧ (-1) ≤ (3 : Int) from by omega)
-- fm_242 Model.sizeOf 95 i
theorem sm_242 {a1 : Int} {Q : Int → lf_Z → Prop} {s : lf_Z} (hI : iv_A s.1 s.2.2) (ba1 : 0 ≤ a1 ∧ a1 ≤ 3) (hQ : ∀ (r : Int), ((-2147483648) ≤ r ∧ r ≤ 2147483647) → Q r s) : fm_242 a1 Q s := by
  unfold fm_242
  refine ⟨(show (0 : Int) ≤ 114 + (3 * a1) ∧ 114 + (3 * a1) < (1538 : Int) from by omega), ?_⟩
  have b1 : (-2147483648) ≤ s.1 96 (114 + (3 * a1)) ∧ s.1 96 (114 + (3 * a1)) ≤ 2147483647 := iv_full hI
  exact hQ (s.1 96 (114 + (3 * a1))) (show (-2147483648 : Int) ≤ s.1 96 (114 + (3 * a1)) ∧ s.1 96 (114 + (3 * a1)) ≤ (2147483647 : Int) from by omega)
-- fm_241 Model.freeBunch 95
theorem sm_241_p2 {X2 : Int → lf_Z → Prop} {Q : Int → lf_Z → Prop} {x1 : Int} {s : lf_Z} (hQ : ∀ (r : Int), ((-1) ≤ r ∧ r ≤ 3) → Q r s) {M2 : Nat} (hX2 : ∀ (x1 : Int), 0 ≤ x1 ∧ x1 ≤ 4 → (4 - x1).toNat < M2 → X2 x1 s) (hM2 : (4 - x1).toNat ≤ M2) (hI : iv_A s.1 s.2.2) (bx1 : 0 ≤ x1 ∧ x1 ≤ 4) : fm_241_p2 Q X2 x1 s := by
  unfold fm_241_p2
  refine ⟨(show lf_R x1 from lf_Rof (by omega)), ?_⟩
  refine ⟨fun c1 => ?_, fun c1 => ?_⟩
  · skip
    have c1 : 4 ≤ x1 := c1
    exact hQ (-1) (show (-1 : Int) ≤ (-1) ∧ (-1) ≤ (3 : Int) from by omega)
  · skip
    have c1 : ¬ (4 ≤ x1) := c1
    refine sm_242 hI (show (0 : Int) ≤ x1 ∧ x1 ≤ (3 : Int) from by omega) (fun r23 q2 => ?_)
    refine ⟨(show lf_R r23 from lf_Rof (by omega)), ?_⟩
    refine ⟨fun c3 => ?_, fun c3 => ?_⟩
    · skip
      have c3 : r23 ≠ 0 := c3
      exact hX2 (x1 + 1) (show (0 : Int) ≤ x1 + 1 ∧ x1 + 1 ≤ (4 : Int) from by omega) (show (4 - (x1 + 1)).toNat < M2 from by omega)
    · skip
      have c3 : ¬ (r23 ≠ 0) := c3
      exact hQ x1 (show (-1 : Int) ≤ x1 ∧ x1 ≤ (3 : Int) from by omega)
theorem sm_241_p2L {Q : Int → lf_Z → Prop} {x1 : Int} {s : lf_Z} (hQ : ∀ (r : Int), ((-1) ≤ r ∧ r ≤ 3) → Q r s) (hI : iv_A s.1 s.2.2) (bx1 : 0 ≤ x1 ∧ x1 ≤ 4) : fm_241_p2L Q x1 s := by
  intro X2 hX
  have key : ∀ (m9 : Nat) (x1 : Int), 0 ≤ x1 ∧ x1 ≤ 4 → (4 - x1).toNat < m9 → X2 x1 s := by
    intro m9
    induction m9 with
    | zero => intro x1 bx1 h9; exact absurd h9 (Nat.not_lt_zero _)
    | succ m9 ih => intro x1 bx1 h9; exact hX _ _ (sm_241_p2 hQ   (fun x1' bx1' h8 => ih x1' bx1' (by omega)) (Nat.le_refl _)  hI  bx1  )
  exact key _ _ bx1   (Nat.lt_succ_self _)
theorem sm_241 {Q : Int → lf_Z → Prop} {s : lf_Z} (hI : iv_A s.1 s.2.2) (hQ : ∀ (r : Int), ((-1) ≤ r ∧ r ≤ 3) → Q r s) : fm_241 Q s := by
  unfold fm_241
  exact sm_241_p2L hQ hI (show (0 : Int) ≤ 0 ∧ 0 ≤ (4 : Int) from by omega)
