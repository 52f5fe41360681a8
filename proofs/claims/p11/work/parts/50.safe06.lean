-- fm_221 Model.isCompared 95
theorem sm_221_p30 {Q : Bool → lf_Z → Prop} {x1 : Int} {s : lf_Z} (hQ : ∀ (z : Bool), ((z = true → (pz_cm (s.1 100) (s.1 95 19) = 1)) ∧ (z = false → ¬ (pz_cm (s.1 100) (s.1 95 19) = 1))) → Q z s) (hI : iv_A s.1 s.2.2) (bx1 : (-1) ≤ x1 ∧ x1 ≤ 159) (kv0 : pz_cm (s.1 100) (s.1 95 19) = pz_cq (s.1 100) (x1)) (kv1 : x1 < 0 ∨ 10 ≤ s.1 100 x1) : fm_221_p30 Q x1 s := by
  unfold fm_221_p30
  have b7 : (x1 < 0 → pz_cq ((s.1 100)) x1 = 0) ∧ (0 ≤ x1 → ((s.1 100 x1) < 10 → pz_cq ((s.1 100)) x1 = pz_cq ((s.1 100)) (x1 + -1)) ∧ (10 ≤ (s.1 100 x1) ∧ (s.1 100 x1) < 40 ∧ (s.1 100 x1) ≠ 20 ∧ (s.1 100 x1) ≠ 21 ∧ (s.1 100 x1) ≠ 22 → pz_cq ((s.1 100)) x1 = 1) ∧ (40 ≤ (s.1 100 x1) ∨ (s.1 100 x1) = 20 ∨ (s.1 100 x1) = 21 ∨ (s.1 100 x1) = 22 → pz_cq ((s.1 100)) x1 = 0)) := pz_cqA _ _
  refine ⟨(show lf_R x1 from lf_Rof (by omega)), ?_⟩
  refine ⟨fun c8 => ?_, fun c8 => ?_⟩
  · skip
    replace c8 : x1 < 0 := c8
    exact hQ false (lf_pf (by omega))
  · skip
    replace c8 : ¬ (x1 < 0) := c8
    refine ⟨(show (0 : Int) ≤ x1 ∧ x1 < (160 : Int) from by omega), ?_⟩
    have b9 : 0 ≤ s.1 100 x1 ∧ s.1 100 x1 ≤ 45 := iv_r100 hI _
    refine sm_222 hI (show (0 : Int) ≤ s.1 100 x1 ∧ s.1 100 x1 ≤ (45 : Int) from by omega) (fun r25 q10 => ?_)
    obtain ⟨q10, q10x⟩ := q10
    replace q10x : r25 = pz_rk (s.1 100 x1) ∧ ((40 ≤ (s.1 100 x1) ∧ r25 = 0) ∨ ((s.1 100 x1) = 22 ∧ r25 = 1) ∨ ((s.1 100 x1) = 21 ∧ r25 = 2) ∨ ((s.1 100 x1) = 20 ∧ r25 = 3) ∨ (10 ≤ (s.1 100 x1) ∧ (s.1 100 x1) < 40 ∧ (s.1 100 x1) ≠ 20 ∧ (s.1 100 x1) ≠ 21 ∧ (s.1 100 x1) ≠ 22 ∧ r25 = 4) ∨ ((s.1 100 x1) = 3 ∧ r25 = 7) ∨ (6 ≤ (s.1 100 x1) ∧ (s.1 100 x1) < 10 ∧ r25 = 6) ∨ ((s.1 100 x1) < 6 ∧ (s.1 100 x1) ≠ 3 ∧ r25 = 5)) := q10x
    refine ⟨(show lf_R r25 from lf_Rof (by omega)), ?_⟩
    refine ⟨fun c11 => ?_, fun c11 => ?_⟩
    · skip
      replace c11 : r25 ≠ 4 := c11
      exact hQ false (lf_pf (by omega))
    · skip
      replace c11 : ¬ (r25 ≠ 4) := c11
      exact hQ true (lf_pt (by omega))
theorem sm_221_p7 {X7 : Int → lf_Z → Prop} {Q : Bool → lf_Z → Prop} {x1 : Int} {s : lf_Z} (hQ : ∀ (z : Bool), ((z = true → (pz_cm (s.1 100) (s.1 95 19) = 1)) ∧ (z = false → ¬ (pz_cm (s.1 100) (s.1 95 19) = 1))) → Q z s) {M7 : Nat} (hX7 : ∀ (x1 : Int), (-1) ≤ x1 ∧ x1 ≤ 159 → (pz_cm (s.1 100) (s.1 95 19) = pz_cq (s.1 100) (x1)) → (x1 - (-1)).toNat < M7 → X7 x1 s) (hM7 : (x1 - (-1)).toNat ≤ M7) (hI : iv_A s.1 s.2.2) (bx1 : (-1) ≤ x1 ∧ x1 ≤ 159) (kv0 : pz_cm (s.1 100) (s.1 95 19) = pz_cq (s.1 100) (x1)) : fm_221_p7 Q X7 x1 s := by
  unfold fm_221_p7
  have b3 : (x1 < 0 → pz_cq ((s.1 100)) x1 = 0) ∧ (0 ≤ x1 → ((s.1 100 x1) < 10 → pz_cq ((s.1 100)) x1 = pz_cq ((s.1 100)) (x1 + -1)) ∧ (10 ≤ (s.1 100 x1) ∧ (s.1 100 x1) < 40 ∧ (s.1 100 x1) ≠ 20 ∧ (s.1 100 x1) ≠ 21 ∧ (s.1 100 x1) ≠ 22 → pz_cq ((s.1 100)) x1 = 1) ∧ (40 ≤ (s.1 100 x1) ∨ (s.1 100 x1) = 20 ∨ (s.1 100 x1) = 21 ∨ (s.1 100 x1) = 22 → pz_cq ((s.1 100)) x1 = 0)) := pz_cqA _ _
  refine ⟨(show lf_R x1 from lf_Rof (by omega)), ?_⟩
  refine ⟨fun c4 => ?_, fun c4 => ?_⟩
  · skip
    replace c4 : x1 < 0 := c4
    have b5 : 0 ≤ s.1 95 19 ∧ s.1 95 19 ≤ 160 := iv_r95_19 hI
    have b6 : 0 ≤ s.1 100 x1 ∧ s.1 100 x1 ≤ 45 := iv_r100 hI _
    exact sm_221_p30 hQ hI (show (-1 : Int) ≤ x1 ∧ x1 ≤ (159 : Int) from by omega) (show pz_cm ((s.1 100)) ((s.1 95 19)) = pz_cq ((s.1 100)) (x1) from by omega) (show x1 < 0 ∨ 10 ≤ (s.1 100 x1) from by omega)
  · skip
    replace c4 : ¬ (x1 < 0) := c4
    refine ⟨(show (0 : Int) ≤ x1 ∧ x1 < (160 : Int) from by omega), ?_⟩
    have b12 : 0 ≤ s.1 100 x1 ∧ s.1 100 x1 ≤ 45 := iv_r100 hI _
    refine sm_222 hI (show (0 : Int) ≤ s.1 100 x1 ∧ s.1 100 x1 ≤ (45 : Int) from by omega) (fun r29 q13 => ?_)
    obtain ⟨q13, q13x⟩ := q13
    replace q13x : r29 = pz_rk (s.1 100 x1) ∧ ((40 ≤ (s.1 100 x1) ∧ r29 = 0) ∨ ((s.1 100 x1) = 22 ∧ r29 = 1) ∨ ((s.1 100 x1) = 21 ∧ r29 = 2) ∨ ((s.1 100 x1) = 20 ∧ r29 = 3) ∨ (10 ≤ (s.1 100 x1) ∧ (s.1 100 x1) < 40 ∧ (s.1 100 x1) ≠ 20 ∧ (s.1 100 x1) ≠ 21 ∧ (s.1 100 x1) ≠ 22 ∧ r29 = 4) ∨ ((s.1 100 x1) = 3 ∧ r29 = 7) ∨ (6 ≤ (s.1 100 x1) ∧ (s.1 100 x1) < 10 ∧ r29 = 6) ∨ ((s.1 100 x1) < 6 ∧ (s.1 100 x1) ≠ 3 ∧ r29 = 5)) := q13x
    refine ⟨(show lf_R r29 from lf_Rof (by omega)), ?_⟩
    refine ⟨fun c14 => ?_, fun c14 => ?_⟩
    · skip
      replace c14 : r29 ≤ 4 := c14
      have b15 : 0 ≤ s.1 95 19 ∧ s.1 95 19 ≤ 160 := iv_r95_19 hI
      exact sm_221_p30 hQ hI (show (-1 : Int) ≤ x1 ∧ x1 ≤ (159 : Int) from by omega) (show pz_cm ((s.1 100)) ((s.1 95 19)) = pz_cq ((s.1 100)) (x1) from by omega) (show x1 < 0 ∨ 10 ≤ (s.1 100 x1) from by omega)
    · skip
      replace c14 : ¬ (r29 ≤ 4) := c14
      have b16 : 0 ≤ s.1 95 19 ∧ s.1 95 19 ≤ 160 := iv_r95_19 hI
      have b17 : pz_cm ((s.1 100)) ((s.1 95 19)) = pz_cq ((s.1 100)) ((s.1 95 19) - 1) := pz_cqE
      exact hX7 (x1 + (-1)) (show (-1 : Int) ≤ x1 + (-1) ∧ x1 + (-1) ≤ (159 : Int) from by omega) (show pz_cm ((s.1 100)) ((s.1 95 19)) = pz_cq ((s.1 100)) ((x1 + (-1))) from by omega) (show ((x1 + (-1)) - (-1)).toNat < M7 from by omega)
theorem sm_221_p7L {Q : Bool → lf_Z → Prop} {x1 : Int} {s : lf_Z} (hQ : ∀ (z : Bool), ((z = true → (pz_cm (s.1 100) (s.1 95 19) = 1)) ∧ (z = false → ¬ (pz_cm (s.1 100) (s.1 95 19) = 1))) → Q z s) (hI : iv_A s.1 s.2.2) (bx1 : (-1) ≤ x1 ∧ x1 ≤ 159) (kv0 : pz_cm (s.1 100) (s.1 95 19) = pz_cq (s.1 100) (x1)) : fm_221_p7L Q x1 s := by
  intro X7 hX
  have key : ∀ (m9 : Nat) (x1 : Int), (-1) ≤ x1 ∧ x1 ≤ 159 → (pz_cm (s.1 100) (s.1 95 19) = pz_cq (s.1 100) (x1)) → (x1 - (-1)).toNat < m9 → X7 x1 s := by
    intro m9
    induction m9 with
    | zero => intro x1 bx1 kv0 h9; exact absurd h9 (Nat.not_lt_zero _)
    | succ m9 ih => intro x1 bx1 kv0 h9; exact hX _ _ (sm_221_p7 hQ   (fun x1' bx1' kv0' h8 => ih x1' bx1' kv0' (by omega)) (Nat.le_refl _)  hI  bx1  kv0)
  exact key _ _ bx1  kv0 (Nat.lt_succ_self _)
theorem sm_221 {Q : Bool → lf_Z → Prop} {s : lf_Z} (hI : iv_A s.1 s.2.2) (hQ : ∀ (z : Bool), ((z = true → (pz_cm (s.1 100) (s.1 95 19) = 1)) ∧ (z = false → ¬ (pz_cm (s.1 100) (s.1 95 19) = 1))) → Q z s) : fm_221 Q s := by
  unfold fm_221
  have b1 : 0 ≤ s.1 95 19 ∧ s.1 95 19 ≤ 160 := iv_r95_19 hI
  have b2 : pz_cm ((s.1 100)) ((s.1 95 19)) = pz_cq ((s.1 100)) ((s.1 95 19) - 1) := pz_cqE
  exact sm_221_p7L hQ hI (show (-1 : Int) ≤ (s.1 95 19) - 1 ∧ (s.1 95 19) - 1 ≤ (159 : Int) from by omega) (show pz_cm ((s.1 100)) ((s.1 95 19)) = pz_cq ((s.1 100)) (((s.1 95 19) - 1)) from by omega)
-- fm_223 Model.compareOf 95
theorem sm_223 {Q : Int → lf_Z → Prop} {s : lf_Z} (hI : iv_A s.1 s.2.2) (hQ : ∀ (r : Int), (((-1) ≤ r ∧ r ≤ 15) ∧ (r = -1 ∨ (10 ≤ r ∧ r ≤ 15 ∧ s.1 95 9 ≠ 0))) → Q r s) : fm_223 Q s := by
  unfold fm_223
  have b1 : (-2147483648) ≤ s.1 95 9 ∧ s.1 95 9 ≤ 2147483647 := iv_full hI
  refine ⟨(show lf_R (s.1 95 9) from lf_Rof (by omega)), ?_⟩
  refine ⟨fun c2 => ?_, fun c2 => ?_⟩
  · skip
    replace c2 : s.1 95 9 ≠ 60 := c2
    refine ⟨fun c3 => ?_, fun c3 => ?_⟩
    · skip
      replace c3 : s.1 95 9 ≠ 4 := c3
      refine ⟨fun c4 => ?_, fun c4 => ?_⟩
      · skip
        replace c4 : s.1 95 9 ≠ 62 := c4
        refine ⟨fun c5 => ?_, fun c5 => ?_⟩
        · skip
          replace c5 : s.1 95 9 ≠ 5 := c5
          refine ⟨fun c6 => ?_, fun c6 => ?_⟩
          · skip
            replace c6 : s.1 95 9 ≠ 61 := c6
            refine ⟨fun c7 => ?_, fun c7 => ?_⟩
            · skip
              replace c7 : s.1 95 9 ≠ 35 := c7
              exact hQ (-1) ⟨(show (-1 : Int) ≤ (-1) ∧ (-1) ≤ (15 : Int) from by omega), (show (-1) = -1 ∨ (10 ≤ (-1) ∧ (-1) ≤ 15 ∧ s.1 95 9 ≠ 0) from by omega)⟩
            · skip
              replace c7 : ¬ (s.1 95 9 ≠ 35) := c7
              exact hQ 15 ⟨(show (-1 : Int) ≤ 15 ∧ 15 ≤ (15 : Int) from by omega), (show 15 = -1 ∨ (10 ≤ 15 ∧ 15 ≤ 15 ∧ s.1 95 9 ≠ 0) from by omega)⟩
          · skip
            replace c6 : ¬ (s.1 95 9 ≠ 61) := c6
            exact hQ 14 ⟨(show (-1 : Int) ≤ 14 ∧ 14 ≤ (15 : Int) from by omega), (show 14 = -1 ∨ (10 ≤ 14 ∧ 14 ≤ 15 ∧ s.1 95 9 ≠ 0) from by omega)⟩
        · skip
          replace c5 : ¬ (s.1 95 9 ≠ 5) := c5
          exact hQ 13 ⟨(show (-1 : Int) ≤ 13 ∧ 13 ≤ (15 : Int) from by omega), (show 13 = -1 ∨ (10 ≤ 13 ∧ 13 ≤ 15 ∧ s.1 95 9 ≠ 0) from by omega)⟩
      · skip
        replace c4 : ¬ (s.1 95 9 ≠ 62) := c4
        exact hQ 12 ⟨(show (-1 : Int) ≤ 12 ∧ 12 ≤ (15 : Int) from by omega), (show 12 = -1 ∨ (10 ≤ 12 ∧ 12 ≤ 15 ∧ s.1 95 9 ≠ 0) from by omega)⟩
    · skip
      replace c3 : ¬ (s.1 95 9 ≠ 4) := c3
      exact hQ 11 ⟨(show (-1 : Int) ≤ 11 ∧ 11 ≤ (15 : Int) from by omega), (show 11 = -1 ∨ (10 ≤ 11 ∧ 11 ≤ 15 ∧ s.1 95 9 ≠ 0) from by omega)⟩
  · skip
    replace c2 : ¬ (s.1 95 9 ≠ 60) := c2
    exact hQ 10 ⟨(show (-1 : Int) ≤ 10 ∧ 10 ≤ (15 : Int) from by omega), (show 10 = -1 ∨ (10 ≤ 10 ∧ 10 ≤ 15 ∧ s.1 95 9 ≠ 0) from by omega)⟩
-- fm_218 Model.betweenOf 95
theorem sm_218 {Q : Int → lf_Z → Prop} {s : lf_Z} (hI : iv_A s.1 s.2.2) (hQ : ∀ (r : Int), (((-1) ≤ r ∧ r ≤ 22) ∧ (r = -1 ∨ (s.1 95 9 ≠ 0 ∧ ((4 ≤ r ∧ r ≤ 7) ∨ (10 ≤ r ∧ r ≤ 15 ∧ pz_op (s.1 100) (s.1 95 19) = 41 ∧ pz_cm (s.1 100) (s.1 95 19) ≠ 1) ∨ ((r = 21 ∨ r = 22) ∧ pz_op (s.1 100) (s.1 95 19) = 41 ∧ pz_cm (s.1 100) (s.1 95 19) = 1))))) → Q r s) : fm_218 Q s := by
  unfold fm_218
  have b1 : (-2147483648) ≤ s.1 95 9 ∧ s.1 95 9 ≤ 2147483647 := iv_full hI
  refine ⟨(show lf_R (s.1 95 9) from lf_Rof (by omega)), ?_⟩
  refine ⟨fun c2 => ?_, fun c2 => ?_⟩
  · skip
    replace c2 : s.1 95 9 ≠ 43 := c2
    refine ⟨fun c3 => ?_, fun c3 => ?_⟩
    · skip
      replace c3 : s.1 95 9 ≠ 45 := c3
      refine ⟨fun c4 => ?_, fun c4 => ?_⟩
      · skip
        replace c4 : s.1 95 9 ≠ 42 := c4
        refine ⟨fun c5 => ?_, fun c5 => ?_⟩
        · skip
          replace c5 : s.1 95 9 ≠ 47 := c5
          refine sm_219 hI (fun r23 q6 => ?_)
          obtain ⟨q6, q6x⟩ := q6
          have b7 : 0 ≤ s.1 95 19 ∧ s.1 95 19 ≤ 160 := iv_r95_19 hI
          replace q6x : r23 = pz_op (s.1 100) (s.1 95 19) := q6x
          refine ⟨(show lf_R r23 from lf_Rof (by omega)), ?_⟩
          refine ⟨fun c8 => ?_, fun c8 => ?_⟩
          · skip
            replace c8 : r23 = 41 := c8
            refine sm_221 hI (fun z26 q9 => ?_)
            have b10 : 0 ≤ s.1 95 19 ∧ s.1 95 19 ≤ 160 := iv_r95_19 hI
            refine ⟨fun c11 => ?_, fun c11 => ?_⟩
            · skip
              have dc11 := q9.1 c11
              refine sm_205 hI (show (97 : Int) ≤ 97 ∧ 97 ≤ (119 : Int) from by omega) (show (97 : Int) ≤ 110 ∧ 110 ≤ (117 : Int) from by omega) (show (97 : Int) ≤ 100 ∧ 100 ≤ (122 : Int) from by omega) (fun r28 => ?_)
              refine sm_207 hI (fun z30 q13 => ?_)
              refine ⟨fun c14 => ?_, fun c14 => ?_⟩
              · skip
                have dc14 := q13.2 c14
                refine sm_206 hI (show (97 : Int) ≤ 111 ∧ 111 ≤ (119 : Int) from by omega) (show (97 : Int) ≤ 114 ∧ 114 ≤ (121 : Int) from by omega) (fun r32 => ?_)
                refine sm_207 hI (fun z34 q16 => ?_)
                refine ⟨fun c17 => ?_, fun c17 => ?_⟩
                · skip
                  have dc17 := q16.2 c17
                  exact hQ (-1) ⟨(show (-1 : Int) ≤ (-1) ∧ (-1) ≤ (22 : Int) from by omega), (show (-1) = -1 ∨ (s.1 95 9 ≠ 0 ∧ ((4 ≤ (-1) ∧ (-1) ≤ 7) ∨ (10 ≤ (-1) ∧ (-1) ≤ 15 ∧ pz_op (s.1 100) (s.1 95 19) = 41 ∧ pz_cm (s.1 100) (s.1 95 19) ≠ 1) ∨ (((-1) = 21 ∨ (-1) = 22) ∧ pz_op (s.1 100) (s.1 95 19) = 41 ∧ pz_cm (s.1 100) (s.1 95 19) = 1))) from by omega)⟩
                · skip
                  have dc17 := q16.1 c17
                  exact hQ 22 ⟨(show (-1 : Int) ≤ 22 ∧ 22 ≤ (22 : Int) from by omega), (show 22 = -1 ∨ (s.1 95 9 ≠ 0 ∧ ((4 ≤ 22 ∧ 22 ≤ 7) ∨ (10 ≤ 22 ∧ 22 ≤ 15 ∧ pz_op (s.1 100) (s.1 95 19) = 41 ∧ pz_cm (s.1 100) (s.1 95 19) ≠ 1) ∨ ((22 = 21 ∨ 22 = 22) ∧ pz_op (s.1 100) (s.1 95 19) = 41 ∧ pz_cm (s.1 100) (s.1 95 19) = 1))) from by omega)⟩
              · skip
                have dc14 := q13.1 c14
                exact hQ 21 ⟨(show (-1 : Int) ≤ 21 ∧ 21 ≤ (22 : Int) from by omega), (show 21 = -1 ∨ (s.1 95 9 ≠ 0 ∧ ((4 ≤ 21 ∧ 21 ≤ 7) ∨ (10 ≤ 21 ∧ 21 ≤ 15 ∧ pz_op (s.1 100) (s.1 95 19) = 41 ∧ pz_cm (s.1 100) (s.1 95 19) ≠ 1) ∨ ((21 = 21 ∨ 21 = 22) ∧ pz_op (s.1 100) (s.1 95 19) = 41 ∧ pz_cm (s.1 100) (s.1 95 19) = 1))) from by omega)⟩
            · skip
              have dc11 := q9.2 c11
              refine sm_223 hI (fun r36 q18 => ?_)
              obtain ⟨q18, q18x⟩ := q18
              replace q18x : r36 = -1 ∨ (10 ≤ r36 ∧ r36 ≤ 15 ∧ s.1 95 9 ≠ 0) := q18x
              exact hQ r36 ⟨(show (-1 : Int) ≤ r36 ∧ r36 ≤ (22 : Int) from by omega), (show r36 = -1 ∨ (s.1 95 9 ≠ 0 ∧ ((4 ≤ r36 ∧ r36 ≤ 7) ∨ (10 ≤ r36 ∧ r36 ≤ 15 ∧ pz_op (s.1 100) (s.1 95 19) = 41 ∧ pz_cm (s.1 100) (s.1 95 19) ≠ 1) ∨ ((r36 = 21 ∨ r36 = 22) ∧ pz_op (s.1 100) (s.1 95 19) = 41 ∧ pz_cm (s.1 100) (s.1 95 19) = 1))) from by omega)⟩
          · skip
            replace c8 : ¬ (r23 = 41) := c8
            exact hQ (-1) ⟨(show (-1 : Int) ≤ (-1) ∧ (-1) ≤ (22 : Int) from by omega), (show (-1) = -1 ∨ (s.1 95 9 ≠ 0 ∧ ((4 ≤ (-1) ∧ (-1) ≤ 7) ∨ (10 ≤ (-1) ∧ (-1) ≤ 15 ∧ pz_op (s.1 100) (s.1 95 19) = 41 ∧ pz_cm (s.1 100) (s.1 95 19) ≠ 1) ∨ (((-1) = 21 ∨ (-1) = 22) ∧ pz_op (s.1 100) (s.1 95 19) = 41 ∧ pz_cm (s.1 100) (s.1 95 19) = 1))) from by omega)⟩
        · skip
          replace c5 : ¬ (s.1 95 9 ≠ 47) := c5
          exact hQ 7 ⟨(show (-1 : Int) ≤ 7 ∧ 7 ≤ (22 : Int) from by omega), (show 7 = -1 ∨ (s.1 95 9 ≠ 0 ∧ ((4 ≤ 7 ∧ 7 ≤ 7) ∨ (10 ≤ 7 ∧ 7 ≤ 15 ∧ pz_op (s.1 100) (s.1 95 19) = 41 ∧ pz_cm (s.1 100) (s.1 95 19) ≠ 1) ∨ ((7 = 21 ∨ 7 = 22) ∧ pz_op (s.1 100) (s.1 95 19) = 41 ∧ pz_cm (s.1 100) (s.1 95 19) = 1))) from by omega)⟩
      · skip
        replace c4 : ¬ (s.1 95 9 ≠ 42) := c4
        exact hQ 6 ⟨(show (-1 : Int) ≤ 6 ∧ 6 ≤ (22 : Int) from by omega), (show 6 = -1 ∨ (s.1 95 9 ≠ 0 ∧ ((4 ≤ 6 ∧ 6 ≤ 7) ∨ (10 ≤ 6 ∧ 6 ≤ 15 ∧ pz_op (s.1 100) (s.1 95 19) = 41 ∧ pz_cm (s.1 100) (s.1 95 19) ≠ 1) ∨ ((6 = 21 ∨ 6 = 22) ∧ pz_op (s.1 100) (s.1 95 19) = 41 ∧ pz_cm (s.1 100) (s.1 95 19) = 1))) from by omega)⟩
    · skip
      replace c3 : ¬ (s.1 95 9 ≠ 45) := c3
      exact hQ 5 ⟨(show (-1 : Int) ≤ 5 ∧ 5 ≤ (22 : Int) from by omega), (show 5 = -1 ∨ (s.1 95 9 ≠ 0 ∧ ((4 ≤ 5 ∧ 5 ≤ 7) ∨ (10 ≤ 5 ∧ 5 ≤ 15 ∧ pz_op (s.1 100) (s.1 95 19) = 41 ∧ pz_cm (s.1 100) (s.1 95 19) ≠ 1) ∨ ((5 = 21 ∨ 5 = 22) ∧ pz_op (s.1 100) (s.1 95 19) = 41 ∧ pz_cm (s.1 100) (s.1 95 19) = 1))) from by omega)⟩
  · skip
    replace c2 : ¬ (s.1 95 9 ≠ 43) := c2
    exact hQ 4 ⟨(show (-1 : Int) ≤ 4 ∧ 4 ≤ (22 : Int) from by omega), (show 4 = -1 ∨ (s.1 95 9 ≠ 0 ∧ ((4 ≤ 4 ∧ 4 ≤ 7) ∨ (10 ≤ 4 ∧ 4 ≤ 15 ∧ pz_op (s.1 100) (s.1 95 19) = 41 ∧ pz_cm (s.1 100) (s.1 95 19) ≠ 1) ∨ ((4 = 21 ∨ 4 = 22) ∧ pz_op (s.1 100) (s.1 95 19) = 41 ∧ pz_cm (s.1 100) (s.1 95 19) = 1))) from by omega)⟩
-- fm_226 Model.partOf 95 i
theorem sm_226 {a1 : Int} {Q : Int → lf_Z → Prop} {s : lf_Z} (hI : iv_A s.1 s.2.2) (ba1 : (-1) ≤ a1 ∧ a1 ≤ 45) (hQ : ∀ (r : Int), (((-1) ≤ r ∧ r ≤ 45) ∧ (r = -1 ∨ (s.1 95 9 ≠ 0 ∧ ((a1 = 40 ∧ r = 0) ∨ (a1 = 41 ∧ r = 42 ∧ pz_cm (s.1 100) (s.1 95 19) = 1) ∨ (a1 = 42 ∧ r = 43) ∨ (a1 = 44 ∧ r = 45) ∨ (a1 ≠ -1 ∧ a1 ≠ 40 ∧ a1 ≠ 41 ∧ a1 ≠ 42 ∧ a1 ≠ 44 ∧ r = 0))))) → Q r s) : fm_226 a1 Q s := by
  unfold fm_226
  refine ⟨(show lf_R a1 from lf_Rof (by omega)), ?_⟩
  refine ⟨fun c1 => ?_, fun c1 => ?_, fun c1 => ?_, fun c1 => ?_, fun c1 => ?_, fun c1 => ?_⟩
  · replace c1 : a1 ≠ (-1) ∧ a1 ≠ 40 ∧ a1 ≠ 41 ∧ a1 ≠ 42 ∧ a1 ≠ 44 := c1
    refine sm_205 hI (show (97 : Int) ≤ 101 ∧ 101 ≤ (119 : Int) from by omega) (show (97 : Int) ≤ 110 ∧ 110 ≤ (117 : Int) from by omega) (show (97 : Int) ≤ 100 ∧ 100 ≤ (122 : Int) from by omega) (fun r23 => ?_)
    refine sm_207 hI (fun z25 q3 => ?_)
    have b4 : (-2147483648) ≤ s.1 95 9 ∧ s.1 95 9 ≤ 2147483647 := iv_full hI
    refine ⟨fun c5 => ?_, fun c5 => ?_⟩
    · skip
      have dc5 := q3.2 c5
      exact hQ (-1) ⟨(show (-1 : Int) ≤ (-1) ∧ (-1) ≤ (45 : Int) from by omega), (show (-1) = -1 ∨ (s.1 95 9 ≠ 0 ∧ ((a1 = 40 ∧ (-1) = 0) ∨ (a1 = 41 ∧ (-1) = 42 ∧ pz_cm (s.1 100) (s.1 95 19) = 1) ∨ (a1 = 42 ∧ (-1) = 43) ∨ (a1 = 44 ∧ (-1) = 45) ∨ (a1 ≠ -1 ∧ a1 ≠ 40 ∧ a1 ≠ 41 ∧ a1 ≠ 42 ∧ a1 ≠ 44 ∧ (-1) = 0))) from by omega)⟩
    · skip
      have dc5 := q3.1 c5
      exact hQ 0 ⟨(show (-1 : Int) ≤ 0 ∧ 0 ≤ (45 : Int) from by omega), (show 0 = -1 ∨ (s.1 95 9 ≠ 0 ∧ ((a1 = 40 ∧ 0 = 0) ∨ (a1 = 41 ∧ 0 = 42 ∧ pz_cm (s.1 100) (s.1 95 19) = 1) ∨ (a1 = 42 ∧ 0 = 43) ∨ (a1 = 44 ∧ 0 = 45) ∨ (a1 ≠ -1 ∧ a1 ≠ 40 ∧ a1 ≠ 41 ∧ a1 ≠ 42 ∧ a1 ≠ 44 ∧ 0 = 0))) from by omega)⟩
  · replace c1 : a1 = (-1) := c1
    exact hQ (-1) ⟨(show (-1 : Int) ≤ (-1) ∧ (-1) ≤ (45 : Int) from by omega), (show (-1) = -1 ∨ (s.1 95 9 ≠ 0 ∧ ((a1 = 40 ∧ (-1) = 0) ∨ (a1 = 41 ∧ (-1) = 42 ∧ pz_cm (s.1 100) (s.1 95 19) = 1) ∨ (a1 = 42 ∧ (-1) = 43) ∨ (a1 = 44 ∧ (-1) = 45) ∨ (a1 ≠ -1 ∧ a1 ≠ 40 ∧ a1 ≠ 41 ∧ a1 ≠ 42 ∧ a1 ≠ 44 ∧ (-1) = 0))) from by omega)⟩
  · replace c1 : a1 = 40 := c1
    have b6 : (-2147483648) ≤ s.1 95 9 ∧ s.1 95 9 ≤ 2147483647 := iv_full hI
    refine ⟨(show lf_R (s.1 95 9) from lf_Rof (by omega)), ?_⟩
    refine ⟨fun c7 => ?_, fun c7 => ?_⟩
    · skip
      replace c7 : s.1 95 9 ≠ 41 := c7
      exact hQ (-1) ⟨(show (-1 : Int) ≤ (-1) ∧ (-1) ≤ (45 : Int) from by omega), (show (-1) = -1 ∨ (s.1 95 9 ≠ 0 ∧ ((a1 = 40 ∧ (-1) = 0) ∨ (a1 = 41 ∧ (-1) = 42 ∧ pz_cm (s.1 100) (s.1 95 19) = 1) ∨ (a1 = 42 ∧ (-1) = 43) ∨ (a1 = 44 ∧ (-1) = 45) ∨ (a1 ≠ -1 ∧ a1 ≠ 40 ∧ a1 ≠ 41 ∧ a1 ≠ 42 ∧ a1 ≠ 44 ∧ (-1) = 0))) from by omega)⟩
    · skip
      replace c7 : ¬ (s.1 95 9 ≠ 41) := c7
      exact hQ 0 ⟨(show (-1 : Int) ≤ 0 ∧ 0 ≤ (45 : Int) from by omega), (show 0 = -1 ∨ (s.1 95 9 ≠ 0 ∧ ((a1 = 40 ∧ 0 = 0) ∨ (a1 = 41 ∧ 0 = 42 ∧ pz_cm (s.1 100) (s.1 95 19) = 1) ∨ (a1 = 42 ∧ 0 = 43) ∨ (a1 = 44 ∧ 0 = 45) ∨ (a1 ≠ -1 ∧ a1 ≠ 40 ∧ a1 ≠ 41 ∧ a1 ≠ 42 ∧ a1 ≠ 44 ∧ 0 = 0))) from by omega)⟩
  · replace c1 : a1 = 41 := c1
    refine sm_204 hI (show (97 : Int) ≤ 116 ∧ 116 ≤ (116 : Int) from by omega) (show (97 : Int) ≤ 104 ∧ 104 ≤ (117 : Int) from by omega) (show (97 : Int) ≤ 101 ∧ 101 ≤ (122 : Int) from by omega) (show (97 : Int) ≤ 110 ∧ 110 ≤ (117 : Int) from by omega) (fun r28 => ?_)
    refine sm_207 hI (fun z30 q9 => ?_)
    have b10 : (-2147483648) ≤ s.1 95 9 ∧ s.1 95 9 ≤ 2147483647 := iv_full hI
    refine ⟨fun c11 => ?_, fun c11 => ?_⟩
    · skip
      have dc11 := q9.2 c11
      exact hQ (-1) ⟨(show (-1 : Int) ≤ (-1) ∧ (-1) ≤ (45 : Int) from by omega), (show (-1) = -1 ∨ (s.1 95 9 ≠ 0 ∧ ((a1 = 40 ∧ (-1) = 0) ∨ (a1 = 41 ∧ (-1) = 42 ∧ pz_cm (s.1 100) (s.1 95 19) = 1) ∨ (a1 = 42 ∧ (-1) = 43) ∨ (a1 = 44 ∧ (-1) = 45) ∨ (a1 ≠ -1 ∧ a1 ≠ 40 ∧ a1 ≠ 41 ∧ a1 ≠ 42 ∧ a1 ≠ 44 ∧ (-1) = 0))) from by omega)⟩
    · skip
      have dc11 := q9.1 c11
      refine sm_221 hI (fun z32 q12 => ?_)
      have b13 : 0 ≤ s.1 95 19 ∧ s.1 95 19 ≤ 160 := iv_r95_19 hI
      refine ⟨fun c14 => ?_, fun c14 => ?_⟩
      · skip
        have dc14 := q12.2 c14
        exact hQ (-1) ⟨(show (-1 : Int) ≤ (-1) ∧ (-1) ≤ (45 : Int) from by omega), (show (-1) = -1 ∨ (s.1 95 9 ≠ 0 ∧ ((a1 = 40 ∧ (-1) = 0) ∨ (a1 = 41 ∧ (-1) = 42 ∧ pz_cm (s.1 100) (s.1 95 19) = 1) ∨ (a1 = 42 ∧ (-1) = 43) ∨ (a1 = 44 ∧ (-1) = 45) ∨ (a1 ≠ -1 ∧ a1 ≠ 40 ∧ a1 ≠ 41 ∧ a1 ≠ 42 ∧ a1 ≠ 44 ∧ (-1) = 0))) from by omega)⟩
      · skip
        have dc14 := q12.1 c14
        exact hQ 42 ⟨(show (-1 : Int) ≤ 42 ∧ 42 ≤ (45 : Int) from by omega), (show 42 = -1 ∨ (s.1 95 9 ≠ 0 ∧ ((a1 = 40 ∧ 42 = 0) ∨ (a1 = 41 ∧ 42 = 42 ∧ pz_cm (s.1 100) (s.1 95 19) = 1) ∨ (a1 = 42 ∧ 42 = 43) ∨ (a1 = 44 ∧ 42 = 45) ∨ (a1 ≠ -1 ∧ a1 ≠ 40 ∧ a1 ≠ 41 ∧ a1 ≠ 42 ∧ a1 ≠ 44 ∧ 42 = 0))) from by omega)⟩
  · replace c1 : a1 = 42 := c1
    refine sm_204 hI (show (97 : Int) ≤ 101 ∧ 101 ≤ (116 : Int) from by omega) (show (97 : Int) ≤ 108 ∧ 108 ≤ (117 : Int) from by omega) (show (97 : Int) ≤ 115 ∧ 115 ≤ (122 : Int) from by omega) (show (97 : Int) ≤ 101 ∧ 101 ≤ (117 : Int) from by omega) (fun r34 => ?_)
    refine sm_207 hI (fun z36 q16 => ?_)
    have b17 : (-2147483648) ≤ s.1 95 9 ∧ s.1 95 9 ≤ 2147483647 := iv_full hI
    refine ⟨fun c18 => ?_, fun c18 => ?_⟩
    · skip
      have dc18 := q16.2 c18
      exact hQ (-1) ⟨(show (-1 : Int) ≤ (-1) ∧ (-1) ≤ (45 : Int) from by omega), (show (-1) = -1 ∨ (s.1 95 9 ≠ 0 ∧ ((a1 = 40 ∧ (-1) = 0) ∨ (a1 = 41 ∧ (-1) = 42 ∧ pz_cm (s.1 100) (s.1 95 19) = 1) ∨ (a1 = 42 ∧ (-1) = 43) ∨ (a1 = 44 ∧ (-1) = 45) ∨ (a1 ≠ -1 ∧ a1 ≠ 40 ∧ a1 ≠ 41 ∧ a1 ≠ 42 ∧ a1 ≠ 44 ∧ (-1) = 0))) from by omega)⟩
    · skip
      have dc18 := q16.1 c18
      exact hQ 43 ⟨(show (-1 : Int) ≤ 43 ∧ 43 ≤ (45 : Int) from by omega), (show 43 = -1 ∨ (s.1 95 9 ≠ 0 ∧ ((a1 = 40 ∧ 43 = 0) ∨ (a1 = 41 ∧ 43 = 42 ∧ pz_cm (s.1 100) (s.1 95 19) = 1) ∨ (a1 = 42 ∧ 43 = 43) ∨ (a1 = 44 ∧ 43 = 45) ∨ (a1 ≠ -1 ∧ a1 ≠ 40 ∧ a1 ≠ 41 ∧ a1 ≠ 42 ∧ a1 ≠ 44 ∧ 43 = 0))) from by omega)⟩
  · replace c1 : a1 = 44 := c1
    refine sm_206 hI (show (97 : Int) ≤ 105 ∧ 105 ≤ (119 : Int) from by omega) (show (97 : Int) ≤ 110 ∧ 110 ≤ (121 : Int) from by omega) (fun r38 => ?_)
    refine sm_207 hI (fun z40 q20 => ?_)
    have b21 : (-2147483648) ≤ s.1 95 9 ∧ s.1 95 9 ≤ 2147483647 := iv_full hI
    refine ⟨fun c22 => ?_, fun c22 => ?_⟩
    · skip
      have dc22 := q20.2 c22
      exact hQ (-1) ⟨(show (-1 : Int) ≤ (-1) ∧ (-1) ≤ (45 : Int) from by omega), (show (-1) = -1 ∨ (s.1 95 9 ≠ 0 ∧ ((a1 = 40 ∧ (-1) = 0) ∨ (a1 = 41 ∧ (-1) = 42 ∧ pz_cm (s.1 100) (s.1 95 19) = 1) ∨ (a1 = 42 ∧ (-1) = 43) ∨ (a1 = 44 ∧ (-1) = 45) ∨ (a1 ≠ -1 ∧ a1 ≠ 40 ∧ a1 ≠ 41 ∧ a1 ≠ 42 ∧ a1 ≠ 44 ∧ (-1) = 0))) from by omega)⟩
    · skip
      have dc22 := q20.1 c22
      exact hQ 45 ⟨(show (-1 : Int) ≤ 45 ∧ 45 ≤ (45 : Int) from by omega), (show 45 = -1 ∨ (s.1 95 9 ≠ 0 ∧ ((a1 = 40 ∧ 45 = 0) ∨ (a1 = 41 ∧ 45 = 42 ∧ pz_cm (s.1 100) (s.1 95 19) = 1) ∨ (a1 = 42 ∧ 45 = 43) ∨ (a1 = 44 ∧ 45 = 45) ∨ (a1 ≠ -1 ∧ a1 ≠ 40 ∧ a1 ≠ 41 ∧ a1 ≠ 42 ∧ a1 ≠ 44 ∧ 45 = 0))) from by omega)⟩
-- fm_228 Model.shut 95 i
theorem sm_228_p32 {Q : lf_Z → Prop} {x1 : Int} {s : lf_Z} {s0 : lf_Z} (hQ : ∀  (s' : lf_Z), iv_A s'.1 s'.2.2 → lf_fq [95, 98, 103] 1000000 true s.1 s.2.2 s'.1 s'.2.2 → (pz_Y (s'.1 100) (s'.1 98) (s'.1 95 12) (s'.1 95 13) (s'.1 95 19) (s'.1 95 20) (s'.1 95 21) (s'.1 95 22) (s'.1 95 8) (s0.1 98 (s0.1 95 12)) (1) (0)) → (s'.1 95 7 = s0.1 95 7 ∧ s'.1 95 8 = s0.1 95 8 ∧ s'.1 95 9 = s0.1 95 9 ∧ s'.1 95 12 = s0.1 95 12 ∧ s'.1 95 22 = s0.1 95 22 ∧ s'.1 95 23 = s0.1 95 23) → Q  s') (hI : iv_A s.1 s.2.2) (bx1 : (-1) ≤ x1 ∧ x1 ≤ 45) (kv0 : pz_Y (s.1 100) (s.1 98) (s.1 95 12) (s.1 95 13) (s.1 95 19) (s.1 95 20) (s.1 95 21 - pz_vl x1) (s.1 95 22) (s.1 95 8) (s0.1 98 (s0.1 95 12)) (1) (0)) (kv1 : x1 = 40 ∨ x1 = 43 ∨ x1 = 45) (kv2 : x1 ≠ 45 ∨ 1 ≤ s.1 95 21) (kv3 : s.1 95 7 = s0.1 95 7 ∧ s.1 95 8 = s0.1 95 8 ∧ s.1 95 9 = s0.1 95 9 ∧ s.1 95 12 = s0.1 95 12 ∧ s.1 95 22 = s0.1 95 22 ∧ s.1 95 23 = s0.1 95 23) : fm_228_p32 Q x1 s := by
  unfold fm_228_p32
  have b41 : (pz_vo x1 = 1 ∧ (x1 = 3 ∨ x1 = 20 ∨ 40 ≤ x1) ∨ pz_vo x1 = 0 ∧ x1 ≠ 3 ∧ x1 ≠ 20 ∧ x1 < 40) ∧ (pz_vl x1 = 1 ∧ (x1 = 44 ∨ x1 = 45) ∨ pz_vl x1 = 0 ∧ x1 ≠ 44 ∧ x1 ≠ 45) ∧ (pz_v4 x1 = 1 ∧ x1 = 44 ∨ pz_v4 x1 = 0 ∧ x1 ≠ 44) := pz_vE _
  refine ⟨(show lf_R x1 from lf_Rof (by omega)), ?_⟩
  refine ⟨fun c42 => ?_, fun c42 => ?_⟩
  · skip
    replace c42 : x1 ≠ 45 := c42
    have b43 : 0 ≤ s.1 95 12 ∧ s.1 95 12 ≤ 2115 := iv_r95_12 hI
    have b44 : 0 ≤ s.1 95 13 ∧ s.1 95 13 ≤ 304 := iv_r95_13 hI
    have b45 : 0 ≤ s.1 95 19 ∧ s.1 95 19 ≤ 160 := iv_r95_19 hI
    have b46 : 0 ≤ s.1 95 20 ∧ s.1 95 20 ≤ 8 := iv_r95_20 hI
    have b47 : 0 ≤ s.1 95 21 ∧ s.1 95 21 ≤ 8 := iv_r95_21 hI
    have b48 : 0 ≤ s.1 95 22 ∧ s.1 95 22 ≤ 80 := iv_r95_22 hI
    have b49 : 0 ≤ s.1 95 8 ∧ s.1 95 8 ≤ 300 := iv_r95_8 hI
    have b50 : pz_Y ((s.1 100)) ((s.1 98)) ((s.1 95 12)) ((s.1 95 13)) ((s.1 95 19)) ((s.1 95 20)) ((s.1 95 21)) ((s.1 95 22)) ((s.1 95 8)) (s0.1 98 (s0.1 95 12)) (1) (0) := pz_cg rfl rfl kv0 rfl rfl rfl rfl (by omega) rfl (Int.le_refl _) rfl rfl rfl
    exact hQ s hI (lf_fq_rf) (show pz_Y ((s.1 100)) ((s.1 98)) ((s.1 95 12)) ((s.1 95 13)) ((s.1 95 19)) ((s.1 95 20)) ((s.1 95 21)) ((s.1 95 22)) ((s.1 95 8)) (s0.1 98 (s0.1 95 12)) (1) (0) from by first | with_reducible assumption | assumption) (show (s.1 95 7) = s0.1 95 7 ∧ (s.1 95 8) = s0.1 95 8 ∧ (s.1 95 9) = s0.1 95 9 ∧ (s.1 95 12) = s0.1 95 12 ∧ (s.1 95 22) = s0.1 95 22 ∧ (s.1 95 23) = s0.1 95 23 from by omega)
  · skip
    replace c42 : ¬ (x1 ≠ 45) := c42
    have b51 : 0 ≤ s.1 95 21 ∧ s.1 95 21 ≤ 8 := iv_r95_21 hI
    have hI52 : iv_A (lf_up s.1 95 21 ((s.1 95 21) - 1)) s.2.2 := iv_w95_21 hI (by omega)
    have fr53 : lf_fq [95, 98, 103] 1000000 true s.1 s.2.2 (lf_up s.1 95 21 ((s.1 95 21) - 1)) s.2.2 := lf_fq_up (lf_fq_rf) rfl (fun h => absurd h (by decide))
    refine ⟨(show (0 : Int) ≤ (s.1 95 21) - 1 ∧ (s.1 95 21) - 1 < (10 : Int) from by omega), ?_⟩
    have b54 : 0 ≤ s.1 101 ((s.1 95 21) - 1) ∧ s.1 101 ((s.1 95 21) - 1) ≤ 25 := (show 0 ≤ (lf_up s.1 95 21 ((s.1 95 21) - 1)) 101 ((s.1 95 21) - 1) ∧ (lf_up s.1 95 21 ((s.1 95 21) - 1)) 101 ((s.1 95 21) - 1) ≤ 25 from iv_r101 hI52 _)
    have b55 : (-1) ≤ s.1 102 ((s.1 95 21) - 1) ∧ s.1 102 ((s.1 95 21) - 1) ≤ 79 := (show (-1) ≤ (lf_up s.1 95 21 ((s.1 95 21) - 1)) 102 ((s.1 95 21) - 1) ∧ (lf_up s.1 95 21 ((s.1 95 21) - 1)) 102 ((s.1 95 21) - 1) ≤ 79 from iv_r102 hI52 _)
    refine ⟨(show (0 : Int) ≤ s.1 101 ((s.1 95 21) - 1) ∧ s.1 101 ((s.1 95 21) - 1) < (26 : Int) from by omega), ?_⟩
    have hI56 : iv_A (lf_up (lf_up s.1 95 21 ((s.1 95 21) - 1)) 103 (s.1 101 ((s.1 95 21) - 1)) (s.1 102 ((s.1 95 21) - 1))) s.2.2 := iv_w103 hI52 (by omega)
    have fr57 : lf_fq [95, 98, 103] 1000000 true s.1 s.2.2 (lf_up (lf_up s.1 95 21 ((s.1 95 21) - 1)) 103 (s.1 101 ((s.1 95 21) - 1)) (s.1 102 ((s.1 95 21) - 1))) s.2.2 := lf_fq_up fr53 rfl (fun h => absurd h (by decide))
    have b58 : 0 ≤ s.1 95 12 ∧ s.1 95 12 ≤ 2115 := (show 0 ≤ (lf_up (lf_up s.1 95 21 ((s.1 95 21) - 1)) 103 (s.1 101 ((s.1 95 21) - 1)) (s.1 102 ((s.1 95 21) - 1))) 95 12 ∧ (lf_up (lf_up s.1 95 21 ((s.1 95 21) - 1)) 103 (s.1 101 ((s.1 95 21) - 1)) (s.1 102 ((s.1 95 21) - 1))) 95 12 ≤ 2115 from iv_r95_12 hI56)
    have b59 : (lf_up s.1 95 21 ((s.1 95 21) - 1)) 95 12 = s.1 95 12 := lf_up_i (by omega)
    have b60 : 0 ≤ s.1 95 13 ∧ s.1 95 13 ≤ 304 := (show 0 ≤ (lf_up (lf_up s.1 95 21 ((s.1 95 21) - 1)) 103 (s.1 101 ((s.1 95 21) - 1)) (s.1 102 ((s.1 95 21) - 1))) 95 13 ∧ (lf_up (lf_up s.1 95 21 ((s.1 95 21) - 1)) 103 (s.1 101 ((s.1 95 21) - 1)) (s.1 102 ((s.1 95 21) - 1))) 95 13 ≤ 304 from iv_r95_13 hI56)
    have b61 : (lf_up s.1 95 21 ((s.1 95 21) - 1)) 95 13 = s.1 95 13 := lf_up_i (by omega)
    have b62 : 0 ≤ s.1 95 19 ∧ s.1 95 19 ≤ 160 := (show 0 ≤ (lf_up (lf_up s.1 95 21 ((s.1 95 21) - 1)) 103 (s.1 101 ((s.1 95 21) - 1)) (s.1 102 ((s.1 95 21) - 1))) 95 19 ∧ (lf_up (lf_up s.1 95 21 ((s.1 95 21) - 1)) 103 (s.1 101 ((s.1 95 21) - 1)) (s.1 102 ((s.1 95 21) - 1))) 95 19 ≤ 160 from iv_r95_19 hI56)
    have b63 : (lf_up s.1 95 21 ((s.1 95 21) - 1)) 95 19 = s.1 95 19 := lf_up_i (by omega)
    have b64 : 0 ≤ s.1 95 20 ∧ s.1 95 20 ≤ 8 := (show 0 ≤ (lf_up (lf_up s.1 95 21 ((s.1 95 21) - 1)) 103 (s.1 101 ((s.1 95 21) - 1)) (s.1 102 ((s.1 95 21) - 1))) 95 20 ∧ (lf_up (lf_up s.1 95 21 ((s.1 95 21) - 1)) 103 (s.1 101 ((s.1 95 21) - 1)) (s.1 102 ((s.1 95 21) - 1))) 95 20 ≤ 8 from iv_r95_20 hI56)
    have b65 : (lf_up s.1 95 21 ((s.1 95 21) - 1)) 95 20 = s.1 95 20 := lf_up_i (by omega)
    have b66 : 0 ≤ s.1 95 22 ∧ s.1 95 22 ≤ 80 := (show 0 ≤ (lf_up (lf_up s.1 95 21 ((s.1 95 21) - 1)) 103 (s.1 101 ((s.1 95 21) - 1)) (s.1 102 ((s.1 95 21) - 1))) 95 22 ∧ (lf_up (lf_up s.1 95 21 ((s.1 95 21) - 1)) 103 (s.1 101 ((s.1 95 21) - 1)) (s.1 102 ((s.1 95 21) - 1))) 95 22 ≤ 80 from iv_r95_22 hI56)
    have b67 : (lf_up s.1 95 21 ((s.1 95 21) - 1)) 95 22 = s.1 95 22 := lf_up_i (by omega)
    have b68 : 0 ≤ s.1 95 8 ∧ s.1 95 8 ≤ 300 := (show 0 ≤ (lf_up (lf_up s.1 95 21 ((s.1 95 21) - 1)) 103 (s.1 101 ((s.1 95 21) - 1)) (s.1 102 ((s.1 95 21) - 1))) 95 8 ∧ (lf_up (lf_up s.1 95 21 ((s.1 95 21) - 1)) 103 (s.1 101 ((s.1 95 21) - 1)) (s.1 102 ((s.1 95 21) - 1))) 95 8 ≤ 300 from iv_r95_8 hI56)
    have b69 : (lf_up s.1 95 21 ((s.1 95 21) - 1)) 95 8 = s.1 95 8 := lf_up_i (by omega)
    have b70 : pz_Y ((s.1 100)) ((s.1 98)) ((s.1 95 12)) ((s.1 95 13)) ((s.1 95 19)) ((s.1 95 20)) (((s.1 95 21) - 1)) ((s.1 95 22)) ((s.1 95 8)) (s0.1 98 (s0.1 95 12)) (1) (0) := pz_cg rfl rfl kv0 rfl rfl rfl rfl (by omega) rfl (Int.le_refl _) rfl rfl rfl
    exact hQ (lf_up (lf_up s.1 95 21 ((s.1 95 21) - 1)) 103 (s.1 101 ((s.1 95 21) - 1)) (s.1 102 ((s.1 95 21) - 1)), s.2.1, s.2.2) hI56 fr57 (show pz_Y ((s.1 100)) ((s.1 98)) ((s.1 95 12)) ((s.1 95 13)) ((s.1 95 19)) ((s.1 95 20)) (((s.1 95 21) - 1)) ((s.1 95 22)) ((s.1 95 8)) (s0.1 98 (s0.1 95 12)) (1) (0) from by first | with_reducible assumption | assumption) (show (s.1 95 7) = s0.1 95 7 ∧ (s.1 95 8) = s0.1 95 8 ∧ (s.1 95 9) = s0.1 95 9 ∧ (s.1 95 12) = s0.1 95 12 ∧ (s.1 95 22) = s0.1 95 22 ∧ (s.1 95 23) = s0.1 95 23 from by omega)
theorem sm_228 {a1 : Int} {Q : lf_Z → Prop} {s : lf_Z} (hI : iv_A s.1 s.2.2) (ba1 : (-1) ≤ a1 ∧ a1 ≤ 45) (kp0 : pz_Y (s.1 100) (s.1 98) (s.1 95 12) (s.1 95 13) (s.1 95 19) (s.1 95 20) (s.1 95 21) (s.1 95 22) (s.1 95 8) (s.1 98 (s.1 95 12)) (1) (0)) (kp1 : 0 < s.1 95 19 ∧ s.1 100 (s.1 95 19 - 1) = a1) (kp2 : a1 = 40 ∨ a1 = 43 ∨ a1 = 45) (hQ : ∀  (s' : lf_Z), iv_A s'.1 s'.2.2 → lf_fq [95, 98, 103] 1000000 true s.1 s.2.2 s'.1 s'.2.2 → (pz_Y (s'.1 100) (s'.1 98) (s'.1 95 12) (s'.1 95 13) (s'.1 95 19) (s'.1 95 20) (s'.1 95 21) (s'.1 95 22) (s'.1 95 8) (s.1 98 (s.1 95 12)) (1) (0)) → (s'.1 95 7 = s.1 95 7 ∧ s'.1 95 8 = s.1 95 8 ∧ s'.1 95 9 = s.1 95 9 ∧ s'.1 95 12 = s.1 95 12 ∧ s'.1 95 22 = s.1 95 22 ∧ s'.1 95 23 = s.1 95 23) → Q  s') : fm_228 a1 Q s := by
  unfold fm_228
  have b1 : 0 ≤ s.1 95 19 ∧ s.1 95 19 ≤ 160 := iv_r95_19 hI
  have b2 : 0 ≤ s.1 95 20 ∧ s.1 95 20 ≤ 8 := iv_r95_20 hI
  have b3 : 0 ≤ s.1 95 21 ∧ s.1 95 21 ≤ 8 := iv_r95_21 hI
  have b4 : 0 ≤ s.1 95 13 ∧ s.1 95 13 ≤ 304 := iv_r95_13 hI
  have b5 : 0 ≤ s.1 95 8 ∧ s.1 95 8 ≤ 300 := iv_r95_8 hI
  have b6 : 0 ≤ s.1 95 22 ∧ s.1 95 22 ≤ 80 := iv_r95_22 hI
  have b7 : 0 ≤ s.1 95 12 ∧ s.1 95 12 ≤ 2115 := iv_r95_12 hI
  have b8 : 0 ≤ (s.1 95 19) ∧ (s.1 95 19) ≤ 6 * (s.1 95 20) + 5 ∧ 0 ≤ (s.1 95 20) ∧ 0 ≤ (s.1 95 21) ∧ (s.1 95 21) ≤ (s.1 95 20) ∧ 0 ≤ (s.1 95 13) ∧ (s.1 95 13) + (s.1 95 19) ≤ (s.1 95 8) ∧ 4 * (s.1 95 22) + 3 * pz_4 ((s.1 100)) ((s.1 95 19)) ≤ (s.1 95 8) ∧ 0 ≤ pz_4 ((s.1 100)) ((s.1 95 19)) ∧ (s.1 98) ((s.1 95 12)) = (s.1 98) ((s.1 95 12)) ∧ 0 ≤ (s.1 98) ((s.1 95 12)) ∧ (s.1 98) ((s.1 95 12)) < 24 := pz_Yn2 kp0
  have b9 : wk_E ((s.1 98)) ((s.1 95 12)) ((s.1 95 13)) := pz_YE kp0
  have b10 : (s.1 95 8) ≤ 300 := (iv_r95_8 hI).2
  have b11 : (pz_vo a1 = 1 ∧ (a1 = 3 ∨ a1 = 20 ∨ 40 ≤ a1) ∨ pz_vo a1 = 0 ∧ a1 ≠ 3 ∧ a1 ≠ 20 ∧ a1 < 40) ∧ (pz_vl a1 = 1 ∧ (a1 = 44 ∨ a1 = 45) ∨ pz_vl a1 = 0 ∧ a1 ≠ 44 ∧ a1 ≠ 45) ∧ (pz_v4 a1 = 1 ∧ a1 = 44 ∨ pz_v4 a1 = 0 ∧ a1 ≠ 44) := pz_vE _
  have b12 : 1 ≤ (s.1 95 20) := pz_Yo kp0 (by omega) (by omega)
  have b13 : pz_vl ((s.1 100) ((s.1 95 19) - 1)) ≤ (s.1 95 21) := pz_Yl kp0 (by omega)
  have b14 : pz_vl ((s.1 100) ((s.1 95 19) - 1)) = pz_vl a1 := congrArg pz_vl kp1.2
  have hI15 : iv_A (lf_up s.1 95 19 ((s.1 95 19) - 1)) s.2.2 := iv_w95_19 hI (by omega)
  have fr16 : lf_fq [95, 98, 103] 1000000 true s.1 s.2.2 (lf_up s.1 95 19 ((s.1 95 19) - 1)) s.2.2 := lf_fq_up (lf_fq_rf) rfl (fun h => absurd h (by decide))
  have b17 : (lf_up s.1 95 19 ((s.1 95 19) - 1)) 95 20 = s.1 95 20 := lf_up_i (by omega)
  have hI18 : iv_A (lf_up (lf_up s.1 95 19 ((s.1 95 19) - 1)) 95 20 ((s.1 95 20) - 1)) s.2.2 := iv_w95_20 hI15 (by omega)
  have fr19 : lf_fq [95, 98, 103] 1000000 true s.1 s.2.2 (lf_up (lf_up s.1 95 19 ((s.1 95 19) - 1)) 95 20 ((s.1 95 20) - 1)) s.2.2 := lf_fq_up fr16 rfl (fun h => absurd h (by decide))
  refine ⟨(show lf_R a1 from lf_Rof (by omega)), ?_⟩
  refine ⟨fun c20 => ?_, fun c20 => ?_⟩
  · skip
    replace c20 : a1 ≠ 43 := c20
    have b21 : (lf_up (lf_up s.1 95 19 ((s.1 95 19) - 1)) 95 20 ((s.1 95 20) - 1)) 95 12 = (lf_up s.1 95 19 ((s.1 95 19) - 1)) 95 12 := lf_up_i (by omega)
    have b22 : (lf_up s.1 95 19 ((s.1 95 19) - 1)) 95 12 = s.1 95 12 := lf_up_i (by omega)
    have b23 : (lf_up (lf_up s.1 95 19 ((s.1 95 19) - 1)) 95 20 ((s.1 95 20) - 1)) 95 13 = (lf_up s.1 95 19 ((s.1 95 19) - 1)) 95 13 := lf_up_i (by omega)
    have b24 : (lf_up s.1 95 19 ((s.1 95 19) - 1)) 95 13 = s.1 95 13 := lf_up_i (by omega)
    have b25 : (lf_up (lf_up s.1 95 19 ((s.1 95 19) - 1)) 95 20 ((s.1 95 20) - 1)) 95 21 = (lf_up s.1 95 19 ((s.1 95 19) - 1)) 95 21 := lf_up_i (by omega)
    have b26 : (lf_up s.1 95 19 ((s.1 95 19) - 1)) 95 21 = s.1 95 21 := lf_up_i (by omega)
    have b27 : (lf_up (lf_up s.1 95 19 ((s.1 95 19) - 1)) 95 20 ((s.1 95 20) - 1)) 95 22 = (lf_up s.1 95 19 ((s.1 95 19) - 1)) 95 22 := lf_up_i (by omega)
    have b28 : (lf_up s.1 95 19 ((s.1 95 19) - 1)) 95 22 = s.1 95 22 := lf_up_i (by omega)
    have b29 : (lf_up (lf_up s.1 95 19 ((s.1 95 19) - 1)) 95 20 ((s.1 95 20) - 1)) 95 8 = (lf_up s.1 95 19 ((s.1 95 19) - 1)) 95 8 := lf_up_i (by omega)
    have b30 : (lf_up s.1 95 19 ((s.1 95 19) - 1)) 95 8 = s.1 95 8 := lf_up_i (by omega)
    have b31 : 0 ≤ s.1 95 7 ∧ s.1 95 7 ≤ 300 := (show 0 ≤ (lf_up (lf_up s.1 95 19 ((s.1 95 19) - 1)) 95 20 ((s.1 95 20) - 1)) 95 7 ∧ (lf_up (lf_up s.1 95 19 ((s.1 95 19) - 1)) 95 20 ((s.1 95 20) - 1)) 95 7 ≤ 300 from iv_r95_7 hI18)
    have b32 : (lf_up (lf_up s.1 95 19 ((s.1 95 19) - 1)) 95 20 ((s.1 95 20) - 1)) 95 7 = (lf_up s.1 95 19 ((s.1 95 19) - 1)) 95 7 := lf_up_i (by omega)
    have b33 : (lf_up s.1 95 19 ((s.1 95 19) - 1)) 95 7 = s.1 95 7 := lf_up_i (by omega)
    have b34 : (-2147483648) ≤ s.1 95 9 ∧ s.1 95 9 ≤ 2147483647 := (show (-2147483648) ≤ (lf_up (lf_up s.1 95 19 ((s.1 95 19) - 1)) 95 20 ((s.1 95 20) - 1)) 95 9 ∧ (lf_up (lf_up s.1 95 19 ((s.1 95 19) - 1)) 95 20 ((s.1 95 20) - 1)) 95 9 ≤ 2147483647 from iv_full hI18)
    have b35 : (lf_up (lf_up s.1 95 19 ((s.1 95 19) - 1)) 95 20 ((s.1 95 20) - 1)) 95 9 = (lf_up s.1 95 19 ((s.1 95 19) - 1)) 95 9 := lf_up_i (by omega)
    have b36 : (lf_up s.1 95 19 ((s.1 95 19) - 1)) 95 9 = s.1 95 9 := lf_up_i (by omega)
    have b37 : 0 ≤ s.1 95 23 ∧ s.1 95 23 ≤ 1 := (show 0 ≤ (lf_up (lf_up s.1 95 19 ((s.1 95 19) - 1)) 95 20 ((s.1 95 20) - 1)) 95 23 ∧ (lf_up (lf_up s.1 95 19 ((s.1 95 19) - 1)) 95 20 ((s.1 95 20) - 1)) 95 23 ≤ 1 from iv_r95_23 hI18)
    have b38 : (lf_up (lf_up s.1 95 19 ((s.1 95 19) - 1)) 95 20 ((s.1 95 20) - 1)) 95 23 = (lf_up s.1 95 19 ((s.1 95 19) - 1)) 95 23 := lf_up_i (by omega)
    have b39 : (lf_up s.1 95 19 ((s.1 95 19) - 1)) 95 23 = s.1 95 23 := lf_up_i (by omega)
    have b40 : pz_Y ((s.1 100)) ((s.1 98)) ((s.1 95 12)) ((s.1 95 13)) (((s.1 95 19) - 1)) (((s.1 95 20) - 1)) ((s.1 95 21) - pz_vl a1) ((s.1 95 22)) ((s.1 95 8)) (s.1 98 (s.1 95 12)) (1) (0) := by first | exact pz_cg (show (s.1 100) = s.1 100 from hI.1 100 rfl) hI (pz_Ys43 kp0 (by omega) (by omega)) (by omega) (by omega) (by omega) (by omega) (by omega) (by omega) (by omega) rfl rfl rfl | exact pz_cg rfl rfl (pz_Ys kp0 (by omega) (by omega)) (by omega) (by omega) (by omega) (by omega) (by omega) (by omega) (by omega) rfl rfl rfl
    exact sm_228_p32 (s0 := s) (fun t9 i9 f9 => hQ t9 i9 (lf_fq_tr fr19 f9)) hI18 (show (-1 : Int) ≤ a1 ∧ a1 ≤ (45 : Int) from by omega) (show pz_Y ((s.1 100)) ((s.1 98)) ((s.1 95 12)) ((s.1 95 13)) (((s.1 95 19) - 1)) (((s.1 95 20) - 1)) ((s.1 95 21) - pz_vl a1) ((s.1 95 22)) ((s.1 95 8)) (s.1 98 (s.1 95 12)) (1) (0) from by first | with_reducible assumption | assumption) (show a1 = 40 ∨ a1 = 43 ∨ a1 = 45 from by omega) (show a1 ≠ 45 ∨ 1 ≤ (s.1 95 21) from by omega) (show (s.1 95 7) = s.1 95 7 ∧ (s.1 95 8) = s.1 95 8 ∧ (s.1 95 9) = s.1 95 9 ∧ (s.1 95 12) = s.1 95 12 ∧ (s.1 95 22) = s.1 95 22 ∧ (s.1 95 23) = s.1 95 23 from by omega)
  · skip
    replace c20 : ¬ (a1 ≠ 43) := c20
    have b73 : (lf_up (lf_up s.1 95 19 ((s.1 95 19) - 1)) 95 20 ((s.1 95 20) - 1)) 95 12 = (lf_up s.1 95 19 ((s.1 95 19) - 1)) 95 12 := lf_up_i (by omega)
    have b74 : (lf_up s.1 95 19 ((s.1 95 19) - 1)) 95 12 = s.1 95 12 := lf_up_i (by omega)
    have b75 : (lf_up (lf_up s.1 95 19 ((s.1 95 19) - 1)) 95 20 ((s.1 95 20) - 1)) 95 13 = (lf_up s.1 95 19 ((s.1 95 19) - 1)) 95 13 := lf_up_i (by omega)
    have b76 : (lf_up s.1 95 19 ((s.1 95 19) - 1)) 95 13 = s.1 95 13 := lf_up_i (by omega)
    refine sm_225 hI18 (show (0 : Int) ≤ 2 ∧ 2 ≤ (45 : Int) from by omega) (show (-2147483648 : Int) ≤ 0 ∧ 0 ≤ (2147483647 : Int) from by omega) (show wk_E ((s.1 98)) ((s.1 95 12)) ((s.1 95 13)) from by first | with_reducible assumption | assumption) (show (s.1 95 13) ≤ 303 from by omega) (fun s25 hI72 fr71 ps78 ps79 => ?_)
    replace ps78 : s25.1 98 = pz_em ((s.1 98)) ((s.1 95 12) + 97 + 2 * (s.1 95 13)) 2 0 := ps78
    replace ps79 : s25.1 95 13 = (s.1 95 13) + 1 ∧ s25.1 95 7 = (s.1 95 7) ∧ s25.1 95 8 = (s.1 95 8) ∧ s25.1 95 9 = (s.1 95 9) ∧ s25.1 95 12 = (s.1 95 12) ∧ s25.1 95 19 = ((s.1 95 19) - 1) ∧ s25.1 95 20 = ((s.1 95 20) - 1) ∧ s25.1 95 21 = (s.1 95 21) ∧ s25.1 95 22 = (s.1 95 22) ∧ s25.1 95 23 = (s.1 95 23) := ps79
    have fr80 : lf_fq [95, 98, 103] 1000000 true s.1 s.2.2 s25.1 s25.2.2 := lf_fq_tr fr19 (lf_fq_wk fr71 rfl (by decide) (by decide))
    have b81 : 0 ≤ s25.1 95 12 ∧ s25.1 95 12 ≤ 2115 := iv_r95_12 hI72
    have b82 : 0 ≤ s25.1 95 13 ∧ s25.1 95 13 ≤ 304 := iv_r95_13 hI72
    have b83 : 0 ≤ s25.1 95 19 ∧ s25.1 95 19 ≤ 160 := iv_r95_19 hI72
    have b84 : 0 ≤ s25.1 95 20 ∧ s25.1 95 20 ≤ 8 := iv_r95_20 hI72
    have b85 : 0 ≤ s25.1 95 21 ∧ s25.1 95 21 ≤ 8 := iv_r95_21 hI72
    have b86 : 0 ≤ s25.1 95 22 ∧ s25.1 95 22 ≤ 80 := iv_r95_22 hI72
    have b87 : 0 ≤ s25.1 95 8 ∧ s25.1 95 8 ≤ 300 := iv_r95_8 hI72
    have b88 : 0 ≤ s25.1 95 7 ∧ s25.1 95 7 ≤ 300 := iv_r95_7 hI72
    have b89 : (-2147483648) ≤ s25.1 95 9 ∧ s25.1 95 9 ≤ 2147483647 := iv_full hI72
    have b90 : 0 ≤ s25.1 95 23 ∧ s25.1 95 23 ≤ 1 := iv_r95_23 hI72
    have b91 : pz_Y ((s25.1 100)) ((s25.1 98)) ((s25.1 95 12)) ((s25.1 95 13)) ((s25.1 95 19)) ((s25.1 95 20)) ((s25.1 95 21) - pz_vl a1) ((s25.1 95 22)) ((s25.1 95 8)) (s.1 98 (s.1 95 12)) (1) (0) := by first | exact pz_cg (show (s25.1 100) = s.1 100 from fr71.1 100 rfl) ps78 (pz_Ys43 kp0 (by omega) (by omega)) (by omega) (by omega) (by omega) (by omega) (by omega) (by omega) (by omega) rfl rfl rfl | exact pz_cg rfl rfl (pz_Ys kp0 (by omega) (by omega)) (by omega) (by omega) (by omega) (by omega) (by omega) (by omega) (by omega) rfl rfl rfl
    exact sm_228_p32 (s0 := s) (fun t9 i9 f9 => hQ t9 i9 (lf_fq_tr fr80 f9)) hI72 (show (-1 : Int) ≤ a1 ∧ a1 ≤ (45 : Int) from by omega) (show pz_Y ((s25.1 100)) ((s25.1 98)) ((s25.1 95 12)) ((s25.1 95 13)) ((s25.1 95 19)) ((s25.1 95 20)) ((s25.1 95 21) - pz_vl a1) ((s25.1 95 22)) ((s25.1 95 8)) (s.1 98 (s.1 95 12)) (1) (0) from by first | with_reducible assumption | assumption) (show a1 = 40 ∨ a1 = 43 ∨ a1 = 45 from by omega) (show a1 ≠ 45 ∨ 1 ≤ (s25.1 95 21) from by omega) (show (s25.1 95 7) = s.1 95 7 ∧ (s25.1 95 8) = s.1 95 8 ∧ (s25.1 95 9) = s.1 95 9 ∧ (s25.1 95 12) = s.1 95 12 ∧ (s25.1 95 22) = s.1 95 22 ∧ (s25.1 95 23) = s.1 95 23 from by omega)
-- fm_227 Model.bind 95
theorem sm_227 {Q : lf_Z → Prop} {s : lf_Z} (hI : iv_A s.1 s.2.2) (kp0 : pz_B (s.1 100) (s.1 98) (s.1 95 12) (s.1 95 13) (s.1 95 19) (s.1 95 20) (s.1 95 21) (s.1 95 22) (s.1 95 8) (s.1 98 (s.1 95 12))) (hQ : ∀  (s' : lf_Z), iv_A s'.1 s'.2.2 → lf_fq [95, 98, 102, 103] 1000000 true s.1 s.2.2 s'.1 s'.2.2 → (pz_Y (s'.1 100) (s'.1 98) (s'.1 95 12) (s'.1 95 13) (s'.1 95 19) (s'.1 95 20) (s'.1 95 21) (s'.1 95 22) (s.1 95 8 + 1) (s.1 98 (s.1 95 12)) (0) (0)) → (s'.1 95 7 = s.1 95 7 ∧ s'.1 95 8 = s.1 95 8 ∧ s'.1 95 9 = s.1 95 9 ∧ s'.1 95 12 = s.1 95 12 ∧ s'.1 95 19 = s.1 95 19 ∧ s'.1 95 20 = s.1 95 20 ∧ s'.1 95 21 = s.1 95 21 ∧ s'.1 95 23 = s.1 95 23) → Q  s') : fm_227 Q s := by
  unfold fm_227
  have b1 : 0 ≤ s.1 95 21 ∧ s.1 95 21 ≤ 8 := iv_r95_21 hI
  have b2 : 0 ≤ s.1 95 20 ∧ s.1 95 20 ≤ 8 := iv_r95_20 hI
  have b3 : 0 ≤ s.1 95 19 ∧ s.1 95 19 ≤ 160 := iv_r95_19 hI
  have b4 : 0 ≤ s.1 95 13 ∧ s.1 95 13 ≤ 304 := iv_r95_13 hI
  have b5 : 0 ≤ s.1 95 8 ∧ s.1 95 8 ≤ 300 := iv_r95_8 hI
  have b6 : 0 ≤ s.1 95 22 ∧ s.1 95 22 ≤ 80 := iv_r95_22 hI
  have b7 : 0 ≤ s.1 95 12 ∧ s.1 95 12 ≤ 2115 := iv_r95_12 hI
  have b8 : 1 ≤ (s.1 95 21) ∧ (s.1 95 21) ≤ (s.1 95 20) ∧ 0 < (s.1 95 19) ∧ (s.1 95 19) ≤ 6 * (s.1 95 20) + 5 ∧ 0 ≤ (s.1 95 13) ∧ (s.1 95 13) + (s.1 95 19) ≤ (s.1 95 8) ∧ 4 * (s.1 95 22) + 3 ≤ (s.1 95 8) ∧ (s.1 98) ((s.1 95 12)) = (s.1 98) ((s.1 95 12)) ∧ 0 ≤ (s.1 98) ((s.1 95 12)) ∧ (s.1 98) ((s.1 95 12)) < 24 ∧ ((s.1 95 12) = 0 ∨ (s.1 95 12) = 705 ∨ (s.1 95 12) = 1410 ∨ (s.1 95 12) = 2115) := pz_Bn kp0
  have b9 : wk_E ((s.1 98)) ((s.1 95 12)) ((s.1 95 13)) := pz_BE kp0
  refine ⟨(show (0 : Int) ≤ (s.1 95 21) - 1 ∧ (s.1 95 21) - 1 < (10 : Int) from by omega), ?_⟩
  have b10 : 0 ≤ s.1 101 ((s.1 95 21) - 1) ∧ s.1 101 ((s.1 95 21) - 1) ≤ 25 := iv_r101 hI _
  refine ⟨(show (0 : Int) ≤ s.1 101 ((s.1 95 21) - 1) ∧ s.1 101 ((s.1 95 21) - 1) < (26 : Int) from by omega), ?_⟩
  have b11 : (-1) ≤ s.1 103 (s.1 101 ((s.1 95 21) - 1)) ∧ s.1 103 (s.1 101 ((s.1 95 21) - 1)) ≤ 79 := iv_r103 hI _
  have hI12 : iv_A (lf_up s.1 102 ((s.1 95 21) - 1) (s.1 103 (s.1 101 ((s.1 95 21) - 1)))) s.2.2 := iv_w102 hI (by omega)
  have fr13 : lf_fq [95, 98, 102, 103] 1000000 true s.1 s.2.2 (lf_up s.1 102 ((s.1 95 21) - 1) (s.1 103 (s.1 101 ((s.1 95 21) - 1)))) s.2.2 := lf_fq_up (lf_fq_rf) rfl (fun h => absurd h (by decide))
  have hI14 : iv_A (lf_up (lf_up s.1 102 ((s.1 95 21) - 1) (s.1 103 (s.1 101 ((s.1 95 21) - 1)))) 103 (s.1 101 ((s.1 95 21) - 1)) (s.1 95 22)) s.2.2 := iv_w103 hI12 (by omega)
  have fr15 : lf_fq [95, 98, 102, 103] 1000000 true s.1 s.2.2 (lf_up (lf_up s.1 102 ((s.1 95 21) - 1) (s.1 103 (s.1 101 ((s.1 95 21) - 1)))) 103 (s.1 101 ((s.1 95 21) - 1)) (s.1 95 22)) s.2.2 := lf_fq_up fr13 rfl (fun h => absurd h (by decide))
  refine sm_225 hI14 (show (0 : Int) ≤ 30 ∧ 30 ≤ (45 : Int) from by omega) (show (-2147483648 : Int) ≤ s.1 95 22 ∧ s.1 95 22 ≤ (2147483647 : Int) from by omega) (show wk_E ((s.1 98)) ((s.1 95 12)) ((s.1 95 13)) from by first | with_reducible assumption | assumption) (show (s.1 95 13) ≤ 303 from by omega) (fun s23 hI17 fr16 ps19 ps20 => ?_)
  replace ps19 : s23.1 98 = pz_em ((s.1 98)) ((s.1 95 12) + 97 + 2 * (s.1 95 13)) 30 (s.1 95 22) := ps19
  replace ps20 : s23.1 95 13 = (s.1 95 13) + 1 ∧ s23.1 95 7 = (s.1 95 7) ∧ s23.1 95 8 = (s.1 95 8) ∧ s23.1 95 9 = (s.1 95 9) ∧ s23.1 95 12 = (s.1 95 12) ∧ s23.1 95 19 = (s.1 95 19) ∧ s23.1 95 20 = (s.1 95 20) ∧ s23.1 95 21 = (s.1 95 21) ∧ s23.1 95 22 = (s.1 95 22) ∧ s23.1 95 23 = (s.1 95 23) := ps20
  have fr21 : lf_fq [95, 98, 102, 103] 1000000 true s.1 s.2.2 s23.1 s23.2.2 := lf_fq_tr fr15 (lf_fq_wk fr16 rfl (by decide) (by decide))
  have b22 : 0 ≤ s23.1 95 12 ∧ s23.1 95 12 ≤ 2115 := iv_r95_12 hI17
  have b23 : 0 ≤ s23.1 95 13 ∧ s23.1 95 13 ≤ 304 := iv_r95_13 hI17
  have b24 : 0 ≤ s23.1 95 19 ∧ s23.1 95 19 ≤ 160 := iv_r95_19 hI17
  have b25 : 0 ≤ s23.1 95 20 ∧ s23.1 95 20 ≤ 8 := iv_r95_20 hI17
  have b26 : 0 ≤ s23.1 95 21 ∧ s23.1 95 21 ≤ 8 := iv_r95_21 hI17
  have b27 : 0 ≤ s23.1 95 22 ∧ s23.1 95 22 ≤ 80 := iv_r95_22 hI17
  have b28 : pz_Y ((s23.1 100)) ((s23.1 98)) ((s23.1 95 12)) ((s23.1 95 13)) ((s23.1 95 19)) ((s23.1 95 20)) ((s23.1 95 21)) ((s23.1 95 22) + 1) (s.1 95 8 + 1) (s.1 98 (s.1 95 12)) 0 0 := pz_cg (fr16.1 100 rfl) ps19 (pz_Bb kp0 (by omega)) (by omega) (by omega) (by omega) (by omega) (by omega) (by omega) (Int.le_refl _) rfl rfl rfl
  have hI29 : iv_A (lf_up s23.1 95 22 ((s23.1 95 22) + 1)) s23.2.2 := iv_w95_22 hI17 (by omega)
  have fr30 : lf_fq [95, 98, 102, 103] 1000000 true s.1 s.2.2 (lf_up s23.1 95 22 ((s23.1 95 22) + 1)) s23.2.2 := lf_fq_up fr21 rfl (fun h => absurd h (by decide))
  exact hQ (lf_up s23.1 95 22 ((s23.1 95 22) + 1), s23.2.1, s23.2.2) hI29 fr30 (show pz_Y ((s23.1 100)) ((s23.1 98)) ((s23.1 95 12)) ((s23.1 95 13)) ((s23.1 95 19)) ((s23.1 95 20)) ((s23.1 95 21)) (((s23.1 95 22) + 1)) (s.1 95 8 + 1) (s.1 98 (s.1 95 12)) (0) (0) from by first | with_reducible assumption | assumption) (show (s23.1 95 7) = s.1 95 7 ∧ (s23.1 95 8) = s.1 95 8 ∧ (s23.1 95 9) = s.1 95 9 ∧ (s23.1 95 12) = s.1 95 12 ∧ (s23.1 95 19) = s.1 95 19 ∧ (s23.1 95 20) = s.1 95 20 ∧ (s23.1 95 21) = s.1 95 21 ∧ (s23.1 95 23) = s.1 95 23 from by omega)
-- fm_217 Model.behindOne 95
theorem sm_217_p99 {Q : Bool → lf_Z → Prop} {s : lf_Z} {s0 : lf_Z} (hQ : ∀ (z : Bool) (s' : lf_Z), iv_A s'.1 s'.2.2 → lf_fq [95, 98, 100, 102, 103] 1000000 true s.1 s.2.2 s'.1 s'.2.2 → (z = true → pz_Y (s'.1 100) (s'.1 98) (s'.1 95 12) (s'.1 95 13) (s'.1 95 19) (s'.1 95 20) (s'.1 95 21) (s'.1 95 22) (s'.1 95 8) (s0.1 98 (s0.1 95 12)) (s'.1 95 23) (0)) → (z = true → (s0.1 95 8 < s'.1 95 8 ∧ (s'.1 95 9 = 0 ∨ s'.1 95 8 < s'.1 95 7))) → (z = false → pz_Y (s'.1 100) (s'.1 98) (s'.1 95 12) (s'.1 95 13) (s'.1 95 19) (s'.1 95 20) (s'.1 95 21) (s'.1 95 22) (s'.1 95 8) (s0.1 98 (s0.1 95 12)) (1) (0)) → (s'.1 95 12 = s0.1 95 12) → (z = false → (s'.1 95 8 = s0.1 95 8 ∧ s'.1 95 7 = s0.1 95 7 ∧ s'.1 95 9 = s0.1 95 9)) → Q z s') (hI : iv_A s.1 s.2.2) (kv0 : pz_Y (s.1 100) (s.1 98) (s.1 95 12) (s.1 95 13) (s.1 95 19) (s.1 95 20) (s.1 95 21) (s.1 95 22) (s.1 95 8 + 1) (s0.1 98 (s0.1 95 12)) (0) (0)) (kv1 : s.1 95 9 ≠ 0 ∧ s.1 95 8 < s.1 95 7) (kv2 : s.1 95 23 = 0) (kv3 : s.1 95 8 = s0.1 95 8 ∧ s.1 95 12 = s0.1 95 12) : fm_217_p99 Q s := by
  unfold fm_217_p99
  refine sm_197 hI (fun s36 hI116 fr115 ps118 ps119 => ?_)
  replace ps118 : (s.1 95 7) ≤ s36.1 95 8 ∧ (s36.1 95 9 = 0 ∨ s36.1 95 8 < s36.1 95 7) := ps118
  replace ps119 : s36.1 95 12 = (s.1 95 12) ∧ s36.1 95 13 = (s.1 95 13) ∧ s36.1 95 19 = (s.1 95 19) ∧ s36.1 95 20 = (s.1 95 20) ∧ s36.1 95 21 = (s.1 95 21) ∧ s36.1 95 22 = (s.1 95 22) ∧ s36.1 95 23 = (s.1 95 23) := ps119
  have fr120 : lf_fq [95, 98, 100, 102, 103] 1000000 true s.1 s.2.2 s36.1 s36.2.2 := lf_fq_tr (lf_fq_rf) (lf_fq_wk fr115 rfl (by decide) (by decide))
  have b121 : 0 ≤ s36.1 95 12 ∧ s36.1 95 12 ≤ 2115 := iv_r95_12 hI116
  have b122 : 0 ≤ s36.1 95 13 ∧ s36.1 95 13 ≤ 304 := iv_r95_13 hI116
  have b123 : 0 ≤ s36.1 95 19 ∧ s36.1 95 19 ≤ 160 := iv_r95_19 hI116
  have b124 : 0 ≤ s36.1 95 20 ∧ s36.1 95 20 ≤ 8 := iv_r95_20 hI116
  have b125 : 0 ≤ s36.1 95 21 ∧ s36.1 95 21 ≤ 8 := iv_r95_21 hI116
  have b126 : 0 ≤ s36.1 95 22 ∧ s36.1 95 22 ≤ 80 := iv_r95_22 hI116
  have b127 : 0 ≤ s36.1 95 8 ∧ s36.1 95 8 ≤ 300 := iv_r95_8 hI116
  have b128 : 0 ≤ s36.1 95 23 ∧ s36.1 95 23 ≤ 1 := iv_r95_23 hI116
  have b129 : pz_Y ((s36.1 100)) ((s36.1 98)) ((s36.1 95 12)) ((s36.1 95 13)) ((s36.1 95 19)) ((s36.1 95 20)) ((s36.1 95 21)) ((s36.1 95 22)) ((s36.1 95 8)) (s0.1 98 (s0.1 95 12)) ((s36.1 95 23)) (0) := pz_cg (fr115.1 100 rfl) (fr115.1 98 rfl) kv0 (by omega) (by omega) (by omega) (by omega) (by omega) (by omega) (by omega) (by omega) (by omega) rfl
  exact hQ true s36 hI116 fr120 (show true = true → pz_Y ((s36.1 100)) ((s36.1 98)) ((s36.1 95 12)) ((s36.1 95 13)) ((s36.1 95 19)) ((s36.1 95 20)) ((s36.1 95 21)) ((s36.1 95 22)) ((s36.1 95 8)) (s0.1 98 (s0.1 95 12)) ((s36.1 95 23)) (0) from fun _ => by first | with_reducible assumption | assumption) (show true = true → (s0.1 95 8 < (s36.1 95 8) ∧ ((s36.1 95 9) = 0 ∨ (s36.1 95 8) < (s36.1 95 7))) from fun _ => by omega) (show true = false → pz_Y ((s36.1 100)) ((s36.1 98)) ((s36.1 95 12)) ((s36.1 95 13)) ((s36.1 95 19)) ((s36.1 95 20)) ((s36.1 95 21)) ((s36.1 95 22)) ((s36.1 95 8)) (s0.1 98 (s0.1 95 12)) (1) (0) from fun h => by cases h) (show (s36.1 95 12) = s0.1 95 12 from by omega) (show true = false → ((s36.1 95 8) = s0.1 95 8 ∧ (s36.1 95 7) = s0.1 95 7 ∧ (s36.1 95 9) = s0.1 95 9) from fun h => by cases h)
set_option maxHeartbeats 8000000 in
theorem sm_217 {Q : Bool → lf_Z → Prop} {s : lf_Z} (hI : iv_A s.1 s.2.2) (kp0 : pz_Y (s.1 100) (s.1 98) (s.1 95 12) (s.1 95 13) (s.1 95 19) (s.1 95 20) (s.1 95 21) (s.1 95 22) (s.1 95 8) (s.1 98 (s.1 95 12)) (1) (0)) (kp1 : s.1 95 9 = 0 ∨ s.1 95 8 < s.1 95 7) (kp2 : s.1 95 23 = 1) (hQ : ∀ (z : Bool) (s' : lf_Z), iv_A s'.1 s'.2.2 → lf_fq [95, 98, 100, 102, 103] 1000000 true s.1 s.2.2 s'.1 s'.2.2 → (z = true → pz_Y (s'.1 100) (s'.1 98) (s'.1 95 12) (s'.1 95 13) (s'.1 95 19) (s'.1 95 20) (s'.1 95 21) (s'.1 95 22) (s'.1 95 8) (s.1 98 (s.1 95 12)) (s'.1 95 23) (0)) → (z = true → (s.1 95 8 < s'.1 95 8 ∧ (s'.1 95 9 = 0 ∨ s'.1 95 8 < s'.1 95 7))) → (z = false → pz_Y (s'.1 100) (s'.1 98) (s'.1 95 12) (s'.1 95 13) (s'.1 95 19) (s'.1 95 20) (s'.1 95 21) (s'.1 95 22) (s'.1 95 8) (s.1 98 (s.1 95 12)) (1) (0)) → (s'.1 95 12 = s.1 95 12) → (z = false → (s'.1 95 8 = s.1 95 8 ∧ s'.1 95 7 = s.1 95 7 ∧ s'.1 95 9 = s.1 95 9)) → Q z s') : fm_217 Q s := by
  unfold fm_217
  have b1 : 0 ≤ s.1 95 19 ∧ s.1 95 19 ≤ 160 := iv_r95_19 hI
  have b2 : 0 ≤ s.1 95 20 ∧ s.1 95 20 ≤ 8 := iv_r95_20 hI
  have b3 : 0 ≤ s.1 95 21 ∧ s.1 95 21 ≤ 8 := iv_r95_21 hI
  have b4 : 0 ≤ s.1 95 13 ∧ s.1 95 13 ≤ 304 := iv_r95_13 hI
  have b5 : 0 ≤ s.1 95 8 ∧ s.1 95 8 ≤ 300 := iv_r95_8 hI
  have b6 : 0 ≤ s.1 95 22 ∧ s.1 95 22 ≤ 80 := iv_r95_22 hI
  have b7 : 0 ≤ s.1 95 12 ∧ s.1 95 12 ≤ 2115 := iv_r95_12 hI
  have b8 : 0 ≤ (s.1 95 19) ∧ (s.1 95 19) ≤ 6 * (s.1 95 20) + 5 ∧ 0 ≤ (s.1 95 20) ∧ 0 ≤ (s.1 95 21) ∧ (s.1 95 21) ≤ (s.1 95 20) ∧ 0 ≤ (s.1 95 13) ∧ (s.1 95 13) + (s.1 95 19) ≤ (s.1 95 8) ∧ 4 * (s.1 95 22) + 3 * pz_4 ((s.1 100)) ((s.1 95 19)) ≤ (s.1 95 8) ∧ 0 ≤ pz_4 ((s.1 100)) ((s.1 95 19)) ∧ (s.1 98) ((s.1 95 12)) = (s.1 98) ((s.1 95 12)) ∧ 0 ≤ (s.1 98) ((s.1 95 12)) ∧ (s.1 98) ((s.1 95 12)) < 24 := pz_Yn2 kp0
  have b9 : (s.1 95 8) ≤ 300 := (iv_r95_8 hI).2
  have b10 : pz_op ((s.1 100)) ((s.1 95 19)) = -1 ∨ 0 < (s.1 95 19) := pz_opP
  have b11 : pz_op ((s.1 100)) ((s.1 95 19)) = -1 ∨ 40 ≤ pz_op ((s.1 100)) ((s.1 95 19)) := pz_opR
  refine sm_218 hI (fun r22 q12 => ?_)
  obtain ⟨q12, q12x⟩ := q12
  have b13 : (-2147483648) ≤ s.1 95 9 ∧ s.1 95 9 ≤ 2147483647 := iv_full hI
  replace q12x : r22 = -1 ∨ (s.1 95 9 ≠ 0 ∧ ((4 ≤ r22 ∧ r22 ≤ 7) ∨ (10 ≤ r22 ∧ r22 ≤ 15 ∧ pz_op (s.1 100) (s.1 95 19) = 41 ∧ pz_cm (s.1 100) (s.1 95 19) ≠ 1) ∨ ((r22 = 21 ∨ r22 = 22) ∧ pz_op (s.1 100) (s.1 95 19) = 41 ∧ pz_cm (s.1 100) (s.1 95 19) = 1))) := q12x
  refine ⟨(show lf_R r22 from lf_Rof (by omega)), ?_⟩
  refine ⟨fun c14 => ?_, fun c14 => ?_⟩
  · skip
    replace c14 : r22 < 0 := c14
    refine sm_219 hI (fun r25 q15 => ?_)
    obtain ⟨q15, q15x⟩ := q15
    replace q15x : r25 = pz_op (s.1 100) (s.1 95 19) := q15x
    refine sm_226 hI (show (-1 : Int) ≤ r25 ∧ r25 ≤ (45 : Int) from by omega) (fun r27 q16 => ?_)
    obtain ⟨q16, q16x⟩ := q16
    have b17 : (-2147483648) ≤ s.1 95 9 ∧ s.1 95 9 ≤ 2147483647 := iv_full hI
    replace q16x : r27 = -1 ∨ (s.1 95 9 ≠ 0 ∧ ((r25 = 40 ∧ r27 = 0) ∨ (r25 = 41 ∧ r27 = 42 ∧ pz_cm (s.1 100) (s.1 95 19) = 1) ∨ (r25 = 42 ∧ r27 = 43) ∨ (r25 = 44 ∧ r27 = 45) ∨ (r25 ≠ -1 ∧ r25 ≠ 40 ∧ r25 ≠ 41 ∧ r25 ≠ 42 ∧ r25 ≠ 44 ∧ r27 = 0))) := q16x
    refine ⟨(show lf_R r27 from lf_Rof (by omega)), ?_⟩
    refine ⟨fun c18 => ?_, fun c18 => ?_⟩
    · skip
      replace c18 : 0 ≤ r27 := c18
      obtain ⟨t1, t2, t3, t6⟩ := pz_k2 q16x c18 q15x b11 q15
      have t11 := kp1.resolve_left t1
      clear q16x q12x b10 b11 kp1
      have b19 : pz_W ((s.1 100)) ((s.1 98)) ((s.1 95 12)) ((s.1 95 13)) ((s.1 95 19)) ((s.1 95 20)) ((s.1 95 21)) ((s.1 95 22)) ((s.1 95 8)) ((s.1 98) ((s.1 95 12))) (1) := pz_Wi kp0 (Or.inr (Or.inr ⟨by decide, t2⟩))
      refine sm_224 hI (show (0 : Int) ≤ 1 ∧ 1 ≤ (7 : Int) from by omega) (show 1 ≤ 1 from by omega) (show pz_W ((s.1 100)) ((s.1 98)) ((s.1 95 12)) ((s.1 95 13)) ((s.1 95 19)) ((s.1 95 20)) ((s.1 95 21)) ((s.1 95 22)) ((s.1 95 8)) ((s.1 98) ((s.1 95 12))) (1) from by first | with_reducible assumption | assumption) (show (s.1 95 8) ≤ 300 from by omega) (fun s29 hI21 fr20 ps23 ps24 ps25 ps26 => ?_)
      replace ps23 : pz_R (s29.1 100) (s29.1 98) (s29.1 95 12) (s29.1 95 13) (s29.1 95 19) (s29.1 95 20) (s29.1 95 21) (s29.1 95 22) (s29.1 95 8) ((s.1 98) ((s.1 95 12))) (1) (pz_op ((s.1 100)) ((s.1 95 19))) := ps23
      replace ps24 : s29.1 95 13 + s29.1 95 19 = (s.1 95 13) + (s.1 95 19) ∧ s29.1 95 19 ≤ (s.1 95 19) ∧ s29.1 95 7 = (s.1 95 7) ∧ s29.1 95 8 = (s.1 95 8) ∧ s29.1 95 9 = (s.1 95 9) ∧ s29.1 95 12 = (s.1 95 12) ∧ s29.1 95 21 = (s.1 95 21) ∧ s29.1 95 22 = (s.1 95 22) ∧ s29.1 95 23 = (s.1 95 23) := ps24
      replace ps25 : pz_op (s29.1 100) (s29.1 95 19) = pz_op ((s.1 100)) ((s.1 95 19)) := ps25
      replace ps26 : s29.1 95 19 ≤ 0 ∨ pz_rk (s29.1 100 (s29.1 95 19 - 1)) < 1 := ps26
      have fr27 : lf_fq [95, 98, 100, 102, 103] 1000000 true s.1 s.2.2 s29.1 s29.2.2 := lf_fq_tr (lf_fq_rf) (lf_fq_wk fr20 rfl (by decide) (by decide))
      have b28 : 0 ≤ s29.1 95 12 ∧ s29.1 95 12 ≤ 2115 := iv_r95_12 hI21
      have b29 : (s29.1 98) ((s29.1 95 12)) = s.1 98 (s.1 95 12) := pz_Rt ps23
      have b30 : 0 ≤ s29.1 95 19 ∧ s29.1 95 19 ≤ 160 := iv_r95_19 hI21
      have b31 : pz_op ((s29.1 100)) ((s29.1 95 19)) = -1 ∨ 0 < (s29.1 95 19) := pz_opP
      have b32 : 0 < (s29.1 95 19) → (40 ≤ (s29.1 100) ((s29.1 95 19) - 1) → pz_op ((s29.1 100)) ((s29.1 95 19)) = (s29.1 100) ((s29.1 95 19) - 1)) ∧ ((s29.1 100) ((s29.1 95 19) - 1) < 40 → pz_op ((s29.1 100)) ((s29.1 95 19)) = pz_op ((s29.1 100)) ((s29.1 95 19) - 1)) := pz_opS
      have b33 : (40 ≤ (s29.1 100) ((s29.1 95 19) - 1) ∧ pz_rk ((s29.1 100) ((s29.1 95 19) - 1)) = 0) ∨ ((s29.1 100) ((s29.1 95 19) - 1) < 40 ∧ 1 ≤ pz_rk ((s29.1 100) ((s29.1 95 19) - 1))) := pz_rk1 _
      obtain ⟨t4, t5⟩ := pz_k3 b31 b32 b33 ps25 ps26 t6
      clear b31 b32 b33 ps26 t2
      have b34 : 0 ≤ s29.1 95 8 ∧ s29.1 95 8 ≤ 300 := iv_r95_8 hI21
      have b35 : (s29.1 95 8) ≤ 300 := (iv_r95_8 hI21).2
      refine ⟨fun c36 => ?_, fun c36 => ?_⟩
      · skip
        replace c36 : r27 ≤ 0 := c36
        have t7 := pz_k5 t3 c36
        clear t3
        have b37 : 0 ≤ s29.1 95 13 ∧ s29.1 95 13 ≤ 304 := iv_r95_13 hI21
        have b38 : 0 ≤ s29.1 95 20 ∧ s29.1 95 20 ≤ 8 := iv_r95_20 hI21
        have b39 : 0 ≤ s29.1 95 21 ∧ s29.1 95 21 ≤ 8 := iv_r95_21 hI21
        have b40 : 0 ≤ s29.1 95 22 ∧ s29.1 95 22 ≤ 80 := iv_r95_22 hI21
        have b41 : pz_Y ((s29.1 100)) ((s29.1 98)) ((s29.1 95 12)) ((s29.1 95 13)) ((s29.1 95 19)) ((s29.1 95 20)) ((s29.1 95 21)) ((s29.1 95 22)) ((s29.1 95 8)) ((s29.1 98) ((s29.1 95 12))) (1) (0) := pz_Yk (pz_R1 ps23 (pz_k6 t7)) b29
        refine sm_228 hI21 (show (-1 : Int) ≤ r25 ∧ r25 ≤ (45 : Int) from by omega) (show pz_Y ((s29.1 100)) ((s29.1 98)) ((s29.1 95 12)) ((s29.1 95 13)) ((s29.1 95 19)) ((s29.1 95 20)) ((s29.1 95 21)) ((s29.1 95 22)) ((s29.1 95 8)) ((s29.1 98) ((s29.1 95 12))) (1) (0) from by first | with_reducible assumption | assumption) (show 0 < (s29.1 95 19) ∧ (s29.1 100) ((s29.1 95 19) - 1) = r25 from ⟨t4, t5.trans q15x.symm⟩) (show r25 = 40 ∨ r25 = 43 ∨ r25 = 45 from by rw [q15x]; exact t7) (fun s30 hI43 fr42 ps45 ps46 => ?_)
        clear t7
        replace ps45 : pz_Y (s30.1 100) (s30.1 98) (s30.1 95 12) (s30.1 95 13) (s30.1 95 19) (s30.1 95 20) (s30.1 95 21) (s30.1 95 22) (s30.1 95 8) ((s29.1 98) ((s29.1 95 12))) (1) (0) := ps45
        replace ps46 : s30.1 95 7 = (s29.1 95 7) ∧ s30.1 95 8 = (s29.1 95 8) ∧ s30.1 95 9 = (s29.1 95 9) ∧ s30.1 95 12 = (s29.1 95 12) ∧ s30.1 95 22 = (s29.1 95 22) ∧ s30.1 95 23 = (s29.1 95 23) := ps46
        have fr47 : lf_fq [95, 98, 100, 102, 103] 1000000 true s.1 s.2.2 s30.1 s30.2.2 := lf_fq_tr fr27 (lf_fq_wk fr42 rfl (by decide) (by decide))
        have b48 : 0 ≤ s30.1 95 12 ∧ s30.1 95 12 ≤ 2115 := iv_r95_12 hI43
        have b49 : 0 ≤ s30.1 95 13 ∧ s30.1 95 13 ≤ 304 := iv_r95_13 hI43
        have b50 : 0 ≤ s30.1 95 19 ∧ s30.1 95 19 ≤ 160 := iv_r95_19 hI43
        have b51 : 0 ≤ s30.1 95 20 ∧ s30.1 95 20 ≤ 8 := iv_r95_20 hI43
        have b52 : 0 ≤ s30.1 95 21 ∧ s30.1 95 21 ≤ 8 := iv_r95_21 hI43
        have b53 : 0 ≤ s30.1 95 22 ∧ s30.1 95 22 ≤ 80 := iv_r95_22 hI43
        have b54 : 0 ≤ s30.1 95 8 ∧ s30.1 95 8 ≤ 300 := iv_r95_8 hI43
        have b55 : pz_Y ((s30.1 100)) ((s30.1 98)) ((s30.1 95 12)) ((s30.1 95 13)) ((s30.1 95 19)) ((s30.1 95 20)) ((s30.1 95 21)) ((s30.1 95 22)) ((s30.1 95 8)) (s.1 98 (s.1 95 12)) (1) (0) := pz_Yk ps45 (by omega)
        refine sm_197 hI43 (fun s31 hI57 fr56 ps59 ps60 => ?_)
        replace ps59 : (s30.1 95 7) ≤ s31.1 95 8 ∧ (s31.1 95 9 = 0 ∨ s31.1 95 8 < s31.1 95 7) := ps59
        replace ps60 : s31.1 95 12 = (s30.1 95 12) ∧ s31.1 95 13 = (s30.1 95 13) ∧ s31.1 95 19 = (s30.1 95 19) ∧ s31.1 95 20 = (s30.1 95 20) ∧ s31.1 95 21 = (s30.1 95 21) ∧ s31.1 95 22 = (s30.1 95 22) ∧ s31.1 95 23 = (s30.1 95 23) := ps60
        have fr61 : lf_fq [95, 98, 100, 102, 103] 1000000 true s.1 s.2.2 s31.1 s31.2.2 := lf_fq_tr fr47 (lf_fq_wk fr56 rfl (by decide) (by decide))
        have b62 : 0 ≤ s31.1 95 12 ∧ s31.1 95 12 ≤ 2115 := iv_r95_12 hI57
        have b63 : 0 ≤ s31.1 95 13 ∧ s31.1 95 13 ≤ 304 := iv_r95_13 hI57
        have b64 : 0 ≤ s31.1 95 19 ∧ s31.1 95 19 ≤ 160 := iv_r95_19 hI57
        have b65 : 0 ≤ s31.1 95 20 ∧ s31.1 95 20 ≤ 8 := iv_r95_20 hI57
        have b66 : 0 ≤ s31.1 95 21 ∧ s31.1 95 21 ≤ 8 := iv_r95_21 hI57
        have b67 : 0 ≤ s31.1 95 22 ∧ s31.1 95 22 ≤ 80 := iv_r95_22 hI57
        have b68 : 0 ≤ s31.1 95 8 ∧ s31.1 95 8 ≤ 300 := iv_r95_8 hI57
        have b69 : pz_Y ((s31.1 100)) ((s31.1 98)) ((s31.1 95 12)) ((s31.1 95 13)) ((s31.1 95 19)) ((s31.1 95 20)) ((s31.1 95 21)) ((s31.1 95 22)) ((s31.1 95 8)) (s.1 98 (s.1 95 12)) (1) (0) := pz_cg (fr56.1 100 rfl) (fr56.1 98 rfl) (by first | with_reducible assumption | assumption) (by omega) (by omega) (by omega) (by omega) (by omega) (by omega) (by omega) (by omega) rfl rfl
        have b70 : (s31.1 98) ((s31.1 95 12)) = s.1 98 (s.1 95 12) := (show pz_Y ((s31.1 100)) ((s31.1 98)) ((s31.1 95 12)) ((s31.1 95 13)) ((s31.1 95 19)) ((s31.1 95 20)) ((s31.1 95 21)) ((s31.1 95 22)) ((s31.1 95 8)) (s.1 98 (s.1 95 12)) (1) (0) from by first | with_reducible assumption | assumption).2.2.2
        have b71 : pz_W ((s31.1 100)) ((s31.1 98)) ((s31.1 95 12)) ((s31.1 95 13)) ((s31.1 95 19)) ((s31.1 95 20)) ((s31.1 95 21)) ((s31.1 95 22)) ((s31.1 95 8)) ((s31.1 98) ((s31.1 95 12))) (7) := pz_Wi (pz_Ym (show pz_Y ((s31.1 100)) ((s31.1 98)) ((s31.1 95 12)) ((s31.1 95 13)) ((s31.1 95 19)) ((s31.1 95 20)) ((s31.1 95 21)) ((s31.1 95 22)) ((s31.1 95 8)) (s.1 98 (s.1 95 12)) (1) (0) from by first | with_reducible assumption | assumption)) (by omega)
        have b72 : (s31.1 95 8) ≤ 300 := (iv_r95_8 hI57).2
        refine sm_224 hI57 (show (0 : Int) ≤ 7 ∧ 7 ≤ (7 : Int) from by omega) (show 1 ≤ 7 from by omega) (show pz_W ((s31.1 100)) ((s31.1 98)) ((s31.1 95 12)) ((s31.1 95 13)) ((s31.1 95 19)) ((s31.1 95 20)) ((s31.1 95 21)) ((s31.1 95 22)) ((s31.1 95 8)) ((s31.1 98) ((s31.1 95 12))) (7) from by first | with_reducible assumption | assumption) (show (s31.1 95 8) ≤ 300 from by omega) (fun s32 hI74 fr73 ps76 ps77 ps78 ps79 => ?_)
        replace ps76 : pz_R (s32.1 100) (s32.1 98) (s32.1 95 12) (s32.1 95 13) (s32.1 95 19) (s32.1 95 20) (s32.1 95 21) (s32.1 95 22) (s32.1 95 8) ((s31.1 98) ((s31.1 95 12))) (7) (pz_op ((s31.1 100)) ((s31.1 95 19))) := ps76
        replace ps77 : s32.1 95 13 + s32.1 95 19 = (s31.1 95 13) + (s31.1 95 19) ∧ s32.1 95 19 ≤ (s31.1 95 19) ∧ s32.1 95 7 = (s31.1 95 7) ∧ s32.1 95 8 = (s31.1 95 8) ∧ s32.1 95 9 = (s31.1 95 9) ∧ s32.1 95 12 = (s31.1 95 12) ∧ s32.1 95 21 = (s31.1 95 21) ∧ s32.1 95 22 = (s31.1 95 22) ∧ s32.1 95 23 = (s31.1 95 23) := ps77
        replace ps78 : pz_op (s32.1 100) (s32.1 95 19) = pz_op ((s31.1 100)) ((s31.1 95 19)) := ps78
        replace ps79 : s32.1 95 19 ≤ 0 ∨ pz_rk (s32.1 100 (s32.1 95 19 - 1)) < 7 := ps79
        clear ps79
        have fr80 : lf_fq [95, 98, 100, 102, 103] 1000000 true s.1 s.2.2 s32.1 s32.2.2 := lf_fq_tr fr61 (lf_fq_wk fr73 rfl (by decide) (by decide))
        have b81 : 0 ≤ s32.1 95 12 ∧ s32.1 95 12 ≤ 2115 := iv_r95_12 hI74
        have b82 : 0 ≤ s32.1 95 13 ∧ s32.1 95 13 ≤ 304 := iv_r95_13 hI74
        have b83 : 0 ≤ s32.1 95 19 ∧ s32.1 95 19 ≤ 160 := iv_r95_19 hI74
        have b84 : 0 ≤ s32.1 95 20 ∧ s32.1 95 20 ≤ 8 := iv_r95_20 hI74
        have b85 : 0 ≤ s32.1 95 21 ∧ s32.1 95 21 ≤ 8 := iv_r95_21 hI74
        have b86 : 0 ≤ s32.1 95 22 ∧ s32.1 95 22 ≤ 80 := iv_r95_22 hI74
        have b87 : 0 ≤ s32.1 95 8 ∧ s32.1 95 8 ≤ 300 := iv_r95_8 hI74
        have b88 : 0 ≤ s32.1 95 23 ∧ s32.1 95 23 ≤ 1 := iv_r95_23 hI74
        have b89 : pz_Y ((s32.1 100)) ((s32.1 98)) ((s32.1 95 12)) ((s32.1 95 13)) ((s32.1 95 19)) ((s32.1 95 20)) ((s32.1 95 21)) ((s32.1 95 22)) ((s32.1 95 8)) (s.1 98 (s.1 95 12)) ((s32.1 95 23)) (0) := by first | with_reducible assumption | exact pz_cg rfl rfl (pz_R1 ps76 (fun h9 => absurd h9.1 (by decide))) rfl rfl rfl rfl rfl rfl (Int.le_refl _) (by omega) (by omega) rfl
        exact hQ true s32 hI74 fr80 (show true = true → pz_Y ((s32.1 100)) ((s32.1 98)) ((s32.1 95 12)) ((s32.1 95 13)) ((s32.1 95 19)) ((s32.1 95 20)) ((s32.1 95 21)) ((s32.1 95 22)) ((s32.1 95 8)) (s.1 98 (s.1 95 12)) ((s32.1 95 23)) (0) from fun _ => by first | with_reducible assumption | assumption) (show true = true → (s.1 95 8 < (s32.1 95 8) ∧ ((s32.1 95 9) = 0 ∨ (s32.1 95 8) < (s32.1 95 7))) from fun _ => by omega) (show true = false → pz_Y ((s32.1 100)) ((s32.1 98)) ((s32.1 95 12)) ((s32.1 95 13)) ((s32.1 95 19)) ((s32.1 95 20)) ((s32.1 95 21)) ((s32.1 95 22)) ((s32.1 95 8)) (s.1 98 (s.1 95 12)) (1) (0) from fun h => by cases h) (show (s32.1 95 12) = s.1 95 12 from by omega) (show true = false → ((s32.1 95 8) = s.1 95 8 ∧ (s32.1 95 7) = s.1 95 7 ∧ (s32.1 95 9) = s.1 95 9) from fun h => by cases h)
      · skip
        replace c36 : ¬ (r27 ≤ 0) := c36
        have t8 := pz_k7 t3 c36
        clear t3
        refine sm_220 hI21 (fun r34 ps91 q90 => ?_)
        replace ps91 : ((r34 < 0 ∧ pz_op ((s29.1 100)) ((s29.1 95 19)) = -1) ∨ (0 ≤ r34 ∧ r34 < (s29.1 95 19) ∧ pz_op ((s29.1 100)) ((s29.1 95 19)) = (s29.1 100) (r34) ∧ 40 ≤ (s29.1 100) (r34))) ∧ ((s29.1 95 19) ≤ 0 ∨ (s29.1 100) ((s29.1 95 19) - 1) < 40 ∨ r34 = (s29.1 95 19) - 1) := ps91
        obtain ⟨t9, t10⟩ := pz_k4 ps91 t4 t5 t8
        clear ps91
        refine ⟨(show (0 : Int) ≤ r34 ∧ r34 < (160 : Int) from by omega), ?_⟩
        have hI92 : iv_A (lf_up s29.1 100 r34 r27) s29.2.2 := iv_w100 hI21 (by omega)
        have fr93 : lf_fq [95, 98, 100, 102, 103] 1000000 true s.1 s.2.2 (lf_up s29.1 100 r34 r27) s29.2.2 := lf_fq_up fr27 rfl (fun h => absurd h (by decide))
        have b94 : 0 ≤ s29.1 95 13 ∧ s29.1 95 13 ≤ 304 := (show 0 ≤ (lf_up s29.1 100 r34 r27) 95 13 ∧ (lf_up s29.1 100 r34 r27) 95 13 ≤ 304 from iv_r95_13 hI92)
        have b95 : 0 ≤ s29.1 95 20 ∧ s29.1 95 20 ≤ 8 := (show 0 ≤ (lf_up s29.1 100 r34 r27) 95 20 ∧ (lf_up s29.1 100 r34 r27) 95 20 ≤ 8 from iv_r95_20 hI92)
        have b96 : 0 ≤ s29.1 95 21 ∧ s29.1 95 21 ≤ 8 := (show 0 ≤ (lf_up s29.1 100 r34 r27) 95 21 ∧ (lf_up s29.1 100 r34 r27) 95 21 ≤ 8 from iv_r95_21 hI92)
        have b97 : 0 ≤ s29.1 95 22 ∧ s29.1 95 22 ≤ 80 := (show 0 ≤ (lf_up s29.1 100 r34 r27) 95 22 ∧ (lf_up s29.1 100 r34 r27) 95 22 ≤ 80 from iv_r95_22 hI92)
        have b98 : r27 ≠ 45 → pz_Y (((lf_up s29.1 100 r34 r27) 100)) ((s29.1 98)) ((s29.1 95 12)) ((s29.1 95 13)) ((s29.1 95 19)) ((s29.1 95 20)) ((s29.1 95 21)) ((s29.1 95 22)) ((s29.1 95 8)) (s.1 98 (s.1 95 12)) (0) (0) := fun h9 => pz_Yq (p' := (((lf_up s29.1 100 r34 r27) 100))) ps23 t9 lf_up_s (fun j hj => lf_up_i hj) ⟨t4, rfl, t5⟩ (pz_k8 t8 h9)
        have b99 : r27 = 45 → pz_B (((lf_up s29.1 100 r34 r27) 100)) ((s29.1 98)) ((s29.1 95 12)) ((s29.1 95 13)) ((s29.1 95 19)) ((s29.1 95 20)) ((s29.1 95 21)) ((s29.1 95 22)) ((s29.1 95 8)) ((s29.1 98) ((s29.1 95 12))) := fun h9 => pz_cB rfl rfl (pz_Bi (p' := (((lf_up s29.1 100 r34 r27) 100))) (pz_R1 ps23 (pz_k9 t8 h9)) t4 t9 lf_up_s (fun j hj => lf_up_i hj) (t5.trans (pz_k10 t8 h9)) h9) rfl rfl rfl rfl rfl rfl rfl b29
        clear t8
        have hI100 : iv_A (lf_up (lf_up s29.1 100 r34 r27) 95 23 0) s29.2.2 := iv_w95_23 hI92 (by omega)
        have fr101 : lf_fq [95, 98, 100, 102, 103] 1000000 true s.1 s.2.2 (lf_up (lf_up s29.1 100 r34 r27) 95 23 0) s29.2.2 := lf_fq_up fr93 rfl (fun h => absurd h (by decide))
        refine ⟨fun c102 => ?_, fun c102 => ?_⟩
        · skip
          replace c102 : r27 ≠ 45 := c102
          have b103 : (lf_up (lf_up s29.1 100 r34 r27) 95 23 0) 95 12 = (lf_up s29.1 100 r34 r27) 95 12 := lf_up_i (by omega)
          have b104 : (lf_up (lf_up s29.1 100 r34 r27) 95 23 0) 95 13 = (lf_up s29.1 100 r34 r27) 95 13 := lf_up_i (by omega)
          have b105 : (lf_up (lf_up s29.1 100 r34 r27) 95 23 0) 95 19 = (lf_up s29.1 100 r34 r27) 95 19 := lf_up_i (by omega)
          have b106 : (lf_up (lf_up s29.1 100 r34 r27) 95 23 0) 95 20 = (lf_up s29.1 100 r34 r27) 95 20 := lf_up_i (by omega)
          have b107 : (lf_up (lf_up s29.1 100 r34 r27) 95 23 0) 95 21 = (lf_up s29.1 100 r34 r27) 95 21 := lf_up_i (by omega)
          have b108 : (lf_up (lf_up s29.1 100 r34 r27) 95 23 0) 95 22 = (lf_up s29.1 100 r34 r27) 95 22 := lf_up_i (by omega)
          have b109 : (lf_up (lf_up s29.1 100 r34 r27) 95 23 0) 95 8 = (lf_up s29.1 100 r34 r27) 95 8 := lf_up_i (by omega)
          have b110 : (-2147483648) ≤ s29.1 95 9 ∧ s29.1 95 9 ≤ 2147483647 := (show (-2147483648) ≤ (lf_up (lf_up s29.1 100 r34 r27) 95 23 0) 95 9 ∧ (lf_up (lf_up s29.1 100 r34 r27) 95 23 0) 95 9 ≤ 2147483647 from iv_full hI100)
          have b111 : (lf_up (lf_up s29.1 100 r34 r27) 95 23 0) 95 9 = (lf_up s29.1 100 r34 r27) 95 9 := lf_up_i (by omega)
          have b112 : 0 ≤ s29.1 95 7 ∧ s29.1 95 7 ≤ 300 := (show 0 ≤ (lf_up (lf_up s29.1 100 r34 r27) 95 23 0) 95 7 ∧ (lf_up (lf_up s29.1 100 r34 r27) 95 23 0) 95 7 ≤ 300 from iv_r95_7 hI100)
          have b113 : (lf_up (lf_up s29.1 100 r34 r27) 95 23 0) 95 7 = (lf_up s29.1 100 r34 r27) 95 7 := lf_up_i (by omega)
          have b114 : pz_Y (((lf_up s29.1 100 r34 r27) 100)) ((s29.1 98)) ((s29.1 95 12)) ((s29.1 95 13)) ((s29.1 95 19)) ((s29.1 95 20)) ((s29.1 95 21)) ((s29.1 95 22)) ((s29.1 95 8) + 1) (s.1 98 (s.1 95 12)) (0) (0) := by first | exact pz_cg rfl rfl ps91 rfl rfl rfl rfl rfl rfl (by omega) (by omega) rfl rfl | exact pz_cg rfl rfl ((show r27 ≠ 45 → pz_Y (((lf_up s29.1 100 r34 r27) 100)) ((s29.1 98)) ((s29.1 95 12)) ((s29.1 95 13)) ((s29.1 95 19)) ((s29.1 95 20)) ((s29.1 95 21)) ((s29.1 95 22)) ((s29.1 95 8)) (s.1 98 (s.1 95 12)) (0) (0) from by first | with_reducible assumption | assumption) (by omega)) rfl rfl rfl rfl rfl rfl (by omega) rfl rfl rfl
          exact sm_217_p99 (s0 := s) (fun r9 t9 i9 f9 => hQ r9 t9 i9 (lf_fq_tr fr101 f9)) hI100 (show pz_Y (((lf_up s29.1 100 r34 r27) 100)) ((s29.1 98)) ((s29.1 95 12)) ((s29.1 95 13)) ((s29.1 95 19)) ((s29.1 95 20)) ((s29.1 95 21)) ((s29.1 95 22)) ((s29.1 95 8) + 1) (s.1 98 (s.1 95 12)) (0) (0) from by first | with_reducible assumption | assumption) (show (s29.1 95 9) ≠ 0 ∧ (s29.1 95 8) < (s29.1 95 7) from by omega) (show 0 = 0 from by omega) (show (s29.1 95 8) = s.1 95 8 ∧ (s29.1 95 12) = s.1 95 12 from by omega)
        · skip
          replace c102 : ¬ (r27 ≠ 45) := c102
          have b130 : (lf_up (lf_up s29.1 100 r34 r27) 95 23 0) 95 12 = (lf_up s29.1 100 r34 r27) 95 12 := lf_up_i (by omega)
          have b131 : (lf_up (lf_up s29.1 100 r34 r27) 95 23 0) 95 13 = (lf_up s29.1 100 r34 r27) 95 13 := lf_up_i (by omega)
          have b132 : (lf_up (lf_up s29.1 100 r34 r27) 95 23 0) 95 19 = (lf_up s29.1 100 r34 r27) 95 19 := lf_up_i (by omega)
          have b133 : (lf_up (lf_up s29.1 100 r34 r27) 95 23 0) 95 20 = (lf_up s29.1 100 r34 r27) 95 20 := lf_up_i (by omega)
          have b134 : (lf_up (lf_up s29.1 100 r34 r27) 95 23 0) 95 21 = (lf_up s29.1 100 r34 r27) 95 21 := lf_up_i (by omega)
          have b135 : (lf_up (lf_up s29.1 100 r34 r27) 95 23 0) 95 22 = (lf_up s29.1 100 r34 r27) 95 22 := lf_up_i (by omega)
          have b136 : (lf_up (lf_up s29.1 100 r34 r27) 95 23 0) 95 8 = (lf_up s29.1 100 r34 r27) 95 8 := lf_up_i (by omega)
          have b137 : pz_B (((lf_up s29.1 100 r34 r27) 100)) ((s29.1 98)) ((s29.1 95 12)) ((s29.1 95 13)) ((s29.1 95 19)) ((s29.1 95 20)) ((s29.1 95 21)) ((s29.1 95 22)) ((s29.1 95 8)) ((s29.1 98) ((s29.1 95 12))) := (show r27 = 45 → pz_B (((lf_up s29.1 100 r34 r27) 100)) ((s29.1 98)) ((s29.1 95 12)) ((s29.1 95 13)) ((s29.1 95 19)) ((s29.1 95 20)) ((s29.1 95 21)) ((s29.1 95 22)) ((s29.1 95 8)) ((s29.1 98) ((s29.1 95 12))) from by first | with_reducible assumption | assumption) (by omega)
          refine sm_227 hI100 (show pz_B (((lf_up s29.1 100 r34 r27) 100)) ((s29.1 98)) ((s29.1 95 12)) ((s29.1 95 13)) ((s29.1 95 19)) ((s29.1 95 20)) ((s29.1 95 21)) ((s29.1 95 22)) ((s29.1 95 8)) ((s29.1 98) ((s29.1 95 12))) from by first | with_reducible assumption | assumption) (fun s37 hI139 fr138 ps141 ps142 => ?_)
          replace ps141 : pz_Y (s37.1 100) (s37.1 98) (s37.1 95 12) (s37.1 95 13) (s37.1 95 19) (s37.1 95 20) (s37.1 95 21) (s37.1 95 22) ((s29.1 95 8) + 1) ((s29.1 98) ((s29.1 95 12))) (0) (0) := ps141
          replace ps142 : s37.1 95 7 = (s29.1 95 7) ∧ s37.1 95 8 = (s29.1 95 8) ∧ s37.1 95 9 = (s29.1 95 9) ∧ s37.1 95 12 = (s29.1 95 12) ∧ s37.1 95 19 = (s29.1 95 19) ∧ s37.1 95 20 = (s29.1 95 20) ∧ s37.1 95 21 = (s29.1 95 21) ∧ s37.1 95 23 = 0 := ps142
          have fr143 : lf_fq [95, 98, 100, 102, 103] 1000000 true s.1 s.2.2 s37.1 s37.2.2 := lf_fq_tr fr101 (lf_fq_wk fr138 rfl (by decide) (by decide))
          have b144 : 0 ≤ s37.1 95 12 ∧ s37.1 95 12 ≤ 2115 := iv_r95_12 hI139
          have b145 : 0 ≤ s37.1 95 13 ∧ s37.1 95 13 ≤ 304 := iv_r95_13 hI139
          have b146 : 0 ≤ s37.1 95 19 ∧ s37.1 95 19 ≤ 160 := iv_r95_19 hI139
          have b147 : 0 ≤ s37.1 95 20 ∧ s37.1 95 20 ≤ 8 := iv_r95_20 hI139
          have b148 : 0 ≤ s37.1 95 21 ∧ s37.1 95 21 ≤ 8 := iv_r95_21 hI139
          have b149 : 0 ≤ s37.1 95 22 ∧ s37.1 95 22 ≤ 80 := iv_r95_22 hI139
          have b150 : 0 ≤ s37.1 95 8 ∧ s37.1 95 8 ≤ 300 := iv_r95_8 hI139
          have b151 : (-2147483648) ≤ s37.1 95 9 ∧ s37.1 95 9 ≤ 2147483647 := iv_full hI139
          have b152 : 0 ≤ s37.1 95 7 ∧ s37.1 95 7 ≤ 300 := iv_r95_7 hI139
          have b153 : 0 ≤ s37.1 95 23 ∧ s37.1 95 23 ≤ 1 := iv_r95_23 hI139
          have b154 : pz_Y ((s37.1 100)) ((s37.1 98)) ((s37.1 95 12)) ((s37.1 95 13)) ((s37.1 95 19)) ((s37.1 95 20)) ((s37.1 95 21)) ((s37.1 95 22)) ((s37.1 95 8) + 1) (s.1 98 (s.1 95 12)) (0) (0) := by first | exact pz_cg rfl rfl ps141 rfl rfl rfl rfl rfl rfl (by omega) (by omega) rfl rfl | exact pz_cg rfl rfl ((show r27 ≠ 45 → pz_Y ((s37.1 100)) ((s37.1 98)) ((s37.1 95 12)) ((s37.1 95 13)) ((s37.1 95 19)) ((s37.1 95 20)) ((s37.1 95 21)) ((s37.1 95 22)) ((s37.1 95 8)) (s.1 98 (s.1 95 12)) (0) (0) from by first | with_reducible assumption | assumption) (by omega)) rfl rfl rfl rfl rfl rfl (by omega) rfl rfl rfl
          exact sm_217_p99 (s0 := s) (fun r9 t9 i9 f9 => hQ r9 t9 i9 (lf_fq_tr fr143 f9)) hI139 (show pz_Y ((s37.1 100)) ((s37.1 98)) ((s37.1 95 12)) ((s37.1 95 13)) ((s37.1 95 19)) ((s37.1 95 20)) ((s37.1 95 21)) ((s37.1 95 22)) ((s37.1 95 8) + 1) (s.1 98 (s.1 95 12)) (0) (0) from by first | with_reducible assumption | assumption) (show (s37.1 95 9) ≠ 0 ∧ (s37.1 95 8) < (s37.1 95 7) from by omega) (show (s37.1 95 23) = 0 from by omega) (show (s37.1 95 8) = s.1 95 8 ∧ (s37.1 95 12) = s.1 95 12 from by omega)
    · skip
      replace c18 : ¬ (0 ≤ r27) := c18
      exact hQ false s hI (lf_fq_rf) (show false = true → pz_Y ((s.1 100)) ((s.1 98)) ((s.1 95 12)) ((s.1 95 13)) ((s.1 95 19)) ((s.1 95 20)) ((s.1 95 21)) ((s.1 95 22)) ((s.1 95 8)) (s.1 98 (s.1 95 12)) ((s.1 95 23)) (0) from fun h => by cases h) (show false = true → (s.1 95 8 < (s.1 95 8) ∧ ((s.1 95 9) = 0 ∨ (s.1 95 8) < (s.1 95 7))) from fun h => by cases h) (show false = false → pz_Y ((s.1 100)) ((s.1 98)) ((s.1 95 12)) ((s.1 95 13)) ((s.1 95 19)) ((s.1 95 20)) ((s.1 95 21)) ((s.1 95 22)) ((s.1 95 8)) (s.1 98 (s.1 95 12)) (1) (0) from fun _ => by first | with_reducible assumption | assumption) (show (s.1 95 12) = s.1 95 12 from by omega) (show false = false → ((s.1 95 8) = s.1 95 8 ∧ (s.1 95 7) = s.1 95 7 ∧ (s.1 95 9) = s.1 95 9) from fun _ => by omega)
  · skip
    replace c14 : ¬ (r22 < 0) := c14
    refine sm_222 hI (show (0 : Int) ≤ r22 ∧ r22 ≤ (45 : Int) from by omega) (fun r39 q155 => ?_)
    obtain ⟨q155, q155x⟩ := q155
    replace q155x : r39 = pz_rk r22 ∧ ((40 ≤ r22 ∧ r39 = 0) ∨ (r22 = 22 ∧ r39 = 1) ∨ (r22 = 21 ∧ r39 = 2) ∨ (r22 = 20 ∧ r39 = 3) ∨ (10 ≤ r22 ∧ r22 < 40 ∧ r22 ≠ 20 ∧ r22 ≠ 21 ∧ r22 ≠ 22 ∧ r39 = 4) ∨ (r22 = 3 ∧ r39 = 7) ∨ (6 ≤ r22 ∧ r22 < 10 ∧ r39 = 6) ∨ (r22 < 6 ∧ r22 ≠ 3 ∧ r39 = 5)) := q155x
    obtain ⟨t1, t2, t3, t4⟩ := pz_k1 q12x c14 q155x
    have t11 := kp1.resolve_left t1
    clear q12x q155x b10 b11 kp1
    have b156 : pz_W ((s.1 100)) ((s.1 98)) ((s.1 95 12)) ((s.1 95 13)) ((s.1 95 19)) ((s.1 95 20)) ((s.1 95 21)) ((s.1 95 22)) ((s.1 95 8)) ((s.1 98) ((s.1 95 12))) (r39) := pz_Wi kp0 t3
    clear t3
    refine sm_224 hI (show (0 : Int) ≤ r39 ∧ r39 ≤ (7 : Int) from by omega) (show 1 ≤ r39 from t2) (show pz_W ((s.1 100)) ((s.1 98)) ((s.1 95 12)) ((s.1 95 13)) ((s.1 95 19)) ((s.1 95 20)) ((s.1 95 21)) ((s.1 95 22)) ((s.1 95 8)) ((s.1 98) ((s.1 95 12))) (r39) from by first | with_reducible assumption | assumption) (show (s.1 95 8) ≤ 300 from by omega) (fun s40 hI158 fr157 ps160 ps161 ps162 ps163 => ?_)
    replace ps160 : pz_R (s40.1 100) (s40.1 98) (s40.1 95 12) (s40.1 95 13) (s40.1 95 19) (s40.1 95 20) (s40.1 95 21) (s40.1 95 22) (s40.1 95 8) ((s.1 98) ((s.1 95 12))) (r39) (pz_op ((s.1 100)) ((s.1 95 19))) := ps160
    replace ps161 : s40.1 95 13 + s40.1 95 19 = (s.1 95 13) + (s.1 95 19) ∧ s40.1 95 19 ≤ (s.1 95 19) ∧ s40.1 95 7 = (s.1 95 7) ∧ s40.1 95 8 = (s.1 95 8) ∧ s40.1 95 9 = (s.1 95 9) ∧ s40.1 95 12 = (s.1 95 12) ∧ s40.1 95 21 = (s.1 95 21) ∧ s40.1 95 22 = (s.1 95 22) ∧ s40.1 95 23 = (s.1 95 23) := ps161
    replace ps162 : pz_op (s40.1 100) (s40.1 95 19) = pz_op ((s.1 100)) ((s.1 95 19)) := ps162
    replace ps163 : s40.1 95 19 ≤ 0 ∨ pz_rk (s40.1 100 (s40.1 95 19 - 1)) < r39 := ps163
    have fr164 : lf_fq [95, 98, 100, 102, 103] 1000000 true s.1 s.2.2 s40.1 s40.2.2 := lf_fq_tr (lf_fq_rf) (lf_fq_wk fr157 rfl (by decide) (by decide))
    have b165 : 0 ≤ s40.1 95 19 ∧ s40.1 95 19 ≤ 160 := iv_r95_19 hI158
    refine ⟨(show (0 : Int) ≤ s40.1 95 19 ∧ s40.1 95 19 < (160 : Int) from by omega), ?_⟩
    have hI166 : iv_A (lf_up s40.1 100 (s40.1 95 19) r22) s40.2.2 := iv_w100 hI158 (by omega)
    have fr167 : lf_fq [95, 98, 100, 102, 103] 1000000 true s.1 s.2.2 (lf_up s40.1 100 (s40.1 95 19) r22) s40.2.2 := lf_fq_up fr164 rfl (fun h => absurd h (by decide))
    have hI168 : iv_A (lf_up (lf_up s40.1 100 (s40.1 95 19) r22) 95 19 ((s40.1 95 19) + 1)) s40.2.2 := iv_w95_19 hI166 (by omega)
    have fr169 : lf_fq [95, 98, 100, 102, 103] 1000000 true s.1 s.2.2 (lf_up (lf_up s40.1 100 (s40.1 95 19) r22) 95 19 ((s40.1 95 19) + 1)) s40.2.2 := lf_fq_up fr167 rfl (fun h => absurd h (by decide))
    have hI170 : iv_A (lf_up (lf_up (lf_up s40.1 100 (s40.1 95 19) r22) 95 19 ((s40.1 95 19) + 1)) 95 23 0) s40.2.2 := iv_w95_23 hI168 (by omega)
    have fr171 : lf_fq [95, 98, 100, 102, 103] 1000000 true s.1 s.2.2 (lf_up (lf_up (lf_up s40.1 100 (s40.1 95 19) r22) 95 19 ((s40.1 95 19) + 1)) 95 23 0) s40.2.2 := lf_fq_up fr169 rfl (fun h => absurd h (by decide))
    have b172 : 0 ≤ s40.1 95 12 ∧ s40.1 95 12 ≤ 2115 := (show 0 ≤ (lf_up (lf_up (lf_up s40.1 100 (s40.1 95 19) r22) 95 19 ((s40.1 95 19) + 1)) 95 23 0) 95 12 ∧ (lf_up (lf_up (lf_up s40.1 100 (s40.1 95 19) r22) 95 19 ((s40.1 95 19) + 1)) 95 23 0) 95 12 ≤ 2115 from iv_r95_12 hI170)
    have b173 : (lf_up (lf_up (lf_up s40.1 100 (s40.1 95 19) r22) 95 19 ((s40.1 95 19) + 1)) 95 23 0) 95 12 = (lf_up (lf_up s40.1 100 (s40.1 95 19) r22) 95 19 ((s40.1 95 19) + 1)) 95 12 := lf_up_i (by omega)
    have b174 : (lf_up (lf_up s40.1 100 (s40.1 95 19) r22) 95 19 ((s40.1 95 19) + 1)) 95 12 = (lf_up s40.1 100 (s40.1 95 19) r22) 95 12 := lf_up_i (by omega)
    have b175 : 0 ≤ s40.1 95 13 ∧ s40.1 95 13 ≤ 304 := (show 0 ≤ (lf_up (lf_up (lf_up s40.1 100 (s40.1 95 19) r22) 95 19 ((s40.1 95 19) + 1)) 95 23 0) 95 13 ∧ (lf_up (lf_up (lf_up s40.1 100 (s40.1 95 19) r22) 95 19 ((s40.1 95 19) + 1)) 95 23 0) 95 13 ≤ 304 from iv_r95_13 hI170)
    have b176 : (lf_up (lf_up (lf_up s40.1 100 (s40.1 95 19) r22) 95 19 ((s40.1 95 19) + 1)) 95 23 0) 95 13 = (lf_up (lf_up s40.1 100 (s40.1 95 19) r22) 95 19 ((s40.1 95 19) + 1)) 95 13 := lf_up_i (by omega)
    have b177 : (lf_up (lf_up s40.1 100 (s40.1 95 19) r22) 95 19 ((s40.1 95 19) + 1)) 95 13 = (lf_up s40.1 100 (s40.1 95 19) r22) 95 13 := lf_up_i (by omega)
    have b178 : 0 ≤ s40.1 95 20 ∧ s40.1 95 20 ≤ 8 := (show 0 ≤ (lf_up (lf_up (lf_up s40.1 100 (s40.1 95 19) r22) 95 19 ((s40.1 95 19) + 1)) 95 23 0) 95 20 ∧ (lf_up (lf_up (lf_up s40.1 100 (s40.1 95 19) r22) 95 19 ((s40.1 95 19) + 1)) 95 23 0) 95 20 ≤ 8 from iv_r95_20 hI170)
    have b179 : (lf_up (lf_up (lf_up s40.1 100 (s40.1 95 19) r22) 95 19 ((s40.1 95 19) + 1)) 95 23 0) 95 20 = (lf_up (lf_up s40.1 100 (s40.1 95 19) r22) 95 19 ((s40.1 95 19) + 1)) 95 20 := lf_up_i (by omega)
    have b180 : (lf_up (lf_up s40.1 100 (s40.1 95 19) r22) 95 19 ((s40.1 95 19) + 1)) 95 20 = (lf_up s40.1 100 (s40.1 95 19) r22) 95 20 := lf_up_i (by omega)
    have b181 : 0 ≤ s40.1 95 21 ∧ s40.1 95 21 ≤ 8 := (show 0 ≤ (lf_up (lf_up (lf_up s40.1 100 (s40.1 95 19) r22) 95 19 ((s40.1 95 19) + 1)) 95 23 0) 95 21 ∧ (lf_up (lf_up (lf_up s40.1 100 (s40.1 95 19) r22) 95 19 ((s40.1 95 19) + 1)) 95 23 0) 95 21 ≤ 8 from iv_r95_21 hI170)
    have b182 : (lf_up (lf_up (lf_up s40.1 100 (s40.1 95 19) r22) 95 19 ((s40.1 95 19) + 1)) 95 23 0) 95 21 = (lf_up (lf_up s40.1 100 (s40.1 95 19) r22) 95 19 ((s40.1 95 19) + 1)) 95 21 := lf_up_i (by omega)
    have b183 : (lf_up (lf_up s40.1 100 (s40.1 95 19) r22) 95 19 ((s40.1 95 19) + 1)) 95 21 = (lf_up s40.1 100 (s40.1 95 19) r22) 95 21 := lf_up_i (by omega)
    have b184 : 0 ≤ s40.1 95 22 ∧ s40.1 95 22 ≤ 80 := (show 0 ≤ (lf_up (lf_up (lf_up s40.1 100 (s40.1 95 19) r22) 95 19 ((s40.1 95 19) + 1)) 95 23 0) 95 22 ∧ (lf_up (lf_up (lf_up s40.1 100 (s40.1 95 19) r22) 95 19 ((s40.1 95 19) + 1)) 95 23 0) 95 22 ≤ 80 from iv_r95_22 hI170)
    have b185 : (lf_up (lf_up (lf_up s40.1 100 (s40.1 95 19) r22) 95 19 ((s40.1 95 19) + 1)) 95 23 0) 95 22 = (lf_up (lf_up s40.1 100 (s40.1 95 19) r22) 95 19 ((s40.1 95 19) + 1)) 95 22 := lf_up_i (by omega)
    have b186 : (lf_up (lf_up s40.1 100 (s40.1 95 19) r22) 95 19 ((s40.1 95 19) + 1)) 95 22 = (lf_up s40.1 100 (s40.1 95 19) r22) 95 22 := lf_up_i (by omega)
    have b187 : pz_Y (((lf_up s40.1 100 (s40.1 95 19) r22) 100)) ((s40.1 98)) ((s40.1 95 12)) ((s40.1 95 13)) (((s40.1 95 19) + 1)) ((s40.1 95 20)) ((s40.1 95 21)) ((s40.1 95 22)) (s.1 95 8 + 1) (s.1 98 (s.1 95 12)) (0) (0) := pz_cg rfl rfl (pz_Yp (p' := (((lf_up s40.1 100 (s40.1 95 19) r22) 100))) ps160 lf_up_s (fun j hj => lf_up_i hj) ps162 ps163 t4) rfl rfl (by omega) rfl rfl rfl (by omega) rfl rfl rfl
    clear t4 ps163
    refine sm_197 hI170 (fun s42 hI189 fr188 ps191 ps192 => ?_)
    replace ps191 : (s40.1 95 7) ≤ s42.1 95 8 ∧ (s42.1 95 9 = 0 ∨ s42.1 95 8 < s42.1 95 7) := ps191
    replace ps192 : s42.1 95 12 = (s40.1 95 12) ∧ s42.1 95 13 = (s40.1 95 13) ∧ s42.1 95 19 = ((s40.1 95 19) + 1) ∧ s42.1 95 20 = (s40.1 95 20) ∧ s42.1 95 21 = (s40.1 95 21) ∧ s42.1 95 22 = (s40.1 95 22) ∧ s42.1 95 23 = 0 := ps192
    have fr193 : lf_fq [95, 98, 100, 102, 103] 1000000 true s.1 s.2.2 s42.1 s42.2.2 := lf_fq_tr fr171 (lf_fq_wk fr188 rfl (by decide) (by decide))
    have b194 : 0 ≤ s42.1 95 12 ∧ s42.1 95 12 ≤ 2115 := iv_r95_12 hI189
    have b195 : 0 ≤ s42.1 95 13 ∧ s42.1 95 13 ≤ 304 := iv_r95_13 hI189
    have b196 : 0 ≤ s42.1 95 19 ∧ s42.1 95 19 ≤ 160 := iv_r95_19 hI189
    have b197 : 0 ≤ s42.1 95 20 ∧ s42.1 95 20 ≤ 8 := iv_r95_20 hI189
    have b198 : 0 ≤ s42.1 95 21 ∧ s42.1 95 21 ≤ 8 := iv_r95_21 hI189
    have b199 : 0 ≤ s42.1 95 22 ∧ s42.1 95 22 ≤ 80 := iv_r95_22 hI189
    have b200 : 0 ≤ s42.1 95 8 ∧ s42.1 95 8 ≤ 300 := iv_r95_8 hI189
    have b201 : 0 ≤ s42.1 95 23 ∧ s42.1 95 23 ≤ 1 := iv_r95_23 hI189
    have b202 : pz_Y ((s42.1 100)) ((s42.1 98)) ((s42.1 95 12)) ((s42.1 95 13)) ((s42.1 95 19)) ((s42.1 95 20)) ((s42.1 95 21)) ((s42.1 95 22)) ((s42.1 95 8)) (s.1 98 (s.1 95 12)) ((s42.1 95 23)) (0) := pz_cg (fr188.1 100 rfl) (fr188.1 98 rfl) (by first | with_reducible assumption | assumption) (by omega) (by omega) (by omega) (by omega) (by omega) (by omega) (by omega) (by omega) (by omega) rfl
    exact hQ true s42 hI189 fr193 (show true = true → pz_Y ((s42.1 100)) ((s42.1 98)) ((s42.1 95 12)) ((s42.1 95 13)) ((s42.1 95 19)) ((s42.1 95 20)) ((s42.1 95 21)) ((s42.1 95 22)) ((s42.1 95 8)) (s.1 98 (s.1 95 12)) ((s42.1 95 23)) (0) from fun _ => by first | with_reducible assumption | assumption) (show true = true → (s.1 95 8 < (s42.1 95 8) ∧ ((s42.1 95 9) = 0 ∨ (s42.1 95 8) < (s42.1 95 7))) from fun _ => by omega) (show true = false → pz_Y ((s42.1 100)) ((s42.1 98)) ((s42.1 95 12)) ((s42.1 95 13)) ((s42.1 95 19)) ((s42.1 95 20)) ((s42.1 95 21)) ((s42.1 95 22)) ((s42.1 95 8)) (s.1 98 (s.1 95 12)) (1) (0) from fun h => by cases h) (show (s42.1 95 12) = s.1 95 12 from by omega) (show true = false → ((s42.1 95 8) = s.1 95 8 ∧ (s42.1 95 7) = s.1 95 7 ∧ (s42.1 95 9) = s.1 95 9) from fun h => by cases h)
