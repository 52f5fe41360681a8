-- fm_221 Model.isCompared 95
theorem sm_221_p30 {Q : Bool → lf_Z → Prop} {x1 : Int} {s : lf_Z} (hQ : ∀ (z : Bool), ((z = true → (pz_cm (s.1 100) (s.1 95 19) = 1)) ∧ (z = false → ¬ (pz_cm (s.1 100) (s.1 95 19) = 1))) → Q z s) (hI : iv_A s.1 s.2.2) (bx1 : (-1) ≤ x1 ∧ x1 ≤ 159) (kv0 : pz_cm (s.1 100) (s.1 95 19) = pz_cq (s.1 100) (x1)) (kv1 : x1 < 0 ∨ 10 ≤ s.1 100 x1) : fm_221_p30 Q x1 s := by
  unfold fm_221_p30
  have b7 : (x1 < 0 → pz_cq ((s.1 100)) x1 = 0) ∧ (0 ≤ x1 → ((s.1 100 x1) < 10 → pz_cq ((s.1 100)) x1 = pz_cq ((s.1 100)) (x1 + -1)) ∧ (10 ≤ (s.1 100 x1) ∧ (s.1 100 x1) < 40 ∧ (s.1 100 x1) ≠ 20 ∧ (s.1 100 x1) ≠ 21 ∧ (s.1 100 x1) ≠ 22 → pz_cq ((s.1 100)) x1 = 1) ∧ (40 ≤ (s.1 100 x1) ∨ (s.1 100 x1) = 20 ∨ (s.1 100 x1) = 21 ∨ (s.1 100 x1) = 22 → pz_cq ((s.1 100)) x1 = 0)) := pz_cqA _ _
  refine ⟨(show lf_R x1 from lf_Rof (by omega)), ?_⟩
  refine ⟨fun c8 => ?_, fun c8 => ?_⟩
  · skip
    replace c8 : x1 < 0 := c8
    exact hQ false (lf_pf (by omega))
  · skip
    replace c8 : ¬ (x1 < 0) := c8
    refine ⟨(show (0 : Int) ≤ x1 ∧ x1 < (160 : Int) from by omega), ?_⟩
    have b9 : 0 ≤ s.1 100 x1 ∧ s.1 100 x1 ≤ 45 := iv_r100 hI _
    refine sm_222 hI (show (0 : Int) ≤ s.1 100 x1 ∧ s.1 100 x1 ≤ (45 : Int) from by omega) (fun r25 q10 => ?_)
    obtain ⟨q10, q10x⟩ := q10
    replace q10x : r25 = pz_rk (s.1 100 x1) ∧ ((40 ≤ (s.1 100 x1) ∧ r25 = 0) ∨ ((s.1 100 x1) = 22 ∧ r25 = 1) ∨ ((s.1 100 x1) = 21 ∧ r25 = 2) ∨ ((s.1 100 x1) = 20 ∧ r25 = 3) ∨ (10 ≤ (s.1 100 x1) ∧ (s.1 100 x1) < 40 ∧ (s.1 100 x1) ≠ 20 ∧ (s.1 100 x1) ≠ 21 ∧ (s.1 100 x1) ≠ 22 ∧ r25 = 4) ∨ ((s.1 100 x1) = 3 ∧ r25 = 7) ∨ (6 ≤ (s.1 100 x1) ∧ (s.1 100 x1) < 10 ∧ r25 = 6) ∨ ((s.1 100 x1) < 6 ∧ (s.1 100 x1) ≠ 3 ∧ r25 = 5)) := q10x
    refine ⟨(show lf_R r25 from lf_Rof (by omega)), ?_⟩
    refine ⟨fun c11 => ?_, fun c11 => ?_⟩
    · skip
      replace c11 : r25 ≠ 4 := c11
      exact hQ false (lf_pf (by omega))
    · skip
      replace c11 : ¬ (r25 ≠ 4) := c11
      exact hQ true (lf_pt (by omega))
theorem sm_221_p7 {X7 : Int → lf_Z → Prop} {Q : Bool → lf_Z → Prop} {x1 : Int} {s : lf_Z} (hQ : ∀ (z : Bool), ((z = true → (pz_cm (s.1 100) (s.1 95 19) = 1)) ∧ (z = false → ¬ (pz_cm (s.1 100) (s.1 95 19) = 1))) → Q z s) {M7 : Nat} (hX7 : ∀ (x1 : Int), (-1) ≤ x1 ∧ x1 ≤ 159 → (pz_cm (s.1 100) (s.1 95 19) = pz_cq (s.1 100) (x1)) → (x1 - (-1)).toNat < M7 → X7 x1 s) (hM7 : (x1 - (-1)).toNat ≤ M7) (hI : iv_A s.1 s.2.2) (bx1 : (-1) ≤ x1 ∧ x1 ≤ 159) (kv0 : pz_cm (s.1 100) (s.1 95 19) = pz_cq (s.1 100) (x1)) : fm_221_p7 Q X7 x1 s := by
  unfold fm_221_p7
  have b3 : (x1 < 0 → pz_cq ((s.1 100)) x1 = 0) ∧ (0 ≤ x1 → ((s.1 100 x1) < 10 → pz_cq ((s.1 100)) x1 = pz_cq ((s.1 100)) (x1 + -1)) ∧ (10 ≤ (s.1 100 x1) ∧ (s.1 100 x1) < 40 ∧ (s.1 100 x1) ≠ 20 ∧ (s.1 100 x1) ≠ 21 ∧ (s.1 100 x1) ≠ 22 → pz_cq ((s.1 100)) x1 = 1) ∧ (40 ≤ (s.1 100 x1) ∨ (s.1 100 x1) = 20 ∨ (s.1 100 x1) = 21 ∨ (s.1 100 x1) = 22 → pz_cq ((s.1 100)) x1 = 0)) := pz_cqA _ _
  refine ⟨(show lf_R x1 from lf_Rof (by omega)), ?_⟩
  refine ⟨fun c4 => ?_, fun c4 => ?_⟩
  · skip
    replace c4 : x1 < 0 := c4
    have b5 : 0 ≤ s.1 95 19 ∧ s.1 95 19 ≤ 160 := iv_r95_19 hI
    have b6 : 0 ≤ s.1 100 x1 ∧ s.1 100 x1 ≤ 45 := iv_r100 hI _
    exact sm_221_p30 hQ hI (show (-1 : Int) ≤ x1 ∧ x1 ≤ (159 : Int) from by omega) (show pz_cm ((s.1 100)) ((s.1 95 19)) = pz_cq ((s.1 100)) (x1) from by omega) (show x1 < 0 ∨ 10 ≤ (s.1 100 x1) from by omega)
  · skip
    replace c4 : ¬ (x1 < 0) := c4
    refine ⟨(show (0 : Int) ≤ x1 ∧ x1 < (160 : Int) from by omega), ?_⟩
    have b12 : 0 ≤ s.1 100 x1 ∧ s.1 100 x1 ≤ 45 := iv_r100 hI _
    refine sm_222 hI (show (0 : Int) ≤ s.1 100 x1 ∧ s.1 100 x1 ≤ (45 : Int) from by omega) (fun r29 q13 => ?_)
    obtain ⟨q13, q13x⟩ := q13
    replace q13x : r29 = pz_rk (s.1 100 x1) ∧ ((40 ≤ (s.1 100 x1) ∧ r29 = 0) ∨ ((s.1 100 x1) = 22 ∧ r29 = 1) ∨ ((s.1 100 x1) = 21 ∧ r29 = 2) ∨ ((s.1 100 x1) = 20 ∧ r29 = 3) ∨ (10 ≤ (s.1 100 x1) ∧ (s.1 100 x1) < 40 ∧ (s.1 100 x1) ≠ 20 ∧ (s.1 100 x1) ≠ 21 ∧ (s.1 100 x1) ≠ 22 ∧ r29 = 4) ∨ ((s.1 100 x1) = 3 ∧ r29 = 7) ∨ (6 ≤ (s.1 100 x1) ∧ (s.1 100 x1) < 10 ∧ r29 = 6) ∨ ((s.1 100 x1) < 6 ∧ (s.1 100 x1) ≠ 3 ∧ r29 = 5)) := q13x
    refine ⟨(show lf_R r29 from lf_Rof (by omega)), ?_⟩
    refine ⟨fun c14 => ?_, fun c14 => ?_⟩
    · skip
      replace c14 : r29 ≤ 4 := c14
      have b15 : 0 ≤ s.1 95 19 ∧ s.1 95 19 ≤ 160 := iv_r95_19 hI
      exact sm_221_p30 hQ hI (show (-1 : Int) ≤ x1 ∧ x1 ≤ (159 : Int) from by omega) (show pz_cm ((s.1 100)) ((s.1 95 19)) = pz_cq ((s.1 100)) (x1) from by omega) (show x1 < 0 ∨ 10 ≤ (s.1 100 x1) from by omega)
    · skip
      replace c14 : ¬ (r29 ≤ 4) := c14
      have b16 : 0 ≤ s.1 95 19 ∧ s.1 95 19 ≤ 160 := iv_r95_19 hI
      have b17 : pz_cm ((s.1 100)) ((s.1 95 19)) = pz_cq ((s.1 100)) ((s.1 95 19) - 1) := pz_cqE
      exact hX7 (x1 + (-1)) (show (-1 : Int) ≤ x1 + (-1) ∧ x1 + (-1) ≤ (159 : Int) from by omega) (show pz_cm ((s.1 100)) ((s.1 95 19)) = pz_cq ((s.1 100)) ((x1 + (-1))) from by omega) (show ((x1 + (-1)) - (-1)).toNat < M7 from by omega)
theorem sm_221_p7L {Q : Bool → lf_Z → Prop} {x1 : Int} {s : lf_Z} (hQ : ∀ (z : Bool), ((z = true → (pz_cm (s.1 100) (s.1 95 19) = 1)) ∧ (z = false → ¬ (pz_cm (s.1 100) (s.1 95 19) = 1))) → Q z s) (hI : iv_A s.1 s.2.2) (bx1 : (-1) ≤ x1 ∧ x1 ≤ 159) (kv0 : pz_cm (s.1 100) (s.1 95 19) = pz_cq (s.1 100) (x1)) : fm_221_p7L Q x1 s := by
  intro X7 hX
  have key : ∀ (m9 : Nat) (x1 : Int), (-1) ≤ x1 ∧ x1 ≤ 159 → (pz_cm (s.1 100) (s.1 95 19) = pz_cq (s.1 100) (x1)) → (x1 - (-1)).toNat < m9 → X7 x1 s := by
    intro m9
    induction m9 with
    | zero => intro x1 bx1 kv0 h9; exact absurd h9 (Nat.not_lt_zero _)
    | succ m9 ih => intro x1 bx1 kv0 h9; exact hX _ _ (sm_221_p7 hQ   (fun x1' bx1' kv0' h8 => ih x1' bx1' kv0' (by omega)) (Nat.le_refl _)  hI  bx1  kv0)
  exact key _ _ bx1  kv0 (Nat.lt_succ_self _)
theorem sm_221 {Q : Bool → lf_Z → Prop} {s : lf_Z} (hI : iv_A s.1 s.2.2) (hQ : ∀ (z : Bool), ((z = true → (pz_cm (s.1 100) (s.1 95 19) = 1)) ∧ (z = false → ¬ (pz_cm (s.1 100) (s.1 95 19) = 1))) → Q z s) : fm_221 Q s := by
  unfold fm_221
  have b1 : 0 ≤ s.1 95 19 ∧ s.1 95 19 ≤ 160 := iv_r95_19 hI
  have b2 : pz_cm ((s.1 100)) ((s.1 95 19)) = pz_cq ((s.1 100)) ((s.1 95 19) - 1) := pz_cqE
  exact sm_221_p7L hQ hI (show (-1 : Int) ≤ (s.1 95 19) - 1 ∧ (s.1 95 19) - 1 ≤ (159 : Int) from by omega) (show pz_cm ((s.1 100)) ((s.1 95 19)) = pz_cq ((s.1 100)) (((s.1 95 19) - 1)) from by omega)
-- fm_223 Model.compareOf 95
theorem sm_223 {Q : Int → lf_Z → Prop} {s : lf_Z} (hI : iv_A s.1 s.2.2) (hQ : ∀ (r : Int), (((-1) ≤ r ∧ r ≤ 15) ∧ (r = -1 ∨ (10 ≤ r ∧ r ≤ 15 ∧ s.1 95 9 ≠ 0))) → Q r s) : fm_223 Q s := by
  unfold fm_223
  have b1 : (-2147483648) ≤ s.1 95 9 ∧ s.1 95 9 ≤ 2147483647 := iv_full hI
  refine ⟨(show lf_R (s.1 95 9) from lf_Rof (by omega)), ?_⟩
  refine ⟨fun c2 => ?_, fun c2 => ?_⟩
  · skip
    replace c2 : s.1 95 9 ≠ 60 := c2
    refine ⟨fun c3 => ?_, fun c3 => ?_⟩
    · skip
      replace c3 : s.1 95 9 ≠ 4 := c3
      refine ⟨fun c4 => ?_, fun c4 => ?_⟩
      · skip
        replace c4 : s.1 95 9 ≠ 62 := c4
        refine ⟨fun c5 => ?_, fun c5 => ?_⟩
        · skip
          replace c5 : s.1 95 9 ≠ 5 := c5
          refine ⟨fun c6 => ?_, fun c6 => ?_⟩
          · skip
            replace c6 : s.1 95 9 ≠ 61 := c6
            refine ⟨fun c7 => ?_, fun c7 => ?_⟩
            · skip
              replace c7 : s.1 95 9 ≠ 35 := c7
              exact hQ (-1) ⟨(show (-1 : Int) ≤ (-1) ∧ (-1) ≤ (15 : Int) from by omega), (show (-1) = -1 ∨ (10 ≤ (-1) ∧ (-1) ≤ 15 ∧ s.1 95 9 ≠ 0) from by omega)⟩
            · skip
              replace c7 : ¬ (s.1 95 9 ≠ 35) := c7
              exact hQ 15 ⟨(show (-1 : Int) ≤ 15 ∧ 15 ≤ (15 : Int) from by omega), (show 15 = -1 ∨ (10 ≤ 15 ∧ 15 ≤ 15 ∧ s.1 95 9 ≠ 0) from by omega)⟩
          · skip
            replace c6 : ¬ (s.1 95 9 ≠ 61) := c6
            exact hQ 14 ⟨(show (-1 : Int) ≤ 14 ∧ 14 ≤ (15 : Int) from by omega), (show 14 = -1 ∨ (10 ≤ 14 ∧ 14 ≤ 15 ∧ s.1 95 9 ≠ 0) from by omega)⟩
        · skip
          replace c5 : ¬ (s.1 95 9 ≠ 5) := c5
          exact hQ 13 ⟨(show (-1 : Int) ≤ 13 ∧ 13 ≤ (15 : Int) from by omega), (show 13 = -1 ∨ (10 ≤ 13 ∧ 13 ≤ 15 ∧ s.1 95 9 ≠ 0) from by omega)⟩
      · skip
        replace c4 : ¬ (s.1 95 9 ≠ 62) := c4
        exact hQ 12 ⟨(show (-1 : Int) ≤ 12 ∧ 12 ≤ (15 : Int) from by omega), (show 12 = -1 ∨ (10 ≤ 12 ∧ 12 ≤ 15 ∧ s.1 95 9 ≠ 0) from by omega)⟩
    · skip
      replace c3 : ¬ (s.1 95 9 ≠ 4) := c3
      exact hQ 11 ⟨(show (-1 : Int) ≤ 11 ∧ 11 ≤ (15 : Int) from by omega), (show 11 = -1 ∨ (10 ≤ 11 ∧ 11 ≤ 15 ∧ s.1 95 9 ≠ 0) from by omega)⟩
  · skip
    replace c2 : ¬ (s.1 95 9 ≠ 60) := c2
    exact hQ 10 ⟨(show (-1 : Int) ≤ 10 ∧ 10 ≤ (15 : Int) from by omega), (show 10 = -1 ∨ (10 ≤ 10 ∧ 10 ≤ 15 ∧ s.1 95 9 ≠ 0) from by omega)⟩
-- fm_218 Model.betweenOf 95
theorem sm_218 {Q : Int → lf_Z → Prop} {s : lf_Z} (hI : iv_A s.1 s.2.2) (hQ : ∀ (r : Int), (((-1) ≤ r ∧ r ≤ 22) ∧ (r = -1 ∨ (s.1 95 9 ≠ 0 ∧ ((4 ≤ r ∧ r ≤ 7) ∨ (10 ≤ r ∧ r ≤ 15 ∧ pz_op (s.1 100) (s.1 95 19) = 41 ∧ pz_cm (s.1 100) (s.1 95 19) ≠ 1) ∨ ((r = 21 ∨ r = 22) ∧ pz_op (s.1 100) (s.1 95 19) = 41 ∧ pz_cm (s.1 100) (s.1 95 19) = 1))))) → Q r s) : fm_218 Q s := by
  unfold fm_218
  have b1 : (-2147483648) ≤ s.1 95 9 ∧ s.1 95 9 ≤ 2147483647 := iv_full hI
  refine ⟨(show lf_R (s.1 95 9) from lf_Rof (by omega)), ?_⟩
  refine ⟨fun c2 => ?_, fun c2 => ?_⟩
  · skip
    replace c2 : s.1 95 9 ≠ 43 := c2
    refine ⟨fun c3 => ?_, fun c3 => ?_⟩
    · skip
      replace c3 : s.1 95 9 ≠ 45 := c3
      refine ⟨fun c4 => ?_, fun c4 => ?_⟩
      · skip
        replace c4 : s.1 95 9 ≠ 42 := c4
        refine ⟨fun c5 => ?_, fun c5 => ?_⟩
        · skip
          replace c5 : s.1 95 9 ≠ 47 := c5
          refine sm_219 hI (fun r23 q6 => ?_)
          obtain ⟨q6, q6x⟩ := q6
          have b7 : 0 ≤ s.1 95 19 ∧ s.1 95 19 ≤ 160 := iv_r95_19 hI
          replace q6x : r23 = pz_op (s.1 100) (s.1 95 19) := q6x
          refine ⟨(show lf_R r23 from lf_Rof (by omega)), ?_⟩
          refine ⟨fun c8 => ?_, fun c8 => ?_⟩
          · skip
            replace c8 : r23 = 41 := c8
            refine sm_221 hI (fun z26 q9 => ?_)
            have b10 : 0 ≤ s.1 95 19 ∧ s.1 95 19 ≤ 160 := iv_r95_19 hI
            refine ⟨fun c11 => ?_, fun c11 => ?_⟩
            · skip
              have dc11 := q9.1 c11
              refine sm_205 hI (show (97 : Int) ≤ 97 ∧ 97 ≤ (119 : Int) from by omega) (show (97 : Int) ≤ 110 ∧ 110 ≤ (117 : Int) from by omega) (show (97 : Int) ≤ 100 ∧ 100 ≤ (122 : Int) from by omega) (fun r28 => ?_)
              refine sm_207 hI (fun z30 q13 => ?_)
              refine ⟨fun c14 => ?_, fun c14 => ?_⟩
              · skip
                have dc14 := q13.2 c14
                refine sm_206 hI (show (97 : Int) ≤ 111 ∧ 111 ≤ (119 : Int) from by omega) (show (97 : Int) ≤ 114 ∧ 114 ≤ (121 : Int) from by omega) (fun r32 => ?_)
                refine sm_207 hI (fun z34 q16 => ?_)
                refine ⟨fun c17 => ?_, fun c17 => ?_⟩
                · skip
                  have dc17 := q16.2 c17
                  exact hQ (-1) ⟨(show (-1 : Int) ≤ (-1) ∧ (-1) ≤ (22 : Int) from by omega), (show (-1) = -1 ∨ (s.1 95 9 ≠ 0 ∧ ((4 ≤ (-1) ∧ (-1) ≤ 7) ∨ (10 ≤ (-1) ∧ (-1) ≤ 15 ∧ pz_op (s.1 100) (s.1 95 19) = 41 ∧ pz_cm (s.1 100) (s.1 95 19) ≠ 1) ∨ (((-1) = 21 ∨ (-1) = 22) ∧ pz_op (s.1 100) (s.1 95 19) = 41 ∧ pz_cm (s.1 100) (s.1 95 19) = 1))) from by omega)⟩
                · skip
                  have dc17 := q16.1 c17
                  exact hQ 22 ⟨(show (-1 : Int) ≤ 22 ∧ 22 ≤ (22 : Int) from by omega), (show 22 = -1 ∨ (s.1 95 9 ≠ 0 ∧ ((4 ≤ 22 ∧ 22 ≤ 7) ∨ (10 ≤ 22 ∧ 22 ≤ 15 ∧ pz_op (s.1 100) (s.1 95 19) = 41 ∧ pz_cm (s.1 100) (s.1 95 19) ≠ 1) ∨ ((22 = 21 ∨ 22 = 22) ∧ pz_op (s.1 100) (s.1 95 19) = 41 ∧ pz_cm (s.1 100) (s.1 95 19) = 1))) from by omega)⟩
              · skip
                have dc14 := q13.1 c14
                exact hQ 21 ⟨(show (-1 : Int) ≤ 21 ∧ 21 ≤ (22 : Int) from by omega), (show 21 = -1 ∨ (s.1 95 9 ≠ 0 ∧ ((4 ≤ 21 ∧ 21 ≤ 7) ∨ (10 ≤ 21 ∧ 21 ≤ 15 ∧ pz_op (s.1 100) (s.1 95 19) = 41 ∧ pz_cm (s.1 100) (s.1 95 19) ≠ 1) ∨ ((21 = 21 ∨ 21 = 22) ∧ pz_op (s.1 100) (s.1 95 19) = 41 ∧ pz_cm (s.1 100) (s.1 95 19) = 1))) from by omega)⟩
            · skip
              have dc11 := q9.2 c11
              refine sm_223 hI (fun r36 q18 => ?_)
              obtain ⟨q18, q18x⟩ := q18
              replace q18x : r36 = -1 ∨ (10 ≤ r36 ∧ r36 ≤ 15 ∧ s.1 95 9 ≠ 0) := q18x
              exact hQ r36 ⟨(show (-1 : Int) ≤ r36 ∧ r36 ≤ (22 : Int) from by omega), (show r36 = -1 ∨ (s.1 95 9 ≠ 0 ∧ ((4 ≤ r36 ∧ r36 ≤ 7) ∨ (10 ≤ r36 ∧ r36 ≤ 15 ∧ pz_op (s.1 100) (s.1 95 19) = 41 ∧ pz_cm (s.1 100) (s.1 95 19) ≠ 1) ∨ ((r36 = 21 ∨ r36 = 22) ∧ pz_op (s.1 100) (s.1 95 19) = 41 ∧ pz_cm (s.1 100) (s.1 95 19) = 1))) from by omega)⟩
          · skip
            replace c8 : ¬ (r23 = 41) := c8
            exact hQ (-1) ⟨(show (-1 : Int) ≤ (-1) ∧ (-1) ≤ (22 : Int) from by omega), (show (-1) = -1 ∨ (s.1 95 9 ≠ 0 ∧ ((4 ≤ (-1) ∧ (-1) ≤ 7) ∨ (10 ≤ (-1) ∧ (-1) ≤ 15 ∧ pz_op (s.1 100) (s.1 95 19) = 41 ∧ pz_cm (s.1 100) (s.1 95 19) ≠ 1) ∨ (((-1) = 21 ∨ (-1) = 22) ∧ pz_op (s.1 100) (s.1 95 19) = 41 ∧ pz_cm (s.1 100) (s.1 95 19) = 1))) from by omega)⟩
        · skip
          replace c5 : ¬ (s.1 95 9 ≠ 47) := c5
          exact hQ 7 ⟨(show (-1 : Int) ≤ 7 ∧ 7 ≤ (22 : Int) from by omega), (show 7 = -1 ∨ (s.1 95 9 ≠ 0 ∧ ((4 ≤ 7 ∧ 7 ≤ 7) ∨ (10 ≤ 7 ∧ 7 ≤ 15 ∧ pz_op (s.1 100) (s.1 95 19) = 41 ∧ pz_cm (s.1 100) (s.1 95 19) ≠ 1) ∨ ((7 = 21 ∨ 7 = 22) ∧ pz_op (s.1 100) (s.1 95 19) = 41 ∧ pz_cm (s.1 100) (s.1 95 19) = 1))) from by omega)⟩
      · skip
        replace c4 : ¬ (s.1 95 9 ≠ 42) := c4
        exact hQ 6 ⟨(show (-1 : Int) ≤ 6 ∧ 6 ≤ (22 : Int) from by omega), (show 6 = -1 ∨ (s.1 95 9 ≠ 0 ∧ ((4 ≤ 6 ∧ 6 ≤ 7) ∨ (10 ≤ 6 ∧ 6 ≤ 15 ∧ pz_op (s.1 100) (s.1 95 19) = 41 ∧ pz_cm (s.1 100) (s.1 95 19) ≠ 1) ∨ ((6 = 21 ∨ 6 = 22) ∧ pz_op (s.1 100) (s.1 95 19) = 41 ∧ pz_cm (s.1 100) (s.1 95 19) = 1))) from by omega)⟩
    · skip
      replace c3 : ¬ (s.1 95 9 ≠ 45) := c3
      exact hQ 5 ⟨(show (-1 : Int) ≤ 5 ∧ 5 ≤ (22 : Int) from by omega), (show 5 = -1 ∨ (s.1 95 9 ≠ 0 ∧ ((4 ≤ 5 ∧ 5 ≤ 7) ∨ (10 ≤ 5 ∧ 5 ≤ 15 ∧ pz_op (s.1 100) (s.1 95 19) = 41 ∧ pz_cm (s.1 100) (s.1 95 19) ≠ 1) ∨ ((5 = 21 ∨ 5 = 22) ∧ pz_op (s.1 100) (s.1 95 19) = 41 ∧ pz_cm (s.1 100) (s.1 95 19) = 1))) from by omega)⟩
  · skip
    replace c2 : ¬ (s.1 95 9 ≠ 43) := c2
    exact hQ 4 ⟨(show (-1 : Int) ≤ 4 ∧ 4 ≤ (22 : Int) from by omega), (show 4 = -1 ∨ (s.1 95 9 ≠ 0 ∧ ((4 ≤ 4 ∧ 4 ≤ 7) ∨ (10 ≤ 4 ∧ 4 ≤ 15 ∧ pz_op (s.1 100) (s.1 95 19) = 41 ∧ pz_cm (s.1 100) (s.1 95 19) ≠ 1) ∨ ((4 = 21 ∨ 4 = 22) ∧ pz_op (s.1 100) (s.1 95 19) = 41 ∧ pz_cm (s.1 100) (s.1 95 19) = 1))) from by omega)⟩
-- fm_226 Model.partOf 95 i
theorem sm_226 {a1 : Int} {Q : Int → lf_Z → Prop} {s : lf_Z} (hI : iv_A s.1 s.2.2) (ba1 : (-1) ≤ a1 ∧ a1 ≤ 45) (hQ : ∀ (r : Int), (((-1) ≤ r ∧ r ≤ 45) ∧ (r = -1 ∨ (s.1 95 9 ≠ 0 ∧ ((a1 = 40 ∧ r = 0) ∨ (a1 = 41 ∧ r = 42 ∧ pz_cm (s.1 100) (s.1 95 19) = 1) ∨ (a1 = 42 ∧ r = 43) ∨ (a1 = 44 ∧ r = 45) ∨ (a1 ≠ -1 ∧ a1 ≠ 40 ∧ a1 ≠ 41 ∧ a1 ≠ 42 ∧ a1 ≠ 44 ∧ r = 0))))) → Q r s) : fm_226 a1 Q s := by
  unfold fm_226
  refine ⟨(show lf_R a1 from lf_Rof (by omega)), ?_⟩
  refine ⟨fun c1 => ?_, fun c1 => ?_, fun c1 => ?_, fun c1 => ?_, fun c1 => ?_, fun c1 => ?_⟩
  · replace c1 : a1 ≠ (-1) ∧ a1 ≠ 40 ∧ a1 ≠ 41 ∧ a1 ≠ 42 ∧ a1 ≠ 44 := c1
    refine sm_205 hI (show (97 : Int) ≤ 101 ∧ 101 ≤ (119 : Int) from by omega) (show (97 : Int) ≤ 110 ∧ 110 ≤ (117 : Int) from by omega) (show (97 : Int) ≤ 100 ∧ 100 ≤ (122 : Int) from by omega) (fun r23 => ?_)
    refine sm_207 hI (fun z25 q3 => ?_)
    have b4 : (-2147483648) ≤ s.1 95 9 ∧ s.1 95 9 ≤ 2147483647 := iv_full hI
    refine ⟨fun c5 => ?_, fun c5 => ?_⟩
    · skip
      have dc5 := q3.2 c5
      exact hQ (-1) ⟨(show (-1 : Int) ≤ (-1) ∧ (-1) ≤ (45 : Int) from by omega), (show (-1) = -1 ∨ (s.1 95 9 ≠ 0 ∧ ((a1 = 40 ∧ (-1) = 0) ∨ (a1 = 41 ∧ (-1) = 42 ∧ pz_cm (s.1 100) (s.1 95 19) = 1) ∨ (a1 = 42 ∧ (-1) = 43) ∨ (a1 = 44 ∧ (-1) = 45) ∨ (a1 ≠ -1 ∧ a1 ≠ 40 ∧ a1 ≠ 41 ∧ a1 ≠ 42 ∧ a1 ≠ 44 ∧ (-1) = 0))) from by omega)⟩
    · skip
      have dc5 := q3.1 c5
      exact hQ 0 ⟨(show (-1 : Int) ≤ 0 ∧ 0 ≤ (45 : Int) from by omega), (show 0 = -1 ∨ (s.1 95 9 ≠ 0 ∧ ((a1 = 40 ∧ 0 = 0) ∨ (a1 = 41 ∧ 0 = 42 ∧ pz_cm (s.1 100) (s.1 95 19) = 1) ∨ (a1 = 42 ∧ 0 = 43) ∨ (a1 = 44 ∧ 0 = 45) ∨ (a1 ≠ -1 ∧ a1 ≠ 40 ∧ a1 ≠ 41 ∧ a1 ≠ 42 ∧ a1 ≠ 44 ∧ 0 = 0))) from by omega)⟩
  · replace c1 : a1 = (-1) := c1
    exact hQ (-1) ⟨(show (-1 : Int) ≤ (-1) ∧ (-1) ≤ (45 : Int) from by omega), (show (-1) = -1 ∨ (s.1 95 9 ≠ 0 ∧ ((a1 = 40 ∧ (-1) = 0) ∨ (a1 = 41 ∧ (-1) = 42 ∧ pz_cm (s.1 100) (s.1 95 19) = 1) ∨ (a1 = 42 ∧ (-1) = 43) ∨ (a1 = 44 ∧ (-1) = 45) ∨ (a1 ≠ -1 ∧ a1 ≠ 40 ∧ a1 ≠ 41 ∧ a1 ≠ 42 ∧ a1 ≠ 44 ∧ (-1) = 0))) from by omega)⟩
  · replace c1 : a1 = 40 := c1
    have b6 : (-2147483648) ≤ s.1 95 9 ∧ s.1 95 9 ≤ 2147483647 := iv_full hI
    refine ⟨(show lf_R (s.1 95 9) from lf_Rof (by omega)), ?_⟩
    refine ⟨fun c7 => ?_, fun c7 => ?_⟩
    · skip
      replace c7 : s.1 95 9 ≠ 41 := c7
      exact hQ (-1) ⟨(show (-1 : Int) ≤ (-1) ∧ (-1) ≤ (45 : Int) from by omega), (show (-1) = -1 ∨ (s.1 95 9 ≠ 0 ∧ ((a1 = 40 ∧ (-1) = 0) ∨ (a1 = 41 ∧ (-1) = 42 ∧ pz_cm (s.1 100) (s.1 95 19) = 1) ∨ (a1 = 42 ∧ (-1) = 43) ∨ (a1 = 44 ∧ (-1) = 45) ∨ (a1 ≠ -1 ∧ a1 ≠ 40 ∧ a1 ≠ 41 ∧ a1 ≠ 42 ∧ a1 ≠ 44 ∧ (-1) = 0))) from by omega)⟩
    · skip
      replace c7 : ¬ (s.1 95 9 ≠ 41) := c7
      exact hQ 0 ⟨(show (-1 : Int) ≤ 0 ∧ 0 ≤ (45 : Int) from by omega), (show 0 = -1 ∨ (s.1 95 9 ≠ 0 ∧ ((a1 = 40 ∧ 0 = 0) ∨ (a1 = 41 ∧ 0 = 42 ∧ pz_cm (s.1 100) (s.1 95 19) = 1) ∨ (a1 = 42 ∧ 0 = 43) ∨ (a1 = 44 ∧ 0 = 45) ∨ (a1 ≠ -1 ∧ a1 ≠ 40 ∧ a1 ≠ 41 ∧ a1 ≠ 42 ∧ a1 ≠ 44 ∧ 0 = 0))) from by omega)⟩
  · replace c1 : a1 = 41 := c1
    refine sm_204 hI (show (97 : Int) ≤ 116 ∧ 116 ≤ (116 : Int) from by omega) (show (97 : Int) ≤ 104 ∧ 104 ≤ (117 : Int) from by omega) (show (97 : Int) ≤ 101 ∧ 101 ≤ (122 : Int) from by omega) (show (97 : Int) ≤ 110 ∧ 110 ≤ (117 : Int) from by omega) (fun r28 => ?_)
    refine sm_207 hI (fun z30 q9 => ?_)
    have b10 : (-2147483648) ≤ s.1 95 9 ∧ s.1 95 9 ≤ 2147483647 := iv_full hI
    refine ⟨fun c11 => ?_, fun c11 => ?_⟩
    · skip
      have dc11 := q9.2 c11
      exact hQ (-1) ⟨(show (-1 : Int) ≤ (-1) ∧ (-1) ≤ (45 : Int) from by omega), (show (-1) = -1 ∨ (s.1 95 9 ≠ 0 ∧ ((a1 = 40 ∧ (-1) = 0) ∨ (a1 = 41 ∧ (-1) = 42 ∧ pz_cm (s.1 100) (s.1 95 19) = 1) ∨ (a1 = 42 ∧ (-1) = 43) ∨ (a1 = 44 ∧ (-1) = 45) ∨ (a1 ≠ -1 ∧ a1 ≠ 40 ∧ a1 ≠ 41 ∧ a1 ≠ 42 ∧ a1 ≠ 44 ∧ (-1) = 0))) from by omega)⟩
    · skip
      have dc11 := q9.1 c11
      refine sm_221 hI (fun z32 q12 => ?_)
      have b13 : 0 ≤ s.1 95 19 ∧ s.1 95 19 ≤ 160 := iv_r95_19 hI
      refine ⟨fun c14 => ?_, fun c14 => ?_⟩
      · skip
        have dc14 := q12.2 c14
        exact hQ (-1) ⟨(show (-1 : Int) ≤ (-1) ∧ (-1) ≤ (45 : Int) from by omega), (show (-1) = -1 ∨ (s.1 95 9 ≠ 0 ∧ ((a1 = 40 ∧ (-1) = 0) ∨ (a1 = 41 ∧ (-1) = 42 ∧ pz_cm (s.1 100) (s.1 95 19) = 1) ∨ (a1 = 42 ∧ (-1) = 43) ∨ (a1 = 44 ∧ (-1) = 45) ∨ (a1 ≠ -1 ∧ a1 ≠ 40 ∧ a1 ≠ 41 ∧ a1 ≠ 42 ∧ a1 ≠ 44 ∧ (-1) = 0))) from by omega)⟩
      · skip
        have dc14 := q12.1 c14
        exact hQ 42 ⟨(show (-1 : Int) ≤ 42 ∧ 42 ≤ (45 : Int) from by omega), (show 42 = -1 ∨ (s.1 95 9 ≠ 0 ∧ ((a1 = 40 ∧ 42 = 0) ∨ (a1 = 41 ∧ 42 = 42 ∧ pz_cm (s.1 100) (s.1 95 19) = 1) ∨ (a1 = 42 ∧ 42 = 43) ∨ (a1 = 44 ∧ 42 = 45) ∨ (a1 ≠ -1 ∧ a1 ≠ 40 ∧ a1 ≠ 41 ∧ a1 ≠ 42 ∧ a1 ≠ 44 ∧ 42 = 0))) from by omega)⟩
  · replace c1 : a1 = 42 := c1
    refine sm_204 hI (show (97 : Int) ≤ 101 ∧ 101 ≤ (116 : Int) from by omega) (show (97 : Int) ≤ 108 ∧ 108 ≤ (117 : Int) from by omega) (show (97 : Int) ≤ 115 ∧ 115 ≤ (122 : Int) from by omega) (show (97 : Int) ≤ 101 ∧ 101 ≤ (117 : Int) from by omega) (fun r34 => ?_)
    refine sm_207 hI (fun z36 q16 => ?_)
    have b17 : (-2147483648) ≤ s.1 95 9 ∧ s.1 95 9 ≤ 2147483647 := iv_full hI
    refine ⟨fun c18 => ?_, fun c18 => ?_⟩
    · skip
      have dc18 := q16.2 c18
      exact hQ (-1) ⟨(show (-1 : Int) ≤ (-1) ∧ (-1) ≤ (45 : Int) from by omega), (show (-1) = -1 ∨ (s.1 95 9 ≠ 0 ∧ ((a1 = 40 ∧ (-1) = 0) ∨ (a1 = 41 ∧ (-1) = 42 ∧ pz_cm (s.1 100) (s.1 95 19) = 1) ∨ (a1 = 42 ∧ (-1) = 43) ∨ (a1 = 44 ∧ (-1) = 45) ∨ (a1 ≠ -1 ∧ a1 ≠ 40 ∧ a1 ≠ 41 ∧ a1 ≠ 42 ∧ a1 ≠ 44 ∧ (-1) = 0))) from by omega)⟩
    · skip
      have dc18 := q16.1 c18
      exact hQ 43 ⟨(show (-1 : Int) ≤ 43 ∧ 43 ≤ (45 : Int) from by omega), (show 43 = -1 ∨ (s.1 95 9 ≠ 0 ∧ ((a1 = 40 ∧ 43 = 0) ∨ (a1 = 41 ∧ 43 = 42 ∧ pz_cm (s.1 100) (s.1 95 19) = 1) ∨ (a1 = 42 ∧ 43 = 43) ∨ (a1 = 44 ∧ 43 = 45) ∨ (a1 ≠ -1 ∧ a1 ≠ 40 ∧ a1 ≠ 41 ∧ a1 ≠ 42 ∧ a1 ≠ 44 ∧ 43 = 0))) from by omega)⟩
  · replace c1 : a1 = 44 := c1
    refine sm_206 hI (show (97 : Int) ≤ 105 ∧ 105 ≤ (119 : Int) from by omega) (show (97 : Int) ≤ 110 ∧ 110 ≤ (121 : Int) from by omega) (fun r38 => ?_)
    refine sm_207 hI (fun z40 q20 => ?_)
    have b21 : (-2147483648) ≤ s.1 95 9 ∧ s.1 95 9 ≤ 2147483647 := iv_full hI
    refine ⟨fun c22 => ?_, fun c22 => ?_⟩
    · skip
      have dc22 := q20.2 c22
      exact hQ (-1) ⟨(show (-1 : Int) ≤ (-1) ∧ (-1) ≤ (45 : Int) from by omega), (show (-1) = -1 ∨ (s.1 95 9 ≠ 0 ∧ ((a1 = 40 ∧ (-1) = 0) ∨ (a1 = 41 ∧ (-1) = 42 ∧ pz_cm (s.1 100) (s.1 95 19) = 1) ∨ (a1 = 42 ∧ (-1) = 43) ∨ (a1 = 44 ∧ (-1) = 45) ∨ (a1 ≠ -1 ∧ a1 ≠ 40 ∧ a1 ≠ 41 ∧ a1 ≠ 42 ∧ a1 ≠ 44 ∧ (-1) = 0))) from by omega)⟩
    · skip
      have dc22 := q20.1 c22
      exact hQ 45 ⟨(show (-1 : Int) ≤ 45 ∧ 45 ≤ (45 : Int) from by omega), (show 45 = -1 ∨ (s.1 95 9 ≠ 0 ∧ ((a1 = 40 ∧ 45 = 0) ∨ (a1 = 41 ∧ 45 = 42 ∧ pz_cm (s.1 100) (s.1 95 19) = 1) ∨ (a1 = 42 ∧ 45 = 43) ∨ (a1 = 44 ∧ 45 = 45) ∨ (a1 ≠ -1 ∧ a1 ≠ 40 ∧ a1 ≠ 41 ∧ a1 ≠ 42 ∧ a1 ≠ 44 ∧ 45 = 0))) from by omega)⟩
-- fm_228 Model.shut 95 i
theorem sm_228_p32 {Q : lf_Z → Prop} {x1 : Int} {s : lf_Z} {s0 : lf_Z} (hQ : ∀  (s' : lf_Z), iv_A s'.1 s'.2.2 → lf_fq [95, 98, 103] 1000000 true s.1 s.2.2 s'.1 s'.2.2 → (pz_Y (s'.1 100) (s'.1 98) (s'.1 95 12) (s'.1 95 13) (s'.1 95 19) (s'.1 95 20) (s'.1 95 21) (s'.1 95 22) (s'.1 95 8) (s0.1 98 (s0.1 95 12)) (1) (0)) → (s'.1 95 7 = s0.1 95 7 ∧ s'.1 95 8 = s0.1 95 8 ∧ s'.1 95 9 = s0.1 95 9 ∧ s'.1 95 12 = s0.1 95 12 ∧ s'.1 95 22 = s0.1 95 22 ∧ s'.1 95 23 = s0.1 95 23) → Q  s') (hI : iv_A s.1 s.2.2) (bx1 : (-1) ≤ x1 ∧ x1 ≤ 45) (kv0 : pz_Y (s.1 100) (s.1 98) (s.1 95 12) (s.1 95 13) (s.1 95 19) (s.1 95 20) (s.1 95 21 - pz_vl x1) (s.1 95 22) (s.1 95 8) (s0.1 98 (s0.1 95 12)) (1) (0)) (kv1 : x1 = 40 ∨ x1 = 43 ∨ x1 = 45) (kv2 : x1 ≠ 45 ∨ 1 ≤ s.1 95 21) (kv3 : s.1 95 7 = s0.1 95 7 ∧ s.1 95 8 = s0.1 95 8 ∧ s.1 95 9 = s0.1 95 9 ∧ s.1 95 12 = s0.1 95 12 ∧ s.1 95 22 = s0.1 95 22 ∧ s.1 95 23 = s0.1 95 23) : fm_228_p32 Q x1 s := by
  unfold fm_228_p32
  have b41 : (pz_vo x1 = 1 ∧ (x1 = 3 ∨ x1 = 20 ∨ 40 ≤ x1) ∨ pz_vo x1 = 0 ∧ x1 ≠ 3 ∧ x1 ≠ 20 ∧ x1 < 40) ∧ (pz_vl x1 = 1 ∧ (x1 = 44 ∨ x1 = 45) ∨ pz_vl x1 = 0 ∧ x1 ≠ 44 ∧ x1 ≠ 45) ∧ (pz_v4 x1 = 1 ∧ x1 = 44 ∨ pz_v4 x1 = 0 ∧ x1 ≠ 44) := pz_vE _
  refine ⟨(show lf_R x1 from lf_Rof (by omega)), ?_⟩
  refine ⟨fun c42 => ?_, fun c42 => ?_⟩
  · skip
    replace c42 : x1 ≠ 45 := c42
    have b43 : 0 ≤ s.1 95 12 ∧ s.1 95 12 ≤ 2115 := iv_r95_12 hI
    have b44 : 0 ≤ s.1 95 13 ∧ s.1 95 13 ≤ 304 := iv_r95_13 hI
    have b45 : 0 ≤ s.1 95 19 ∧ s.1 95 19 ≤ 160 := iv_r95_19 hI
    have b46 : 0 ≤ s.1 95 20 ∧ s.1 95 20 ≤ 8 := iv_r95_20 hI
    have b47 : 0 ≤ s.1 95 21 ∧ s.1 95 21 ≤ 8 := iv_r95_21 hI
    have b48 : 0 ≤ s.1 95 22 ∧ s.1 95 22 ≤ 80 := iv_r95_22 hI
    have b49 : 0 ≤ s.1 95 8 ∧ s.1 95 8 ≤ 300 := iv_r95_8 hI
    have b50 : pz_Y ((s.1 100)) ((s.1 98)) ((s.1 95 12)) ((s.1 95 13)) ((s.1 95 19)) ((s.1 95 20)) ((s.1 95 21)) ((s.1 95 22)) ((s.1 95 8)) (s0.1 98 (s0.1 95 12)) (1) (0) := pz_cg rfl rfl kv0 rfl rfl rfl rfl (by omega) rfl (Int.le_refl _) rfl rfl rfl
    exact hQ s hI (lf_fq_rf) (show pz_Y ((s.1 100)) ((s.1 98)) ((s.1 95 12)) ((s.1 95 13)) ((s.1 95 19)) ((s.1 95 20)) ((s.1 95 21)) ((s.1 95 22)) ((s.1 95 8)) (s0.1 98 (s0.1 95 12)) (1) (0) from by first | with_reducible assumption | assumption) (show (s.1 95 7) = s0.1 95 7 ∧ (s.1 95 8) = s0.1 95 8 ∧ (s.1 95 9) = s0.1 95 9 ∧ (s.1 95 12) = s0.1 95 12 ∧ (s.1 95 22) = s0.1 95 22 ∧ (s.1 95 23) = s0.1 95 23 from by omega)
  · skip
    replace c42 : ¬ (x1 ≠ 45) := c42
    have b51 : 0 ≤ s.1 95 21 ∧ s.1 95 21 ≤ 8 := iv_r95_21 hI
    have hI52 : iv_A (lf_up s.1 95 21 ((s.1 95 21) - 1)) s.2.2 := iv_w95_21 hI (by omega)
    have fr53 : lf_fq [95, 98, 103] 1000000 true s.1 s.2.2 (lf_up s.1 95 21 ((s.1 95 21) - 1)) s.2.2 := lf_fq_up (lf_fq_rf) rfl (fun h => absurd h (by decide))
    refine ⟨(show (0 : Int) ≤ (s.1 95 21) - 1 ∧ (s.1 95 21) - 1 < (10 : Int) from by omega), ?_⟩
    have b54 : 0 ≤ s.1 101 ((s.1 95 21) - 1) ∧ s.1 101 ((s.1 95 21) - 1) ≤ 25 := (show 0 ≤ (lf_up s.1 95 21 ((s.1 95 21) - 1)) 101 ((s.1 95 21) - 1) ∧ (lf_up s.1 95 21 ((s.1 95 21) - 1)) 101 ((s.1 95 21) - 1) ≤ 25 from iv_r101 hI52 _)
    have b55 : (-1) ≤ s.1 102 ((s.1 95 21) - 1) ∧ s.1 102 ((s.1 95 21) - 1) ≤ 79 := (show (-1) ≤ (lf_up s.1 95 21 ((s.1 95 21) - 1)) 102 ((s.1 95 21) - 1) ∧ (lf_up s.1 95 21 ((s.1 95 21) - 1)) 102 ((s.1 95 21) - 1) ≤ 79 from iv_r102 hI52 _)
    refine ⟨(show (0 : Int) ≤ s.1 101 ((s.1 95 21) - 1) ∧ s.1 101 ((s.1 95 21) - 1) < (26 : Int) from by omega), ?_⟩
    have hI56 : iv_A (lf_up (lf_up s.1 95 21 ((s.1 95 21) - 1)) 103 (s.1 101 ((s.1 95 21) - 1)) (s.1 102 ((s.1 95 21) - 1))) s.2.2 := iv_w103 hI52 (by omega)
    have fr57 : lf_fq [95, 98, 103] 1000000 true s.1 s.2.2 (lf_up (lf_up s.1 95 21 ((s.1 95 21) - 1)) 103 (s.1 101 ((s.1 95 21) - 1)) (s.1 102 ((s.1 95 21) - 1))) s.2.2 := lf_fq_up fr53 rfl (fun h => absurd h (by decide))
    have b58 : 0 ≤ s.1 95 12 ∧ s.1 95 12 ≤ 2115 := (show 0 ≤ (lf_up (lf_up s.1 95 21 ((s.1 95 21) - 1)) 103 (s.1 101 ((s.1 95 21) - 1)) (s.1 102 ((s.1 95 21) - 1))) 95 12 ∧ (lf_up (lf_up s.1 95 21 ((s.1 95 21) - 1)) 103 (s.1 101 ((s.1 95 21) - 1)) (s.1 102 ((s.1 95 21) - 1))) 95 12 ≤ 2115 from iv_r95_12 hI56)
    have b59 : (lf_up s.1 95 21 ((s.1 95 21) - 1)) 95 12 = s.1 95 12 := lf_up_i (by omega)
    have b60 : 0 ≤ s.1 95 13 ∧ s.1 95 13 ≤ 304 := (show 0 ≤ (lf_up (lf_up s.1 95 21 ((s.1 95 21) - 1)) 103 (s.1 101 ((s.1 95 21) - 1)) (s.1 102 ((s.1 95 21) - 1))) 95 13 ∧ (lf_up (lf_up s.1 95 21 ((s.1 95 21) - 1)) 103 (s.1 101 ((s.1 95 21) - 1)) (s.1 102 ((s.1 95 21) - 1))) 95 13 ≤ 304 from iv_r95_13 hI56)
    have b61 : (lf_up s.1 95 21 ((s.1 95 21) - 1)) 95 13 = s.1 95 13 := lf_up_i (by omega)
    have b62 : 0 ≤ s.1 95 19 ∧ s.1 95 19 ≤ 160 := (show 0 ≤ (lf_up (lf_up s.1 95 21 ((s.1 95 21) - 1)) 103 (s.1 101 ((s.1 95 21) - 1)) (s.1 102 ((s.1 95 21) - 1))) 95 19 ∧ (lf_up (lf_up s.1 95 21 ((s.1 95 21) - 1)) 103 (s.1 101 ((s.1 95 21) - 1)) (s.1 102 ((s.1 95 21) - 1))) 95 19 ≤ 160 from iv_r95_19 hI56)
    have b63 : (lf_up s.1 95 21 ((s.1 95 21) - 1)) 95 19 = s.1 95 19 := lf_up_i (by omega)
    have b64 : 0 ≤ s.1 95 20 ∧ s.1 95 20 ≤ 8 := (show 0 ≤ (lf_up (lf_up s.1 95 21 ((s.1 95 21) - 1)) 103 (s.1 101 ((s.1 95 21) - 1)) (s.1 102 ((s.1 95 21) - 1))) 95 20 ∧ (lf_up (lf_up s.1 95 21 ((s.1 95 21) - 1)) 103 (s.1 101 ((s.1 95 21) - 1)) (s.1 102 ((s.1 95 21) - 1))) 95 20 ≤ 8 from iv_r95_20 hI56)
    have b65 : (lf_up s.1 95 21 ((s.1 95 21) - 1)) 95 20 = s.1 95 20 := lf_up_i (by omega)
    have b66 : 0 ≤ s.1 95 22 ∧ s.1 95 22 ≤ 80 := (show 0 ≤ (lf_up (lf_up s.1 95 21 ((s.1 95 21) - 1)) 103 (s.1 101 ((s.1 95 21) - 1)) (s.1 102 ((s.1 95 21) - 1))) 95 22 ∧ (lf_up (lf_up s.1 95 21 ((s.1 95 21) - 1)) 103 (s.1 101 ((s.1 95 21) - 1)) (s.1 102 ((s.1 95 21) - 1))) 95 22 ≤ 80 from iv_r95_22 hI56)
    have b67 : (lf_up s.1 95 21 ((s.1 95 21) - 1)) 95 22 = s.1 95 22 := lf_up_i (by omega)
    have b68 : 0 ≤ s.1 95 8 ∧ s.1 95 8 ≤ 300 := (show 0 ≤ (lf_up (lf_up s.1 95 21 ((s.1 95 21) - 1)) 103 (s.1 101 ((s.1 95 21) - 1)) (s.1 102 ((s.1 95 21) - 1))) 95 8 ∧ (lf_up (lf_up s.1 95 21 ((s.1 95 21) - 1)) 103 (s.1 101 ((s.1 95 21) - 1)) (s.1 102 ((s.1 95 21) - 1))) 95 8 ≤ 300 from iv_r95_8 hI56)
    have b69 : (lf_up s.1 95 21 ((s.1 95 21) - 1)) 95 8 = s.1 95 8 := lf_up_i (by omega)
    have b70 : pz_Y ((s.1 100)) ((s.1 98)) ((s.1 95 12)) ((s.1 95 13)) ((s.1 95 19)) ((s.1 95 20)) (((s.1 95 21) - 1)) ((s.1 95 22)) ((s.1 95 8)) (s0.1 98 (s0.1 95 12)) (1) (0) := pz_cg rfl rfl kv0 rfl rfl rfl rfl (by omega) rfl (Int.le_refl _) rfl rfl rfl
    exact hQ (lf_up (lf_up s.1 95 21 ((s.1 95 21) - 1)) 103 (s.1 101 ((s.1 95 21) - 1)) (s.1 102 ((s.1 95 21) - 1)), s.2.1, s.2.2) hI56 fr57 (show pz_Y ((s.1 100)) ((s.1 98)) ((s.1 95 12)) ((s.1 95 13)) ((s.1 95 19)) ((s.1 95 20)) (((s.1 95 21) - 1)) ((s.1 95 22)) ((s.1 95 8)) (s0.1 98 (s0.1 95 12)) (1) (0) from by first | with_reducible assumption | assumption) (show (s.1 95 7) = s0.1 95 7 ∧ (s.1 95 8) = s0.1 95 8 ∧ (s.1 95 9) = s0.1 95 9 ∧ (s.1 95 12) = s0.1 95 12 ∧ (s.1 95 22) = s0.1 95 22 ∧ (s.1 95 23) = s0.1 95 23 from by omega)
theorem sm_228 {a1 : Int} {Q : lf_Z → Prop} {s : lf_Z} (hI : iv_A s.1 s.2.2) (ba1 : (-1) ≤ a1 ∧ a1 ≤ 45) (kp0 : pz_Y (s.1 100) (s.1 98) (s.1 95 12) (s.1 95 13) (s.1 95 19) (s.1 95 20) (s.1 95 21) (s.1 95 22) (s.1 95 8) (s.1 98 (s.1 95 12)) (1) (0)) (kp1 : 0 < s.1 95 19 ∧ s.1 100 (s.1 95 19 - 1) = a1) (kp2 : a1 = 40 ∨ a1 = 43 ∨ a1 = 45) (hQ : ∀  (s' : lf_Z), iv_A s'.1 s'.2.2 → lf_fq [95, 98, 103] 1000000 true s.1 s.2.2 s'.1 s'.2.2 → (pz_Y (s'.1 100) (s'.1 98) (s'.1 95 12) (s'.1 95 13) (s'.1 95 19) (s'.1 95 20) (s'.1 95 21) (s'.1 95 22) (s'.1 95 8) (s.1 98 (s.1 95 12)) (1) (0)) → (s'.1 95 7 = s.1 95 7 ∧ s'.1 95 8 = s.1 95 8 ∧ s'.1 95 9 = s.1 95 9 ∧ s'.1 95 12 = s.1 95 12 ∧ s'.1 95 22 = s.1 95 22 ∧ s'.1 95 23 = s.1 95 23) → Q  s') : fm_228 a1 Q s := by
  unfold fm_228
  have b1 : 0 ≤ s.1 95 19 ∧ s.1 95 19 ≤ 160 := iv_r95_19 hI
  have b2 : 0 ≤ s.1 95 20 ∧ s.1 95 20 ≤ 8 := iv_r95_20 hI
  have b3 : 0 ≤ s.1 95 21 ∧ s.1 95 21 ≤ 8 := iv_r95_21 hI
  have b4 : 0 ≤ s.1 95 13 ∧ s.1 95 13 ≤ 304 := iv_r95_13 hI
  have b5 : 0 ≤ s.1 95 8 ∧ s.1 95 8 ≤ 300 := iv_r95_8 hI
  have b6 : 0 ≤ s.1 95 22 ∧ s.1 95 22 ≤ 80 := iv_r95_22 hI
  have b7 : 0 ≤ s.1 95 12 ∧ s.1 95 12 ≤ 2115 := iv_r95_12 hI
  have b8 : 0 ≤ (s.1 95 19) ∧ (s.1 95 19) ≤ 6 * (s.1 95 20) + 5 ∧ 0 ≤ (s.1 95 20) ∧ 0 ≤ (s.1 95 21) ∧ (s.1 95 21) ≤ (s.1 95 20) ∧ 0 ≤ (s.1 95 13) ∧ (s.1 95 13) + (s.1 95 19) ≤ (s.1 95 8) ∧ 4 * (s.1 95 22) + 3 * pz_4 ((s.1 100)) ((s.1 95 19)) ≤ (s.1 95 8) ∧ 0 ≤ pz_4 ((s.1 100)) ((s.1 95 19)) ∧ (s.1 98) ((s.1 95 12)) = (s.1 98) ((s.1 95 12)) ∧ 0 ≤ (s.1 98) ((s.1 95 12)) ∧ (s.1 98) ((s.1 95 12)) < 24 := pz_Yn2 kp0
  have b9 : wk_E ((s.1 98)) ((s.1 95 12)) ((s.1 95 13)) := pz_YE kp0
  have b10 : (s.1 95 8) ≤ 300 := (iv_r95_8 hI).2
  have b11 : (pz_vo a1 = 1 ∧ (a1 = 3 ∨ a1 = 20 ∨ 40 ≤ a1) ∨ pz_vo a1 = 0 ∧ a1 ≠ 3 ∧ a1 ≠ 20 ∧ a1 < 40) ∧ (pz_vl a1 = 1 ∧ (a1 = 44 ∨ a1 = 45) ∨ pz_vl a1 = 0 ∧ a1 ≠ 44 ∧ a1 ≠ 45) ∧ (pz_v4 a1 = 1 ∧ a1 = 44 ∨ pz_v4 a1 = 0 ∧ a1 ≠ 44) := pz_vE _
  have b12 : 1 ≤ (s.1 95 20) := pz_Yo kp0 (by omega) (by omega)
  have b13 : pz_vl ((s.1 100) ((s.1 95 19) - 1)) ≤ (s.1 95 21) := pz_Yl kp0 (by omega)
  have b14 : pz_vl ((s.1 100) ((s.1 95 19) - 1)) = pz_vl a1 := congrArg pz_vl kp1.2
  have hI15 : iv_A (lf_up s.1 95 19 ((s.1 95 19) - 1)) s.2.2 := iv_w95_19 hI (by omega)
  have fr16 : lf_fq [95, 98, 103] 1000000 true s.1 s.2.2 (lf_up s.1 95 19 ((s.1 95 19) - 1)) s.2.2 := lf_fq_up (lf_fq_rf) rfl (fun h => absurd h (by decide))
  have b17 : (lf_up s.1 95 19 ((s.1 95 19) - 1)) 95 20 = s.1 95 20 := lf_up_i (by omega)
  have hI18 : iv_A (lf_up (lf_up s.1 95 19 ((s.1 95 19) - 1)) 95 20 ((s.1 95 20) - 1)) s.2.2 := iv_w95_20 hI15 (by omega)
  have fr19 : lf_fq [95, 98, 103] 1000000 true s.1 s.2.2 (lf_up (lf_up s.1 95 19 ((s.1 95 19) - 1)) 95 20 ((s.1 95 20) - 1)) s.2.2 := lf_fq_up fr16 rfl (fun h => absurd h (by decide))
  refine ⟨(show lf_R a1 from lf_Rof (by omega)), ?_⟩
  refine ⟨fun c20 => ?_, fun c20 => ?_⟩
  · skip
    replace c20 : a1 ≠ 43 := c20
    have b21 : (lf_up (lf_up s.1 95 19 ((s.1 95 19) - 1)) 95 20 ((s.1 95 20) - 1)) 95 12 = (lf_up s.1 95 19 ((s.1 95 19) - 1)) 95 12 := lf_up_i (by omega)
    have b22 : (lf_up s.1 95 19 ((s.1 95 19) - 1)) 95 12 = s.1 95 12 := lf_up_i (by omega)
    have b23 : (lf_up (lf_up s.1 95 19 ((s.1 95 19) - 1)) 95 20 ((s.1 95 20) - 1)) 95 13 = (lf_up s.1 95 19 ((s.1 95 19) - 1)) 95 13 := lf_up_i (by omega)
    have b24 : (lf_up s.1 95 19 ((s.1 95 19) - 1)) 95 13 = s.1 95 13 := lf_up_i (by omega)
    have b25 : (lf_up (lf_up s.1 95 19 ((s.1 95 19) - 1)) 95 20 ((s.1 95 20) - 1)) 95 21 = (lf_up s.1 95 19 ((s.1 95 19) - 1)) 95 21 := lf_up_i (by omega)
    have b26 : (lf_up s.1 95 19 ((s.1 95 19) - 1)) 95 21 = s.1 95 21 := lf_up_i (by omega)
    have b27 : (lf_up (lf_up s.1 95 19 ((s.1 95 19) - 1)) 95 20 ((s.1 95 20) - 1)) 95 22 = (lf_up s.1 95 19 ((s.1 95 19) - 1)) 95 22 := lf_up_i (by omega)
    have b28 : (lf_up s.1 95 19 ((s.1 95 19) - 1)) 95 22 = s.1 95 22 := lf_up_i (by omega)
    have b29 : (lf_up (lf_up s.1 95 19 ((s.1 95 19) - 1)) 95 20 ((s.1 95 20) - 1)) 95 8 = (lf_up s.1 95 19 ((s.1 95 19) - 1)) 95 8 := lf_up_i (by omega)
    have b30 : (lf_up s.1 95 19 ((s.1 95 19) - 1)) 95 8 = s.1 95 8 := lf_up_i (by omega)
    have b31 : 0 ≤ s.1 95 7 ∧ s.1 95 7 ≤ 300 := (show 0 ≤ (lf_up (lf_up s.1 95 19 ((s.1 95 19) - 1)) 95 20 ((s.1 95 20) - 1)) 95 7 ∧ (lf_up (lf_up s.1 95 19 ((s.1 95 19) - 1)) 95 20 ((s.1 95 20) - 1)) 95 7 ≤ 300 from iv_r95_7 hI18)
    have b32 : (lf_up (lf_up s.1 95 19 ((s.1 95 19) - 1)) 95 20 ((s.1 95 20) - 1)) 95 7 = (lf_up s.1 95 19 ((s.1 95 19) - 1)) 95 7 := lf_up_i (by omega)
    have b33 : (lf_up s.1 95 19 ((s.1 95 19) - 1)) 95 7 = s.1 95 7 := lf_up_i (by omega)
    have b34 : (-2147483648) ≤ s.1 95 9 ∧ s.1 95 9 ≤ 2147483647 := (show (-2147483648) ≤ (lf_up (lf_up s.1 95 19 ((s.1 95 19) - 1)) 95 20 ((s.1 95 20) - 1)) 95 9 ∧ (lf_up (lf_up s.1 95 19 ((s.1 95 19) - 1)) 95 20 ((s.1 95 20) - 1)) 95 9 ≤ 2147483647 from iv_full hI18)
    have b35 : (lf_up (lf_up s.1 95 19 ((s.1 95 19) - 1)) 95 20 ((s.1 95 20) - 1)) 95 9 = (lf_up s.1 95 19 ((s.1 95 19) - 1)) 95 9 := lf_up_i (by omega)
    have b36 : (lf_up s.1 95 19 ((s.1 95 19) - 1)) 95 9 = s.1 95 9 := lf_up_i (by omega)
    have b37 : 0 ≤ s.1 95 23 ∧ s.1 95 23 ≤ 1 := (show 0 ≤ (lf_up (lf_up s.1 95 19 ((s.1 95 19) - 1)) 95 20 ((s.1 95 20) - 1)) 95 23 ∧ (lf_up (lf_up s.1 95 19 ((s.1 95 19) - 1)) 95 20 ((s.1 95 20) - 1)) 95 23 ≤ 1 from iv_r95_23 hI18)
    have b38 : (lf_up (lf_up s.1 95 19 ((s.1 95 19) - 1)) 95 20 ((s.1 95 20) - 1)) 95 23 = (lf_up s.1 95 19 ((s.1 95 19) - 1)) 95 23 := lf_up_i (by omega)
    have b39 : (lf_up s.1 95 19 ((s.1 95 19) - 1)) 95 23 = s.1 95 23 := lf_up_i (by omega)
    have b40 : pz_Y ((s.1 100)) ((s.1 98)) ((s.1 95 12)) ((s.1 95 13)) (((s.1 95 19) - 1)) (((s.1 95 20) - 1)) ((s.1 95 21) - pz_vl a1) ((s.1 95 22)) ((s.1 95 8)) (s.1 98 (s.1 95 12)) (1) (0) := by first | exact pz_cg (show (s.1 100) = s.1 100 from hI.1 100 rfl) hI (pz_Ys43 kp0 (by omega) (by omega)) (by omega) (by omega) (by omega) (by omega) (by omega) (by omega) (by omega) rfl rfl rfl | exact pz_cg rfl rfl (pz_Ys kp0 (by omega) (by omega)) (by omega) (by omega) (by omega) (by omega) (by omega) (by omega) (by omega) rfl rfl rfl
    exact sm_228_p32 (s0 := s) (fun t9 i9 f9 => hQ t9 i9 (lf_fq_tr fr19 f9)) hI18 (show (-1 : Int) ≤ a1 ∧ a1 ≤ (45 : Int) from by omega) (show pz_Y ((s.1 100)) ((s.1 98)) ((s.1 95 12)) ((s.1 95 13)) (((s.1 95 19) - 1)) (((s.1 95 20) - 1)) ((s.1 95 21) - pz_vl a1) ((s.1 95 22)) ((s.1 95 8)) (s.1 98 (s.1 95 12)) (1) (0) from by first | with_reducible assumption | assumption) (show a1 = 40 ∨ a1 = 43 ∨ a1 = 45 from by omega) (show a1 ≠ 45 ∨ 1 ≤ (s.1 95 21) from by omega) (show (s.1 95 7) = s.1 95 7 ∧ (s.1 95 8) = s.1 95 8 ∧ (s.1 95 9) = s.1 95 9 ∧ (s.1 95 12) = s.1 95 12 ∧ (s.1 95 22) = s.1 95 22 ∧ (s.1 95 23) = s.1 95 23 from by omega)
  · skip
    replace c20 : ¬ (a1 ≠ 43) := c20
    have b73 : (lf_up (lf_up s.1 95 19 ((s.1 95 19) - 1)) 95 20 ((s.1 95 20) - 1)) 95 12 = (lf_up s.1 95 19 ((s.1 95 19) - 1)) 95 12 := lf_up_i (by omega)
    have b74 : (lf_up s.1 95 19 ((s.1 95 19) - 1)) 95 12 = s.1 95 12 := lf_up_i (by omega)
    have b75 : (lf_up (lf_up s.1 95 19 ((s.1 95 19) - 1)) 95 20 ((s.1 95 20) - 1)) 95 13 = (lf_up s.1 95 19 ((s.1 95 19) - 1)) 95 13 := lf_up_i (by omega)
    have b76 : (lf_up s.1 95 19 ((s.1 95 19) - 1)) 95 13 = s.1 95 13 := lf_up_i (by omega)
    refine sm_225 hI18 (show (0 : Int) ≤ 2 ∧ 2 ≤ (45 : Int) from by omega) (show (-2147483648 : Int) ≤ 0 ∧ 0 ≤ (2147483647 : Int) from by omega) (show wk_E ((s.1 98)) ((s.1 95 12)) ((s.1 95 13)) from by first | with_reducible assumption | assumption) (show (s.1 95 13) ≤ 303 from by omega) (fun s25 hI72 fr71 ps78 ps79 => ?_)
    replace ps78 : s25.1 98 = pz_em ((s.1 98)) ((s.1 95 12) + 97 + 2 * (s.1 95 13)) 2 0 := ps78
    replace ps79 : s25.1 95 13 = (s.1 95 13) + 1 ∧ s25.1 95 7 = (s.1 95 7) ∧ s25.1 95 8 = (s.1 95 8) ∧ s25.1 95 9 = (s.1 95 9) ∧ s25.1 95 12 = (s.1 95 12) ∧ s25.1 95 19 = ((s.1 95 19) - 1) ∧ s25.1 95 20 = ((s.1 95 20) - 1) ∧ s25.1 95 21 = (s.1 95 21) ∧ s25.1 95 22 = (s.1 95 22) ∧ s25.1 95 23 = (s.1 95 23) := ps79
    have fr80 : lf_fq [95, 98, 103] 1000000 true s.1 s.2.2 s25.1 s25.2.2 := lf_fq_tr fr19 (lf_fq_wk fr71 rfl (by decide) (by decide))
    have b81 : 0 ≤ s25.1 95 12 ∧ s25.1 95 12 ≤ 2115 := iv_r95_12 hI72
    have b82 : 0 ≤ s25.1 95 13 ∧ s25.1 95 13 ≤ 304 := iv_r95_13 hI72
    have b83 : 0 ≤ s25.1 95 19 ∧ s25.1 95 19 ≤ 160 := iv_r95_19 hI72
    have b84 : 0 ≤ s25.1 95 20 ∧ s25.1 95 20 ≤ 8 := iv_r95_20 hI72
    have b85 : 0 ≤ s25.1 95 21 ∧ s25.1 95 21 ≤ 8 := iv_r95_21 hI72
    have b86 : 0 ≤ s25.1 95 22 ∧ s25.1 95 22 ≤ 80 := iv_r95_22 hI72
    have b87 : 0 ≤ s25.1 95 8 ∧ s25.1 95 8 ≤ 300 := iv_r95_8 hI72
    have b88 : 0 ≤ s25.1 95 7 ∧ s25.1 95 7 ≤ 300 := iv_r95_7 hI72
    have b89 : (-2147483648) ≤ s25.1 95 9 ∧ s25.1 95 9 ≤ 2147483647 := iv_full hI72
    have b90 : 0 ≤ s25.1 95 23 ∧ s25.1 95 23 ≤ 1 := iv_r95_23 hI72
    have b91 : pz_Y ((s25.1 100)) ((s25.1 98)) ((s25.1 95 12)) ((s25.1 95 13)) ((s25.1 95 19)) ((s25.1 95 20)) ((s25.1 95 21) - pz_vl a1) ((s25.1 95 22)) ((s25.1 95 8)) (s.1 98 (s.1 95 12)) (1) (0) := by first | exact pz_cg (show (s25.1 100) = s.1 100 from fr71.1 100 rfl) ps78 (pz_Ys43 kp0 (by omega) (by omega)) (by omega) (by omega) (by omega) (by omega) (by omega) (by omega) (by omega) rfl rfl rfl | exact pz_cg rfl rfl (pz_Ys kp0 (by omega) (by omega)) (by omega) (by omega) (by omega) (by omega) (by omega) (by omega) (by omega) rfl rfl rfl
    exact sm_228_p32 (s0 := s) (fun t9 i9 f9 => hQ t9 i9 (lf_fq_tr fr80 f9)) hI72 (show (-1 : Int) ≤ a1 ∧ a1 ≤ (45 : Int) from by omega) (show pz_Y ((s25.1 100)) ((s25.1 98)) ((s25.1 95 12)) ((s25.1 95 13)) ((s25.1 95 19)) ((s25.1 95 20)) ((s25.1 95 21) - pz_vl a1) ((s25.1 95 22)) ((s25.1 95 8)) (s.1 98 (s.1 95 12)) (1) (0) from by first | with_reducible assumption | assumption) (show a1 = 40 ∨ a1 = 43 ∨ a1 = 45 from by omega) (show a1 ≠ 45 ∨ 1 ≤ (s25.1 95 21) from by omega) (show (s25.1 95 7) = s.1 95 7 ∧ (s25.1 95 8) = s.1 95 8 ∧ (s25.1 95 9) = s.1 95 9 ∧ (s25.1 95 12) = s.1 95 12 ∧ (s25.1 95 22) = s.1 95 22 ∧ (s25.1 95 23) = s.1 95 23 from by omega)
-- fm_227 Model.bind 95
theorem sm_227 {Q : lf_Z → Prop} {s : lf_Z} (hI : iv_A s.1 s.2.2) (kp0 : pz_B (s.1 100) (s.1 98) (s.1 95 12) (s.1 95 13) (s.1 95 19) (s.1 95 20) (s.1 95 21) (s.1 95 22) (s.1 95 8) (s.1 98 (s.1 95 12))) (hQ : ∀  (s' : lf_Z), iv_A s'.1 s'.2.2 → lf_fq [95, 98, 102, 103] 1000000 true s.1 s.2.2 s'.1 s'.2.2 → (pz_Y (s'.1 100) (s'.1 98) (s'.1 95 12) (s'.1 95 13) (s'.1 95 19) (s'.1 95 20) (s'.1 95 21) (s'.1 95 22) (s.1 95 8 + 1) (s.1 98 (s.1 95 12)) (0) (0)) → (s'.1 95 7 = s.1 95 7 ∧ s'.1 95 8 = s.1 95 8 ∧ s'.1 95 9 = s.1 95 9 ∧ s'.1 95 12 = s.1 95 12 ∧ s'.1 95 19 = s.1 95 19 ∧ s'.1 95 20 = s.1 95 20 ∧ s'.1 95 21 = s.1 95 21 ∧ s'.1 95 23 = s.1 95 23) → Q  s') : fm_227 Q s := by
  unfold fm_227
  have b1 : 0 ≤ s.1 95 21 ∧ s.1 95 21 ≤ 8 := iv_r95_21 hI
  have b2 : 0 ≤ s.1 95 20 ∧ s.1 95 20 ≤ 8 := iv_r95_20 hI
  have b3 : 0 ≤ s.1 95 19 ∧ s.1 95 19 ≤ 160 := iv_r95_19 hI
  have b4 : 0 ≤ s.1 95 13 ∧ s.1 95 13 ≤ 304 := iv_r95_13 hI
  have b5 : 0 ≤ s.1 95 8 ∧ s.1 95 8 ≤ 300 := iv_r95_8 hI
  have b6 : 0 ≤ s.1 95 22 ∧ s.1 95 22 ≤ 80 := iv_r95_22 hI
  have b7 : 0 ≤ s.1 95 12 ∧ s.1 95 12 ≤ 2115 := iv_r95_12 hI
  have b8 : 1 ≤ (s.1 95 21) ∧ (s.1 95 21) ≤ (s.1 95 20) ∧ 0 < (s.1 95 19) ∧ (s.1 95 19) ≤ 6 * (s.1 95 20) + 5 ∧ 0 ≤ (s.1 95 13) ∧ (s.1 95 13) + (s.1 95 19) ≤ (s.1 95 8) ∧ 4 * (s.1 95 22) + 3 ≤ (s.1 95 8) ∧ (s.1 98) ((s.1 95 12)) = (s.1 98) ((s.1 95 12)) ∧ 0 ≤ (s.1 98) ((s.1 95 12)) ∧ (s.1 98) ((s.1 95 12)) < 24 ∧ ((s.1 95 12) = 0 ∨ (s.1 95 12) = 705 ∨ (s.1 95 12) = 1410 ∨ (s.1 95 12) = 2115) := pz_Bn kp0
  have b9 : wk_E ((s.1 98)) ((s.1 95 12)) ((s.1 95 13)) := pz_BE kp0
  refine ⟨(show (0 : Int) ≤ (s.1 95 21) - 1 ∧ (s.1 95 21) - 1 < (10 : Int) from by omega), ?_⟩
  have b10 : 0 ≤ s.1 101 ((s.1 95 21) - 1) ∧ s.1 101 ((s.1 95 21) - 1) ≤ 25 := iv_r101 hI _
  refine ⟨(show (0 : Int) ≤ s.1 101 ((s.1 95 21) - 1) ∧ s.1 101 ((s.1 95 21) - 1) < (26 : Int) from by omega), ?_⟩
  have b11 : (-1) ≤ s.1 103 (s.1 101 ((s.1 95 21) - 1)) ∧ s.1 103 (s.1 101 ((s.1 95 21) - 1)) ≤ 79 := iv_r103 hI _
  have hI12 : iv_A (lf_up s.1 102 ((s.1 95 21) - 1) (s.1 103 (s.1 101 ((s.1 95 21) - 1)))) s.2.2 := iv_w102 hI (by omega)
  have fr13 : lf_fq [95, 98, 102, 103] 1000000 true s.1 s.2.2 (lf_up s.1 102 ((s.1 95 21) - 1) (s.1 103 (s.1 101 ((s.1 95 21) - 1)))) s.2.2 := lf_fq_up (lf_fq_rf) rfl (fun h => absurd h (by decide))
  have hI14 : iv_A (lf_up (lf_up s.1 102 ((s.1 95 21) - 1) (s.1 103 (s.1 101 ((s.1 95 21) - 1)))) 103 (s.1 101 ((s.1 95 21) - 1)) (s.1 95 22)) s.2.2 := iv_w103 hI12 (by omega)
  have fr15 : lf_fq [95, 98, 102, 103] 1000000 true s.1 s.2.2 (lf_up (lf_up s.1 102 ((s.1 95 21) - 1) (s.1 103 (s.1 101 ((s.1 95 21) - 1)))) 103 (s.1 101 ((s.1 95 21) - 1)) (s.1 95 22)) s.2.2 := lf_fq_up fr13 rfl (fun h => absurd h (by decide))
  refine sm_225 hI14 (show (0 : Int) ≤ 30 ∧ 30 ≤ (45 : Int) from by omega) (show (-2147483648 : Int) ≤ s.1 95 22 ∧ s.1 95 22 ≤ (2147483647 : Int) from by omega) (show wk_E ((s.1 98)) ((s.1 95 12)) ((s.1 95 13)) from by first | with_reducible assumption | assumption) (show (s.1 95 13) ≤ 303 from by omega) (fun s23 hI17 fr16 ps19 ps20 => ?_)
  replace ps19 : s23.1 98 = pz_em ((s.1 98)) ((s.1 95 12) + 97 + 2 * (s.1 95 13)) 30 (s.1 95 22) := ps19
  replace ps20 : s23.1 95 13 = (s.1 95 13) + 1 ∧ s23.1 95 7 = (s.1 95 7) ∧ s23.1 95 8 = (s.1 95 8) ∧ s23.1 95 9 = (s.1 95 9) ∧ s23.1 95 12 = (s.1 95 12) ∧ s23.1 95 19 = (s.1 95 19) ∧ s23.1 95 20 = (s.1 95 20) ∧ s23.1 95 21 = (s.1 95 21) ∧ s23.1 95 22 = (s.1 95 22) ∧ s23.1 95 23 = (s.1 95 23) := ps20
  have fr21 : lf_fq [95, 98, 102, 103] 1000000 true s.1 s.2.2 s23.1 s23.2.2 := lf_fq_tr fr15 (lf_fq_wk fr16 rfl (by decide) (by decide))
  have b22 : 0 ≤ s23.1 95 12 ∧ s23.1 95 12 ≤ 2115 := iv_r95_12 hI17
  have b23 : 0 ≤ s23.1 95 13 ∧ s23.1 95 13 ≤ 304 := iv_r95_13 hI17
  have b24 : 0 ≤ s23.1 95 19 ∧ s23.1 95 19 ≤ 160 := iv_r95_19 hI17
  have b25 : 0 ≤ s23.1 95 20 ∧ s23.1 95 20 ≤ 8 := iv_r95_20 hI17
  have b26 : 0 ≤ s23.1 95 21 ∧ s23.1 95 21 ≤ 8 := iv_r95_21 hI17
  have b27 : 0 ≤ s23.1 95 22 ∧ s23.1 95 22 ≤ 80 := iv_r95_22 hI17
  have b28 : pz_Y ((s23.1 100)) ((s23.1 98)) ((s23.1 95 12)) ((s23.1 95 13)) ((s23.1 95 19)) ((s23.1 95 20)) ((s23.1 95 21)) ((s23.1 95 22) + 1) (s.1 95 8 + 1) (s.1 98 (s.1 95 12)) 0 0 := pz_cg (fr16.1 100 rfl) ps19 (pz_Bb kp0 (by omega)) (by omega) (by omega) (by omega) (by omega) (by omega) (by omega) (Int.le_refl _) rfl rfl rfl
  have hI29 : iv_A (lf_up s23.1 95 22 ((s23.1 95 22) + 1)) s23.2.2 := iv_w95_22 hI17 (by omega)
  have fr30 : lf_fq [95, 98, 102, 103] 1000000 true s.1 s.2.2 (lf_up s23.1 95 22 ((s23.1 95 22) + 1)) s23.2.2 := lf_fq_up fr21 rfl (fun h => absurd h (by decide))
  exact hQ (lf_up s23.1 95 22 ((s23.1 95 22) + 1), s23.2.1, s23.2.2) hI29 fr30 (show pz_Y ((s23.1 100)) ((s23.1 98)) ((s23.1 95 12)) ((s23.1 95 13)) ((s23.1 95 19)) ((s23.1 95 20)) ((s23.1 95 21)) (((s23.1 95 22) + 1)) (s.1 95 8 + 1) (s.1 98 (s.1 95 12)) (0) (0) from by first | with_reducible assumption | assumption) (show (s23.1 95 7) = s.1 95 7 ∧ (s23.1 95 8) = s.1 95 8 ∧ (s23.1 95 9) = s.1 95 9 ∧ (s23.1 95 12) = s.1 95 12 ∧ (s23.1 95 19) = s.1 95 19 ∧ (s23.1 95 20) = s.1 95 20 ∧ (s23.1 95 21) = s.1 95 21 ∧ (s23.1 95 23) = s.1 95 23 from by omega)
-- fm_217 Model.behindOne 95
theorem sm_217_p99 {Q : Bool → lf_Z → Prop} {s : lf_Z} {s0 : lf_Z} (hQ : ∀ (z : Bool) (s' : lf_Z), iv_A s'.1 s'.2.2 → lf_fq [95, 98, 100, 102, 103] 1000000 true s.1 s.2.2 s'.1 s'.2.2 → (z = true → pz_Y (s'.1 100) (s'.1 98) (s'.1 95 12) (s'.1 95 13) (s'.1 95 19) (s'.1 95 20) (s'.1 95 21) (s'.1 95 22) (s'.1 95 8) (s0.1 98 (s0.1 95 12)) (s'.1 95 23) (0)) → (z = true → (s0.1 95 8 < s'.1 95 8 ∧ (s'.1 95 9 = 0 ∨ s'.1 95 8 < s'.1 95 7))) → (z = false → pz_Y (s'.1 100) (s'.1 98) (s'.1 95 12) (s'.1 95 13) (s'.1 95 19) (s'.1 95 20) (s'.1 95 21) (s'.1 95 22) (s'.1 95 8) (s0.1 98 (s0.1 95 12)) (1) (0)) → (s'.1 95 12 = s0.1 95 12) → (z = false → (s'.1 95 8 = s0.1 95 8 ∧ s'.1 95 7 = s0.1 95 7 ∧ s'.1 95 9 = s0.1 95 9)) → Q z s') (hI : iv_A s.1 s.2.2) (kv0 : pz_Y (s.1 100) (s.1 98) (s.1 95 12) (s.1 95 13) (s.1 95 19) (s.1 95 20) (s.1 95 21) (s.1 95 22) (s.1 95 8 + 1) (s0.1 98 (s0.1 95 12)) (0) (0)) (kv1 : s.1 95 9 ≠ 0 ∧ s.1 95 8 < s.1 95 7) (kv2 : s.1 95 23 = 0) (kv3 : s.1 95 8 = s0.1 95 8 ∧ s.1 95 12 = s0.1 95 12) : fm_217_p99 Q s := by
  unfold fm_217_p99
  refine sm_197 hI (fun s36 hI116 fr115 ps118 ps119 => ?_)
  replace ps118 : (s.1 95 7) ≤ s36.1 95 8 ∧ (s36.1 95 9 = 0 ∨ s36.1 95 8 < s36.1 95 7) := ps118
  replace ps119 : s36.1 95 12 = (s.1 95 12) ∧ s36.1 95 13 = (s.1 95 13) ∧ s36.1 95 19 = (s.1 95 19) ∧ s36.1 95 20 = (s.1 95 20) ∧ s36.1 95 21 = (s.1 95 21) ∧ s36.1 95 22 = (s.1 95 22) ∧ s36.1 95 23 = (s.1 95 23) := ps119
  have fr120 : lf_fq [95, 98, 100, 102, 103] 1000000 true s.1 s.2.2 s36.1 s36.2.2 := lf_fq_tr (lf_fq_rf) (lf_fq_wk fr115 rfl (by decide) (by decide))
  have b121 : 0 ≤ s36.1 95 12 ∧ s36.1 95 12 ≤ 2115 := iv_r95_12 hI116
  have b122 : 0 ≤ s36.1 95 13 ∧ s36.1 95 13 ≤ 304 := iv_r95_13 hI116
  have b123 : 0 ≤ s36.1 95 19 ∧ s36.1 95 19 ≤ 160 := iv_r95_19 hI116
  have b124 : 0 ≤ s36.1 95 20 ∧ s36.1 95 20 ≤ 8 := iv_r95_20 hI116
  have b125 : 0 ≤ s36.1 95 21 ∧ s36.1 95 21 ≤ 8 := iv_r95_21 hI116
  have b126 : 0 ≤ s36.1 95 22 ∧ s36.1 95 22 ≤ 80 := iv_r95_22 hI116
  have b127 : 0 ≤ s36.1 95 8 ∧ s36.1 95 8 ≤ 300 := iv_r95_8 hI116
  have b128 : 0 ≤ s36.1 95 23 ∧ s36.1 95 23 ≤ 1 := iv_r95_23 hI116
  have b129 : pz_Y ((s36.1 100)) ((s36.1 98)) ((s36.1 95 12)) ((s36.1 95 13)) ((s36.1 95 19)) ((s36.1 95 20)) ((s36.1 95 21)) ((s36.1 95 22)) ((s36.1 95 8)) (s0.1 98 (s0.1 95 12)) ((s36.1 95 23)) (0) := pz_cg (fr115.1 100 rfl) (fr115.1 98 rfl) kv0 (by omega) (by omega) (by omega) (by omega) (by omega) (by omega) (by omega) (by omega) (by omega) rfl
  exact hQ true s36 hI116 fr120 (show true = true → pz_Y ((s36.1 100)) ((s36.1 98)) ((s36.1 95 12)) ((s36.1 95 13)) ((s36.1 95 19)) ((s36.1 95 20)) ((s36.1 95 21)) ((s36.1 95 22)) ((s36.1 95 8)) (s0.1 98 (s0.1 95 12)) ((s36.1 95 23)) (0) from fun _ => by first | with_reducible assumption | assumption) (show true = true → (s0.1 95 8 < (s36.1 95 8) ∧ ((s36.1 95 9) = 0 ∨ (s36.1 95 8) < (s36.1 95 7))) from fun _ => by omega) (show true = false → pz_Y ((s36.1 100)) ((s36.1 98)) ((s36.1 95 12)) ((s36.1 95 13)) ((s36.1 95 19)) ((s36.1 95 20)) ((s36.1 95 21)) ((s36.1 95 22)) ((s36.1 95 8)) (s0.1 98 (s0.1 95 12)) (1) (0) from fun h => by cases h) (show (s36.1 95 12) = s0.1 95 12 from by omega) (show true = false → ((s36.1 95 8) = s0.1 95 8 ∧ (s36.1 95 7) = s0.1 95 7 ∧ (s36.1 95 9) = s0.1 95 9) from fun h => by cases h)
theorem sm_217 {Q : Bool → lf_Z → Prop} {s : lf_Z} (hI : iv_A s.1 s.2.2) (kp0 : pz_Y (s.1 100) (s.1 98) (s.1 95 12) (s.1 95 13) (s.1 95 19) (s.1 95 20) (s.1 95 21) (s.1 95 22) (s.1 95 8) (s.1 98 (s.1 95 12)) (1) (0)) (kp1 : s.1 95 9 = 0 ∨ s.1 95 8 < s.1 95 7) (kp2 : s.1 95 23 = 1) (hQ : ∀ (z : Bool) (s' : lf_Z), iv_A s'.1 s'.2.2 → lf_fq [95, 98, 100, 102, 103] 1000000 true s.1 s.2.2 s'.1 s'.2.2 → (z = true → pz_Y (s'.1 100) (s'.1 98) (s'.1 95 12) (s'.1 95 13) (s'.1 95 19) (s'.1 95 20) (s'.1 95 21) (s'.1 95 22) (s'.1 95 8) (s.1 98 (s.1 95 12)) (s'.1 95 23) (0)) → (z = true → (s.1 95 8 < s'.1 95 8 ∧ (s'.1 95 9 = 0 ∨ s'.1 95 8 < s'.1 95 7))) → (z = false → pz_Y (s'.1 100) (s'.1 98) (s'.1 95 12) (s'.1 95 13) (s'.1 95 19) (s'.1 95 20) (s'.1 95 21) (s'.1 95 22) (s'.1 95 8) (s.1 98 (s.1 95 12)) (1) (0)) → (s'.1 95 12 = s.1 95 12) → (z = false → (s'.1 95 8 = s.1 95 8 ∧ s'.1 95 7 = s.1 95 7 ∧ s'.1 95 9 = s.1 95 9)) → Q z s') : fm_217 Q s := sorry
-- fm_216 Model.summed 95
set_option maxHeartbeats 8000000 in
theorem sm_216_p46 {X46 : lf_Z → Prop} {Q : Int → lf_Z → Prop} {s : lf_Z} {s0 : lf_Z} (hQ : ∀ (r : Int) (s' : lf_Z), iv_A s'.1 s'.2.2 → lf_fq [95, 98, 100, 101, 102, 103] 1000000 true s.1 s.2.2 s'.1 s'.2.2 → (r = 0 → pz_Y (s'.1 100) (s'.1 98) (s'.1 95 12) (s'.1 95 13) (s'.1 95 19) (s'.1 95 20) (s'.1 95 21) (s'.1 95 22) (s'.1 95 8) (s0.1 98 (s0.1 95 12)) (1) (0)) → (r = 0 → (s0.1 95 8 ≤ s'.1 95 8 ∧ (s'.1 95 9 = 0 ∨ s'.1 95 8 < s'.1 95 7))) → (pz_H (s'.1 98) (s'.1 95 12) (s0.1 98 (s0.1 95 12))) → (s'.1 95 12 = s0.1 95 12) → (0 ≤ r ∧ r ≤ 5) → Q r s') {M46 : Nat} (hX46 : ∀ (s' : lf_Z), iv_A s'.1 s'.2.2 → lf_fq [95, 98, 100, 101, 102, 103] 1000000 true s.1 s.2.2 s'.1 s'.2.2 → (pz_Y (s'.1 100) (s'.1 98) (s'.1 95 12) (s'.1 95 13) (s'.1 95 19) (s'.1 95 20) (s'.1 95 21) (s'.1 95 22) (s'.1 95 8) (s0.1 98 (s0.1 95 12)) (s'.1 95 23) (0)) → (s'.1 95 9 = 0 ∨ s'.1 95 8 < s'.1 95 7) → (s'.1 95 12 = s0.1 95 12 ∧ s0.1 95 8 ≤ s'.1 95 8) → (301 - s'.1 95 8).toNat < M46 → X46 s') (hM46 : (301 - s.1 95 8).toNat ≤ M46) (hI : iv_A s.1 s.2.2) (kv0 : pz_Y (s.1 100) (s.1 98) (s.1 95 12) (s.1 95 13) (s.1 95 19) (s.1 95 20) (s.1 95 21) (s.1 95 22) (s.1 95 8) (s0.1 98 (s0.1 95 12)) (s.1 95 23) (0)) (kv1 : s.1 95 9 = 0 ∨ s.1 95 8 < s.1 95 7) (kv2 : s.1 95 12 = s0.1 95 12 ∧ s0.1 95 8 ≤ s.1 95 8) : fm_216_p46 Q X46 s := by
  unfold fm_216_p46
  have b55 : 0 ≤ s.1 95 12 ∧ s.1 95 12 ≤ 2115 := iv_r95_12 hI
  have b56 : (s.1 98) ((s.1 95 12)) = s0.1 98 (s0.1 95 12) := kv0.2.2.2
  have b57 : 0 ≤ s.1 95 8 ∧ s.1 95 8 ≤ 300 := iv_r95_8 hI
  have b58 : (s.1 95 8) ≤ 300 := (iv_r95_8 hI).2
  have b59 : 0 ≤ s.1 95 23 ∧ s.1 95 23 ≤ 1 := iv_r95_23 hI
  refine ⟨(show lf_R (s.1 95 23) from lf_Rof (by omega)), ?_⟩
  refine ⟨fun c60 => ?_, fun c60 => ?_⟩
  · skip
    replace c60 : s.1 95 23 = 0 := c60
    have b61 : 0 ≤ s.1 95 13 ∧ s.1 95 13 ≤ 304 := iv_r95_13 hI
    have b62 : 0 ≤ s.1 95 19 ∧ s.1 95 19 ≤ 160 := iv_r95_19 hI
    have b63 : 0 ≤ s.1 95 20 ∧ s.1 95 20 ≤ 8 := iv_r95_20 hI
    have b64 : 0 ≤ s.1 95 21 ∧ s.1 95 21 ≤ 8 := iv_r95_21 hI
    have b65 : 0 ≤ s.1 95 22 ∧ s.1 95 22 ≤ 80 := iv_r95_22 hI
    have b66 : pz_Y ((s.1 100)) ((s.1 98)) ((s.1 95 12)) ((s.1 95 13)) ((s.1 95 19)) ((s.1 95 20)) ((s.1 95 21)) ((s.1 95 22)) ((s.1 95 8)) ((s.1 98) ((s.1 95 12))) (0) (0) := pz_Ym (pz_cg rfl rfl kv0 rfl rfl rfl rfl rfl rfl (Int.le_refl _) rfl (by omega) rfl)
    have b69 : (-2147483648) ≤ s.1 95 9 ∧ s.1 95 9 ≤ 2147483647 := iv_full hI
    have b70 : 0 ≤ s.1 95 7 ∧ s.1 95 7 ≤ 300 := iv_r95_7 hI
    refine sm_229 hI (show pz_Y ((s.1 100)) ((s.1 98)) ((s.1 95 12)) ((s.1 95 13)) ((s.1 95 19)) ((s.1 95 20)) ((s.1 95 21)) ((s.1 95 22)) ((s.1 95 8)) ((s.1 98) ((s.1 95 12))) (0) (0) from by first | with_reducible assumption | assumption) (show (s.1 95 9) = 0 ∨ (s.1 95 8) < (s.1 95 7) from by omega) (show (s.1 95 23) = 0 from by omega) (fun r24 s23 hI68 fr67 ps72 ps73 ps74 ps75 q71 => ?_)
    replace ps72 : r24 = 0 → pz_Y (s23.1 100) (s23.1 98) (s23.1 95 12) (s23.1 95 13) (s23.1 95 19) (s23.1 95 20) (s23.1 95 21) (s23.1 95 22) (s23.1 95 8) ((s.1 98) ((s.1 95 12))) (s23.1 95 23) (0) := ps72
    replace ps73 : r24 = 0 → ((s.1 95 8) < s23.1 95 8 ∧ (s23.1 95 9 = 0 ∨ s23.1 95 8 < s23.1 95 7)) := ps73
    replace ps74 : pz_H (s23.1 98) (s23.1 95 12) ((s.1 98) ((s.1 95 12))) := ps74
    replace ps75 : s23.1 95 12 = (s.1 95 12) := ps75
    have fr76 : lf_fq [95, 98, 100, 101, 102, 103] 1000000 true s.1 s.2.2 s23.1 s23.2.2 := lf_fq_tr (lf_fq_rf) (lf_fq_wk fr67 rfl (by decide) (by decide))
    refine ⟨(show lf_R r24 from lf_Rof (by omega)), ?_⟩
    refine ⟨fun c77 => ?_, fun c77 => ?_⟩
    · skip
      replace c77 : r24 = 0 := c77
      have dps72 := ps72 c77
      have dps73 := ps73 c77
      have b78 : 0 ≤ s23.1 95 12 ∧ s23.1 95 12 ≤ 2115 := iv_r95_12 hI68
      have b79 : 0 ≤ s23.1 95 13 ∧ s23.1 95 13 ≤ 304 := iv_r95_13 hI68
      have b80 : 0 ≤ s23.1 95 19 ∧ s23.1 95 19 ≤ 160 := iv_r95_19 hI68
      have b81 : 0 ≤ s23.1 95 20 ∧ s23.1 95 20 ≤ 8 := iv_r95_20 hI68
      have b82 : 0 ≤ s23.1 95 21 ∧ s23.1 95 21 ≤ 8 := iv_r95_21 hI68
      have b83 : 0 ≤ s23.1 95 22 ∧ s23.1 95 22 ≤ 80 := iv_r95_22 hI68
      have b84 : 0 ≤ s23.1 95 8 ∧ s23.1 95 8 ≤ 300 := iv_r95_8 hI68
      have b85 : 0 ≤ s23.1 95 23 ∧ s23.1 95 23 ≤ 1 := iv_r95_23 hI68
      have b86 : pz_Y ((s23.1 100)) ((s23.1 98)) ((s23.1 95 12)) ((s23.1 95 13)) ((s23.1 95 19)) ((s23.1 95 20)) ((s23.1 95 21)) ((s23.1 95 22)) ((s23.1 95 8)) (s0.1 98 (s0.1 95 12)) ((s23.1 95 23)) (0) := pz_Yk (by first | with_reducible assumption | assumption) (by omega)
      have b87 : (s23.1 95 8) ≤ 300 := (iv_r95_8 hI68).2
      have b88 : (-2147483648) ≤ s23.1 95 9 ∧ s23.1 95 9 ≤ 2147483647 := iv_full hI68
      have b89 : 0 ≤ s23.1 95 7 ∧ s23.1 95 7 ≤ 300 := iv_r95_7 hI68
      exact hX46  s23 hI68 fr76 (show pz_Y ((s23.1 100)) ((s23.1 98)) ((s23.1 95 12)) ((s23.1 95 13)) ((s23.1 95 19)) ((s23.1 95 20)) ((s23.1 95 21)) ((s23.1 95 22)) ((s23.1 95 8)) (s0.1 98 (s0.1 95 12)) ((s23.1 95 23)) (0) from by first | with_reducible assumption | assumption) (show (s23.1 95 9) = 0 ∨ (s23.1 95 8) < (s23.1 95 7) from by omega) (show (s23.1 95 12) = s0.1 95 12 ∧ s0.1 95 8 ≤ (s23.1 95 8) from by omega) (show (301 - (s23.1 95 8)).toNat < M46 from by omega)
    · skip
      replace c77 : ¬ (r24 = 0) := c77
      have b90 : 0 ≤ s23.1 95 12 ∧ s23.1 95 12 ≤ 2115 := iv_r95_12 hI68
      have b91 : pz_H ((s23.1 98)) ((s23.1 95 12)) (s0.1 98 (s0.1 95 12)) := by first | exact pz_YH (show pz_Y ((s23.1 100)) ((s23.1 98)) ((s23.1 95 12)) ((s23.1 95 13)) ((s23.1 95 19)) ((s23.1 95 20)) ((s23.1 95 21)) ((s23.1 95 22)) ((s23.1 95 8)) (s0.1 98 (s0.1 95 12)) (1) (0) from by first | with_reducible assumption | assumption) | exact pz_cH rfl ps74 rfl (by omega)
      exact hQ r24 s23 hI68 fr76 (show r24 = 0 → pz_Y ((s23.1 100)) ((s23.1 98)) ((s23.1 95 12)) ((s23.1 95 13)) ((s23.1 95 19)) ((s23.1 95 20)) ((s23.1 95 21)) ((s23.1 95 22)) ((s23.1 95 8)) (s0.1 98 (s0.1 95 12)) (1) (0) from by first | with_reducible assumption | omega) (show r24 = 0 → (s0.1 95 8 ≤ (s23.1 95 8) ∧ ((s23.1 95 9) = 0 ∨ (s23.1 95 8) < (s23.1 95 7))) from by first | with_reducible assumption | omega) (show pz_H ((s23.1 98)) ((s23.1 95 12)) (s0.1 98 (s0.1 95 12)) from by first | with_reducible assumption | assumption) (show (s23.1 95 12) = s0.1 95 12 from by omega) (show (0 : Int) ≤ r24 ∧ r24 ≤ (5 : Int) from by omega)
  · skip
    replace c60 : ¬ (s.1 95 23 = 0) := c60
    have b92 : 0 ≤ s.1 95 13 ∧ s.1 95 13 ≤ 304 := iv_r95_13 hI
    have b93 : 0 ≤ s.1 95 19 ∧ s.1 95 19 ≤ 160 := iv_r95_19 hI
    have b94 : 0 ≤ s.1 95 20 ∧ s.1 95 20 ≤ 8 := iv_r95_20 hI
    have b95 : 0 ≤ s.1 95 21 ∧ s.1 95 21 ≤ 8 := iv_r95_21 hI
    have b96 : 0 ≤ s.1 95 22 ∧ s.1 95 22 ≤ 80 := iv_r95_22 hI
    have b97 : pz_Y ((s.1 100)) ((s.1 98)) ((s.1 95 12)) ((s.1 95 13)) ((s.1 95 19)) ((s.1 95 20)) ((s.1 95 21)) ((s.1 95 22)) ((s.1 95 8)) ((s.1 98) ((s.1 95 12))) (1) (0) := pz_Ym (pz_cg rfl rfl kv0 rfl rfl rfl rfl rfl rfl (Int.le_refl _) rfl (by omega) rfl)
    have b100 : (-2147483648) ≤ s.1 95 9 ∧ s.1 95 9 ≤ 2147483647 := iv_full hI
    have b101 : 0 ≤ s.1 95 7 ∧ s.1 95 7 ≤ 300 := iv_r95_7 hI
    refine sm_217 hI (show pz_Y ((s.1 100)) ((s.1 98)) ((s.1 95 12)) ((s.1 95 13)) ((s.1 95 19)) ((s.1 95 20)) ((s.1 95 21)) ((s.1 95 22)) ((s.1 95 8)) ((s.1 98) ((s.1 95 12))) (1) (0) from by first | with_reducible assumption | assumption) (show (s.1 95 9) = 0 ∨ (s.1 95 8) < (s.1 95 7) from by omega) (show (s.1 95 23) = 1 from by omega) (fun z27 s26 hI99 fr98 ps103 ps104 ps105 ps106 ps107 => ?_)
    replace ps103 : z27 = true → pz_Y (s26.1 100) (s26.1 98) (s26.1 95 12) (s26.1 95 13) (s26.1 95 19) (s26.1 95 20) (s26.1 95 21) (s26.1 95 22) (s26.1 95 8) ((s.1 98) ((s.1 95 12))) (s26.1 95 23) (0) := ps103
    replace ps104 : z27 = true → ((s.1 95 8) < s26.1 95 8 ∧ (s26.1 95 9 = 0 ∨ s26.1 95 8 < s26.1 95 7)) := ps104
    replace ps105 : z27 = false → pz_Y (s26.1 100) (s26.1 98) (s26.1 95 12) (s26.1 95 13) (s26.1 95 19) (s26.1 95 20) (s26.1 95 21) (s26.1 95 22) (s26.1 95 8) ((s.1 98) ((s.1 95 12))) (1) (0) := ps105
    replace ps106 : s26.1 95 12 = (s.1 95 12) := ps106
    replace ps107 : z27 = false → (s26.1 95 8 = (s.1 95 8) ∧ s26.1 95 7 = (s.1 95 7) ∧ s26.1 95 9 = (s.1 95 9)) := ps107
    have fr108 : lf_fq [95, 98, 100, 101, 102, 103] 1000000 true s.1 s.2.2 s26.1 s26.2.2 := lf_fq_tr (lf_fq_rf) (lf_fq_wk fr98 rfl (by decide) (by decide))
    refine ⟨fun c109 => ?_, fun c109 => ?_⟩
    · skip
      have dps105 := ps105 c109
      have dps107 := ps107 c109
      have b110 : 0 ≤ s26.1 95 12 ∧ s26.1 95 12 ≤ 2115 := iv_r95_12 hI99
      have b111 : 0 ≤ s26.1 95 13 ∧ s26.1 95 13 ≤ 304 := iv_r95_13 hI99
      have b112 : 0 ≤ s26.1 95 19 ∧ s26.1 95 19 ≤ 160 := iv_r95_19 hI99
      have b113 : 0 ≤ s26.1 95 20 ∧ s26.1 95 20 ≤ 8 := iv_r95_20 hI99
      have b114 : 0 ≤ s26.1 95 21 ∧ s26.1 95 21 ≤ 8 := iv_r95_21 hI99
      have b115 : 0 ≤ s26.1 95 22 ∧ s26.1 95 22 ≤ 80 := iv_r95_22 hI99
      have b116 : 0 ≤ s26.1 95 8 ∧ s26.1 95 8 ≤ 300 := iv_r95_8 hI99
      have b117 : pz_Y ((s26.1 100)) ((s26.1 98)) ((s26.1 95 12)) ((s26.1 95 13)) ((s26.1 95 19)) ((s26.1 95 20)) ((s26.1 95 21)) ((s26.1 95 22)) ((s26.1 95 8)) (s0.1 98 (s0.1 95 12)) (1) (0) := pz_Yk (by first | with_reducible assumption | assumption) (by omega)
      refine sm_219 hI99 (fun r29 q118 => ?_)
      obtain ⟨q118, q118x⟩ := q118
      replace q118x : r29 = pz_op (s26.1 100) (s26.1 95 19) := q118x
      refine ⟨(show lf_R r29 from lf_Rof (by omega)), ?_⟩
      refine ⟨fun c119 => ?_, fun c119 => ?_⟩
      · skip
        replace c119 : r29 < 0 := c119
        have b120 : (s26.1 98) ((s26.1 95 12)) = s0.1 98 (s0.1 95 12) := (show pz_Y ((s26.1 100)) ((s26.1 98)) ((s26.1 95 12)) ((s26.1 95 13)) ((s26.1 95 19)) ((s26.1 95 20)) ((s26.1 95 21)) ((s26.1 95 22)) ((s26.1 95 8)) (s0.1 98 (s0.1 95 12)) (1) (0) from by first | with_reducible assumption | assumption).2.2.2
        have b121 : pz_W ((s26.1 100)) ((s26.1 98)) ((s26.1 95 12)) ((s26.1 95 13)) ((s26.1 95 19)) ((s26.1 95 20)) ((s26.1 95 21)) ((s26.1 95 22)) ((s26.1 95 8)) ((s26.1 98) ((s26.1 95 12))) (1) := pz_Wi (pz_Ym (show pz_Y ((s26.1 100)) ((s26.1 98)) ((s26.1 95 12)) ((s26.1 95 13)) ((s26.1 95 19)) ((s26.1 95 20)) ((s26.1 95 21)) ((s26.1 95 22)) ((s26.1 95 8)) (s0.1 98 (s0.1 95 12)) (1) (0) from by first | with_reducible assumption | assumption)) (by omega)
        have b122 : (s26.1 95 8) ≤ 300 := (iv_r95_8 hI99).2
        refine sm_224 hI99 (show (0 : Int) ≤ 1 ∧ 1 ≤ (7 : Int) from by omega) (show 1 ≤ 1 from by omega) (show pz_W ((s26.1 100)) ((s26.1 98)) ((s26.1 95 12)) ((s26.1 95 13)) ((s26.1 95 19)) ((s26.1 95 20)) ((s26.1 95 21)) ((s26.1 95 22)) ((s26.1 95 8)) ((s26.1 98) ((s26.1 95 12))) (1) from by first | with_reducible assumption | assumption) (show (s26.1 95 8) ≤ 300 from by omega) (fun s31 hI124 fr123 ps126 ps127 ps128 ps129 => ?_)
        replace ps126 : pz_R (s31.1 100) (s31.1 98) (s31.1 95 12) (s31.1 95 13) (s31.1 95 19) (s31.1 95 20) (s31.1 95 21) (s31.1 95 22) (s31.1 95 8) ((s26.1 98) ((s26.1 95 12))) (1) (pz_op ((s26.1 100)) ((s26.1 95 19))) := ps126
        replace ps127 : s31.1 95 13 + s31.1 95 19 = (s26.1 95 13) + (s26.1 95 19) ∧ s31.1 95 19 ≤ (s26.1 95 19) ∧ s31.1 95 7 = (s26.1 95 7) ∧ s31.1 95 8 = (s26.1 95 8) ∧ s31.1 95 9 = (s26.1 95 9) ∧ s31.1 95 12 = (s26.1 95 12) ∧ s31.1 95 21 = (s26.1 95 21) ∧ s31.1 95 22 = (s26.1 95 22) ∧ s31.1 95 23 = (s26.1 95 23) := ps127
        replace ps128 : pz_op (s31.1 100) (s31.1 95 19) = pz_op ((s26.1 100)) ((s26.1 95 19)) := ps128
        replace ps129 : s31.1 95 19 ≤ 0 ∨ pz_rk (s31.1 100 (s31.1 95 19 - 1)) < 1 := ps129
        have fr130 : lf_fq [95, 98, 100, 101, 102, 103] 1000000 true s.1 s.2.2 s31.1 s31.2.2 := lf_fq_tr fr108 (lf_fq_wk fr123 rfl (by decide) (by decide))
        have b131 : 0 ≤ s31.1 95 12 ∧ s31.1 95 12 ≤ 2115 := iv_r95_12 hI124
        have b132 : 0 ≤ s31.1 95 13 ∧ s31.1 95 13 ≤ 304 := iv_r95_13 hI124
        have b133 : 0 ≤ s31.1 95 19 ∧ s31.1 95 19 ≤ 160 := iv_r95_19 hI124
        have b134 : 0 ≤ s31.1 95 20 ∧ s31.1 95 20 ≤ 8 := iv_r95_20 hI124
        have b135 : 0 ≤ s31.1 95 21 ∧ s31.1 95 21 ≤ 8 := iv_r95_21 hI124
        have b136 : 0 ≤ s31.1 95 22 ∧ s31.1 95 22 ≤ 80 := iv_r95_22 hI124
        have b137 : 0 ≤ s31.1 95 8 ∧ s31.1 95 8 ≤ 300 := iv_r95_8 hI124
        have b138 : pz_Y ((s31.1 100)) ((s31.1 98)) ((s31.1 95 12)) ((s31.1 95 13)) ((s31.1 95 19)) ((s31.1 95 20)) ((s31.1 95 21)) ((s31.1 95 22)) ((s31.1 95 8)) (s0.1 98 (s0.1 95 12)) (1) (0) := pz_Yk (pz_R1 ps126 (by omega)) (by omega)
        have b139 : pz_H ((s31.1 98)) ((s31.1 95 12)) (s0.1 98 (s0.1 95 12)) := by first | exact pz_YH (show pz_Y ((s31.1 100)) ((s31.1 98)) ((s31.1 95 12)) ((s31.1 95 13)) ((s31.1 95 19)) ((s31.1 95 20)) ((s31.1 95 21)) ((s31.1 95 22)) ((s31.1 95 8)) (s0.1 98 (s0.1 95 12)) (1) (0) from by first | with_reducible assumption | assumption) | exact pz_cH rfl ps128 rfl (by omega)
        exact hQ 0 s31 hI124 fr130 (show 0 = 0 → pz_Y ((s31.1 100)) ((s31.1 98)) ((s31.1 95 12)) ((s31.1 95 13)) ((s31.1 95 19)) ((s31.1 95 20)) ((s31.1 95 21)) ((s31.1 95 22)) ((s31.1 95 8)) (s0.1 98 (s0.1 95 12)) (1) (0) from fun _ => by first | with_reducible assumption | assumption) (show 0 = 0 → (s0.1 95 8 ≤ (s31.1 95 8) ∧ ((s31.1 95 9) = 0 ∨ (s31.1 95 8) < (s31.1 95 7))) from fun _ => by omega) (show pz_H ((s31.1 98)) ((s31.1 95 12)) (s0.1 98 (s0.1 95 12)) from by first | with_reducible assumption | assumption) (show (s31.1 95 12) = s0.1 95 12 from by omega) (show (0 : Int) ≤ 0 ∧ 0 ≤ (5 : Int) from by omega)
      · skip
        replace c119 : ¬ (r29 < 0) := c119
        have b140 : pz_H ((s26.1 98)) ((s26.1 95 12)) (s0.1 98 (s0.1 95 12)) := by first | exact pz_YH (show pz_Y ((s26.1 100)) ((s26.1 98)) ((s26.1 95 12)) ((s26.1 95 13)) ((s26.1 95 19)) ((s26.1 95 20)) ((s26.1 95 21)) ((s26.1 95 22)) ((s26.1 95 8)) (s0.1 98 (s0.1 95 12)) (1) (0) from by first | with_reducible assumption | assumption) | exact pz_cH rfl ps105 rfl (by omega)
        exact hQ 1 s26 hI99 fr108 (show 1 = 0 → pz_Y ((s26.1 100)) ((s26.1 98)) ((s26.1 95 12)) ((s26.1 95 13)) ((s26.1 95 19)) ((s26.1 95 20)) ((s26.1 95 21)) ((s26.1 95 22)) ((s26.1 95 8)) (s0.1 98 (s0.1 95 12)) (1) (0) from fun h => absurd h (by decide)) (show 1 = 0 → (s0.1 95 8 ≤ (s26.1 95 8) ∧ ((s26.1 95 9) = 0 ∨ (s26.1 95 8) < (s26.1 95 7))) from fun h => absurd h (by decide)) (show pz_H ((s26.1 98)) ((s26.1 95 12)) (s0.1 98 (s0.1 95 12)) from by first | with_reducible assumption | assumption) (show (s26.1 95 12) = s0.1 95 12 from by omega) (show (0 : Int) ≤ 1 ∧ 1 ≤ (5 : Int) from by omega)
    · skip
      have dps103 := ps103 c109
      have dps104 := ps104 c109
      have b141 : 0 ≤ s26.1 95 12 ∧ s26.1 95 12 ≤ 2115 := iv_r95_12 hI99
      have b142 : 0 ≤ s26.1 95 13 ∧ s26.1 95 13 ≤ 304 := iv_r95_13 hI99
      have b143 : 0 ≤ s26.1 95 19 ∧ s26.1 95 19 ≤ 160 := iv_r95_19 hI99
      have b144 : 0 ≤ s26.1 95 20 ∧ s26.1 95 20 ≤ 8 := iv_r95_20 hI99
      have b145 : 0 ≤ s26.1 95 21 ∧ s26.1 95 21 ≤ 8 := iv_r95_21 hI99
      have b146 : 0 ≤ s26.1 95 22 ∧ s26.1 95 22 ≤ 80 := iv_r95_22 hI99
      have b147 : 0 ≤ s26.1 95 8 ∧ s26.1 95 8 ≤ 300 := iv_r95_8 hI99
      have b148 : 0 ≤ s26.1 95 23 ∧ s26.1 95 23 ≤ 1 := iv_r95_23 hI99
      have b149 : pz_Y ((s26.1 100)) ((s26.1 98)) ((s26.1 95 12)) ((s26.1 95 13)) ((s26.1 95 19)) ((s26.1 95 20)) ((s26.1 95 21)) ((s26.1 95 22)) ((s26.1 95 8)) (s0.1 98 (s0.1 95 12)) ((s26.1 95 23)) (0) := pz_Yk (by first | with_reducible assumption | assumption) (by omega)
      have b150 : (s26.1 95 8) ≤ 300 := (iv_r95_8 hI99).2
      have b151 : (-2147483648) ≤ s26.1 95 9 ∧ s26.1 95 9 ≤ 2147483647 := iv_full hI99
      have b152 : 0 ≤ s26.1 95 7 ∧ s26.1 95 7 ≤ 300 := iv_r95_7 hI99
      exact hX46  s26 hI99 fr108 (show pz_Y ((s26.1 100)) ((s26.1 98)) ((s26.1 95 12)) ((s26.1 95 13)) ((s26.1 95 19)) ((s26.1 95 20)) ((s26.1 95 21)) ((s26.1 95 22)) ((s26.1 95 8)) (s0.1 98 (s0.1 95 12)) ((s26.1 95 23)) (0) from by first | with_reducible assumption | assumption) (show (s26.1 95 9) = 0 ∨ (s26.1 95 8) < (s26.1 95 7) from by omega) (show (s26.1 95 12) = s0.1 95 12 ∧ s0.1 95 8 ≤ (s26.1 95 8) from by omega) (show (301 - (s26.1 95 8)).toNat < M46 from by omega)
theorem sm_216_p46L {Q : Int → lf_Z → Prop} {s : lf_Z} {s0 : lf_Z} (hQ : ∀ (r : Int) (s' : lf_Z), iv_A s'.1 s'.2.2 → lf_fq [95, 98, 100, 101, 102, 103] 1000000 true s.1 s.2.2 s'.1 s'.2.2 → (r = 0 → pz_Y (s'.1 100) (s'.1 98) (s'.1 95 12) (s'.1 95 13) (s'.1 95 19) (s'.1 95 20) (s'.1 95 21) (s'.1 95 22) (s'.1 95 8) (s0.1 98 (s0.1 95 12)) (1) (0)) → (r = 0 → (s0.1 95 8 ≤ s'.1 95 8 ∧ (s'.1 95 9 = 0 ∨ s'.1 95 8 < s'.1 95 7))) → (pz_H (s'.1 98) (s'.1 95 12) (s0.1 98 (s0.1 95 12))) → (s'.1 95 12 = s0.1 95 12) → (0 ≤ r ∧ r ≤ 5) → Q r s') (hI : iv_A s.1 s.2.2) (kv0 : pz_Y (s.1 100) (s.1 98) (s.1 95 12) (s.1 95 13) (s.1 95 19) (s.1 95 20) (s.1 95 21) (s.1 95 22) (s.1 95 8) (s0.1 98 (s0.1 95 12)) (s.1 95 23) (0)) (kv1 : s.1 95 9 = 0 ∨ s.1 95 8 < s.1 95 7) (kv2 : s.1 95 12 = s0.1 95 12 ∧ s0.1 95 8 ≤ s.1 95 8) : fm_216_p46L Q s := by
  intro X46 hX
  have key : ∀ (m9 : Nat) (s' : lf_Z), iv_A s'.1 s'.2.2 → lf_fq [95, 98, 100, 101, 102, 103] 1000000 true s.1 s.2.2 s'.1 s'.2.2 → (pz_Y (s'.1 100) (s'.1 98) (s'.1 95 12) (s'.1 95 13) (s'.1 95 19) (s'.1 95 20) (s'.1 95 21) (s'.1 95 22) (s'.1 95 8) (s0.1 98 (s0.1 95 12)) (s'.1 95 23) (0)) → (s'.1 95 9 = 0 ∨ s'.1 95 8 < s'.1 95 7) → (s'.1 95 12 = s0.1 95 12 ∧ s0.1 95 8 ≤ s'.1 95 8) → (301 - s'.1 95 8).toNat < m9 → X46 s' := by
    intro m9
    induction m9 with
    | zero => intro  s' _ _ kv0 kv1 kv2 h9; exact absurd h9 (Nat.not_lt_zero _)
    | succ m9 ih => intro  s' i7 f7 kv0 kv1 kv2 h9; exact hX  _ (sm_216_p46 (s0 := s0) (fun r9 t9 i9 f9 => hQ r9 t9 i9 (lf_fq_tr f7 f9))   (fun  t8 i8 f8 kv0' kv1' kv2' h8 => ih  t8 i8 (lf_fq_tr f7 f8) kv0' kv1' kv2' (by omega)) (Nat.le_refl _)  i7    kv0 kv1 kv2)
  exact key _  s hI lf_fq_rf kv0 kv1 kv2 (Nat.lt_succ_self _)
theorem sm_216_p22 {X22 : Int → lf_Z → Prop} {Q : Int → lf_Z → Prop} {x1 : Int} {s : lf_Z} {s0 : lf_Z} (hQ : ∀ (r : Int) (s' : lf_Z), iv_A s'.1 s'.2.2 → lf_fq [95, 98, 100, 101, 102, 103] 1000000 true s.1 s.2.2 s'.1 s'.2.2 → (r = 0 → pz_Y (s'.1 100) (s'.1 98) (s'.1 95 12) (s'.1 95 13) (s'.1 95 19) (s'.1 95 20) (s'.1 95 21) (s'.1 95 22) (s'.1 95 8) (s0.1 98 (s0.1 95 12)) (1) (0)) → (r = 0 → (s0.1 95 8 ≤ s'.1 95 8 ∧ (s'.1 95 9 = 0 ∨ s'.1 95 8 < s'.1 95 7))) → (pz_H (s'.1 98) (s'.1 95 12) (s0.1 98 (s0.1 95 12))) → (s'.1 95 12 = s0.1 95 12) → (0 ≤ r ∧ r ≤ 5) → Q r s') {M22 : Nat} (hX22 : ∀ (x1 : Int) (s' : lf_Z), iv_A s'.1 s'.2.2 → lf_fq [95, 98, 100, 101, 102, 103] 1000000 true s.1 s.2.2 s'.1 s'.2.2 → 0 ≤ x1 ∧ x1 ≤ 26 → (pz_Y (s'.1 100) (s'.1 98) (s'.1 95 12) (s'.1 95 13) (s'.1 95 19) (s'.1 95 20) (s'.1 95 21) (s'.1 95 22) (s'.1 95 8) (s0.1 98 (s0.1 95 12)) (0) (0)) → (s'.1 95 9 = 0 ∨ s'.1 95 8 < s'.1 95 7) → (s'.1 95 12 = s0.1 95 12 ∧ s0.1 95 8 ≤ s'.1 95 8) → (26 - x1).toNat < M22 → X22 x1 s') (hM22 : (26 - x1).toNat ≤ M22) (hI : iv_A s.1 s.2.2) (bx1 : 0 ≤ x1 ∧ x1 ≤ 26) (kv0 : pz_Y (s.1 100) (s.1 98) (s.1 95 12) (s.1 95 13) (s.1 95 19) (s.1 95 20) (s.1 95 21) (s.1 95 22) (s.1 95 8) (s0.1 98 (s0.1 95 12)) (0) (0)) (kv1 : s.1 95 9 = 0 ∨ s.1 95 8 < s.1 95 7) (kv2 : s.1 95 12 = s0.1 95 12 ∧ s0.1 95 8 ≤ s.1 95 8) : fm_216_p22 Q X22 x1 s := by
  unfold fm_216_p22
  refine ⟨(show lf_R x1 from lf_Rof (by omega)), ?_⟩
  refine ⟨fun c34 => ?_, fun c34 => ?_⟩
  · skip
    replace c34 : 26 ≤ x1 := c34
    have hI35 : iv_A (lf_up s.1 95 23 0) s.2.2 := iv_w95_23 hI (by omega)
    have fr36 : lf_fq [95, 98, 100, 101, 102, 103] 1000000 true s.1 s.2.2 (lf_up s.1 95 23 0) s.2.2 := lf_fq_up (lf_fq_rf) rfl (fun h => absurd h (by decide))
    have b37 : 0 ≤ s.1 95 12 ∧ s.1 95 12 ≤ 2115 := (show 0 ≤ (lf_up s.1 95 23 0) 95 12 ∧ (lf_up s.1 95 23 0) 95 12 ≤ 2115 from iv_r95_12 hI35)
    have b38 : (lf_up s.1 95 23 0) 95 12 = s.1 95 12 := lf_up_i (by omega)
    have b39 : 0 ≤ s.1 95 13 ∧ s.1 95 13 ≤ 304 := (show 0 ≤ (lf_up s.1 95 23 0) 95 13 ∧ (lf_up s.1 95 23 0) 95 13 ≤ 304 from iv_r95_13 hI35)
    have b40 : (lf_up s.1 95 23 0) 95 13 = s.1 95 13 := lf_up_i (by omega)
    have b41 : 0 ≤ s.1 95 19 ∧ s.1 95 19 ≤ 160 := (show 0 ≤ (lf_up s.1 95 23 0) 95 19 ∧ (lf_up s.1 95 23 0) 95 19 ≤ 160 from iv_r95_19 hI35)
    have b42 : (lf_up s.1 95 23 0) 95 19 = s.1 95 19 := lf_up_i (by omega)
    have b43 : 0 ≤ s.1 95 20 ∧ s.1 95 20 ≤ 8 := (show 0 ≤ (lf_up s.1 95 23 0) 95 20 ∧ (lf_up s.1 95 23 0) 95 20 ≤ 8 from iv_r95_20 hI35)
    have b44 : (lf_up s.1 95 23 0) 95 20 = s.1 95 20 := lf_up_i (by omega)
    have b45 : 0 ≤ s.1 95 21 ∧ s.1 95 21 ≤ 8 := (show 0 ≤ (lf_up s.1 95 23 0) 95 21 ∧ (lf_up s.1 95 23 0) 95 21 ≤ 8 from iv_r95_21 hI35)
    have b46 : (lf_up s.1 95 23 0) 95 21 = s.1 95 21 := lf_up_i (by omega)
    have b47 : 0 ≤ s.1 95 22 ∧ s.1 95 22 ≤ 80 := (show 0 ≤ (lf_up s.1 95 23 0) 95 22 ∧ (lf_up s.1 95 23 0) 95 22 ≤ 80 from iv_r95_22 hI35)
    have b48 : (lf_up s.1 95 23 0) 95 22 = s.1 95 22 := lf_up_i (by omega)
    have b49 : 0 ≤ s.1 95 8 ∧ s.1 95 8 ≤ 300 := (show 0 ≤ (lf_up s.1 95 23 0) 95 8 ∧ (lf_up s.1 95 23 0) 95 8 ≤ 300 from iv_r95_8 hI35)
    have b50 : (lf_up s.1 95 23 0) 95 8 = s.1 95 8 := lf_up_i (by omega)
    have b51 : (-2147483648) ≤ s.1 95 9 ∧ s.1 95 9 ≤ 2147483647 := (show (-2147483648) ≤ (lf_up s.1 95 23 0) 95 9 ∧ (lf_up s.1 95 23 0) 95 9 ≤ 2147483647 from iv_full hI35)
    have b52 : (lf_up s.1 95 23 0) 95 9 = s.1 95 9 := lf_up_i (by omega)
    have b53 : 0 ≤ s.1 95 7 ∧ s.1 95 7 ≤ 300 := (show 0 ≤ (lf_up s.1 95 23 0) 95 7 ∧ (lf_up s.1 95 23 0) 95 7 ≤ 300 from iv_r95_7 hI35)
    have b54 : (lf_up s.1 95 23 0) 95 7 = s.1 95 7 := lf_up_i (by omega)
    exact sm_216_p46L (s0 := s0) (fun r9 t9 i9 f9 => hQ r9 t9 i9 (lf_fq_tr fr36 f9)) hI35 (show pz_Y ((s.1 100)) ((s.1 98)) ((s.1 95 12)) ((s.1 95 13)) ((s.1 95 19)) ((s.1 95 20)) ((s.1 95 21)) ((s.1 95 22)) ((s.1 95 8)) (s0.1 98 (s0.1 95 12)) (0) (0) from by first | with_reducible assumption | assumption) (show (s.1 95 9) = 0 ∨ (s.1 95 8) < (s.1 95 7) from by omega) (show (s.1 95 12) = s0.1 95 12 ∧ s0.1 95 8 ≤ (s.1 95 8) from by omega)
  · skip
    replace c34 : ¬ (26 ≤ x1) := c34
    refine ⟨(show (0 : Int) ≤ x1 ∧ x1 < (26 : Int) from by omega), ?_⟩
    have hI153 : iv_A (lf_up s.1 103 x1 (-1)) s.2.2 := iv_w103 hI (by omega)
    have fr154 : lf_fq [95, 98, 100, 101, 102, 103] 1000000 true s.1 s.2.2 (lf_up s.1 103 x1 (-1)) s.2.2 := lf_fq_up (lf_fq_rf) rfl (fun h => absurd h (by decide))
    have b155 : 0 ≤ s.1 95 12 ∧ s.1 95 12 ≤ 2115 := (show 0 ≤ (lf_up s.1 103 x1 (-1)) 95 12 ∧ (lf_up s.1 103 x1 (-1)) 95 12 ≤ 2115 from iv_r95_12 hI153)
    have b156 : 0 ≤ s.1 95 13 ∧ s.1 95 13 ≤ 304 := (show 0 ≤ (lf_up s.1 103 x1 (-1)) 95 13 ∧ (lf_up s.1 103 x1 (-1)) 95 13 ≤ 304 from iv_r95_13 hI153)
    have b157 : 0 ≤ s.1 95 19 ∧ s.1 95 19 ≤ 160 := (show 0 ≤ (lf_up s.1 103 x1 (-1)) 95 19 ∧ (lf_up s.1 103 x1 (-1)) 95 19 ≤ 160 from iv_r95_19 hI153)
    have b158 : 0 ≤ s.1 95 20 ∧ s.1 95 20 ≤ 8 := (show 0 ≤ (lf_up s.1 103 x1 (-1)) 95 20 ∧ (lf_up s.1 103 x1 (-1)) 95 20 ≤ 8 from iv_r95_20 hI153)
    have b159 : 0 ≤ s.1 95 21 ∧ s.1 95 21 ≤ 8 := (show 0 ≤ (lf_up s.1 103 x1 (-1)) 95 21 ∧ (lf_up s.1 103 x1 (-1)) 95 21 ≤ 8 from iv_r95_21 hI153)
    have b160 : 0 ≤ s.1 95 22 ∧ s.1 95 22 ≤ 80 := (show 0 ≤ (lf_up s.1 103 x1 (-1)) 95 22 ∧ (lf_up s.1 103 x1 (-1)) 95 22 ≤ 80 from iv_r95_22 hI153)
    have b161 : 0 ≤ s.1 95 8 ∧ s.1 95 8 ≤ 300 := (show 0 ≤ (lf_up s.1 103 x1 (-1)) 95 8 ∧ (lf_up s.1 103 x1 (-1)) 95 8 ≤ 300 from iv_r95_8 hI153)
    have b162 : (-2147483648) ≤ s.1 95 9 ∧ s.1 95 9 ≤ 2147483647 := (show (-2147483648) ≤ (lf_up s.1 103 x1 (-1)) 95 9 ∧ (lf_up s.1 103 x1 (-1)) 95 9 ≤ 2147483647 from iv_full hI153)
    have b163 : 0 ≤ s.1 95 7 ∧ s.1 95 7 ≤ 300 := (show 0 ≤ (lf_up s.1 103 x1 (-1)) 95 7 ∧ (lf_up s.1 103 x1 (-1)) 95 7 ≤ 300 from iv_r95_7 hI153)
    exact hX22 (x1 + 1) (lf_up s.1 103 x1 (-1), s.2.1, s.2.2) hI153 fr154 (show (0 : Int) ≤ x1 + 1 ∧ x1 + 1 ≤ (26 : Int) from by omega) (show pz_Y ((s.1 100)) ((s.1 98)) ((s.1 95 12)) ((s.1 95 13)) ((s.1 95 19)) ((s.1 95 20)) ((s.1 95 21)) ((s.1 95 22)) ((s.1 95 8)) (s0.1 98 (s0.1 95 12)) (0) (0) from by first | with_reducible assumption | assumption) (show (s.1 95 9) = 0 ∨ (s.1 95 8) < (s.1 95 7) from by omega) (show (s.1 95 12) = s0.1 95 12 ∧ s0.1 95 8 ≤ (s.1 95 8) from by omega) (show (26 - (x1 + 1)).toNat < M22 from by omega)
theorem sm_216_p22L {Q : Int → lf_Z → Prop} {x1 : Int} {s : lf_Z} {s0 : lf_Z} (hQ : ∀ (r : Int) (s' : lf_Z), iv_A s'.1 s'.2.2 → lf_fq [95, 98, 100, 101, 102, 103] 1000000 true s.1 s.2.2 s'.1 s'.2.2 → (r = 0 → pz_Y (s'.1 100) (s'.1 98) (s'.1 95 12) (s'.1 95 13) (s'.1 95 19) (s'.1 95 20) (s'.1 95 21) (s'.1 95 22) (s'.1 95 8) (s0.1 98 (s0.1 95 12)) (1) (0)) → (r = 0 → (s0.1 95 8 ≤ s'.1 95 8 ∧ (s'.1 95 9 = 0 ∨ s'.1 95 8 < s'.1 95 7))) → (pz_H (s'.1 98) (s'.1 95 12) (s0.1 98 (s0.1 95 12))) → (s'.1 95 12 = s0.1 95 12) → (0 ≤ r ∧ r ≤ 5) → Q r s') (hI : iv_A s.1 s.2.2) (bx1 : 0 ≤ x1 ∧ x1 ≤ 26) (kv0 : pz_Y (s.1 100) (s.1 98) (s.1 95 12) (s.1 95 13) (s.1 95 19) (s.1 95 20) (s.1 95 21) (s.1 95 22) (s.1 95 8) (s0.1 98 (s0.1 95 12)) (0) (0)) (kv1 : s.1 95 9 = 0 ∨ s.1 95 8 < s.1 95 7) (kv2 : s.1 95 12 = s0.1 95 12 ∧ s0.1 95 8 ≤ s.1 95 8) : fm_216_p22L Q x1 s := by
  intro X22 hX
  have key : ∀ (m9 : Nat) (x1 : Int) (s' : lf_Z), iv_A s'.1 s'.2.2 → lf_fq [95, 98, 100, 101, 102, 103] 1000000 true s.1 s.2.2 s'.1 s'.2.2 → 0 ≤ x1 ∧ x1 ≤ 26 → (pz_Y (s'.1 100) (s'.1 98) (s'.1 95 12) (s'.1 95 13) (s'.1 95 19) (s'.1 95 20) (s'.1 95 21) (s'.1 95 22) (s'.1 95 8) (s0.1 98 (s0.1 95 12)) (0) (0)) → (s'.1 95 9 = 0 ∨ s'.1 95 8 < s'.1 95 7) → (s'.1 95 12 = s0.1 95 12 ∧ s0.1 95 8 ≤ s'.1 95 8) → (26 - x1).toNat < m9 → X22 x1 s' := by
    intro m9
    induction m9 with
    | zero => intro x1 s' _ _ bx1 kv0 kv1 kv2 h9; exact absurd h9 (Nat.not_lt_zero _)
    | succ m9 ih => intro x1 s' i7 f7 bx1 kv0 kv1 kv2 h9; exact hX _ _ (sm_216_p22 (s0 := s0) (fun r9 t9 i9 f9 => hQ r9 t9 i9 (lf_fq_tr f7 f9))   (fun x1' t8 i8 f8 bx1' kv0' kv1' kv2' h8 => ih x1' t8 i8 (lf_fq_tr f7 f8) bx1' kv0' kv1' kv2' (by omega)) (Nat.le_refl _)  i7  bx1  kv0 kv1 kv2)
  exact key _ _ s hI lf_fq_rf bx1 kv0 kv1 kv2 (Nat.lt_succ_self _)
theorem sm_216 {Q : Int → lf_Z → Prop} {s : lf_Z} (hI : iv_A s.1 s.2.2) (kp0 : pz_Y (s.1 100) (s.1 98) (s.1 95 12) (s.1 95 13) 0 0 0 0 (s.1 95 8) (s.1 98 (s.1 95 12)) 0 0) (kp1 : s.1 95 9 = 0 ∨ s.1 95 8 < s.1 95 7) (hQ : ∀ (r : Int) (s' : lf_Z), iv_A s'.1 s'.2.2 → lf_fq [95, 98, 100, 101, 102, 103] 1000000 true s.1 s.2.2 s'.1 s'.2.2 → (r = 0 → pz_Y (s'.1 100) (s'.1 98) (s'.1 95 12) (s'.1 95 13) (s'.1 95 19) (s'.1 95 20) (s'.1 95 21) (s'.1 95 22) (s'.1 95 8) (s.1 98 (s.1 95 12)) (1) (0)) → (r = 0 → (s.1 95 8 ≤ s'.1 95 8 ∧ (s'.1 95 9 = 0 ∨ s'.1 95 8 < s'.1 95 7))) → (pz_H (s'.1 98) (s'.1 95 12) (s.1 98 (s.1 95 12))) → (s'.1 95 12 = s.1 95 12) → (0 ≤ r ∧ r ≤ 5) → Q r s') : fm_216 Q s := by
  unfold fm_216
  have hI1 : iv_A (lf_up s.1 95 19 0) s.2.2 := iv_w95_19 hI (by omega)
  have fr2 : lf_fq [95, 98, 100, 101, 102, 103] 1000000 true s.1 s.2.2 (lf_up s.1 95 19 0) s.2.2 := lf_fq_up (lf_fq_rf) rfl (fun h => absurd h (by decide))
  have hI3 : iv_A (lf_up (lf_up s.1 95 19 0) 95 20 0) s.2.2 := iv_w95_20 hI1 (by omega)
  have fr4 : lf_fq [95, 98, 100, 101, 102, 103] 1000000 true s.1 s.2.2 (lf_up (lf_up s.1 95 19 0) 95 20 0) s.2.2 := lf_fq_up fr2 rfl (fun h => absurd h (by decide))
  have hI5 : iv_A (lf_up (lf_up (lf_up s.1 95 19 0) 95 20 0) 95 21 0) s.2.2 := iv_w95_21 hI3 (by omega)
  have fr6 : lf_fq [95, 98, 100, 101, 102, 103] 1000000 true s.1 s.2.2 (lf_up (lf_up (lf_up s.1 95 19 0) 95 20 0) 95 21 0) s.2.2 := lf_fq_up fr4 rfl (fun h => absurd h (by decide))
  have hI7 : iv_A (lf_up (lf_up (lf_up (lf_up s.1 95 19 0) 95 20 0) 95 21 0) 95 22 0) s.2.2 := iv_w95_22 hI5 (by omega)
  have fr8 : lf_fq [95, 98, 100, 101, 102, 103] 1000000 true s.1 s.2.2 (lf_up (lf_up (lf_up (lf_up s.1 95 19 0) 95 20 0) 95 21 0) 95 22 0) s.2.2 := lf_fq_up fr6 rfl (fun h => absurd h (by decide))
  have b9 : 0 ≤ s.1 95 12 ∧ s.1 95 12 ≤ 2115 := (show 0 ≤ (lf_up (lf_up (lf_up (lf_up s.1 95 19 0) 95 20 0) 95 21 0) 95 22 0) 95 12 ∧ (lf_up (lf_up (lf_up (lf_up s.1 95 19 0) 95 20 0) 95 21 0) 95 22 0) 95 12 ≤ 2115 from iv_r95_12 hI7)
  have b10 : (lf_up (lf_up (lf_up (lf_up s.1 95 19 0) 95 20 0) 95 21 0) 95 22 0) 95 12 = (lf_up (lf_up (lf_up s.1 95 19 0) 95 20 0) 95 21 0) 95 12 := lf_up_i (by omega)
  have b11 : (lf_up (lf_up (lf_up s.1 95 19 0) 95 20 0) 95 21 0) 95 12 = (lf_up (lf_up s.1 95 19 0) 95 20 0) 95 12 := lf_up_i (by omega)
  have b12 : (lf_up (lf_up s.1 95 19 0) 95 20 0) 95 12 = (lf_up s.1 95 19 0) 95 12 := lf_up_i (by omega)
  have b13 : (lf_up s.1 95 19 0) 95 12 = s.1 95 12 := lf_up_i (by omega)
  have b14 : 0 ≤ s.1 95 13 ∧ s.1 95 13 ≤ 304 := (show 0 ≤ (lf_up (lf_up (lf_up (lf_up s.1 95 19 0) 95 20 0) 95 21 0) 95 22 0) 95 13 ∧ (lf_up (lf_up (lf_up (lf_up s.1 95 19 0) 95 20 0) 95 21 0) 95 22 0) 95 13 ≤ 304 from iv_r95_13 hI7)
  have b15 : (lf_up (lf_up (lf_up (lf_up s.1 95 19 0) 95 20 0) 95 21 0) 95 22 0) 95 13 = (lf_up (lf_up (lf_up s.1 95 19 0) 95 20 0) 95 21 0) 95 13 := lf_up_i (by omega)
  have b16 : (lf_up (lf_up (lf_up s.1 95 19 0) 95 20 0) 95 21 0) 95 13 = (lf_up (lf_up s.1 95 19 0) 95 20 0) 95 13 := lf_up_i (by omega)
  have b17 : (lf_up (lf_up s.1 95 19 0) 95 20 0) 95 13 = (lf_up s.1 95 19 0) 95 13 := lf_up_i (by omega)
  have b18 : (lf_up s.1 95 19 0) 95 13 = s.1 95 13 := lf_up_i (by omega)
  have b19 : 0 ≤ s.1 95 8 ∧ s.1 95 8 ≤ 300 := (show 0 ≤ (lf_up (lf_up (lf_up (lf_up s.1 95 19 0) 95 20 0) 95 21 0) 95 22 0) 95 8 ∧ (lf_up (lf_up (lf_up (lf_up s.1 95 19 0) 95 20 0) 95 21 0) 95 22 0) 95 8 ≤ 300 from iv_r95_8 hI7)
  have b20 : (lf_up (lf_up (lf_up (lf_up s.1 95 19 0) 95 20 0) 95 21 0) 95 22 0) 95 8 = (lf_up (lf_up (lf_up s.1 95 19 0) 95 20 0) 95 21 0) 95 8 := lf_up_i (by omega)
  have b21 : (lf_up (lf_up (lf_up s.1 95 19 0) 95 20 0) 95 21 0) 95 8 = (lf_up (lf_up s.1 95 19 0) 95 20 0) 95 8 := lf_up_i (by omega)
  have b22 : (lf_up (lf_up s.1 95 19 0) 95 20 0) 95 8 = (lf_up s.1 95 19 0) 95 8 := lf_up_i (by omega)
  have b23 : (lf_up s.1 95 19 0) 95 8 = s.1 95 8 := lf_up_i (by omega)
  have b24 : (-2147483648) ≤ s.1 95 9 ∧ s.1 95 9 ≤ 2147483647 := (show (-2147483648) ≤ (lf_up (lf_up (lf_up (lf_up s.1 95 19 0) 95 20 0) 95 21 0) 95 22 0) 95 9 ∧ (lf_up (lf_up (lf_up (lf_up s.1 95 19 0) 95 20 0) 95 21 0) 95 22 0) 95 9 ≤ 2147483647 from iv_full hI7)
  have b25 : (lf_up (lf_up (lf_up (lf_up s.1 95 19 0) 95 20 0) 95 21 0) 95 22 0) 95 9 = (lf_up (lf_up (lf_up s.1 95 19 0) 95 20 0) 95 21 0) 95 9 := lf_up_i (by omega)
  have b26 : (lf_up (lf_up (lf_up s.1 95 19 0) 95 20 0) 95 21 0) 95 9 = (lf_up (lf_up s.1 95 19 0) 95 20 0) 95 9 := lf_up_i (by omega)
  have b27 : (lf_up (lf_up s.1 95 19 0) 95 20 0) 95 9 = (lf_up s.1 95 19 0) 95 9 := lf_up_i (by omega)
  have b28 : (lf_up s.1 95 19 0) 95 9 = s.1 95 9 := lf_up_i (by omega)
  have b29 : 0 ≤ s.1 95 7 ∧ s.1 95 7 ≤ 300 := (show 0 ≤ (lf_up (lf_up (lf_up (lf_up s.1 95 19 0) 95 20 0) 95 21 0) 95 22 0) 95 7 ∧ (lf_up (lf_up (lf_up (lf_up s.1 95 19 0) 95 20 0) 95 21 0) 95 22 0) 95 7 ≤ 300 from iv_r95_7 hI7)
  have b30 : (lf_up (lf_up (lf_up (lf_up s.1 95 19 0) 95 20 0) 95 21 0) 95 22 0) 95 7 = (lf_up (lf_up (lf_up s.1 95 19 0) 95 20 0) 95 21 0) 95 7 := lf_up_i (by omega)
  have b31 : (lf_up (lf_up (lf_up s.1 95 19 0) 95 20 0) 95 21 0) 95 7 = (lf_up (lf_up s.1 95 19 0) 95 20 0) 95 7 := lf_up_i (by omega)
  have b32 : (lf_up (lf_up s.1 95 19 0) 95 20 0) 95 7 = (lf_up s.1 95 19 0) 95 7 := lf_up_i (by omega)
  have b33 : (lf_up s.1 95 19 0) 95 7 = s.1 95 7 := lf_up_i (by omega)
  exact sm_216_p22L (s0 := s) (fun r9 t9 i9 f9 => hQ r9 t9 i9 (lf_fq_tr fr8 f9)) hI7 (show (0 : Int) ≤ 0 ∧ 0 ≤ (26 : Int) from by omega) (show pz_Y ((s.1 100)) ((s.1 98)) ((s.1 95 12)) ((s.1 95 13)) (0) (0) (0) (0) ((s.1 95 8)) (s.1 98 (s.1 95 12)) (0) (0) from by first | with_reducible assumption | assumption) (show (s.1 95 9) = 0 ∨ (s.1 95 8) < (s.1 95 7) from by omega) (show (s.1 95 12) = s.1 95 12 ∧ s.1 95 8 ≤ (s.1 95 8) from by omega)
