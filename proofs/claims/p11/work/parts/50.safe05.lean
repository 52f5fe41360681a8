-- fm_219 Model.openNow 95
theorem sm_219 {Q : Int → lf_Z → Prop} {s : lf_Z} (hI : iv_A s.1 s.2.2) (hQ : ∀ (r : Int), (((-1) ≤ r ∧ r ≤ 45) ∧ (r = pz_op (s.1 100) (s.1 95 19))) → Q r s) : fm_219 Q s := by
  unfold fm_219
  refine sm_220 hI (fun r22 ps2 q1 => ?_)
  replace ps2 : ((r22 < 0 ∧ pz_op ((s.1 100)) ((s.1 95 19)) = -1) ∨ (0 ≤ r22 ∧ r22 < (s.1 95 19) ∧ pz_op ((s.1 100)) ((s.1 95 19)) = (s.1 100) (r22) ∧ 40 ≤ (s.1 100) (r22))) ∧ ((s.1 95 19) ≤ 0 ∨ (s.1 100) ((s.1 95 19) - 1) < 40 ∨ r22 = (s.1 95 19) - 1) := ps2
  refine ⟨(show lf_R r22 from lf_Rof (by omega)), ?_⟩
  refine ⟨fun c3 => ?_, fun c3 => ?_⟩
  · skip
    replace c3 : 0 ≤ r22 := c3
    refine sm_220 hI (fun r25 ps5 q4 => ?_)
    replace ps5 : ((r25 < 0 ∧ pz_op ((s.1 100)) ((s.1 95 19)) = -1) ∨ (0 ≤ r25 ∧ r25 < (s.1 95 19) ∧ pz_op ((s.1 100)) ((s.1 95 19)) = (s.1 100) (r25) ∧ 40 ≤ (s.1 100) (r25))) ∧ ((s.1 95 19) ≤ 0 ∨ (s.1 100) ((s.1 95 19) - 1) < 40 ∨ r25 = (s.1 95 19) - 1) := ps5
    refine ⟨(show (0 : Int) ≤ r25 ∧ r25 < (160 : Int) from by omega), ?_⟩
    have b6 : 0 ≤ s.1 100 r25 ∧ s.1 100 r25 ≤ 45 := iv_r100 hI _
    exact hQ (s.1 100 r25) ⟨(show (-1 : Int) ≤ s.1 100 r25 ∧ s.1 100 r25 ≤ (45 : Int) from by omega), (show s.1 100 r25 = pz_op (s.1 100) (s.1 95 19) from by omega)⟩
  · skip
    replace c3 : ¬ (0 ≤ r22) := c3
    exact hQ (-1) ⟨(show (-1 : Int) ≤ (-1) ∧ (-1) ≤ (45 : Int) from by omega), (show (-1) = pz_op (s.1 100) (s.1 95 19) from by omega)⟩
-- fm_235 Model.isAskAhead 95
theorem sm_235 {Q : Bool → lf_Z → Prop} {s : lf_Z} (hI : iv_A s.1 s.2.2) (hQ : ∀ (z : Bool), ((z = true → (0 < s.1 95 19 ∧ (s.1 100 (s.1 95 19 - 1) = 41 ∨ 20 ≤ s.1 100 (s.1 95 19 - 1) ∧ s.1 100 (s.1 95 19 - 1) ≤ 22) ∧ 0 < 1)) ∧ (z = false → True)) → Q z s) : fm_235 Q s := by
  unfold fm_235
  refine sm_219 hI (fun r22 q1 => ?_)
  obtain ⟨q1, q1x⟩ := q1
  have b2 : 0 ≤ s.1 95 19 ∧ s.1 95 19 ≤ 160 := iv_r95_19 hI
  replace q1x : r22 = pz_op (s.1 100) (s.1 95 19) := q1x
  refine ⟨(show lf_R r22 from lf_Rof (by omega)), ?_⟩
  refine ⟨fun c3 => ?_, fun c3 => ?_⟩
  · skip
    replace c3 : r22 ≠ 41 := c3
    exact hQ false ⟨fun h => (by cases h), fun _ => trivial⟩
  · skip
    replace c3 : ¬ (r22 ≠ 41) := c3
    have b4 : 0 ≤ s.1 95 19 ∧ s.1 95 19 ≤ 160 := iv_r95_19 hI
    have b5 : pz_op ((s.1 100)) ((s.1 95 19)) = -1 ∨ 0 < (s.1 95 19) := pz_opP
    refine ⟨(show (0 : Int) ≤ (s.1 95 19) - 1 ∧ (s.1 95 19) - 1 < (160 : Int) from by omega), ?_⟩
    have b6 : 0 ≤ s.1 100 ((s.1 95 19) - 1) ∧ s.1 100 ((s.1 95 19) - 1) ≤ 45 := iv_r100 hI _
    refine ⟨(show lf_R (s.1 100 ((s.1 95 19) - 1)) from lf_Rof (by omega)), ?_⟩
    refine ⟨fun c7 => ?_, fun c7 => ?_⟩
    · skip
      replace c7 : s.1 100 ((s.1 95 19) - 1) = 41 := c7
      exact hQ true ⟨fun _ => by omega, fun _ => trivial⟩
    · skip
      replace c7 : ¬ (s.1 100 ((s.1 95 19) - 1) = 41) := c7
      refine sm_222 hI (show (0 : Int) ≤ s.1 100 ((s.1 95 19) - 1) ∧ s.1 100 ((s.1 95 19) - 1) ≤ (45 : Int) from by omega) (fun r27 q8 => ?_)
      obtain ⟨q8, q8x⟩ := q8
      replace q8x : r27 = pz_rk (s.1 100 ((s.1 95 19) - 1)) ∧ ((40 ≤ (s.1 100 ((s.1 95 19) - 1)) ∧ r27 = 0) ∨ ((s.1 100 ((s.1 95 19) - 1)) = 22 ∧ r27 = 1) ∨ ((s.1 100 ((s.1 95 19) - 1)) = 21 ∧ r27 = 2) ∨ ((s.1 100 ((s.1 95 19) - 1)) = 20 ∧ r27 = 3) ∨ (10 ≤ (s.1 100 ((s.1 95 19) - 1)) ∧ (s.1 100 ((s.1 95 19) - 1)) < 40 ∧ (s.1 100 ((s.1 95 19) - 1)) ≠ 20 ∧ (s.1 100 ((s.1 95 19) - 1)) ≠ 21 ∧ (s.1 100 ((s.1 95 19) - 1)) ≠ 22 ∧ r27 = 4) ∨ ((s.1 100 ((s.1 95 19) - 1)) = 3 ∧ r27 = 7) ∨ (6 ≤ (s.1 100 ((s.1 95 19) - 1)) ∧ (s.1 100 ((s.1 95 19) - 1)) < 10 ∧ r27 = 6) ∨ ((s.1 100 ((s.1 95 19) - 1)) < 6 ∧ (s.1 100 ((s.1 95 19) - 1)) ≠ 3 ∧ r27 = 5)) := q8x
      refine sm_183 hI (show (-2147483648 : Int) ≤ r27 ∧ r27 ≤ (2147483647 : Int) from by omega) (show (-1 : Int) ≤ 1 ∧ 1 ≤ (97 : Int) from by omega) (show (-1 : Int) ≤ 3 ∧ 3 ≤ (9999 : Int) from by omega) (fun z29 q9 => ?_)
      refine ⟨fun c10 => ?_, fun c10 => ?_⟩
      · skip
        have dc10 := q9.2 c10
        exact hQ false ⟨fun h => (by cases h), fun _ => trivial⟩
      · skip
        have dc10 := q9.1 c10
        exact hQ true ⟨fun _ => by omega, fun _ => trivial⟩
-- fm_234 Model.opened 95 i
theorem sm_234 {a1 : Int} {Q : Int → lf_Z → Prop} {s : lf_Z} (hI : iv_A s.1 s.2.2) (ba1 : 3 ≤ a1 ∧ a1 ≤ 44) (kp0 : pz_Y (s.1 100) (s.1 98) (s.1 95 12) (s.1 95 13) (s.1 95 19) (s.1 95 20) (s.1 95 21) (s.1 95 22) (s.1 95 8) (s.1 98 (s.1 95 12)) (0) (0)) (kp1 : s.1 95 9 ≠ 0 ∧ s.1 95 8 < s.1 95 7 ∧ s.1 95 23 = 0) (kp2 : a1 = 40 ∨ a1 = 3 ∨ a1 = 41 ∨ a1 = 44 ∨ (a1 = 20 ∧ 0 < s.1 95 19 ∧ (s.1 100 (s.1 95 19 - 1) = 41 ∨ (20 ≤ s.1 100 (s.1 95 19 - 1) ∧ s.1 100 (s.1 95 19 - 1) ≤ 22)))) (hQ : ∀ (r : Int) (s' : lf_Z), iv_A s'.1 s'.2.2 → lf_fq [95, 100, 101] 1000000 true s.1 s.2.2 s'.1 s'.2.2 → (r = 0 → pz_Y (s'.1 100) (s'.1 98) (s'.1 95 12) (s'.1 95 13) (s'.1 95 19) (s'.1 95 20) (s'.1 95 21) (s'.1 95 22) (s'.1 95 8) (s.1 98 (s.1 95 12)) (s'.1 95 23) (0)) → (r = 0 → (s.1 95 8 < s'.1 95 8 ∧ (s'.1 95 9 = 0 ∨ s'.1 95 8 < s'.1 95 7))) → (pz_H (s'.1 98) (s'.1 95 12) (s.1 98 (s.1 95 12))) → (s'.1 95 12 = s.1 95 12) → (0 ≤ r ∧ r ≤ 3) → Q r s') : fm_234 a1 Q s := by
  unfold fm_234
  have b1 : 0 ≤ s.1 95 19 ∧ s.1 95 19 ≤ 160 := iv_r95_19 hI
  have b2 : 0 ≤ s.1 95 20 ∧ s.1 95 20 ≤ 8 := iv_r95_20 hI
  have b3 : 0 ≤ s.1 95 21 ∧ s.1 95 21 ≤ 8 := iv_r95_21 hI
  have b4 : 0 ≤ s.1 95 13 ∧ s.1 95 13 ≤ 304 := iv_r95_13 hI
  have b5 : 0 ≤ s.1 95 8 ∧ s.1 95 8 ≤ 300 := iv_r95_8 hI
  have b6 : 0 ≤ s.1 95 22 ∧ s.1 95 22 ≤ 80 := iv_r95_22 hI
  have b7 : 0 ≤ s.1 95 12 ∧ s.1 95 12 ≤ 2115 := iv_r95_12 hI
  have b8 : 0 ≤ (s.1 95 19) ∧ (s.1 95 19) ≤ 6 * (s.1 95 20) + 5 ∧ 0 ≤ (s.1 95 20) ∧ 0 ≤ (s.1 95 21) ∧ (s.1 95 21) ≤ (s.1 95 20) ∧ 0 ≤ (s.1 95 13) ∧ (s.1 95 13) + (s.1 95 19) ≤ (s.1 95 8) ∧ 4 * (s.1 95 22) + 3 * pz_4 ((s.1 100)) ((s.1 95 19)) ≤ (s.1 95 8) ∧ 0 ≤ pz_4 ((s.1 100)) ((s.1 95 19)) ∧ (s.1 98) ((s.1 95 12)) = (s.1 98) ((s.1 95 12)) ∧ 0 ≤ (s.1 98) ((s.1 95 12)) ∧ (s.1 98) ((s.1 95 12)) < 24 := pz_Yn2 kp0
  refine ⟨(show lf_R (s.1 95 20) from lf_Rof (by omega)), ?_⟩
  refine ⟨fun c9 => ?_, fun c9 => ?_⟩
  · skip
    replace c9 : s.1 95 20 ≠ 8 := c9
    have b10 : (pz_vo a1 = 1 ∧ (a1 = 3 ∨ a1 = 20 ∨ 40 ≤ a1) ∨ pz_vo a1 = 0 ∧ a1 ≠ 3 ∧ a1 ≠ 20 ∧ a1 < 40) ∧ (pz_vl a1 = 1 ∧ (a1 = 44 ∨ a1 = 45) ∨ pz_vl a1 = 0 ∧ a1 ≠ 44 ∧ a1 ≠ 45) ∧ (pz_v4 a1 = 1 ∧ a1 = 44 ∨ pz_v4 a1 = 0 ∧ a1 ≠ 44) := pz_vE _
    have hI11 : iv_A (lf_up s.1 95 20 ((s.1 95 20) + 1)) s.2.2 := iv_w95_20 hI (by omega)
    have fr12 : lf_fq [95, 100, 101] 1000000 true s.1 s.2.2 (lf_up s.1 95 20 ((s.1 95 20) + 1)) s.2.2 := lf_fq_up (lf_fq_rf) rfl (fun h => absurd h (by decide))
    have b13 : (lf_up s.1 95 20 ((s.1 95 20) + 1)) 95 19 = s.1 95 19 := lf_up_i (by omega)
    refine ⟨(show (0 : Int) ≤ s.1 95 19 ∧ s.1 95 19 < (160 : Int) from by omega), ?_⟩
    have hI14 : iv_A (lf_up (lf_up s.1 95 20 ((s.1 95 20) + 1)) 100 (s.1 95 19) a1) s.2.2 := iv_w100 hI11 (by omega)
    have fr15 : lf_fq [95, 100, 101] 1000000 true s.1 s.2.2 (lf_up (lf_up s.1 95 20 ((s.1 95 20) + 1)) 100 (s.1 95 19) a1) s.2.2 := lf_fq_up fr12 rfl (fun h => absurd h (by decide))
    have hI16 : iv_A (lf_up (lf_up (lf_up s.1 95 20 ((s.1 95 20) + 1)) 100 (s.1 95 19) a1) 95 19 ((s.1 95 19) + 1)) s.2.2 := iv_w95_19 hI14 (by omega)
    have fr17 : lf_fq [95, 100, 101] 1000000 true s.1 s.2.2 (lf_up (lf_up (lf_up s.1 95 20 ((s.1 95 20) + 1)) 100 (s.1 95 19) a1) 95 19 ((s.1 95 19) + 1)) s.2.2 := lf_fq_up fr15 rfl (fun h => absurd h (by decide))
    have b18 : (lf_up (lf_up (lf_up s.1 95 20 ((s.1 95 20) + 1)) 100 (s.1 95 19) a1) 95 19 ((s.1 95 19) + 1)) 95 12 = (lf_up (lf_up s.1 95 20 ((s.1 95 20) + 1)) 100 (s.1 95 19) a1) 95 12 := lf_up_i (by omega)
    have b19 : (lf_up s.1 95 20 ((s.1 95 20) + 1)) 95 12 = s.1 95 12 := lf_up_i (by omega)
    have b20 : (lf_up (lf_up (lf_up s.1 95 20 ((s.1 95 20) + 1)) 100 (s.1 95 19) a1) 95 19 ((s.1 95 19) + 1)) 95 13 = (lf_up (lf_up s.1 95 20 ((s.1 95 20) + 1)) 100 (s.1 95 19) a1) 95 13 := lf_up_i (by omega)
    have b21 : (lf_up s.1 95 20 ((s.1 95 20) + 1)) 95 13 = s.1 95 13 := lf_up_i (by omega)
    have b22 : (lf_up (lf_up (lf_up s.1 95 20 ((s.1 95 20) + 1)) 100 (s.1 95 19) a1) 95 19 ((s.1 95 19) + 1)) 95 22 = (lf_up (lf_up s.1 95 20 ((s.1 95 20) + 1)) 100 (s.1 95 19) a1) 95 22 := lf_up_i (by omega)
    have b23 : (lf_up s.1 95 20 ((s.1 95 20) + 1)) 95 22 = s.1 95 22 := lf_up_i (by omega)
    have b24 : pz_Y (((lf_up (lf_up s.1 95 20 ((s.1 95 20) + 1)) 100 (s.1 95 19) a1) 100)) ((s.1 98)) ((s.1 95 12)) ((s.1 95 13)) (((s.1 95 19) + 1)) (((s.1 95 20) + 1)) (s.1 95 21 + pz_vl a1) ((s.1 95 22)) (s.1 95 8 + 1 + 2 * pz_v4 a1) (s.1 98 (s.1 95 12)) (0) (0) := pz_cg (p := (((lf_up (lf_up s.1 95 20 ((s.1 95 20) + 1)) 100 (s.1 95 19) a1) 100))) rfl rfl (pz_Yu (p := (s.1 100)) (p' := (((lf_up (lf_up s.1 95 20 ((s.1 95 20) + 1)) 100 (s.1 95 19) a1) 100))) (e := a1) kp0 lf_up_s (fun j hj => lf_up_i hj) (pz_adjo kp2) (pz_vn0o kp2) (pz_vt0o kp2) (Int.le_refl _)) rfl rfl (by omega) (by omega) rfl rfl (Int.le_refl _) rfl rfl rfl
    refine sm_197 hI16 (fun s23 hI26 fr25 ps28 ps29 => ?_)
    replace ps28 : (s.1 95 7) ≤ s23.1 95 8 ∧ (s23.1 95 9 = 0 ∨ s23.1 95 8 < s23.1 95 7) := ps28
    replace ps29 : s23.1 95 12 = (s.1 95 12) ∧ s23.1 95 13 = (s.1 95 13) ∧ s23.1 95 19 = ((s.1 95 19) + 1) ∧ s23.1 95 20 = ((s.1 95 20) + 1) ∧ s23.1 95 21 = (s.1 95 21) ∧ s23.1 95 22 = (s.1 95 22) ∧ s23.1 95 23 = (s.1 95 23) := ps29
    have fr30 : lf_fq [95, 100, 101] 1000000 true s.1 s.2.2 s23.1 s23.2.2 := lf_fq_tr fr17 (lf_fq_wk fr25 rfl (by decide) (by decide))
    have b31 : 0 ≤ s23.1 95 12 ∧ s23.1 95 12 ≤ 2115 := iv_r95_12 hI26
    have b32 : 0 ≤ s23.1 95 13 ∧ s23.1 95 13 ≤ 304 := iv_r95_13 hI26
    have b33 : 0 ≤ s23.1 95 19 ∧ s23.1 95 19 ≤ 160 := iv_r95_19 hI26
    have b34 : 0 ≤ s23.1 95 20 ∧ s23.1 95 20 ≤ 8 := iv_r95_20 hI26
    have b35 : 0 ≤ s23.1 95 22 ∧ s23.1 95 22 ≤ 80 := iv_r95_22 hI26
    have b36 : pz_Y ((s23.1 100)) ((s23.1 98)) ((s23.1 95 12)) ((s23.1 95 13)) ((s23.1 95 19)) ((s23.1 95 20)) (s.1 95 21 + pz_vl a1) ((s23.1 95 22)) (s.1 95 8 + 1 + 2 * pz_v4 a1) (s.1 98 (s.1 95 12)) (0) (0) := pz_cg (fr25.1 100 rfl) (fr25.1 98 rfl) (by first | with_reducible assumption | assumption) (by omega) (by omega) (by omega) (by omega) (by omega) (by omega) (by omega) (by omega) rfl rfl
    refine ⟨(show lf_R a1 from lf_Rof (by omega)), ?_⟩
    refine ⟨fun c37 => ?_, fun c37 => ?_⟩
    · skip
      replace c37 : a1 = 44 := c37
      refine sm_232 hI26 (fun r26 q38 => ?_)
      obtain ⟨q38, q38x⟩ := q38
      have b39 : (-2147483648) ≤ s23.1 95 9 ∧ s23.1 95 9 ≤ 2147483647 := iv_full hI26
      have b40 : 0 ≤ s23.1 95 7 ∧ s23.1 95 7 ≤ 300 := iv_r95_7 hI26
      have b41 : 0 ≤ s23.1 95 8 ∧ s23.1 95 8 ≤ 300 := iv_r95_8 hI26
      have b42 : 0 ≤ s23.1 95 4 ∧ s23.1 95 4 ≤ 300 := iv_r95_4 hI26
      replace q38x : (r26 = -1 ∧ ¬ (s23.1 95 9 = 2 ∧ s23.1 95 7 - s23.1 95 8 = 1 ∧ s23.1 95 8 < s23.1 95 4 ∧ 97 ≤ s23.1 99 (s23.1 95 8) ∧ s23.1 99 (s23.1 95 8) ≤ 122)) ∨ (r26 = s23.1 99 (s23.1 95 8) - 97 ∧ s23.1 95 9 = 2 ∧ s23.1 95 7 - s23.1 95 8 = 1 ∧ s23.1 95 8 < s23.1 95 4 ∧ 97 ≤ s23.1 99 (s23.1 95 8) ∧ s23.1 99 (s23.1 95 8) ≤ 122) := q38x
      refine ⟨(show lf_R r26 from lf_Rof (by omega)), ?_⟩
      refine ⟨fun c43 => ?_, fun c43 => ?_⟩
      · skip
        replace c43 : 0 ≤ r26 := c43
        have b44 : 0 ≤ s23.1 95 21 ∧ s23.1 95 21 ≤ 8 := iv_r95_21 hI26
        refine sm_232 hI26 (fun r29 q45 => ?_)
        obtain ⟨q45, q45x⟩ := q45
        have b46 : (-2147483648) ≤ s23.1 95 9 ∧ s23.1 95 9 ≤ 2147483647 := iv_full hI26
        have b47 : 0 ≤ s23.1 95 7 ∧ s23.1 95 7 ≤ 300 := iv_r95_7 hI26
        have b48 : 0 ≤ s23.1 95 8 ∧ s23.1 95 8 ≤ 300 := iv_r95_8 hI26
        have b49 : 0 ≤ s23.1 95 4 ∧ s23.1 95 4 ≤ 300 := iv_r95_4 hI26
        replace q45x : (r29 = -1 ∧ ¬ (s23.1 95 9 = 2 ∧ s23.1 95 7 - s23.1 95 8 = 1 ∧ s23.1 95 8 < s23.1 95 4 ∧ 97 ≤ s23.1 99 (s23.1 95 8) ∧ s23.1 99 (s23.1 95 8) ≤ 122)) ∨ (r29 = s23.1 99 (s23.1 95 8) - 97 ∧ s23.1 95 9 = 2 ∧ s23.1 95 7 - s23.1 95 8 = 1 ∧ s23.1 95 8 < s23.1 95 4 ∧ 97 ≤ s23.1 99 (s23.1 95 8) ∧ s23.1 99 (s23.1 95 8) ≤ 122) := q45x
        refine ⟨(show (0 : Int) ≤ s23.1 95 21 ∧ s23.1 95 21 < (10 : Int) from by omega), ?_⟩
        have hI50 : iv_A (lf_up s23.1 101 (s23.1 95 21) r29) s23.2.2 := iv_w101 hI26 (by omega)
        have fr51 : lf_fq [95, 100, 101] 1000000 true s.1 s.2.2 (lf_up s23.1 101 (s23.1 95 21) r29) s23.2.2 := lf_fq_up fr30 rfl (fun h => absurd h (by decide))
        have hI52 : iv_A (lf_up (lf_up s23.1 101 (s23.1 95 21) r29) 95 21 ((s23.1 95 21) + 1)) s23.2.2 := iv_w95_21 hI50 (by omega)
        have fr53 : lf_fq [95, 100, 101] 1000000 true s.1 s.2.2 (lf_up (lf_up s23.1 101 (s23.1 95 21) r29) 95 21 ((s23.1 95 21) + 1)) s23.2.2 := lf_fq_up fr51 rfl (fun h => absurd h (by decide))
        refine sm_197 hI52 (fun s31 hI55 fr54 ps57 ps58 => ?_)
        replace ps57 : (s23.1 95 7) ≤ s31.1 95 8 ∧ (s31.1 95 9 = 0 ∨ s31.1 95 8 < s31.1 95 7) := ps57
        replace ps58 : s31.1 95 12 = (s23.1 95 12) ∧ s31.1 95 13 = (s23.1 95 13) ∧ s31.1 95 19 = (s23.1 95 19) ∧ s31.1 95 20 = (s23.1 95 20) ∧ s31.1 95 21 = ((s23.1 95 21) + 1) ∧ s31.1 95 22 = (s23.1 95 22) ∧ s31.1 95 23 = (s23.1 95 23) := ps58
        have fr59 : lf_fq [95, 100, 101] 1000000 true s.1 s.2.2 s31.1 s31.2.2 := lf_fq_tr fr53 (lf_fq_wk fr54 rfl (by decide) (by decide))
        have b60 : 0 ≤ s31.1 95 12 ∧ s31.1 95 12 ≤ 2115 := iv_r95_12 hI55
        have b61 : 0 ≤ s31.1 95 13 ∧ s31.1 95 13 ≤ 304 := iv_r95_13 hI55
        have b62 : 0 ≤ s31.1 95 19 ∧ s31.1 95 19 ≤ 160 := iv_r95_19 hI55
        have b63 : 0 ≤ s31.1 95 20 ∧ s31.1 95 20 ≤ 8 := iv_r95_20 hI55
        have b64 : 0 ≤ s31.1 95 22 ∧ s31.1 95 22 ≤ 80 := iv_r95_22 hI55
        have b65 : pz_Y ((s31.1 100)) ((s31.1 98)) ((s31.1 95 12)) ((s31.1 95 13)) ((s31.1 95 19)) ((s31.1 95 20)) (s.1 95 21 + pz_vl a1) ((s31.1 95 22)) (s.1 95 8 + 1 + 2 * pz_v4 a1) (s.1 98 (s.1 95 12)) (0) (0) := pz_cg (fr54.1 100 rfl) (fr54.1 98 rfl) (by first | with_reducible assumption | assumption) (by omega) (by omega) (by omega) (by omega) (by omega) (by omega) (by omega) (by omega) rfl rfl
        refine sm_206 hI55 (show (97 : Int) ≤ 98 ∧ 98 ≤ (119 : Int) from by omega) (show (97 : Int) ≤ 101 ∧ 101 ≤ (121 : Int) from by omega) (fun r33 => ?_)
        refine sm_207 hI55 (fun z35 q67 => ?_)
        have b68 : (-2147483648) ≤ s31.1 95 9 ∧ s31.1 95 9 ≤ 2147483647 := iv_full hI55
        refine ⟨fun c69 => ?_, fun c69 => ?_⟩
        · skip
          have dc69 := q67.1 c69
          refine sm_197 hI55 (fun s36 hI71 fr70 ps73 ps74 => ?_)
          replace ps73 : (s31.1 95 7) ≤ s36.1 95 8 ∧ (s36.1 95 9 = 0 ∨ s36.1 95 8 < s36.1 95 7) := ps73
          replace ps74 : s36.1 95 12 = (s31.1 95 12) ∧ s36.1 95 13 = (s31.1 95 13) ∧ s36.1 95 19 = (s31.1 95 19) ∧ s36.1 95 20 = (s31.1 95 20) ∧ s36.1 95 21 = (s31.1 95 21) ∧ s36.1 95 22 = (s31.1 95 22) ∧ s36.1 95 23 = (s31.1 95 23) := ps74
          have fr75 : lf_fq [95, 100, 101] 1000000 true s.1 s.2.2 s36.1 s36.2.2 := lf_fq_tr fr59 (lf_fq_wk fr70 rfl (by decide) (by decide))
          have b76 : 0 ≤ s36.1 95 12 ∧ s36.1 95 12 ≤ 2115 := iv_r95_12 hI71
          have b77 : 0 ≤ s36.1 95 13 ∧ s36.1 95 13 ≤ 304 := iv_r95_13 hI71
          have b78 : 0 ≤ s36.1 95 19 ∧ s36.1 95 19 ≤ 160 := iv_r95_19 hI71
          have b79 : 0 ≤ s36.1 95 20 ∧ s36.1 95 20 ≤ 8 := iv_r95_20 hI71
          have b80 : 0 ≤ s36.1 95 22 ∧ s36.1 95 22 ≤ 80 := iv_r95_22 hI71
          have b81 : pz_Y ((s36.1 100)) ((s36.1 98)) ((s36.1 95 12)) ((s36.1 95 13)) ((s36.1 95 19)) ((s36.1 95 20)) (s.1 95 21 + pz_vl a1) ((s36.1 95 22)) (s.1 95 8 + 1 + 2 * pz_v4 a1) (s.1 98 (s.1 95 12)) (0) (0) := pz_cg (fr70.1 100 rfl) (fr70.1 98 rfl) (by first | with_reducible assumption | assumption) (by omega) (by omega) (by omega) (by omega) (by omega) (by omega) (by omega) (by omega) rfl rfl
          have b82 : 0 ≤ s36.1 95 21 ∧ s36.1 95 21 ≤ 8 := iv_r95_21 hI71
          have b83 : 0 ≤ s36.1 95 8 ∧ s36.1 95 8 ≤ 300 := iv_r95_8 hI71
          have b84 : 0 ≤ s36.1 95 23 ∧ s36.1 95 23 ≤ 1 := iv_r95_23 hI71
          have b85 : pz_Y ((s36.1 100)) ((s36.1 98)) ((s36.1 95 12)) ((s36.1 95 13)) ((s36.1 95 19)) ((s36.1 95 20)) ((s36.1 95 21)) ((s36.1 95 22)) ((s36.1 95 8)) (s.1 98 (s.1 95 12)) ((s36.1 95 23)) (0) := pz_cg rfl rfl (by first | with_reducible assumption | assumption : pz_Y ((s36.1 100)) ((s36.1 98)) ((s36.1 95 12)) ((s36.1 95 13)) ((s36.1 95 19)) ((s36.1 95 20)) (s.1 95 21 + pz_vl a1) ((s36.1 95 22)) (s.1 95 8 + 1 + 2 * pz_v4 a1) (s.1 98 (s.1 95 12)) (0) (0)) rfl rfl rfl rfl (by omega) rfl (by omega) rfl (by omega) rfl
          have b86 : pz_H ((s36.1 98)) ((s36.1 95 12)) (s.1 98 (s.1 95 12)) := by first | exact pz_YH kp0 | exact pz_YH (by first | with_reducible assumption | assumption : pz_Y ((s36.1 100)) ((s36.1 98)) ((s36.1 95 12)) ((s36.1 95 13)) ((s36.1 95 19)) ((s36.1 95 20)) (s.1 95 21 + pz_vl a1) ((s36.1 95 22)) (s.1 95 8 + 1 + 2 * pz_v4 a1) (s.1 98 (s.1 95 12)) (0) (0))
          exact hQ 0 s36 hI71 fr75 (show 0 = 0 → pz_Y ((s36.1 100)) ((s36.1 98)) ((s36.1 95 12)) ((s36.1 95 13)) ((s36.1 95 19)) ((s36.1 95 20)) ((s36.1 95 21)) ((s36.1 95 22)) ((s36.1 95 8)) (s.1 98 (s.1 95 12)) ((s36.1 95 23)) (0) from fun _ => by first | with_reducible assumption | assumption) (show 0 = 0 → (s.1 95 8 < (s36.1 95 8) ∧ ((s36.1 95 9) = 0 ∨ (s36.1 95 8) < (s36.1 95 7))) from fun _ => by omega) (show pz_H ((s36.1 98)) ((s36.1 95 12)) (s.1 98 (s.1 95 12)) from by first | with_reducible assumption | assumption) (show (s36.1 95 12) = s.1 95 12 from by omega) (show (0 : Int) ≤ 0 ∧ 0 ≤ (3 : Int) from by omega)
        · skip
          have dc69 := q67.2 c69
          have b87 : pz_H ((s31.1 98)) ((s31.1 95 12)) (s.1 98 (s.1 95 12)) := by first | exact pz_YH kp0 | exact pz_YH (by first | with_reducible assumption | assumption : pz_Y ((s31.1 100)) ((s31.1 98)) ((s31.1 95 12)) ((s31.1 95 13)) ((s31.1 95 19)) ((s31.1 95 20)) (s.1 95 21 + pz_vl a1) ((s31.1 95 22)) (s.1 95 8 + 1 + 2 * pz_v4 a1) (s.1 98 (s.1 95 12)) (0) (0))
          exact hQ 1 s31 hI55 fr59 (show 1 = 0 → pz_Y ((s31.1 100)) ((s31.1 98)) ((s31.1 95 12)) ((s31.1 95 13)) ((s31.1 95 19)) ((s31.1 95 20)) ((s31.1 95 21)) ((s31.1 95 22)) ((s31.1 95 8)) (s.1 98 (s.1 95 12)) ((s31.1 95 23)) (0) from fun h => absurd h (by decide)) (show 1 = 0 → (s.1 95 8 < (s31.1 95 8) ∧ ((s31.1 95 9) = 0 ∨ (s31.1 95 8) < (s31.1 95 7))) from fun h => absurd h (by decide)) (show pz_H ((s31.1 98)) ((s31.1 95 12)) (s.1 98 (s.1 95 12)) from by first | with_reducible assumption | assumption) (show (s31.1 95 12) = s.1 95 12 from by omega) (show (0 : Int) ≤ 1 ∧ 1 ≤ (3 : Int) from by omega)
      · skip
        replace c43 : ¬ (0 ≤ r26) := c43
        have b88 : pz_H ((s23.1 98)) ((s23.1 95 12)) (s.1 98 (s.1 95 12)) := by first | exact pz_YH kp0 | exact pz_YH (by first | with_reducible assumption | assumption : pz_Y ((s23.1 100)) ((s23.1 98)) ((s23.1 95 12)) ((s23.1 95 13)) ((s23.1 95 19)) ((s23.1 95 20)) (s.1 95 21 + pz_vl a1) ((s23.1 95 22)) (s.1 95 8 + 1 + 2 * pz_v4 a1) (s.1 98 (s.1 95 12)) (0) (0))
        exact hQ 1 s23 hI26 fr30 (show 1 = 0 → pz_Y ((s23.1 100)) ((s23.1 98)) ((s23.1 95 12)) ((s23.1 95 13)) ((s23.1 95 19)) ((s23.1 95 20)) ((s23.1 95 21)) ((s23.1 95 22)) ((s23.1 95 8)) (s.1 98 (s.1 95 12)) ((s23.1 95 23)) (0) from fun h => absurd h (by decide)) (show 1 = 0 → (s.1 95 8 < (s23.1 95 8) ∧ ((s23.1 95 9) = 0 ∨ (s23.1 95 8) < (s23.1 95 7))) from fun h => absurd h (by decide)) (show pz_H ((s23.1 98)) ((s23.1 95 12)) (s.1 98 (s.1 95 12)) from by first | with_reducible assumption | assumption) (show (s23.1 95 12) = s.1 95 12 from by omega) (show (0 : Int) ≤ 1 ∧ 1 ≤ (3 : Int) from by omega)
    · skip
      replace c37 : ¬ (a1 = 44) := c37
      have b89 : 0 ≤ s23.1 95 21 ∧ s23.1 95 21 ≤ 8 := iv_r95_21 hI26
      have b90 : 0 ≤ s23.1 95 8 ∧ s23.1 95 8 ≤ 300 := iv_r95_8 hI26
      have b91 : 0 ≤ s23.1 95 23 ∧ s23.1 95 23 ≤ 1 := iv_r95_23 hI26
      have b92 : pz_Y ((s23.1 100)) ((s23.1 98)) ((s23.1 95 12)) ((s23.1 95 13)) ((s23.1 95 19)) ((s23.1 95 20)) ((s23.1 95 21)) ((s23.1 95 22)) ((s23.1 95 8)) (s.1 98 (s.1 95 12)) ((s23.1 95 23)) (0) := pz_cg rfl rfl (by first | with_reducible assumption | assumption : pz_Y ((s23.1 100)) ((s23.1 98)) ((s23.1 95 12)) ((s23.1 95 13)) ((s23.1 95 19)) ((s23.1 95 20)) (s.1 95 21 + pz_vl a1) ((s23.1 95 22)) (s.1 95 8 + 1 + 2 * pz_v4 a1) (s.1 98 (s.1 95 12)) (0) (0)) rfl rfl rfl rfl (by omega) rfl (by omega) rfl (by omega) rfl
      have b93 : pz_H ((s23.1 98)) ((s23.1 95 12)) (s.1 98 (s.1 95 12)) := by first | exact pz_YH kp0 | exact pz_YH (by first | with_reducible assumption | assumption : pz_Y ((s23.1 100)) ((s23.1 98)) ((s23.1 95 12)) ((s23.1 95 13)) ((s23.1 95 19)) ((s23.1 95 20)) (s.1 95 21 + pz_vl a1) ((s23.1 95 22)) (s.1 95 8 + 1 + 2 * pz_v4 a1) (s.1 98 (s.1 95 12)) (0) (0))
      exact hQ 0 s23 hI26 fr30 (show 0 = 0 → pz_Y ((s23.1 100)) ((s23.1 98)) ((s23.1 95 12)) ((s23.1 95 13)) ((s23.1 95 19)) ((s23.1 95 20)) ((s23.1 95 21)) ((s23.1 95 22)) ((s23.1 95 8)) (s.1 98 (s.1 95 12)) ((s23.1 95 23)) (0) from fun _ => by first | with_reducible assumption | assumption) (show 0 = 0 → (s.1 95 8 < (s23.1 95 8) ∧ ((s23.1 95 9) = 0 ∨ (s23.1 95 8) < (s23.1 95 7))) from fun _ => by omega) (show pz_H ((s23.1 98)) ((s23.1 95 12)) (s.1 98 (s.1 95 12)) from by first | with_reducible assumption | assumption) (show (s23.1 95 12) = s.1 95 12 from by omega) (show (0 : Int) ≤ 0 ∧ 0 ≤ (3 : Int) from by omega)
  · skip
    replace c9 : ¬ (s.1 95 20 ≠ 8) := c9
    have b94 : pz_H ((s.1 98)) ((s.1 95 12)) (s.1 98 (s.1 95 12)) := by first | exact pz_YH kp0 | exact pz_YH (by first | with_reducible assumption | assumption : pz_Y ((s.1 100)) ((s.1 98)) ((s.1 95 12)) ((s.1 95 13)) ((s.1 95 19)) ((s.1 95 20)) (s.1 95 21 + pz_vl a1) ((s.1 95 22)) (s.1 95 8 + 1 + 2 * pz_v4 a1) (s.1 98 (s.1 95 12)) (0) (0))
    exact hQ 3 s hI (lf_fq_rf) (show 3 = 0 → pz_Y ((s.1 100)) ((s.1 98)) ((s.1 95 12)) ((s.1 95 13)) ((s.1 95 19)) ((s.1 95 20)) ((s.1 95 21)) ((s.1 95 22)) ((s.1 95 8)) (s.1 98 (s.1 95 12)) ((s.1 95 23)) (0) from fun h => absurd h (by decide)) (show 3 = 0 → (s.1 95 8 < (s.1 95 8) ∧ ((s.1 95 9) = 0 ∨ (s.1 95 8) < (s.1 95 7))) from fun h => absurd h (by decide)) (show pz_H ((s.1 98)) ((s.1 95 12)) (s.1 98 (s.1 95 12)) from by first | with_reducible assumption | assumption) (show (s.1 95 12) = s.1 95 12 from by omega) (show (0 : Int) ≤ 3 ∧ 3 ≤ (3 : Int) from by omega)
-- fm_231 Model.isOf 95 i
theorem sm_231 {a1 : Int} {Q : Bool → lf_Z → Prop} {s : lf_Z} (hI : iv_A s.1 s.2.2) (ba1 : 0 ≤ a1 ∧ a1 ≤ 10) (hQ : ∀ (z : Bool), Q z s) : fm_231 a1 Q s := by
  unfold fm_231
  refine ⟨(show lf_R a1 from lf_Rof (by omega)), ?_⟩
  refine ⟨fun c1 => ?_, fun c1 => ?_⟩
  · skip
    replace c1 : a1 < 4 := c1
    exact hQ true
  · skip
    replace c1 : ¬ (a1 < 4) := c1
    refine ⟨fun c2 => ?_, fun c2 => ?_⟩
    · skip
      replace c2 : a1 ≠ 4 := c2
      refine ⟨fun c3 => ?_, fun c3 => ?_⟩
      · skip
        replace c3 : a1 ≠ 10 := c3
        have b4 : 0 ≤ s.1 95 14 ∧ s.1 95 14 ≤ 12 := iv_r95_14 hI
        refine ⟨(show lf_R (s.1 95 14) from lf_Rof (by omega)), ?_⟩
        refine ⟨fun c5 => ?_, fun c5 => ?_⟩
        · skip
          replace c5 : s.1 95 14 ≠ 1 := c5
          exact hQ false
        · skip
          replace c5 : ¬ (s.1 95 14 ≠ 1) := c5
          exact hQ true
      · skip
        replace c3 : ¬ (a1 ≠ 10) := c3
        have b6 : 0 ≤ s.1 95 14 ∧ s.1 95 14 ≤ 12 := iv_r95_14 hI
        refine ⟨(show lf_R (s.1 95 14) from lf_Rof (by omega)), ?_⟩
        refine ⟨fun c7 => ?_, fun c7 => ?_⟩
        · skip
          replace c7 : s.1 95 14 ≠ 2 := c7
          exact hQ false
        · skip
          replace c7 : ¬ (s.1 95 14 ≠ 2) := c7
          exact hQ true
    · skip
      replace c2 : ¬ (a1 ≠ 4) := c2
      have b8 : 0 ≤ s.1 95 14 ∧ s.1 95 14 ≤ 12 := iv_r95_14 hI
      refine ⟨(show lf_R (s.1 95 14) from lf_Rof (by omega)), ?_⟩
      refine ⟨fun c9 => ?_, fun c9 => ?_⟩
      · skip
        replace c9 : s.1 95 14 ≠ 0 := c9
        exact hQ false
      · skip
        replace c9 : ¬ (s.1 95 14 ≠ 0) := c9
        exact hQ true
-- fm_229 Model.beginOne 95
set_option maxHeartbeats 8000000 in
theorem sm_229_p79 {Q : Int → lf_Z → Prop} {x1 : Int} {s : lf_Z} {s0 : lf_Z} (hQ : ∀ (r : Int) (s' : lf_Z), iv_A s'.1 s'.2.2 → lf_fq [95, 98, 100, 101] 1000000 true s.1 s.2.2 s'.1 s'.2.2 → (r = 0 → pz_Y (s'.1 100) (s'.1 98) (s'.1 95 12) (s'.1 95 13) (s'.1 95 19) (s'.1 95 20) (s'.1 95 21) (s'.1 95 22) (s'.1 95 8) (s0.1 98 (s0.1 95 12)) (s'.1 95 23) (0)) → (r = 0 → (s0.1 95 8 < s'.1 95 8 ∧ (s'.1 95 9 = 0 ∨ s'.1 95 8 < s'.1 95 7))) → (pz_H (s'.1 98) (s'.1 95 12) (s0.1 98 (s0.1 95 12))) → (s'.1 95 12 = s0.1 95 12) → (0 ≤ r ∧ r ≤ 5) → Q r s') (hI : iv_A s.1 s.2.2) (bx1 : (-1) ≤ x1 ∧ x1 ≤ 10) (kv0 : pz_Y (s.1 100) (s.1 98) (s.1 95 12) (s.1 95 13) (s.1 95 19) (s.1 95 20) (s.1 95 21) (s.1 95 22) (s.1 95 8) (s0.1 98 (s0.1 95 12)) (0) (0)) (kv1 : s.1 95 9 = 0 ∨ s.1 95 8 < s.1 95 7) (kv2 : s.1 95 23 = 0) (kv3 : s.1 95 8 = s0.1 95 8 ∧ s.1 98 (s.1 95 12) = s0.1 98 (s0.1 95 12)) (kv4 : x1 = -1 ∨ s.1 95 9 = 2) (kv5 : s.1 95 9 ≠ 2 ∨ s.1 95 7 - s.1 95 8 ≠ 1 ∨ s.1 95 4 ≤ s.1 95 8 ∨ s.1 99 (s.1 95 8) < 97 ∨ 122 < s.1 99 (s.1 95 8) ∨ 0 ≤ s.1 103 (s.1 99 (s.1 95 8) - 97)) (kv6 : s.1 95 9 = 1 ∨ 0 ≤ x1 ∨ ¬ (s.1 95 9 ≠ 2 ∨ s.1 95 7 - s.1 95 8 ≠ 1 ∨ s.1 95 4 ≤ s.1 95 8 ∨ s.1 99 (s.1 95 8) < 97 ∨ 122 < s.1 99 (s.1 95 8))) (kv7 : s.1 95 12 = s0.1 95 12) : fm_229_p79 Q x1 s := by
  unfold fm_229_p79
  have b55 : 0 ≤ s.1 95 12 ∧ s.1 95 12 ≤ 2115 := iv_r95_12 hI
  have b56 : 0 ≤ s.1 95 13 ∧ s.1 95 13 ≤ 304 := iv_r95_13 hI
  have b57 : 0 ≤ s.1 95 19 ∧ s.1 95 19 ≤ 160 := iv_r95_19 hI
  have b58 : 0 ≤ s.1 95 20 ∧ s.1 95 20 ≤ 8 := iv_r95_20 hI
  have b59 : 0 ≤ s.1 95 21 ∧ s.1 95 21 ≤ 8 := iv_r95_21 hI
  have b60 : 0 ≤ s.1 95 22 ∧ s.1 95 22 ≤ 80 := iv_r95_22 hI
  have b61 : 0 ≤ s.1 95 8 ∧ s.1 95 8 ≤ 300 := iv_r95_8 hI
  have b62 : pz_Y ((s.1 100)) ((s.1 98)) ((s.1 95 12)) ((s.1 95 13)) ((s.1 95 19)) ((s.1 95 20)) ((s.1 95 21)) ((s.1 95 22)) ((s.1 95 8)) ((s.1 98) ((s.1 95 12))) (0) (0) := pz_Ym kv0
  have b63 : (-2147483648) ≤ s.1 95 9 ∧ s.1 95 9 ≤ 2147483647 := iv_full hI
  refine ⟨(show lf_R (s.1 95 9) from lf_Rof (by omega)), ?_⟩
  refine ⟨fun c64 => ?_, fun c64 => ?_⟩
  · skip
    replace c64 : s.1 95 9 ≠ 1 := c64
    refine ⟨(show lf_R x1 from lf_Rof (by omega)), ?_⟩
    refine ⟨fun c65 => ?_, fun c65 => ?_⟩
    · skip
      replace c65 : x1 < 0 := c65
      refine sm_232 hI (fun r32 q66 => ?_)
      obtain ⟨q66, q66x⟩ := q66
      have b67 : 0 ≤ s.1 95 7 ∧ s.1 95 7 ≤ 300 := iv_r95_7 hI
      have b68 : 0 ≤ s.1 95 4 ∧ s.1 95 4 ≤ 300 := iv_r95_4 hI
      replace q66x : (r32 = -1 ∧ ¬ (s.1 95 9 = 2 ∧ s.1 95 7 - s.1 95 8 = 1 ∧ s.1 95 8 < s.1 95 4 ∧ 97 ≤ s.1 99 (s.1 95 8) ∧ s.1 99 (s.1 95 8) ≤ 122)) ∨ (r32 = s.1 99 (s.1 95 8) - 97 ∧ s.1 95 9 = 2 ∧ s.1 95 7 - s.1 95 8 = 1 ∧ s.1 95 8 < s.1 95 4 ∧ 97 ≤ s.1 99 (s.1 95 8) ∧ s.1 99 (s.1 95 8) ≤ 122) := q66x
      refine ⟨(show (0 : Int) ≤ r32 ∧ r32 < (26 : Int) from by omega), ?_⟩
      have b69 : (-1) ≤ s.1 103 r32 ∧ s.1 103 r32 ≤ 79 := iv_r103 hI _
      have b70 : (s.1 103 r32) = (s.1 103) ((s.1 99) ((s.1 95 8)) - 97) := congrArg ((s.1 103)) (by omega)
      have b73 : 0 ≤ s.1 95 7 ∧ s.1 95 7 ≤ 300 := iv_r95_7 hI
      refine sm_233 hI (show (0 : Int) ≤ 31 ∧ 31 ≤ (31 : Int) from by omega) (show (-2147483648 : Int) ≤ s.1 103 r32 ∧ s.1 103 r32 ≤ (2147483647 : Int) from by omega) (show pz_Y ((s.1 100)) ((s.1 98)) ((s.1 95 12)) ((s.1 95 13)) ((s.1 95 19)) ((s.1 95 20)) ((s.1 95 21)) ((s.1 95 22)) ((s.1 95 8)) ((s.1 98) ((s.1 95 12))) (0) (0) from by first | with_reducible assumption | assumption) (show (s.1 95 9) ≠ 0 ∧ (s.1 95 8) < (s.1 95 7) from by omega) (show 31 = 0 ∨ (31 = 1 ∧ 0 ≤ (s.1 103 r32) ∧ (s.1 103 r32) < 11) ∨ (31 = 31 ∧ 0 ≤ (s.1 103 r32) ∧ (s.1 103 r32) < 80) from by omega) (fun s34 hI72 fr71 ps75 ps76 ps77 => ?_)
      replace ps75 : pz_Y (s34.1 100) (s34.1 98) (s34.1 95 12) (s34.1 95 13) (s34.1 95 19) (s34.1 95 20) (s34.1 95 21) (s34.1 95 22) (s34.1 95 8) ((s.1 98) ((s.1 95 12))) (1) (0) := ps75
      replace ps76 : (s.1 95 8) < s34.1 95 8 ∧ (s34.1 95 9 = 0 ∨ s34.1 95 8 < s34.1 95 7) ∧ s34.1 95 23 = 1 := ps76
      replace ps77 : s34.1 95 12 = (s.1 95 12) := ps77
      have fr78 : lf_fq [95, 98, 100, 101] 1000000 true s.1 s.2.2 s34.1 s34.2.2 := lf_fq_tr (lf_fq_rf) (lf_fq_wk fr71 rfl (by decide) (by decide))
      have b79 : 0 ≤ s34.1 95 12 ∧ s34.1 95 12 ≤ 2115 := iv_r95_12 hI72
      have b80 : 0 ≤ s34.1 95 13 ∧ s34.1 95 13 ≤ 304 := iv_r95_13 hI72
      have b81 : 0 ≤ s34.1 95 19 ∧ s34.1 95 19 ≤ 160 := iv_r95_19 hI72
      have b82 : 0 ≤ s34.1 95 20 ∧ s34.1 95 20 ≤ 8 := iv_r95_20 hI72
      have b83 : 0 ≤ s34.1 95 21 ∧ s34.1 95 21 ≤ 8 := iv_r95_21 hI72
      have b84 : 0 ≤ s34.1 95 22 ∧ s34.1 95 22 ≤ 80 := iv_r95_22 hI72
      have b85 : 0 ≤ s34.1 95 8 ∧ s34.1 95 8 ≤ 300 := iv_r95_8 hI72
      have b86 : 0 ≤ s34.1 95 23 ∧ s34.1 95 23 ≤ 1 := iv_r95_23 hI72
      have b87 : pz_Y ((s34.1 100)) ((s34.1 98)) ((s34.1 95 12)) ((s34.1 95 13)) ((s34.1 95 19)) ((s34.1 95 20)) ((s34.1 95 21)) ((s34.1 95 22)) ((s34.1 95 8)) (s0.1 98 (s0.1 95 12)) ((s34.1 95 23)) (0) := pz_cg rfl rfl ps75 rfl rfl rfl rfl rfl rfl (Int.le_refl _) (by omega) (by omega) rfl
      have b88 : pz_H ((s34.1 98)) ((s34.1 95 12)) (s0.1 98 (s0.1 95 12)) := by first | with_reducible assumption | exact pz_YH (by first | with_reducible assumption | assumption : pz_Y ((s34.1 100)) ((s34.1 98)) ((s34.1 95 12)) ((s34.1 95 13)) ((s34.1 95 19)) ((s34.1 95 20)) ((s34.1 95 21)) ((s34.1 95 22)) ((s34.1 95 8)) (s0.1 98 (s0.1 95 12)) ((s34.1 95 23)) (0)) | exact pz_YH (by first | with_reducible assumption | assumption : pz_Y ((s34.1 100)) ((s34.1 98)) ((s34.1 95 12)) ((s34.1 95 13)) ((s34.1 95 19)) ((s34.1 95 20)) ((s34.1 95 21)) ((s34.1 95 22)) ((s34.1 95 8)) (s0.1 98 (s0.1 95 12)) (0) (0)) | exact pz_cH rfl ps77 rfl (by omega)
      have b89 : 0 = 0 → pz_Y ((s34.1 100)) ((s34.1 98)) ((s34.1 95 12)) ((s34.1 95 13)) ((s34.1 95 19)) ((s34.1 95 20)) ((s34.1 95 21)) ((s34.1 95 22)) ((s34.1 95 8)) (s0.1 98 (s0.1 95 12)) ((s34.1 95 23)) (0) := by first | exact (fun h9 => pz_Yk (ps75 h9) (by omega)) | exact (fun h => absurd h (by decide)) | exact (fun _ => by first | with_reducible assumption | assumption)
      exact hQ 0 s34 hI72 fr78 (show 0 = 0 → pz_Y ((s34.1 100)) ((s34.1 98)) ((s34.1 95 12)) ((s34.1 95 13)) ((s34.1 95 19)) ((s34.1 95 20)) ((s34.1 95 21)) ((s34.1 95 22)) ((s34.1 95 8)) (s0.1 98 (s0.1 95 12)) ((s34.1 95 23)) (0) from fun _ => by first | with_reducible assumption | assumption) (show 0 = 0 → (s0.1 95 8 < (s34.1 95 8) ∧ ((s34.1 95 9) = 0 ∨ (s34.1 95 8) < (s34.1 95 7))) from fun _ => by omega) (show pz_H ((s34.1 98)) ((s34.1 95 12)) (s0.1 98 (s0.1 95 12)) from by first | with_reducible assumption | assumption) (show (s34.1 95 12) = s0.1 95 12 from by omega) (show (0 : Int) ≤ 0 ∧ 0 ≤ (5 : Int) from by omega)
    · skip
      replace c65 : ¬ (x1 < 0) := c65
      have b92 : 0 ≤ s.1 95 7 ∧ s.1 95 7 ≤ 300 := iv_r95_7 hI
      refine sm_233 hI (show (0 : Int) ≤ 1 ∧ 1 ≤ (31 : Int) from by omega) (show (-2147483648 : Int) ≤ x1 ∧ x1 ≤ (2147483647 : Int) from by omega) (show pz_Y ((s.1 100)) ((s.1 98)) ((s.1 95 12)) ((s.1 95 13)) ((s.1 95 19)) ((s.1 95 20)) ((s.1 95 21)) ((s.1 95 22)) ((s.1 95 8)) ((s.1 98) ((s.1 95 12))) (0) (0) from by first | with_reducible assumption | assumption) (show (s.1 95 9) ≠ 0 ∧ (s.1 95 8) < (s.1 95 7) from by omega) (show 1 = 0 ∨ (1 = 1 ∧ 0 ≤ x1 ∧ x1 < 11) ∨ (1 = 31 ∧ 0 ≤ x1 ∧ x1 < 80) from by omega) (fun s35 hI91 fr90 ps94 ps95 ps96 => ?_)
      replace ps94 : pz_Y (s35.1 100) (s35.1 98) (s35.1 95 12) (s35.1 95 13) (s35.1 95 19) (s35.1 95 20) (s35.1 95 21) (s35.1 95 22) (s35.1 95 8) ((s.1 98) ((s.1 95 12))) (1) (0) := ps94
      replace ps95 : (s.1 95 8) < s35.1 95 8 ∧ (s35.1 95 9 = 0 ∨ s35.1 95 8 < s35.1 95 7) ∧ s35.1 95 23 = 1 := ps95
      replace ps96 : s35.1 95 12 = (s.1 95 12) := ps96
      have fr97 : lf_fq [95, 98, 100, 101] 1000000 true s.1 s.2.2 s35.1 s35.2.2 := lf_fq_tr (lf_fq_rf) (lf_fq_wk fr90 rfl (by decide) (by decide))
      have b98 : 0 ≤ s35.1 95 12 ∧ s35.1 95 12 ≤ 2115 := iv_r95_12 hI91
      have b99 : 0 ≤ s35.1 95 13 ∧ s35.1 95 13 ≤ 304 := iv_r95_13 hI91
      have b100 : 0 ≤ s35.1 95 19 ∧ s35.1 95 19 ≤ 160 := iv_r95_19 hI91
      have b101 : 0 ≤ s35.1 95 20 ∧ s35.1 95 20 ≤ 8 := iv_r95_20 hI91
      have b102 : 0 ≤ s35.1 95 21 ∧ s35.1 95 21 ≤ 8 := iv_r95_21 hI91
      have b103 : 0 ≤ s35.1 95 22 ∧ s35.1 95 22 ≤ 80 := iv_r95_22 hI91
      have b104 : 0 ≤ s35.1 95 8 ∧ s35.1 95 8 ≤ 300 := iv_r95_8 hI91
      have b105 : 0 ≤ s35.1 95 23 ∧ s35.1 95 23 ≤ 1 := iv_r95_23 hI91
      have b106 : pz_Y ((s35.1 100)) ((s35.1 98)) ((s35.1 95 12)) ((s35.1 95 13)) ((s35.1 95 19)) ((s35.1 95 20)) ((s35.1 95 21)) ((s35.1 95 22)) ((s35.1 95 8)) (s0.1 98 (s0.1 95 12)) ((s35.1 95 23)) (0) := pz_cg rfl rfl ps94 rfl rfl rfl rfl rfl rfl (Int.le_refl _) (by omega) (by omega) rfl
      have b107 : pz_H ((s35.1 98)) ((s35.1 95 12)) (s0.1 98 (s0.1 95 12)) := by first | with_reducible assumption | exact pz_YH (by first | with_reducible assumption | assumption : pz_Y ((s35.1 100)) ((s35.1 98)) ((s35.1 95 12)) ((s35.1 95 13)) ((s35.1 95 19)) ((s35.1 95 20)) ((s35.1 95 21)) ((s35.1 95 22)) ((s35.1 95 8)) (s0.1 98 (s0.1 95 12)) ((s35.1 95 23)) (0)) | exact pz_YH (by first | with_reducible assumption | assumption : pz_Y ((s35.1 100)) ((s35.1 98)) ((s35.1 95 12)) ((s35.1 95 13)) ((s35.1 95 19)) ((s35.1 95 20)) ((s35.1 95 21)) ((s35.1 95 22)) ((s35.1 95 8)) (s0.1 98 (s0.1 95 12)) (0) (0)) | exact pz_cH rfl ps96 rfl (by omega)
      have b108 : 0 = 0 → pz_Y ((s35.1 100)) ((s35.1 98)) ((s35.1 95 12)) ((s35.1 95 13)) ((s35.1 95 19)) ((s35.1 95 20)) ((s35.1 95 21)) ((s35.1 95 22)) ((s35.1 95 8)) (s0.1 98 (s0.1 95 12)) ((s35.1 95 23)) (0) := by first | exact (fun h9 => pz_Yk (ps94 h9) (by omega)) | exact (fun h => absurd h (by decide)) | exact (fun _ => by first | with_reducible assumption | assumption)
      exact hQ 0 s35 hI91 fr97 (show 0 = 0 → pz_Y ((s35.1 100)) ((s35.1 98)) ((s35.1 95 12)) ((s35.1 95 13)) ((s35.1 95 19)) ((s35.1 95 20)) ((s35.1 95 21)) ((s35.1 95 22)) ((s35.1 95 8)) (s0.1 98 (s0.1 95 12)) ((s35.1 95 23)) (0) from fun _ => by first | with_reducible assumption | assumption) (show 0 = 0 → (s0.1 95 8 < (s35.1 95 8) ∧ ((s35.1 95 9) = 0 ∨ (s35.1 95 8) < (s35.1 95 7))) from fun _ => by omega) (show pz_H ((s35.1 98)) ((s35.1 95 12)) (s0.1 98 (s0.1 95 12)) from by first | with_reducible assumption | assumption) (show (s35.1 95 12) = s0.1 95 12 from by omega) (show (0 : Int) ≤ 0 ∧ 0 ≤ (5 : Int) from by omega)
  · skip
    replace c64 : ¬ (s.1 95 9 ≠ 1) := c64
    have b109 : (-2147483648) ≤ s.1 95 10 ∧ s.1 95 10 ≤ 2147483647 := iv_full hI
    have b112 : 0 ≤ s.1 95 7 ∧ s.1 95 7 ≤ 300 := iv_r95_7 hI
    refine sm_233 hI (show (0 : Int) ≤ 0 ∧ 0 ≤ (31 : Int) from by omega) (show (-2147483648 : Int) ≤ s.1 95 10 ∧ s.1 95 10 ≤ (2147483647 : Int) from by omega) (show pz_Y ((s.1 100)) ((s.1 98)) ((s.1 95 12)) ((s.1 95 13)) ((s.1 95 19)) ((s.1 95 20)) ((s.1 95 21)) ((s.1 95 22)) ((s.1 95 8)) ((s.1 98) ((s.1 95 12))) (0) (0) from by first | with_reducible assumption | assumption) (show (s.1 95 9) ≠ 0 ∧ (s.1 95 8) < (s.1 95 7) from by omega) (show 0 = 0 ∨ (0 = 1 ∧ 0 ≤ (s.1 95 10) ∧ (s.1 95 10) < 11) ∨ (0 = 31 ∧ 0 ≤ (s.1 95 10) ∧ (s.1 95 10) < 80) from by omega) (fun s36 hI111 fr110 ps114 ps115 ps116 => ?_)
    replace ps114 : pz_Y (s36.1 100) (s36.1 98) (s36.1 95 12) (s36.1 95 13) (s36.1 95 19) (s36.1 95 20) (s36.1 95 21) (s36.1 95 22) (s36.1 95 8) ((s.1 98) ((s.1 95 12))) (1) (0) := ps114
    replace ps115 : (s.1 95 8) < s36.1 95 8 ∧ (s36.1 95 9 = 0 ∨ s36.1 95 8 < s36.1 95 7) ∧ s36.1 95 23 = 1 := ps115
    replace ps116 : s36.1 95 12 = (s.1 95 12) := ps116
    have fr117 : lf_fq [95, 98, 100, 101] 1000000 true s.1 s.2.2 s36.1 s36.2.2 := lf_fq_tr (lf_fq_rf) (lf_fq_wk fr110 rfl (by decide) (by decide))
    have b118 : 0 ≤ s36.1 95 12 ∧ s36.1 95 12 ≤ 2115 := iv_r95_12 hI111
    have b119 : 0 ≤ s36.1 95 13 ∧ s36.1 95 13 ≤ 304 := iv_r95_13 hI111
    have b120 : 0 ≤ s36.1 95 19 ∧ s36.1 95 19 ≤ 160 := iv_r95_19 hI111
    have b121 : 0 ≤ s36.1 95 20 ∧ s36.1 95 20 ≤ 8 := iv_r95_20 hI111
    have b122 : 0 ≤ s36.1 95 21 ∧ s36.1 95 21 ≤ 8 := iv_r95_21 hI111
    have b123 : 0 ≤ s36.1 95 22 ∧ s36.1 95 22 ≤ 80 := iv_r95_22 hI111
    have b124 : 0 ≤ s36.1 95 8 ∧ s36.1 95 8 ≤ 300 := iv_r95_8 hI111
    have b125 : 0 ≤ s36.1 95 23 ∧ s36.1 95 23 ≤ 1 := iv_r95_23 hI111
    have b126 : pz_Y ((s36.1 100)) ((s36.1 98)) ((s36.1 95 12)) ((s36.1 95 13)) ((s36.1 95 19)) ((s36.1 95 20)) ((s36.1 95 21)) ((s36.1 95 22)) ((s36.1 95 8)) (s0.1 98 (s0.1 95 12)) ((s36.1 95 23)) (0) := pz_cg rfl rfl ps114 rfl rfl rfl rfl rfl rfl (Int.le_refl _) (by omega) (by omega) rfl
    have b127 : pz_H ((s36.1 98)) ((s36.1 95 12)) (s0.1 98 (s0.1 95 12)) := by first | with_reducible assumption | exact pz_YH (by first | with_reducible assumption | assumption : pz_Y ((s36.1 100)) ((s36.1 98)) ((s36.1 95 12)) ((s36.1 95 13)) ((s36.1 95 19)) ((s36.1 95 20)) ((s36.1 95 21)) ((s36.1 95 22)) ((s36.1 95 8)) (s0.1 98 (s0.1 95 12)) ((s36.1 95 23)) (0)) | exact pz_YH (by first | with_reducible assumption | assumption : pz_Y ((s36.1 100)) ((s36.1 98)) ((s36.1 95 12)) ((s36.1 95 13)) ((s36.1 95 19)) ((s36.1 95 20)) ((s36.1 95 21)) ((s36.1 95 22)) ((s36.1 95 8)) (s0.1 98 (s0.1 95 12)) (0) (0)) | exact pz_cH rfl ps116 rfl (by omega)
    have b128 : 0 = 0 → pz_Y ((s36.1 100)) ((s36.1 98)) ((s36.1 95 12)) ((s36.1 95 13)) ((s36.1 95 19)) ((s36.1 95 20)) ((s36.1 95 21)) ((s36.1 95 22)) ((s36.1 95 8)) (s0.1 98 (s0.1 95 12)) ((s36.1 95 23)) (0) := by first | exact (fun h9 => pz_Yk (ps114 h9) (by omega)) | exact (fun h => absurd h (by decide)) | exact (fun _ => by first | with_reducible assumption | assumption)
    exact hQ 0 s36 hI111 fr117 (show 0 = 0 → pz_Y ((s36.1 100)) ((s36.1 98)) ((s36.1 95 12)) ((s36.1 95 13)) ((s36.1 95 19)) ((s36.1 95 20)) ((s36.1 95 21)) ((s36.1 95 22)) ((s36.1 95 8)) (s0.1 98 (s0.1 95 12)) ((s36.1 95 23)) (0) from fun _ => by first | with_reducible assumption | assumption) (show 0 = 0 → (s0.1 95 8 < (s36.1 95 8) ∧ ((s36.1 95 9) = 0 ∨ (s36.1 95 8) < (s36.1 95 7))) from fun _ => by omega) (show pz_H ((s36.1 98)) ((s36.1 95 12)) (s0.1 98 (s0.1 95 12)) from by first | with_reducible assumption | assumption) (show (s36.1 95 12) = s0.1 95 12 from by omega) (show (0 : Int) ≤ 0 ∧ 0 ≤ (5 : Int) from by omega)
set_option maxHeartbeats 8000000 in
theorem sm_229_p60 {Q : Int → lf_Z → Prop} {x1 : Int} {s : lf_Z} {s0 : lf_Z} (hQ : ∀ (r : Int) (s' : lf_Z), iv_A s'.1 s'.2.2 → lf_fq [95, 98, 100, 101] 1000000 true s.1 s.2.2 s'.1 s'.2.2 → (r = 0 → pz_Y (s'.1 100) (s'.1 98) (s'.1 95 12) (s'.1 95 13) (s'.1 95 19) (s'.1 95 20) (s'.1 95 21) (s'.1 95 22) (s'.1 95 8) (s0.1 98 (s0.1 95 12)) (s'.1 95 23) (0)) → (r = 0 → (s0.1 95 8 < s'.1 95 8 ∧ (s'.1 95 9 = 0 ∨ s'.1 95 8 < s'.1 95 7))) → (pz_H (s'.1 98) (s'.1 95 12) (s0.1 98 (s0.1 95 12))) → (s'.1 95 12 = s0.1 95 12) → (0 ≤ r ∧ r ≤ 5) → Q r s') (hI : iv_A s.1 s.2.2) (bx1 : (-1) ≤ x1 ∧ x1 ≤ 10) (kv0 : pz_Y (s.1 100) (s.1 98) (s.1 95 12) (s.1 95 13) (s.1 95 19) (s.1 95 20) (s.1 95 21) (s.1 95 22) (s.1 95 8) (s0.1 98 (s0.1 95 12)) (0) (0)) (kv1 : s.1 95 9 = 0 ∨ s.1 95 8 < s.1 95 7) (kv2 : s.1 95 23 = 0) (kv3 : s.1 95 8 = s0.1 95 8 ∧ s.1 98 (s.1 95 12) = s0.1 98 (s0.1 95 12)) (kv4 : x1 = -1 ∨ s.1 95 9 = 2) (kv5 : s.1 95 9 ≠ 2 ∨ s.1 95 7 - s.1 95 8 ≠ 1 ∨ s.1 95 4 ≤ s.1 95 8 ∨ s.1 99 (s.1 95 8) < 97 ∨ 122 < s.1 99 (s.1 95 8) ∨ 0 ≤ s.1 103 (s.1 99 (s.1 95 8) - 97)) (kv6 : s.1 95 12 = s0.1 95 12) : fm_229_p60 Q x1 s := by
  unfold fm_229_p60
  have b43 : (-2147483648) ≤ s.1 95 9 ∧ s.1 95 9 ≤ 2147483647 := iv_full hI
  refine ⟨(show lf_R (s.1 95 9) from lf_Rof (by omega)), ?_⟩
  refine ⟨fun c44 => ?_, fun c44 => ?_⟩
  · skip
    replace c44 : s.1 95 9 = 1 := c44
    have b45 : 0 ≤ s.1 95 12 ∧ s.1 95 12 ≤ 2115 := iv_r95_12 hI
    have b46 : 0 ≤ s.1 95 13 ∧ s.1 95 13 ≤ 304 := iv_r95_13 hI
    have b47 : 0 ≤ s.1 95 19 ∧ s.1 95 19 ≤ 160 := iv_r95_19 hI
    have b48 : 0 ≤ s.1 95 20 ∧ s.1 95 20 ≤ 8 := iv_r95_20 hI
    have b49 : 0 ≤ s.1 95 21 ∧ s.1 95 21 ≤ 8 := iv_r95_21 hI
    have b50 : 0 ≤ s.1 95 22 ∧ s.1 95 22 ≤ 80 := iv_r95_22 hI
    have b51 : 0 ≤ s.1 95 8 ∧ s.1 95 8 ≤ 300 := iv_r95_8 hI
    have b52 : 0 ≤ s.1 95 7 ∧ s.1 95 7 ≤ 300 := iv_r95_7 hI
    have b53 : 0 ≤ s.1 95 23 ∧ s.1 95 23 ≤ 1 := iv_r95_23 hI
    have b54 : 0 ≤ s.1 95 4 ∧ s.1 95 4 ≤ 300 := iv_r95_4 hI
    exact sm_229_p79 (s0 := s0) hQ hI (show (-1 : Int) ≤ x1 ∧ x1 ≤ (10 : Int) from by omega) (show pz_Y ((s.1 100)) ((s.1 98)) ((s.1 95 12)) ((s.1 95 13)) ((s.1 95 19)) ((s.1 95 20)) ((s.1 95 21)) ((s.1 95 22)) ((s.1 95 8)) (s0.1 98 (s0.1 95 12)) (0) (0) from by first | with_reducible assumption | assumption) (show (s.1 95 9) = 0 ∨ (s.1 95 8) < (s.1 95 7) from by omega) (show (s.1 95 23) = 0 from by omega) (show (s.1 95 8) = s0.1 95 8 ∧ (s.1 98) ((s.1 95 12)) = s0.1 98 (s0.1 95 12) from by omega) (show x1 = -1 ∨ (s.1 95 9) = 2 from by omega) (show (s.1 95 9) ≠ 2 ∨ (s.1 95 7) - (s.1 95 8) ≠ 1 ∨ (s.1 95 4) ≤ (s.1 95 8) ∨ (s.1 99) ((s.1 95 8)) < 97 ∨ 122 < (s.1 99) ((s.1 95 8)) ∨ 0 ≤ (s.1 103) ((s.1 99) ((s.1 95 8)) - 97) from by omega) (show (s.1 95 9) = 1 ∨ 0 ≤ x1 ∨ ¬ ((s.1 95 9) ≠ 2 ∨ (s.1 95 7) - (s.1 95 8) ≠ 1 ∨ (s.1 95 4) ≤ (s.1 95 8) ∨ (s.1 99) ((s.1 95 8)) < 97 ∨ 122 < (s.1 99) ((s.1 95 8))) from by omega) (show (s.1 95 12) = s0.1 95 12 from by omega)
  · skip
    replace c44 : ¬ (s.1 95 9 = 1) := c44
    refine ⟨(show lf_R x1 from lf_Rof (by omega)), ?_⟩
    refine ⟨fun c129 => ?_, fun c129 => ?_⟩
    · skip
      replace c129 : 0 ≤ x1 := c129
      have b130 : 0 ≤ s.1 95 12 ∧ s.1 95 12 ≤ 2115 := iv_r95_12 hI
      have b131 : 0 ≤ s.1 95 13 ∧ s.1 95 13 ≤ 304 := iv_r95_13 hI
      have b132 : 0 ≤ s.1 95 19 ∧ s.1 95 19 ≤ 160 := iv_r95_19 hI
      have b133 : 0 ≤ s.1 95 20 ∧ s.1 95 20 ≤ 8 := iv_r95_20 hI
      have b134 : 0 ≤ s.1 95 21 ∧ s.1 95 21 ≤ 8 := iv_r95_21 hI
      have b135 : 0 ≤ s.1 95 22 ∧ s.1 95 22 ≤ 80 := iv_r95_22 hI
      have b136 : 0 ≤ s.1 95 8 ∧ s.1 95 8 ≤ 300 := iv_r95_8 hI
      have b137 : 0 ≤ s.1 95 7 ∧ s.1 95 7 ≤ 300 := iv_r95_7 hI
      have b138 : 0 ≤ s.1 95 23 ∧ s.1 95 23 ≤ 1 := iv_r95_23 hI
      have b139 : 0 ≤ s.1 95 4 ∧ s.1 95 4 ≤ 300 := iv_r95_4 hI
      exact sm_229_p79 (s0 := s0) hQ hI (show (-1 : Int) ≤ x1 ∧ x1 ≤ (10 : Int) from by omega) (show pz_Y ((s.1 100)) ((s.1 98)) ((s.1 95 12)) ((s.1 95 13)) ((s.1 95 19)) ((s.1 95 20)) ((s.1 95 21)) ((s.1 95 22)) ((s.1 95 8)) (s0.1 98 (s0.1 95 12)) (0) (0) from by first | with_reducible assumption | assumption) (show (s.1 95 9) = 0 ∨ (s.1 95 8) < (s.1 95 7) from by omega) (show (s.1 95 23) = 0 from by omega) (show (s.1 95 8) = s0.1 95 8 ∧ (s.1 98) ((s.1 95 12)) = s0.1 98 (s0.1 95 12) from by omega) (show x1 = -1 ∨ (s.1 95 9) = 2 from by omega) (show (s.1 95 9) ≠ 2 ∨ (s.1 95 7) - (s.1 95 8) ≠ 1 ∨ (s.1 95 4) ≤ (s.1 95 8) ∨ (s.1 99) ((s.1 95 8)) < 97 ∨ 122 < (s.1 99) ((s.1 95 8)) ∨ 0 ≤ (s.1 103) ((s.1 99) ((s.1 95 8)) - 97) from by omega) (show (s.1 95 9) = 1 ∨ 0 ≤ x1 ∨ ¬ ((s.1 95 9) ≠ 2 ∨ (s.1 95 7) - (s.1 95 8) ≠ 1 ∨ (s.1 95 4) ≤ (s.1 95 8) ∨ (s.1 99) ((s.1 95 8)) < 97 ∨ 122 < (s.1 99) ((s.1 95 8))) from by omega) (show (s.1 95 12) = s0.1 95 12 from by omega)
    · skip
      replace c129 : ¬ (0 ≤ x1) := c129
      refine sm_232 hI (fun r39 q140 => ?_)
      obtain ⟨q140, q140x⟩ := q140
      have b141 : 0 ≤ s.1 95 7 ∧ s.1 95 7 ≤ 300 := iv_r95_7 hI
      have b142 : 0 ≤ s.1 95 8 ∧ s.1 95 8 ≤ 300 := iv_r95_8 hI
      have b143 : 0 ≤ s.1 95 4 ∧ s.1 95 4 ≤ 300 := iv_r95_4 hI
      replace q140x : (r39 = -1 ∧ ¬ (s.1 95 9 = 2 ∧ s.1 95 7 - s.1 95 8 = 1 ∧ s.1 95 8 < s.1 95 4 ∧ 97 ≤ s.1 99 (s.1 95 8) ∧ s.1 99 (s.1 95 8) ≤ 122)) ∨ (r39 = s.1 99 (s.1 95 8) - 97 ∧ s.1 95 9 = 2 ∧ s.1 95 7 - s.1 95 8 = 1 ∧ s.1 95 8 < s.1 95 4 ∧ 97 ≤ s.1 99 (s.1 95 8) ∧ s.1 99 (s.1 95 8) ≤ 122) := q140x
      refine ⟨(show lf_R r39 from lf_Rof (by omega)), ?_⟩
      refine ⟨fun c144 => ?_, fun c144 => ?_⟩
      · skip
        replace c144 : r39 < 0 := c144
        have b145 : 0 ≤ s.1 95 12 ∧ s.1 95 12 ≤ 2115 := iv_r95_12 hI
        have b146 : 0 ≤ s.1 95 13 ∧ s.1 95 13 ≤ 304 := iv_r95_13 hI
        have b147 : 0 ≤ s.1 95 19 ∧ s.1 95 19 ≤ 160 := iv_r95_19 hI
        have b148 : 0 ≤ s.1 95 20 ∧ s.1 95 20 ≤ 8 := iv_r95_20 hI
        have b149 : 0 ≤ s.1 95 21 ∧ s.1 95 21 ≤ 8 := iv_r95_21 hI
        have b150 : 0 ≤ s.1 95 22 ∧ s.1 95 22 ≤ 80 := iv_r95_22 hI
        have b151 : 0 ≤ s.1 95 8 ∧ s.1 95 8 ≤ 300 := iv_r95_8 hI
        have b152 : pz_Y ((s.1 100)) ((s.1 98)) ((s.1 95 12)) ((s.1 95 13)) ((s.1 95 19)) ((s.1 95 20)) ((s.1 95 21)) ((s.1 95 22)) ((s.1 95 8)) ((s.1 98) ((s.1 95 12))) (0) (0) := pz_Ym kv0
        refine ⟨(show lf_R (s.1 95 9) from lf_Rof (by omega)), ?_⟩
        refine ⟨fun c153 => ?_, fun c153 => ?_⟩
        · skip
          replace c153 : s.1 95 9 ≠ 40 := c153
          refine ⟨fun c154 => ?_, fun c154 => ?_⟩
          · skip
            replace c154 : s.1 95 9 ≠ 45 := c154
            refine sm_206 hI (show (97 : Int) ≤ 105 ∧ 105 ≤ (119 : Int) from by omega) (show (97 : Int) ≤ 102 ∧ 102 ≤ (121 : Int) from by omega) (fun r43 => ?_)
            refine sm_207 hI (fun z45 q156 => ?_)
            refine ⟨fun c157 => ?_, fun c157 => ?_⟩
            · skip
              have dc157 := q156.2 c157
              refine sm_205 hI (show (97 : Int) ≤ 108 ∧ 108 ≤ (119 : Int) from by omega) (show (97 : Int) ≤ 101 ∧ 101 ≤ (117 : Int) from by omega) (show (97 : Int) ≤ 116 ∧ 116 ≤ (122 : Int) from by omega) (fun r47 => ?_)
              refine sm_207 hI (fun z49 q159 => ?_)
              refine ⟨fun c160 => ?_, fun c160 => ?_⟩
              · skip
                have dc160 := q159.2 c160
                refine sm_205 hI (show (97 : Int) ≤ 110 ∧ 110 ≤ (119 : Int) from by omega) (show (97 : Int) ≤ 111 ∧ 111 ≤ (117 : Int) from by omega) (show (97 : Int) ≤ 116 ∧ 116 ≤ (122 : Int) from by omega) (fun r51 => ?_)
                refine sm_207 hI (fun z53 q162 => ?_)
                refine ⟨fun c163 => ?_, fun c163 => ?_⟩
                · skip
                  have dc163 := q162.2 c163
                  have b164 : pz_H ((s.1 98)) ((s.1 95 12)) (s0.1 98 (s0.1 95 12)) := by first | with_reducible assumption | exact pz_YH (by first | with_reducible assumption | assumption : pz_Y ((s.1 100)) ((s.1 98)) ((s.1 95 12)) ((s.1 95 13)) ((s.1 95 19)) ((s.1 95 20)) ((s.1 95 21)) ((s.1 95 22)) ((s.1 95 8)) (s0.1 98 (s0.1 95 12)) ((s.1 95 23)) (0)) | exact pz_YH (by first | with_reducible assumption | assumption : pz_Y ((s.1 100)) ((s.1 98)) ((s.1 95 12)) ((s.1 95 13)) ((s.1 95 19)) ((s.1 95 20)) ((s.1 95 21)) ((s.1 95 22)) ((s.1 95 8)) (s0.1 98 (s0.1 95 12)) (0) (0)) | exact pz_cH rfl hI rfl (by omega)
                  have b165 : 0 ≤ s.1 95 23 ∧ s.1 95 23 ≤ 1 := iv_r95_23 hI
                  have b166 : 1 = 0 → pz_Y ((s.1 100)) ((s.1 98)) ((s.1 95 12)) ((s.1 95 13)) ((s.1 95 19)) ((s.1 95 20)) ((s.1 95 21)) ((s.1 95 22)) ((s.1 95 8)) (s0.1 98 (s0.1 95 12)) ((s.1 95 23)) (0) := by first | exact (fun h9 => pz_Yk (hI h9) (by omega)) | exact (fun h => absurd h (by decide)) | exact (fun _ => by first | with_reducible assumption | assumption)
                  exact hQ 1 s hI (lf_fq_rf) (show 1 = 0 → pz_Y ((s.1 100)) ((s.1 98)) ((s.1 95 12)) ((s.1 95 13)) ((s.1 95 19)) ((s.1 95 20)) ((s.1 95 21)) ((s.1 95 22)) ((s.1 95 8)) (s0.1 98 (s0.1 95 12)) ((s.1 95 23)) (0) from fun h => absurd h (by decide)) (show 1 = 0 → (s0.1 95 8 < (s.1 95 8) ∧ ((s.1 95 9) = 0 ∨ (s.1 95 8) < (s.1 95 7))) from fun h => absurd h (by decide)) (show pz_H ((s.1 98)) ((s.1 95 12)) (s0.1 98 (s0.1 95 12)) from by first | with_reducible assumption | assumption) (show (s.1 95 12) = s0.1 95 12 from by omega) (show (0 : Int) ≤ 1 ∧ 1 ≤ (5 : Int) from by omega)
                · skip
                  have dc163 := q162.1 c163
                  refine sm_235 hI (fun z55 q167 => ?_)
                  refine ⟨fun c168 => ?_, fun c168 => ?_⟩
                  · skip
                    have dc168 := q167.2 c168
                    have b169 : pz_H ((s.1 98)) ((s.1 95 12)) (s0.1 98 (s0.1 95 12)) := by first | with_reducible assumption | exact pz_YH (by first | with_reducible assumption | assumption : pz_Y ((s.1 100)) ((s.1 98)) ((s.1 95 12)) ((s.1 95 13)) ((s.1 95 19)) ((s.1 95 20)) ((s.1 95 21)) ((s.1 95 22)) ((s.1 95 8)) (s0.1 98 (s0.1 95 12)) ((s.1 95 23)) (0)) | exact pz_YH (by first | with_reducible assumption | assumption : pz_Y ((s.1 100)) ((s.1 98)) ((s.1 95 12)) ((s.1 95 13)) ((s.1 95 19)) ((s.1 95 20)) ((s.1 95 21)) ((s.1 95 22)) ((s.1 95 8)) (s0.1 98 (s0.1 95 12)) (0) (0)) | exact pz_cH rfl hI rfl (by omega)
                    have b170 : 0 ≤ s.1 95 23 ∧ s.1 95 23 ≤ 1 := iv_r95_23 hI
                    have b171 : 1 = 0 → pz_Y ((s.1 100)) ((s.1 98)) ((s.1 95 12)) ((s.1 95 13)) ((s.1 95 19)) ((s.1 95 20)) ((s.1 95 21)) ((s.1 95 22)) ((s.1 95 8)) (s0.1 98 (s0.1 95 12)) ((s.1 95 23)) (0) := by first | exact (fun h9 => pz_Yk (hI h9) (by omega)) | exact (fun h => absurd h (by decide)) | exact (fun _ => by first | with_reducible assumption | assumption)
                    exact hQ 1 s hI (lf_fq_rf) (show 1 = 0 → pz_Y ((s.1 100)) ((s.1 98)) ((s.1 95 12)) ((s.1 95 13)) ((s.1 95 19)) ((s.1 95 20)) ((s.1 95 21)) ((s.1 95 22)) ((s.1 95 8)) (s0.1 98 (s0.1 95 12)) ((s.1 95 23)) (0) from fun h => absurd h (by decide)) (show 1 = 0 → (s0.1 95 8 < (s.1 95 8) ∧ ((s.1 95 9) = 0 ∨ (s.1 95 8) < (s.1 95 7))) from fun h => absurd h (by decide)) (show pz_H ((s.1 98)) ((s.1 95 12)) (s0.1 98 (s0.1 95 12)) from by first | with_reducible assumption | assumption) (show (s.1 95 12) = s0.1 95 12 from by omega) (show (0 : Int) ≤ 1 ∧ 1 ≤ (5 : Int) from by omega)
                  · skip
                    have dc168 := q167.1 c168
                    have b174 : 0 ≤ s.1 95 7 ∧ s.1 95 7 ≤ 300 := iv_r95_7 hI
                    have b175 : 0 ≤ s.1 95 23 ∧ s.1 95 23 ≤ 1 := iv_r95_23 hI
                    refine sm_234 hI (show (3 : Int) ≤ 20 ∧ 20 ≤ (44 : Int) from by omega) (show pz_Y ((s.1 100)) ((s.1 98)) ((s.1 95 12)) ((s.1 95 13)) ((s.1 95 19)) ((s.1 95 20)) ((s.1 95 21)) ((s.1 95 22)) ((s.1 95 8)) ((s.1 98) ((s.1 95 12))) (0) (0) from by first | with_reducible assumption | assumption) (show (s.1 95 9) ≠ 0 ∧ (s.1 95 8) < (s.1 95 7) ∧ (s.1 95 23) = 0 from by omega) (show 20 = 40 ∨ 20 = 3 ∨ 20 = 41 ∨ 20 = 44 ∨ (20 = 20 ∧ 0 < (s.1 95 19) ∧ ((s.1 100) ((s.1 95 19) - 1) = 41 ∨ (20 ≤ (s.1 100) ((s.1 95 19) - 1) ∧ (s.1 100) ((s.1 95 19) - 1) ≤ 22))) from by omega) (fun r57 s56 hI173 fr172 ps177 ps178 ps179 ps180 q176 => ?_)
                    replace ps177 : r57 = 0 → pz_Y (s56.1 100) (s56.1 98) (s56.1 95 12) (s56.1 95 13) (s56.1 95 19) (s56.1 95 20) (s56.1 95 21) (s56.1 95 22) (s56.1 95 8) ((s.1 98) ((s.1 95 12))) (s56.1 95 23) (0) := ps177
                    replace ps178 : r57 = 0 → ((s.1 95 8) < s56.1 95 8 ∧ (s56.1 95 9 = 0 ∨ s56.1 95 8 < s56.1 95 7)) := ps178
                    replace ps179 : pz_H (s56.1 98) (s56.1 95 12) ((s.1 98) ((s.1 95 12))) := ps179
                    replace ps180 : s56.1 95 12 = (s.1 95 12) := ps180
                    have fr181 : lf_fq [95, 98, 100, 101] 1000000 true s.1 s.2.2 s56.1 s56.2.2 := lf_fq_tr (lf_fq_rf) (lf_fq_wk fr172 rfl (by decide) (by decide))
                    have b182 : 0 ≤ s56.1 95 12 ∧ s56.1 95 12 ≤ 2115 := iv_r95_12 hI173
                    have b183 : pz_H ((s56.1 98)) ((s56.1 95 12)) (s0.1 98 (s0.1 95 12)) := by first | with_reducible assumption | exact pz_YH (by first | with_reducible assumption | assumption : pz_Y ((s56.1 100)) ((s56.1 98)) ((s56.1 95 12)) ((s56.1 95 13)) ((s56.1 95 19)) ((s56.1 95 20)) ((s56.1 95 21)) ((s56.1 95 22)) ((s56.1 95 8)) (s0.1 98 (s0.1 95 12)) ((s56.1 95 23)) (0)) | exact pz_YH (by first | with_reducible assumption | assumption : pz_Y ((s56.1 100)) ((s56.1 98)) ((s56.1 95 12)) ((s56.1 95 13)) ((s56.1 95 19)) ((s56.1 95 20)) ((s56.1 95 21)) ((s56.1 95 22)) ((s56.1 95 8)) (s0.1 98 (s0.1 95 12)) (0) (0)) | exact pz_cH rfl ps179 rfl (by omega)
                    have b184 : 0 ≤ s56.1 95 13 ∧ s56.1 95 13 ≤ 304 := iv_r95_13 hI173
                    have b185 : 0 ≤ s56.1 95 19 ∧ s56.1 95 19 ≤ 160 := iv_r95_19 hI173
                    have b186 : 0 ≤ s56.1 95 20 ∧ s56.1 95 20 ≤ 8 := iv_r95_20 hI173
                    have b187 : 0 ≤ s56.1 95 21 ∧ s56.1 95 21 ≤ 8 := iv_r95_21 hI173
                    have b188 : 0 ≤ s56.1 95 22 ∧ s56.1 95 22 ≤ 80 := iv_r95_22 hI173
                    have b189 : 0 ≤ s56.1 95 8 ∧ s56.1 95 8 ≤ 300 := iv_r95_8 hI173
                    have b190 : 0 ≤ s56.1 95 23 ∧ s56.1 95 23 ≤ 1 := iv_r95_23 hI173
                    have b191 : r57 = 0 → pz_Y ((s56.1 100)) ((s56.1 98)) ((s56.1 95 12)) ((s56.1 95 13)) ((s56.1 95 19)) ((s56.1 95 20)) ((s56.1 95 21)) ((s56.1 95 22)) ((s56.1 95 8)) (s0.1 98 (s0.1 95 12)) ((s56.1 95 23)) (0) := by first | exact (fun h9 => pz_Yk (ps177 h9) (by omega)) | exact (fun h => absurd h (by decide)) | exact (fun _ => by first | with_reducible assumption | assumption)
                    exact hQ r57 s56 hI173 fr181 (show r57 = 0 → pz_Y ((s56.1 100)) ((s56.1 98)) ((s56.1 95 12)) ((s56.1 95 13)) ((s56.1 95 19)) ((s56.1 95 20)) ((s56.1 95 21)) ((s56.1 95 22)) ((s56.1 95 8)) (s0.1 98 (s0.1 95 12)) ((s56.1 95 23)) (0) from by first | with_reducible assumption | omega) (show r57 = 0 → (s0.1 95 8 < (s56.1 95 8) ∧ ((s56.1 95 9) = 0 ∨ (s56.1 95 8) < (s56.1 95 7))) from by first | with_reducible assumption | omega) (show pz_H ((s56.1 98)) ((s56.1 95 12)) (s0.1 98 (s0.1 95 12)) from by first | with_reducible assumption | assumption) (show (s56.1 95 12) = s0.1 95 12 from by omega) (show (0 : Int) ≤ r57 ∧ r57 ≤ (5 : Int) from by omega)
              · skip
                have dc160 := q159.1 c160
                have b194 : 0 ≤ s.1 95 7 ∧ s.1 95 7 ≤ 300 := iv_r95_7 hI
                have b195 : 0 ≤ s.1 95 23 ∧ s.1 95 23 ≤ 1 := iv_r95_23 hI
                refine sm_234 hI (show (3 : Int) ≤ 44 ∧ 44 ≤ (44 : Int) from by omega) (show pz_Y ((s.1 100)) ((s.1 98)) ((s.1 95 12)) ((s.1 95 13)) ((s.1 95 19)) ((s.1 95 20)) ((s.1 95 21)) ((s.1 95 22)) ((s.1 95 8)) ((s.1 98) ((s.1 95 12))) (0) (0) from by first | with_reducible assumption | assumption) (show (s.1 95 9) ≠ 0 ∧ (s.1 95 8) < (s.1 95 7) ∧ (s.1 95 23) = 0 from by omega) (show 44 = 40 ∨ 44 = 3 ∨ 44 = 41 ∨ 44 = 44 ∨ (44 = 20 ∧ 0 < (s.1 95 19) ∧ ((s.1 100) ((s.1 95 19) - 1) = 41 ∨ (20 ≤ (s.1 100) ((s.1 95 19) - 1) ∧ (s.1 100) ((s.1 95 19) - 1) ≤ 22))) from by omega) (fun r59 s58 hI193 fr192 ps197 ps198 ps199 ps200 q196 => ?_)
                replace ps197 : r59 = 0 → pz_Y (s58.1 100) (s58.1 98) (s58.1 95 12) (s58.1 95 13) (s58.1 95 19) (s58.1 95 20) (s58.1 95 21) (s58.1 95 22) (s58.1 95 8) ((s.1 98) ((s.1 95 12))) (s58.1 95 23) (0) := ps197
                replace ps198 : r59 = 0 → ((s.1 95 8) < s58.1 95 8 ∧ (s58.1 95 9 = 0 ∨ s58.1 95 8 < s58.1 95 7)) := ps198
                replace ps199 : pz_H (s58.1 98) (s58.1 95 12) ((s.1 98) ((s.1 95 12))) := ps199
                replace ps200 : s58.1 95 12 = (s.1 95 12) := ps200
                have fr201 : lf_fq [95, 98, 100, 101] 1000000 true s.1 s.2.2 s58.1 s58.2.2 := lf_fq_tr (lf_fq_rf) (lf_fq_wk fr192 rfl (by decide) (by decide))
                have b202 : 0 ≤ s58.1 95 12 ∧ s58.1 95 12 ≤ 2115 := iv_r95_12 hI193
                have b203 : pz_H ((s58.1 98)) ((s58.1 95 12)) (s0.1 98 (s0.1 95 12)) := by first | with_reducible assumption | exact pz_YH (by first | with_reducible assumption | assumption : pz_Y ((s58.1 100)) ((s58.1 98)) ((s58.1 95 12)) ((s58.1 95 13)) ((s58.1 95 19)) ((s58.1 95 20)) ((s58.1 95 21)) ((s58.1 95 22)) ((s58.1 95 8)) (s0.1 98 (s0.1 95 12)) ((s58.1 95 23)) (0)) | exact pz_YH (by first | with_reducible assumption | assumption : pz_Y ((s58.1 100)) ((s58.1 98)) ((s58.1 95 12)) ((s58.1 95 13)) ((s58.1 95 19)) ((s58.1 95 20)) ((s58.1 95 21)) ((s58.1 95 22)) ((s58.1 95 8)) (s0.1 98 (s0.1 95 12)) (0) (0)) | exact pz_cH rfl ps199 rfl (by omega)
                have b204 : 0 ≤ s58.1 95 13 ∧ s58.1 95 13 ≤ 304 := iv_r95_13 hI193
                have b205 : 0 ≤ s58.1 95 19 ∧ s58.1 95 19 ≤ 160 := iv_r95_19 hI193
                have b206 : 0 ≤ s58.1 95 20 ∧ s58.1 95 20 ≤ 8 := iv_r95_20 hI193
                have b207 : 0 ≤ s58.1 95 21 ∧ s58.1 95 21 ≤ 8 := iv_r95_21 hI193
                have b208 : 0 ≤ s58.1 95 22 ∧ s58.1 95 22 ≤ 80 := iv_r95_22 hI193
                have b209 : 0 ≤ s58.1 95 8 ∧ s58.1 95 8 ≤ 300 := iv_r95_8 hI193
                have b210 : 0 ≤ s58.1 95 23 ∧ s58.1 95 23 ≤ 1 := iv_r95_23 hI193
                have b211 : r59 = 0 → pz_Y ((s58.1 100)) ((s58.1 98)) ((s58.1 95 12)) ((s58.1 95 13)) ((s58.1 95 19)) ((s58.1 95 20)) ((s58.1 95 21)) ((s58.1 95 22)) ((s58.1 95 8)) (s0.1 98 (s0.1 95 12)) ((s58.1 95 23)) (0) := by first | exact (fun h9 => pz_Yk (ps197 h9) (by omega)) | exact (fun h => absurd h (by decide)) | exact (fun _ => by first | with_reducible assumption | assumption)
                exact hQ r59 s58 hI193 fr201 (show r59 = 0 → pz_Y ((s58.1 100)) ((s58.1 98)) ((s58.1 95 12)) ((s58.1 95 13)) ((s58.1 95 19)) ((s58.1 95 20)) ((s58.1 95 21)) ((s58.1 95 22)) ((s58.1 95 8)) (s0.1 98 (s0.1 95 12)) ((s58.1 95 23)) (0) from by first | with_reducible assumption | omega) (show r59 = 0 → (s0.1 95 8 < (s58.1 95 8) ∧ ((s58.1 95 9) = 0 ∨ (s58.1 95 8) < (s58.1 95 7))) from by first | with_reducible assumption | omega) (show pz_H ((s58.1 98)) ((s58.1 95 12)) (s0.1 98 (s0.1 95 12)) from by first | with_reducible assumption | assumption) (show (s58.1 95 12) = s0.1 95 12 from by omega) (show (0 : Int) ≤ r59 ∧ r59 ≤ (5 : Int) from by omega)
            · skip
              have dc157 := q156.1 c157
              have b214 : 0 ≤ s.1 95 7 ∧ s.1 95 7 ≤ 300 := iv_r95_7 hI
              have b215 : 0 ≤ s.1 95 23 ∧ s.1 95 23 ≤ 1 := iv_r95_23 hI
              refine sm_234 hI (show (3 : Int) ≤ 41 ∧ 41 ≤ (44 : Int) from by omega) (show pz_Y ((s.1 100)) ((s.1 98)) ((s.1 95 12)) ((s.1 95 13)) ((s.1 95 19)) ((s.1 95 20)) ((s.1 95 21)) ((s.1 95 22)) ((s.1 95 8)) ((s.1 98) ((s.1 95 12))) (0) (0) from by first | with_reducible assumption | assumption) (show (s.1 95 9) ≠ 0 ∧ (s.1 95 8) < (s.1 95 7) ∧ (s.1 95 23) = 0 from by omega) (show 41 = 40 ∨ 41 = 3 ∨ 41 = 41 ∨ 41 = 44 ∨ (41 = 20 ∧ 0 < (s.1 95 19) ∧ ((s.1 100) ((s.1 95 19) - 1) = 41 ∨ (20 ≤ (s.1 100) ((s.1 95 19) - 1) ∧ (s.1 100) ((s.1 95 19) - 1) ≤ 22))) from by omega) (fun r61 s60 hI213 fr212 ps217 ps218 ps219 ps220 q216 => ?_)
              replace ps217 : r61 = 0 → pz_Y (s60.1 100) (s60.1 98) (s60.1 95 12) (s60.1 95 13) (s60.1 95 19) (s60.1 95 20) (s60.1 95 21) (s60.1 95 22) (s60.1 95 8) ((s.1 98) ((s.1 95 12))) (s60.1 95 23) (0) := ps217
              replace ps218 : r61 = 0 → ((s.1 95 8) < s60.1 95 8 ∧ (s60.1 95 9 = 0 ∨ s60.1 95 8 < s60.1 95 7)) := ps218
              replace ps219 : pz_H (s60.1 98) (s60.1 95 12) ((s.1 98) ((s.1 95 12))) := ps219
              replace ps220 : s60.1 95 12 = (s.1 95 12) := ps220
              have fr221 : lf_fq [95, 98, 100, 101] 1000000 true s.1 s.2.2 s60.1 s60.2.2 := lf_fq_tr (lf_fq_rf) (lf_fq_wk fr212 rfl (by decide) (by decide))
              have b222 : 0 ≤ s60.1 95 12 ∧ s60.1 95 12 ≤ 2115 := iv_r95_12 hI213
              have b223 : pz_H ((s60.1 98)) ((s60.1 95 12)) (s0.1 98 (s0.1 95 12)) := by first | with_reducible assumption | exact pz_YH (by first | with_reducible assumption | assumption : pz_Y ((s60.1 100)) ((s60.1 98)) ((s60.1 95 12)) ((s60.1 95 13)) ((s60.1 95 19)) ((s60.1 95 20)) ((s60.1 95 21)) ((s60.1 95 22)) ((s60.1 95 8)) (s0.1 98 (s0.1 95 12)) ((s60.1 95 23)) (0)) | exact pz_YH (by first | with_reducible assumption | assumption : pz_Y ((s60.1 100)) ((s60.1 98)) ((s60.1 95 12)) ((s60.1 95 13)) ((s60.1 95 19)) ((s60.1 95 20)) ((s60.1 95 21)) ((s60.1 95 22)) ((s60.1 95 8)) (s0.1 98 (s0.1 95 12)) (0) (0)) | exact pz_cH rfl ps219 rfl (by omega)
              have b224 : 0 ≤ s60.1 95 13 ∧ s60.1 95 13 ≤ 304 := iv_r95_13 hI213
              have b225 : 0 ≤ s60.1 95 19 ∧ s60.1 95 19 ≤ 160 := iv_r95_19 hI213
              have b226 : 0 ≤ s60.1 95 20 ∧ s60.1 95 20 ≤ 8 := iv_r95_20 hI213
              have b227 : 0 ≤ s60.1 95 21 ∧ s60.1 95 21 ≤ 8 := iv_r95_21 hI213
              have b228 : 0 ≤ s60.1 95 22 ∧ s60.1 95 22 ≤ 80 := iv_r95_22 hI213
              have b229 : 0 ≤ s60.1 95 8 ∧ s60.1 95 8 ≤ 300 := iv_r95_8 hI213
              have b230 : 0 ≤ s60.1 95 23 ∧ s60.1 95 23 ≤ 1 := iv_r95_23 hI213
              have b231 : r61 = 0 → pz_Y ((s60.1 100)) ((s60.1 98)) ((s60.1 95 12)) ((s60.1 95 13)) ((s60.1 95 19)) ((s60.1 95 20)) ((s60.1 95 21)) ((s60.1 95 22)) ((s60.1 95 8)) (s0.1 98 (s0.1 95 12)) ((s60.1 95 23)) (0) := by first | exact (fun h9 => pz_Yk (ps217 h9) (by omega)) | exact (fun h => absurd h (by decide)) | exact (fun _ => by first | with_reducible assumption | assumption)
              exact hQ r61 s60 hI213 fr221 (show r61 = 0 → pz_Y ((s60.1 100)) ((s60.1 98)) ((s60.1 95 12)) ((s60.1 95 13)) ((s60.1 95 19)) ((s60.1 95 20)) ((s60.1 95 21)) ((s60.1 95 22)) ((s60.1 95 8)) (s0.1 98 (s0.1 95 12)) ((s60.1 95 23)) (0) from by first | with_reducible assumption | omega) (show r61 = 0 → (s0.1 95 8 < (s60.1 95 8) ∧ ((s60.1 95 9) = 0 ∨ (s60.1 95 8) < (s60.1 95 7))) from by first | with_reducible assumption | omega) (show pz_H ((s60.1 98)) ((s60.1 95 12)) (s0.1 98 (s0.1 95 12)) from by first | with_reducible assumption | assumption) (show (s60.1 95 12) = s0.1 95 12 from by omega) (show (0 : Int) ≤ r61 ∧ r61 ≤ (5 : Int) from by omega)
          · skip
            replace c154 : ¬ (s.1 95 9 ≠ 45) := c154
            have b234 : 0 ≤ s.1 95 7 ∧ s.1 95 7 ≤ 300 := iv_r95_7 hI
            have b235 : 0 ≤ s.1 95 23 ∧ s.1 95 23 ≤ 1 := iv_r95_23 hI
            refine sm_234 hI (show (3 : Int) ≤ 3 ∧ 3 ≤ (44 : Int) from by omega) (show pz_Y ((s.1 100)) ((s.1 98)) ((s.1 95 12)) ((s.1 95 13)) ((s.1 95 19)) ((s.1 95 20)) ((s.1 95 21)) ((s.1 95 22)) ((s.1 95 8)) ((s.1 98) ((s.1 95 12))) (0) (0) from by first | with_reducible assumption | assumption) (show (s.1 95 9) ≠ 0 ∧ (s.1 95 8) < (s.1 95 7) ∧ (s.1 95 23) = 0 from by omega) (show 3 = 40 ∨ 3 = 3 ∨ 3 = 41 ∨ 3 = 44 ∨ (3 = 20 ∧ 0 < (s.1 95 19) ∧ ((s.1 100) ((s.1 95 19) - 1) = 41 ∨ (20 ≤ (s.1 100) ((s.1 95 19) - 1) ∧ (s.1 100) ((s.1 95 19) - 1) ≤ 22))) from by omega) (fun r63 s62 hI233 fr232 ps237 ps238 ps239 ps240 q236 => ?_)
            replace ps237 : r63 = 0 → pz_Y (s62.1 100) (s62.1 98) (s62.1 95 12) (s62.1 95 13) (s62.1 95 19) (s62.1 95 20) (s62.1 95 21) (s62.1 95 22) (s62.1 95 8) ((s.1 98) ((s.1 95 12))) (s62.1 95 23) (0) := ps237
            replace ps238 : r63 = 0 → ((s.1 95 8) < s62.1 95 8 ∧ (s62.1 95 9 = 0 ∨ s62.1 95 8 < s62.1 95 7)) := ps238
            replace ps239 : pz_H (s62.1 98) (s62.1 95 12) ((s.1 98) ((s.1 95 12))) := ps239
            replace ps240 : s62.1 95 12 = (s.1 95 12) := ps240
            have fr241 : lf_fq [95, 98, 100, 101] 1000000 true s.1 s.2.2 s62.1 s62.2.2 := lf_fq_tr (lf_fq_rf) (lf_fq_wk fr232 rfl (by decide) (by decide))
            have b242 : 0 ≤ s62.1 95 12 ∧ s62.1 95 12 ≤ 2115 := iv_r95_12 hI233
            have b243 : pz_H ((s62.1 98)) ((s62.1 95 12)) (s0.1 98 (s0.1 95 12)) := by first | with_reducible assumption | exact pz_YH (by first | with_reducible assumption | assumption : pz_Y ((s62.1 100)) ((s62.1 98)) ((s62.1 95 12)) ((s62.1 95 13)) ((s62.1 95 19)) ((s62.1 95 20)) ((s62.1 95 21)) ((s62.1 95 22)) ((s62.1 95 8)) (s0.1 98 (s0.1 95 12)) ((s62.1 95 23)) (0)) | exact pz_YH (by first | with_reducible assumption | assumption : pz_Y ((s62.1 100)) ((s62.1 98)) ((s62.1 95 12)) ((s62.1 95 13)) ((s62.1 95 19)) ((s62.1 95 20)) ((s62.1 95 21)) ((s62.1 95 22)) ((s62.1 95 8)) (s0.1 98 (s0.1 95 12)) (0) (0)) | exact pz_cH rfl ps239 rfl (by omega)
            have b244 : 0 ≤ s62.1 95 13 ∧ s62.1 95 13 ≤ 304 := iv_r95_13 hI233
            have b245 : 0 ≤ s62.1 95 19 ∧ s62.1 95 19 ≤ 160 := iv_r95_19 hI233
            have b246 : 0 ≤ s62.1 95 20 ∧ s62.1 95 20 ≤ 8 := iv_r95_20 hI233
            have b247 : 0 ≤ s62.1 95 21 ∧ s62.1 95 21 ≤ 8 := iv_r95_21 hI233
            have b248 : 0 ≤ s62.1 95 22 ∧ s62.1 95 22 ≤ 80 := iv_r95_22 hI233
            have b249 : 0 ≤ s62.1 95 8 ∧ s62.1 95 8 ≤ 300 := iv_r95_8 hI233
            have b250 : 0 ≤ s62.1 95 23 ∧ s62.1 95 23 ≤ 1 := iv_r95_23 hI233
            have b251 : r63 = 0 → pz_Y ((s62.1 100)) ((s62.1 98)) ((s62.1 95 12)) ((s62.1 95 13)) ((s62.1 95 19)) ((s62.1 95 20)) ((s62.1 95 21)) ((s62.1 95 22)) ((s62.1 95 8)) (s0.1 98 (s0.1 95 12)) ((s62.1 95 23)) (0) := by first | exact (fun h9 => pz_Yk (ps237 h9) (by omega)) | exact (fun h => absurd h (by decide)) | exact (fun _ => by first | with_reducible assumption | assumption)
            exact hQ r63 s62 hI233 fr241 (show r63 = 0 → pz_Y ((s62.1 100)) ((s62.1 98)) ((s62.1 95 12)) ((s62.1 95 13)) ((s62.1 95 19)) ((s62.1 95 20)) ((s62.1 95 21)) ((s62.1 95 22)) ((s62.1 95 8)) (s0.1 98 (s0.1 95 12)) ((s62.1 95 23)) (0) from by first | with_reducible assumption | omega) (show r63 = 0 → (s0.1 95 8 < (s62.1 95 8) ∧ ((s62.1 95 9) = 0 ∨ (s62.1 95 8) < (s62.1 95 7))) from by first | with_reducible assumption | omega) (show pz_H ((s62.1 98)) ((s62.1 95 12)) (s0.1 98 (s0.1 95 12)) from by first | with_reducible assumption | assumption) (show (s62.1 95 12) = s0.1 95 12 from by omega) (show (0 : Int) ≤ r63 ∧ r63 ≤ (5 : Int) from by omega)
        · skip
          replace c153 : ¬ (s.1 95 9 ≠ 40) := c153
          have b254 : 0 ≤ s.1 95 7 ∧ s.1 95 7 ≤ 300 := iv_r95_7 hI
          have b255 : 0 ≤ s.1 95 23 ∧ s.1 95 23 ≤ 1 := iv_r95_23 hI
          refine sm_234 hI (show (3 : Int) ≤ 40 ∧ 40 ≤ (44 : Int) from by omega) (show pz_Y ((s.1 100)) ((s.1 98)) ((s.1 95 12)) ((s.1 95 13)) ((s.1 95 19)) ((s.1 95 20)) ((s.1 95 21)) ((s.1 95 22)) ((s.1 95 8)) ((s.1 98) ((s.1 95 12))) (0) (0) from by first | with_reducible assumption | assumption) (show (s.1 95 9) ≠ 0 ∧ (s.1 95 8) < (s.1 95 7) ∧ (s.1 95 23) = 0 from by omega) (show 40 = 40 ∨ 40 = 3 ∨ 40 = 41 ∨ 40 = 44 ∨ (40 = 20 ∧ 0 < (s.1 95 19) ∧ ((s.1 100) ((s.1 95 19) - 1) = 41 ∨ (20 ≤ (s.1 100) ((s.1 95 19) - 1) ∧ (s.1 100) ((s.1 95 19) - 1) ≤ 22))) from by omega) (fun r65 s64 hI253 fr252 ps257 ps258 ps259 ps260 q256 => ?_)
          replace ps257 : r65 = 0 → pz_Y (s64.1 100) (s64.1 98) (s64.1 95 12) (s64.1 95 13) (s64.1 95 19) (s64.1 95 20) (s64.1 95 21) (s64.1 95 22) (s64.1 95 8) ((s.1 98) ((s.1 95 12))) (s64.1 95 23) (0) := ps257
          replace ps258 : r65 = 0 → ((s.1 95 8) < s64.1 95 8 ∧ (s64.1 95 9 = 0 ∨ s64.1 95 8 < s64.1 95 7)) := ps258
          replace ps259 : pz_H (s64.1 98) (s64.1 95 12) ((s.1 98) ((s.1 95 12))) := ps259
          replace ps260 : s64.1 95 12 = (s.1 95 12) := ps260
          have fr261 : lf_fq [95, 98, 100, 101] 1000000 true s.1 s.2.2 s64.1 s64.2.2 := lf_fq_tr (lf_fq_rf) (lf_fq_wk fr252 rfl (by decide) (by decide))
          have b262 : 0 ≤ s64.1 95 12 ∧ s64.1 95 12 ≤ 2115 := iv_r95_12 hI253
          have b263 : pz_H ((s64.1 98)) ((s64.1 95 12)) (s0.1 98 (s0.1 95 12)) := by first | with_reducible assumption | exact pz_YH (by first | with_reducible assumption | assumption : pz_Y ((s64.1 100)) ((s64.1 98)) ((s64.1 95 12)) ((s64.1 95 13)) ((s64.1 95 19)) ((s64.1 95 20)) ((s64.1 95 21)) ((s64.1 95 22)) ((s64.1 95 8)) (s0.1 98 (s0.1 95 12)) ((s64.1 95 23)) (0)) | exact pz_YH (by first | with_reducible assumption | assumption : pz_Y ((s64.1 100)) ((s64.1 98)) ((s64.1 95 12)) ((s64.1 95 13)) ((s64.1 95 19)) ((s64.1 95 20)) ((s64.1 95 21)) ((s64.1 95 22)) ((s64.1 95 8)) (s0.1 98 (s0.1 95 12)) (0) (0)) | exact pz_cH rfl ps259 rfl (by omega)
          have b264 : 0 ≤ s64.1 95 13 ∧ s64.1 95 13 ≤ 304 := iv_r95_13 hI253
          have b265 : 0 ≤ s64.1 95 19 ∧ s64.1 95 19 ≤ 160 := iv_r95_19 hI253
          have b266 : 0 ≤ s64.1 95 20 ∧ s64.1 95 20 ≤ 8 := iv_r95_20 hI253
          have b267 : 0 ≤ s64.1 95 21 ∧ s64.1 95 21 ≤ 8 := iv_r95_21 hI253
          have b268 : 0 ≤ s64.1 95 22 ∧ s64.1 95 22 ≤ 80 := iv_r95_22 hI253
          have b269 : 0 ≤ s64.1 95 8 ∧ s64.1 95 8 ≤ 300 := iv_r95_8 hI253
          have b270 : 0 ≤ s64.1 95 23 ∧ s64.1 95 23 ≤ 1 := iv_r95_23 hI253
          have b271 : r65 = 0 → pz_Y ((s64.1 100)) ((s64.1 98)) ((s64.1 95 12)) ((s64.1 95 13)) ((s64.1 95 19)) ((s64.1 95 20)) ((s64.1 95 21)) ((s64.1 95 22)) ((s64.1 95 8)) (s0.1 98 (s0.1 95 12)) ((s64.1 95 23)) (0) := by first | exact (fun h9 => pz_Yk (ps257 h9) (by omega)) | exact (fun h => absurd h (by decide)) | exact (fun _ => by first | with_reducible assumption | assumption)
          exact hQ r65 s64 hI253 fr261 (show r65 = 0 → pz_Y ((s64.1 100)) ((s64.1 98)) ((s64.1 95 12)) ((s64.1 95 13)) ((s64.1 95 19)) ((s64.1 95 20)) ((s64.1 95 21)) ((s64.1 95 22)) ((s64.1 95 8)) (s0.1 98 (s0.1 95 12)) ((s64.1 95 23)) (0) from by first | with_reducible assumption | omega) (show r65 = 0 → (s0.1 95 8 < (s64.1 95 8) ∧ ((s64.1 95 9) = 0 ∨ (s64.1 95 8) < (s64.1 95 7))) from by first | with_reducible assumption | omega) (show pz_H ((s64.1 98)) ((s64.1 95 12)) (s0.1 98 (s0.1 95 12)) from by first | with_reducible assumption | assumption) (show (s64.1 95 12) = s0.1 95 12 from by omega) (show (0 : Int) ≤ r65 ∧ r65 ≤ (5 : Int) from by omega)
      · skip
        replace c144 : ¬ (r39 < 0) := c144
        have b272 : 0 ≤ s.1 95 12 ∧ s.1 95 12 ≤ 2115 := iv_r95_12 hI
        have b273 : 0 ≤ s.1 95 13 ∧ s.1 95 13 ≤ 304 := iv_r95_13 hI
        have b274 : 0 ≤ s.1 95 19 ∧ s.1 95 19 ≤ 160 := iv_r95_19 hI
        have b275 : 0 ≤ s.1 95 20 ∧ s.1 95 20 ≤ 8 := iv_r95_20 hI
        have b276 : 0 ≤ s.1 95 21 ∧ s.1 95 21 ≤ 8 := iv_r95_21 hI
        have b277 : 0 ≤ s.1 95 22 ∧ s.1 95 22 ≤ 80 := iv_r95_22 hI
        have b278 : 0 ≤ s.1 95 8 ∧ s.1 95 8 ≤ 300 := iv_r95_8 hI
        have b279 : 0 ≤ s.1 95 7 ∧ s.1 95 7 ≤ 300 := iv_r95_7 hI
        have b280 : 0 ≤ s.1 95 23 ∧ s.1 95 23 ≤ 1 := iv_r95_23 hI
        have b281 : 0 ≤ s.1 95 4 ∧ s.1 95 4 ≤ 300 := iv_r95_4 hI
        exact sm_229_p79 (s0 := s0) hQ hI (show (-1 : Int) ≤ x1 ∧ x1 ≤ (10 : Int) from by omega) (show pz_Y ((s.1 100)) ((s.1 98)) ((s.1 95 12)) ((s.1 95 13)) ((s.1 95 19)) ((s.1 95 20)) ((s.1 95 21)) ((s.1 95 22)) ((s.1 95 8)) (s0.1 98 (s0.1 95 12)) (0) (0) from by first | with_reducible assumption | assumption) (show (s.1 95 9) = 0 ∨ (s.1 95 8) < (s.1 95 7) from by omega) (show (s.1 95 23) = 0 from by omega) (show (s.1 95 8) = s0.1 95 8 ∧ (s.1 98) ((s.1 95 12)) = s0.1 98 (s0.1 95 12) from by omega) (show x1 = -1 ∨ (s.1 95 9) = 2 from by omega) (show (s.1 95 9) ≠ 2 ∨ (s.1 95 7) - (s.1 95 8) ≠ 1 ∨ (s.1 95 4) ≤ (s.1 95 8) ∨ (s.1 99) ((s.1 95 8)) < 97 ∨ 122 < (s.1 99) ((s.1 95 8)) ∨ 0 ≤ (s.1 103) ((s.1 99) ((s.1 95 8)) - 97) from by omega) (show (s.1 95 9) = 1 ∨ 0 ≤ x1 ∨ ¬ ((s.1 95 9) ≠ 2 ∨ (s.1 95 7) - (s.1 95 8) ≠ 1 ∨ (s.1 95 4) ≤ (s.1 95 8) ∨ (s.1 99) ((s.1 95 8)) < 97 ∨ 122 < (s.1 99) ((s.1 95 8))) from by omega) (show (s.1 95 12) = s0.1 95 12 from by omega)
theorem sm_229_p39 {Q : Int → lf_Z → Prop} {x1 : Int} {s : lf_Z} {s0 : lf_Z} (hQ : ∀ (r : Int) (s' : lf_Z), iv_A s'.1 s'.2.2 → lf_fq [95, 98, 100, 101] 1000000 true s.1 s.2.2 s'.1 s'.2.2 → (r = 0 → pz_Y (s'.1 100) (s'.1 98) (s'.1 95 12) (s'.1 95 13) (s'.1 95 19) (s'.1 95 20) (s'.1 95 21) (s'.1 95 22) (s'.1 95 8) (s0.1 98 (s0.1 95 12)) (s'.1 95 23) (0)) → (r = 0 → (s0.1 95 8 < s'.1 95 8 ∧ (s'.1 95 9 = 0 ∨ s'.1 95 8 < s'.1 95 7))) → (pz_H (s'.1 98) (s'.1 95 12) (s0.1 98 (s0.1 95 12))) → (s'.1 95 12 = s0.1 95 12) → (0 ≤ r ∧ r ≤ 5) → Q r s') (hI : iv_A s.1 s.2.2) (bx1 : (-1) ≤ x1 ∧ x1 ≤ 10) (kv0 : pz_Y (s.1 100) (s.1 98) (s.1 95 12) (s.1 95 13) (s.1 95 19) (s.1 95 20) (s.1 95 21) (s.1 95 22) (s.1 95 8) (s0.1 98 (s0.1 95 12)) (0) (0)) (kv1 : s.1 95 9 = 0 ∨ s.1 95 8 < s.1 95 7) (kv2 : s.1 95 23 = 0) (kv3 : s.1 95 8 = s0.1 95 8 ∧ s.1 98 (s.1 95 12) = s0.1 98 (s0.1 95 12)) (kv4 : x1 = -1 ∨ s.1 95 9 = 2) (kv5 : s.1 95 12 = s0.1 95 12) : fm_229_p39 Q x1 s := by
  unfold fm_229_p39
  refine sm_232 hI (fun r26 q26 => ?_)
  obtain ⟨q26, q26x⟩ := q26
  have b27 : (-2147483648) ≤ s.1 95 9 ∧ s.1 95 9 ≤ 2147483647 := iv_full hI
  have b28 : 0 ≤ s.1 95 7 ∧ s.1 95 7 ≤ 300 := iv_r95_7 hI
  have b29 : 0 ≤ s.1 95 8 ∧ s.1 95 8 ≤ 300 := iv_r95_8 hI
  have b30 : 0 ≤ s.1 95 4 ∧ s.1 95 4 ≤ 300 := iv_r95_4 hI
  replace q26x : (r26 = -1 ∧ ¬ (s.1 95 9 = 2 ∧ s.1 95 7 - s.1 95 8 = 1 ∧ s.1 95 8 < s.1 95 4 ∧ 97 ≤ s.1 99 (s.1 95 8) ∧ s.1 99 (s.1 95 8) ≤ 122)) ∨ (r26 = s.1 99 (s.1 95 8) - 97 ∧ s.1 95 9 = 2 ∧ s.1 95 7 - s.1 95 8 = 1 ∧ s.1 95 8 < s.1 95 4 ∧ 97 ≤ s.1 99 (s.1 95 8) ∧ s.1 99 (s.1 95 8) ≤ 122) := q26x
  refine ⟨(show lf_R r26 from lf_Rof (by omega)), ?_⟩
  refine ⟨fun c31 => ?_, fun c31 => ?_⟩
  · skip
    replace c31 : r26 < 0 := c31
    have b32 : 0 ≤ s.1 95 12 ∧ s.1 95 12 ≤ 2115 := iv_r95_12 hI
    have b33 : 0 ≤ s.1 95 13 ∧ s.1 95 13 ≤ 304 := iv_r95_13 hI
    have b34 : 0 ≤ s.1 95 19 ∧ s.1 95 19 ≤ 160 := iv_r95_19 hI
    have b35 : 0 ≤ s.1 95 20 ∧ s.1 95 20 ≤ 8 := iv_r95_20 hI
    have b36 : 0 ≤ s.1 95 21 ∧ s.1 95 21 ≤ 8 := iv_r95_21 hI
    have b37 : 0 ≤ s.1 95 22 ∧ s.1 95 22 ≤ 80 := iv_r95_22 hI
    have b38 : 0 ≤ s.1 95 8 ∧ s.1 95 8 ≤ 300 := iv_r95_8 hI
    have b39 : (-2147483648) ≤ s.1 95 9 ∧ s.1 95 9 ≤ 2147483647 := iv_full hI
    have b40 : 0 ≤ s.1 95 7 ∧ s.1 95 7 ≤ 300 := iv_r95_7 hI
    have b41 : 0 ≤ s.1 95 23 ∧ s.1 95 23 ≤ 1 := iv_r95_23 hI
    have b42 : 0 ≤ s.1 95 4 ∧ s.1 95 4 ≤ 300 := iv_r95_4 hI
    exact sm_229_p60 (s0 := s0) hQ hI (show (-1 : Int) ≤ x1 ∧ x1 ≤ (10 : Int) from by omega) (show pz_Y ((s.1 100)) ((s.1 98)) ((s.1 95 12)) ((s.1 95 13)) ((s.1 95 19)) ((s.1 95 20)) ((s.1 95 21)) ((s.1 95 22)) ((s.1 95 8)) (s0.1 98 (s0.1 95 12)) (0) (0) from by first | with_reducible assumption | assumption) (show (s.1 95 9) = 0 ∨ (s.1 95 8) < (s.1 95 7) from by omega) (show (s.1 95 23) = 0 from by omega) (show (s.1 95 8) = s0.1 95 8 ∧ (s.1 98) ((s.1 95 12)) = s0.1 98 (s0.1 95 12) from by omega) (show x1 = -1 ∨ (s.1 95 9) = 2 from by omega) (show (s.1 95 9) ≠ 2 ∨ (s.1 95 7) - (s.1 95 8) ≠ 1 ∨ (s.1 95 4) ≤ (s.1 95 8) ∨ (s.1 99) ((s.1 95 8)) < 97 ∨ 122 < (s.1 99) ((s.1 95 8)) ∨ 0 ≤ (s.1 103) ((s.1 99) ((s.1 95 8)) - 97) from by omega) (show (s.1 95 12) = s0.1 95 12 from by omega)
  · skip
    replace c31 : ¬ (r26 < 0) := c31
    refine sm_232 hI (fun r67 q282 => ?_)
    obtain ⟨q282, q282x⟩ := q282
    have b283 : (-2147483648) ≤ s.1 95 9 ∧ s.1 95 9 ≤ 2147483647 := iv_full hI
    have b284 : 0 ≤ s.1 95 7 ∧ s.1 95 7 ≤ 300 := iv_r95_7 hI
    have b285 : 0 ≤ s.1 95 8 ∧ s.1 95 8 ≤ 300 := iv_r95_8 hI
    have b286 : 0 ≤ s.1 95 4 ∧ s.1 95 4 ≤ 300 := iv_r95_4 hI
    replace q282x : (r67 = -1 ∧ ¬ (s.1 95 9 = 2 ∧ s.1 95 7 - s.1 95 8 = 1 ∧ s.1 95 8 < s.1 95 4 ∧ 97 ≤ s.1 99 (s.1 95 8) ∧ s.1 99 (s.1 95 8) ≤ 122)) ∨ (r67 = s.1 99 (s.1 95 8) - 97 ∧ s.1 95 9 = 2 ∧ s.1 95 7 - s.1 95 8 = 1 ∧ s.1 95 8 < s.1 95 4 ∧ 97 ≤ s.1 99 (s.1 95 8) ∧ s.1 99 (s.1 95 8) ≤ 122) := q282x
    refine ⟨(show (0 : Int) ≤ r67 ∧ r67 < (26 : Int) from by omega), ?_⟩
    have b287 : (-1) ≤ s.1 103 r67 ∧ s.1 103 r67 ≤ 79 := iv_r103 hI _
    have b288 : 0 ≤ s.1 95 8 ∧ s.1 95 8 ≤ 300 := iv_r95_8 hI
    have b289 : (s.1 103 r67) = (s.1 103) ((s.1 99) ((s.1 95 8)) - 97) := congrArg ((s.1 103)) (by omega)
    refine ⟨(show lf_R (s.1 103 r67) from lf_Rof (by omega)), ?_⟩
    refine ⟨fun c290 => ?_, fun c290 => ?_⟩
    · skip
      replace c290 : 0 ≤ s.1 103 r67 := c290
      have b291 : 0 ≤ s.1 95 12 ∧ s.1 95 12 ≤ 2115 := iv_r95_12 hI
      have b292 : 0 ≤ s.1 95 13 ∧ s.1 95 13 ≤ 304 := iv_r95_13 hI
      have b293 : 0 ≤ s.1 95 19 ∧ s.1 95 19 ≤ 160 := iv_r95_19 hI
      have b294 : 0 ≤ s.1 95 20 ∧ s.1 95 20 ≤ 8 := iv_r95_20 hI
      have b295 : 0 ≤ s.1 95 21 ∧ s.1 95 21 ≤ 8 := iv_r95_21 hI
      have b296 : 0 ≤ s.1 95 22 ∧ s.1 95 22 ≤ 80 := iv_r95_22 hI
      have b297 : (-2147483648) ≤ s.1 95 9 ∧ s.1 95 9 ≤ 2147483647 := iv_full hI
      have b298 : 0 ≤ s.1 95 7 ∧ s.1 95 7 ≤ 300 := iv_r95_7 hI
      have b299 : 0 ≤ s.1 95 23 ∧ s.1 95 23 ≤ 1 := iv_r95_23 hI
      have b300 : 0 ≤ s.1 95 4 ∧ s.1 95 4 ≤ 300 := iv_r95_4 hI
      exact sm_229_p60 (s0 := s0) hQ hI (show (-1 : Int) ≤ x1 ∧ x1 ≤ (10 : Int) from by omega) (show pz_Y ((s.1 100)) ((s.1 98)) ((s.1 95 12)) ((s.1 95 13)) ((s.1 95 19)) ((s.1 95 20)) ((s.1 95 21)) ((s.1 95 22)) ((s.1 95 8)) (s0.1 98 (s0.1 95 12)) (0) (0) from by first | with_reducible assumption | assumption) (show (s.1 95 9) = 0 ∨ (s.1 95 8) < (s.1 95 7) from by omega) (show (s.1 95 23) = 0 from by omega) (show (s.1 95 8) = s0.1 95 8 ∧ (s.1 98) ((s.1 95 12)) = s0.1 98 (s0.1 95 12) from by omega) (show x1 = -1 ∨ (s.1 95 9) = 2 from by omega) (show (s.1 95 9) ≠ 2 ∨ (s.1 95 7) - (s.1 95 8) ≠ 1 ∨ (s.1 95 4) ≤ (s.1 95 8) ∨ (s.1 99) ((s.1 95 8)) < 97 ∨ 122 < (s.1 99) ((s.1 95 8)) ∨ 0 ≤ (s.1 103) ((s.1 99) ((s.1 95 8)) - 97) from by omega) (show (s.1 95 12) = s0.1 95 12 from by omega)
    · skip
      replace c290 : ¬ (0 ≤ s.1 103 r67) := c290
      have b301 : 0 ≤ s.1 95 12 ∧ s.1 95 12 ≤ 2115 := iv_r95_12 hI
      have b302 : pz_H ((s.1 98)) ((s.1 95 12)) (s0.1 98 (s0.1 95 12)) := by first | with_reducible assumption | exact pz_YH (by first | with_reducible assumption | assumption : pz_Y ((s.1 100)) ((s.1 98)) ((s.1 95 12)) ((s.1 95 13)) ((s.1 95 19)) ((s.1 95 20)) ((s.1 95 21)) ((s.1 95 22)) ((s.1 95 8)) (s0.1 98 (s0.1 95 12)) ((s.1 95 23)) (0)) | exact pz_YH (by first | with_reducible assumption | assumption : pz_Y ((s.1 100)) ((s.1 98)) ((s.1 95 12)) ((s.1 95 13)) ((s.1 95 19)) ((s.1 95 20)) ((s.1 95 21)) ((s.1 95 22)) ((s.1 95 8)) (s0.1 98 (s0.1 95 12)) (0) (0)) | exact pz_cH rfl hI rfl (by omega)
      have b303 : 0 ≤ s.1 95 13 ∧ s.1 95 13 ≤ 304 := iv_r95_13 hI
      have b304 : 0 ≤ s.1 95 19 ∧ s.1 95 19 ≤ 160 := iv_r95_19 hI
      have b305 : 0 ≤ s.1 95 20 ∧ s.1 95 20 ≤ 8 := iv_r95_20 hI
      have b306 : 0 ≤ s.1 95 21 ∧ s.1 95 21 ≤ 8 := iv_r95_21 hI
      have b307 : 0 ≤ s.1 95 22 ∧ s.1 95 22 ≤ 80 := iv_r95_22 hI
      have b308 : 0 ≤ s.1 95 23 ∧ s.1 95 23 ≤ 1 := iv_r95_23 hI
      have b309 : 5 = 0 → pz_Y ((s.1 100)) ((s.1 98)) ((s.1 95 12)) ((s.1 95 13)) ((s.1 95 19)) ((s.1 95 20)) ((s.1 95 21)) ((s.1 95 22)) ((s.1 95 8)) (s0.1 98 (s0.1 95 12)) ((s.1 95 23)) (0) := by first | exact (fun h9 => pz_Yk (hI h9) (by omega)) | exact (fun h => absurd h (by decide)) | exact (fun _ => by first | with_reducible assumption | assumption)
      exact hQ 5 s hI (lf_fq_rf) (show 5 = 0 → pz_Y ((s.1 100)) ((s.1 98)) ((s.1 95 12)) ((s.1 95 13)) ((s.1 95 19)) ((s.1 95 20)) ((s.1 95 21)) ((s.1 95 22)) ((s.1 95 8)) (s0.1 98 (s0.1 95 12)) ((s.1 95 23)) (0) from fun h => absurd h (by decide)) (show 5 = 0 → (s0.1 95 8 < (s.1 95 8) ∧ ((s.1 95 9) = 0 ∨ (s.1 95 8) < (s.1 95 7))) from fun h => absurd h (by decide)) (show pz_H ((s.1 98)) ((s.1 95 12)) (s0.1 98 (s0.1 95 12)) from by first | with_reducible assumption | assumption) (show (s.1 95 12) = s0.1 95 12 from by omega) (show (0 : Int) ≤ 5 ∧ 5 ≤ (5 : Int) from by omega)
theorem sm_229_p20 {Q : Int → lf_Z → Prop} {s : lf_Z} {s0 : lf_Z} (hQ : ∀ (r : Int) (s' : lf_Z), iv_A s'.1 s'.2.2 → lf_fq [95, 98, 100, 101] 1000000 true s.1 s.2.2 s'.1 s'.2.2 → (r = 0 → pz_Y (s'.1 100) (s'.1 98) (s'.1 95 12) (s'.1 95 13) (s'.1 95 19) (s'.1 95 20) (s'.1 95 21) (s'.1 95 22) (s'.1 95 8) (s0.1 98 (s0.1 95 12)) (s'.1 95 23) (0)) → (r = 0 → (s0.1 95 8 < s'.1 95 8 ∧ (s'.1 95 9 = 0 ∨ s'.1 95 8 < s'.1 95 7))) → (pz_H (s'.1 98) (s'.1 95 12) (s0.1 98 (s0.1 95 12))) → (s'.1 95 12 = s0.1 95 12) → (0 ≤ r ∧ r ≤ 5) → Q r s') (hI : iv_A s.1 s.2.2) (kv0 : pz_Y (s.1 100) (s.1 98) (s.1 95 12) (s.1 95 13) (s.1 95 19) (s.1 95 20) (s.1 95 21) (s.1 95 22) (s.1 95 8) (s0.1 98 (s0.1 95 12)) (0) (0)) (kv1 : s.1 95 9 = 0 ∨ s.1 95 8 < s.1 95 7) (kv2 : s.1 95 23 = 0) (kv3 : s.1 95 8 = s0.1 95 8 ∧ s.1 98 (s.1 95 12) = s0.1 98 (s0.1 95 12)) (kv4 : s.1 95 12 = s0.1 95 12) : fm_229_p20 Q s := by
  unfold fm_229_p20
  refine sm_230 hI (fun r23 q13 => ?_)
  obtain ⟨q13, q13x⟩ := q13
  have b14 : (-2147483648) ≤ s.1 95 9 ∧ s.1 95 9 ≤ 2147483647 := iv_full hI
  replace q13x : r23 = -1 ∨ s.1 95 9 = 2 := q13x
  refine ⟨(show lf_R r23 from lf_Rof (by omega)), ?_⟩
  refine ⟨fun c15 => ?_, fun c15 => ?_⟩
  · skip
    replace c15 : r23 < 0 := c15
    have b16 : 0 ≤ s.1 95 12 ∧ s.1 95 12 ≤ 2115 := iv_r95_12 hI
    have b17 : 0 ≤ s.1 95 13 ∧ s.1 95 13 ≤ 304 := iv_r95_13 hI
    have b18 : 0 ≤ s.1 95 19 ∧ s.1 95 19 ≤ 160 := iv_r95_19 hI
    have b19 : 0 ≤ s.1 95 20 ∧ s.1 95 20 ≤ 8 := iv_r95_20 hI
    have b20 : 0 ≤ s.1 95 21 ∧ s.1 95 21 ≤ 8 := iv_r95_21 hI
    have b21 : 0 ≤ s.1 95 22 ∧ s.1 95 22 ≤ 80 := iv_r95_22 hI
    have b22 : 0 ≤ s.1 95 8 ∧ s.1 95 8 ≤ 300 := iv_r95_8 hI
    have b23 : (-2147483648) ≤ s.1 95 9 ∧ s.1 95 9 ≤ 2147483647 := iv_full hI
    have b24 : 0 ≤ s.1 95 7 ∧ s.1 95 7 ≤ 300 := iv_r95_7 hI
    have b25 : 0 ≤ s.1 95 23 ∧ s.1 95 23 ≤ 1 := iv_r95_23 hI
    exact sm_229_p39 (s0 := s0) hQ hI (show (-1 : Int) ≤ r23 ∧ r23 ≤ (10 : Int) from by omega) (show pz_Y ((s.1 100)) ((s.1 98)) ((s.1 95 12)) ((s.1 95 13)) ((s.1 95 19)) ((s.1 95 20)) ((s.1 95 21)) ((s.1 95 22)) ((s.1 95 8)) (s0.1 98 (s0.1 95 12)) (0) (0) from by first | with_reducible assumption | assumption) (show (s.1 95 9) = 0 ∨ (s.1 95 8) < (s.1 95 7) from by omega) (show (s.1 95 23) = 0 from by omega) (show (s.1 95 8) = s0.1 95 8 ∧ (s.1 98) ((s.1 95 12)) = s0.1 98 (s0.1 95 12) from by omega) (show r23 = -1 ∨ (s.1 95 9) = 2 from by omega) (show (s.1 95 12) = s0.1 95 12 from by omega)
  · skip
    replace c15 : ¬ (r23 < 0) := c15
    refine sm_231 hI (show (0 : Int) ≤ r23 ∧ r23 ≤ (10 : Int) from by omega) (fun z71 => ?_)
    refine ⟨fun c311 => ?_, fun c311 => ?_⟩
    · skip
      have b312 : 0 ≤ s.1 95 12 ∧ s.1 95 12 ≤ 2115 := iv_r95_12 hI
      have b313 : 0 ≤ s.1 95 13 ∧ s.1 95 13 ≤ 304 := iv_r95_13 hI
      have b314 : 0 ≤ s.1 95 19 ∧ s.1 95 19 ≤ 160 := iv_r95_19 hI
      have b315 : 0 ≤ s.1 95 20 ∧ s.1 95 20 ≤ 8 := iv_r95_20 hI
      have b316 : 0 ≤ s.1 95 21 ∧ s.1 95 21 ≤ 8 := iv_r95_21 hI
      have b317 : 0 ≤ s.1 95 22 ∧ s.1 95 22 ≤ 80 := iv_r95_22 hI
      have b318 : 0 ≤ s.1 95 8 ∧ s.1 95 8 ≤ 300 := iv_r95_8 hI
      have b319 : (-2147483648) ≤ s.1 95 9 ∧ s.1 95 9 ≤ 2147483647 := iv_full hI
      have b320 : 0 ≤ s.1 95 7 ∧ s.1 95 7 ≤ 300 := iv_r95_7 hI
      have b321 : 0 ≤ s.1 95 23 ∧ s.1 95 23 ≤ 1 := iv_r95_23 hI
      exact sm_229_p39 (s0 := s0) hQ hI (show (-1 : Int) ≤ r23 ∧ r23 ≤ (10 : Int) from by omega) (show pz_Y ((s.1 100)) ((s.1 98)) ((s.1 95 12)) ((s.1 95 13)) ((s.1 95 19)) ((s.1 95 20)) ((s.1 95 21)) ((s.1 95 22)) ((s.1 95 8)) (s0.1 98 (s0.1 95 12)) (0) (0) from by first | with_reducible assumption | assumption) (show (s.1 95 9) = 0 ∨ (s.1 95 8) < (s.1 95 7) from by omega) (show (s.1 95 23) = 0 from by omega) (show (s.1 95 8) = s0.1 95 8 ∧ (s.1 98) ((s.1 95 12)) = s0.1 98 (s0.1 95 12) from by omega) (show r23 = -1 ∨ (s.1 95 9) = 2 from by omega) (show (s.1 95 12) = s0.1 95 12 from by omega)
    · skip
      have b322 : 0 ≤ s.1 95 12 ∧ s.1 95 12 ≤ 2115 := iv_r95_12 hI
      have b323 : pz_H ((s.1 98)) ((s.1 95 12)) (s0.1 98 (s0.1 95 12)) := by first | with_reducible assumption | exact pz_YH (by first | with_reducible assumption | assumption : pz_Y ((s.1 100)) ((s.1 98)) ((s.1 95 12)) ((s.1 95 13)) ((s.1 95 19)) ((s.1 95 20)) ((s.1 95 21)) ((s.1 95 22)) ((s.1 95 8)) (s0.1 98 (s0.1 95 12)) ((s.1 95 23)) (0)) | exact pz_YH (by first | with_reducible assumption | assumption : pz_Y ((s.1 100)) ((s.1 98)) ((s.1 95 12)) ((s.1 95 13)) ((s.1 95 19)) ((s.1 95 20)) ((s.1 95 21)) ((s.1 95 22)) ((s.1 95 8)) (s0.1 98 (s0.1 95 12)) (0) (0)) | exact pz_cH rfl hI rfl (by omega)
      have b324 : 0 ≤ s.1 95 13 ∧ s.1 95 13 ≤ 304 := iv_r95_13 hI
      have b325 : 0 ≤ s.1 95 19 ∧ s.1 95 19 ≤ 160 := iv_r95_19 hI
      have b326 : 0 ≤ s.1 95 20 ∧ s.1 95 20 ≤ 8 := iv_r95_20 hI
      have b327 : 0 ≤ s.1 95 21 ∧ s.1 95 21 ≤ 8 := iv_r95_21 hI
      have b328 : 0 ≤ s.1 95 22 ∧ s.1 95 22 ≤ 80 := iv_r95_22 hI
      have b329 : 0 ≤ s.1 95 8 ∧ s.1 95 8 ≤ 300 := iv_r95_8 hI
      have b330 : 0 ≤ s.1 95 23 ∧ s.1 95 23 ≤ 1 := iv_r95_23 hI
      have b331 : 5 = 0 → pz_Y ((s.1 100)) ((s.1 98)) ((s.1 95 12)) ((s.1 95 13)) ((s.1 95 19)) ((s.1 95 20)) ((s.1 95 21)) ((s.1 95 22)) ((s.1 95 8)) (s0.1 98 (s0.1 95 12)) ((s.1 95 23)) (0) := by first | exact (fun h9 => pz_Yk (hI h9) (by omega)) | exact (fun h => absurd h (by decide)) | exact (fun _ => by first | with_reducible assumption | assumption)
      exact hQ 5 s hI (lf_fq_rf) (show 5 = 0 → pz_Y ((s.1 100)) ((s.1 98)) ((s.1 95 12)) ((s.1 95 13)) ((s.1 95 19)) ((s.1 95 20)) ((s.1 95 21)) ((s.1 95 22)) ((s.1 95 8)) (s0.1 98 (s0.1 95 12)) ((s.1 95 23)) (0) from fun h => absurd h (by decide)) (show 5 = 0 → (s0.1 95 8 < (s.1 95 8) ∧ ((s.1 95 9) = 0 ∨ (s.1 95 8) < (s.1 95 7))) from fun h => absurd h (by decide)) (show pz_H ((s.1 98)) ((s.1 95 12)) (s0.1 98 (s0.1 95 12)) from by first | with_reducible assumption | assumption) (show (s.1 95 12) = s0.1 95 12 from by omega) (show (0 : Int) ≤ 5 ∧ 5 ≤ (5 : Int) from by omega)
theorem sm_229 {Q : Int → lf_Z → Prop} {s : lf_Z} (hI : iv_A s.1 s.2.2) (kp0 : pz_Y (s.1 100) (s.1 98) (s.1 95 12) (s.1 95 13) (s.1 95 19) (s.1 95 20) (s.1 95 21) (s.1 95 22) (s.1 95 8) (s.1 98 (s.1 95 12)) (0) (0)) (kp1 : s.1 95 9 = 0 ∨ s.1 95 8 < s.1 95 7) (kp2 : s.1 95 23 = 0) (hQ : ∀ (r : Int) (s' : lf_Z), iv_A s'.1 s'.2.2 → lf_fq [95, 98, 100, 101] 1000000 true s.1 s.2.2 s'.1 s'.2.2 → (r = 0 → pz_Y (s'.1 100) (s'.1 98) (s'.1 95 12) (s'.1 95 13) (s'.1 95 19) (s'.1 95 20) (s'.1 95 21) (s'.1 95 22) (s'.1 95 8) (s.1 98 (s.1 95 12)) (s'.1 95 23) (0)) → (r = 0 → (s.1 95 8 < s'.1 95 8 ∧ (s'.1 95 9 = 0 ∨ s'.1 95 8 < s'.1 95 7))) → (pz_H (s'.1 98) (s'.1 95 12) (s.1 98 (s.1 95 12))) → (s'.1 95 12 = s.1 95 12) → (0 ≤ r ∧ r ≤ 5) → Q r s') : fm_229 Q s := by
  unfold fm_229
  have b1 : 0 ≤ s.1 95 12 ∧ s.1 95 12 ≤ 2115 := iv_r95_12 hI
  have b2 : 0 ≤ s.1 95 13 ∧ s.1 95 13 ≤ 304 := iv_r95_13 hI
  have b3 : 0 ≤ s.1 95 19 ∧ s.1 95 19 ≤ 160 := iv_r95_19 hI
  have b4 : 0 ≤ s.1 95 20 ∧ s.1 95 20 ≤ 8 := iv_r95_20 hI
  have b5 : 0 ≤ s.1 95 21 ∧ s.1 95 21 ≤ 8 := iv_r95_21 hI
  have b6 : 0 ≤ s.1 95 22 ∧ s.1 95 22 ≤ 80 := iv_r95_22 hI
  have b7 : 0 ≤ s.1 95 8 ∧ s.1 95 8 ≤ 300 := iv_r95_8 hI
  have b8 : pz_Y ((s.1 100)) ((s.1 98)) ((s.1 95 12)) ((s.1 95 13)) ((s.1 95 19)) ((s.1 95 20)) ((s.1 95 21)) ((s.1 95 22)) ((s.1 95 8)) (s.1 98 (s.1 95 12)) (0) (0) := kp0
  have b9 : (-2147483648) ≤ s.1 95 9 ∧ s.1 95 9 ≤ 2147483647 := iv_full hI
  refine ⟨(show lf_R (s.1 95 9) from lf_Rof (by omega)), ?_⟩
  refine ⟨fun c10 => ?_, fun c10 => ?_⟩
  · skip
    replace c10 : s.1 95 9 ≠ 1 := c10
    have b11 : 0 ≤ s.1 95 7 ∧ s.1 95 7 ≤ 300 := iv_r95_7 hI
    have b12 : 0 ≤ s.1 95 23 ∧ s.1 95 23 ≤ 1 := iv_r95_23 hI
    exact sm_229_p20 (s0 := s) hQ hI (show pz_Y ((s.1 100)) ((s.1 98)) ((s.1 95 12)) ((s.1 95 13)) ((s.1 95 19)) ((s.1 95 20)) ((s.1 95 21)) ((s.1 95 22)) ((s.1 95 8)) (s.1 98 (s.1 95 12)) (0) (0) from by first | with_reducible assumption | assumption) (show (s.1 95 9) = 0 ∨ (s.1 95 8) < (s.1 95 7) from by omega) (show (s.1 95 23) = 0 from by omega) (show (s.1 95 8) = s.1 95 8 ∧ (s.1 98) ((s.1 95 12)) = s.1 98 (s.1 95 12) from by omega) (show (s.1 95 12) = s.1 95 12 from by omega)
  · skip
    replace c10 : ¬ (s.1 95 9 ≠ 1) := c10
    have b332 : (-2147483648) ≤ s.1 95 10 ∧ s.1 95 10 ≤ 2147483647 := iv_full hI
    refine ⟨(show lf_R (s.1 95 10) from lf_Rof (by omega)), ?_⟩
    refine ⟨fun c333 => ?_, fun c333 => ?_⟩
    · skip
      replace c333 : s.1 95 10 ≤ 9999 := c333
      have b334 : 0 ≤ s.1 95 7 ∧ s.1 95 7 ≤ 300 := iv_r95_7 hI
      have b335 : 0 ≤ s.1 95 23 ∧ s.1 95 23 ≤ 1 := iv_r95_23 hI
      exact sm_229_p20 (s0 := s) hQ hI (show pz_Y ((s.1 100)) ((s.1 98)) ((s.1 95 12)) ((s.1 95 13)) ((s.1 95 19)) ((s.1 95 20)) ((s.1 95 21)) ((s.1 95 22)) ((s.1 95 8)) (s.1 98 (s.1 95 12)) (0) (0) from by first | with_reducible assumption | assumption) (show (s.1 95 9) = 0 ∨ (s.1 95 8) < (s.1 95 7) from by omega) (show (s.1 95 23) = 0 from by omega) (show (s.1 95 8) = s.1 95 8 ∧ (s.1 98) ((s.1 95 12)) = s.1 98 (s.1 95 12) from by omega) (show (s.1 95 12) = s.1 95 12 from by omega)
    · skip
      replace c333 : ¬ (s.1 95 10 ≤ 9999) := c333
      have b336 : pz_H ((s.1 98)) ((s.1 95 12)) (s.1 98 (s.1 95 12)) := by first | with_reducible assumption | exact pz_YH (by first | with_reducible assumption | assumption : pz_Y ((s.1 100)) ((s.1 98)) ((s.1 95 12)) ((s.1 95 13)) ((s.1 95 19)) ((s.1 95 20)) ((s.1 95 21)) ((s.1 95 22)) ((s.1 95 8)) (s.1 98 (s.1 95 12)) ((s.1 95 23)) (0)) | exact pz_YH (by first | with_reducible assumption | assumption : pz_Y ((s.1 100)) ((s.1 98)) ((s.1 95 12)) ((s.1 95 13)) ((s.1 95 19)) ((s.1 95 20)) ((s.1 95 21)) ((s.1 95 22)) ((s.1 95 8)) (s.1 98 (s.1 95 12)) (0) (0)) | exact pz_cH rfl hI rfl (by omega)
      have b337 : 0 ≤ s.1 95 23 ∧ s.1 95 23 ≤ 1 := iv_r95_23 hI
      have b338 : 2 = 0 → pz_Y ((s.1 100)) ((s.1 98)) ((s.1 95 12)) ((s.1 95 13)) ((s.1 95 19)) ((s.1 95 20)) ((s.1 95 21)) ((s.1 95 22)) ((s.1 95 8)) (s.1 98 (s.1 95 12)) ((s.1 95 23)) (0) := by first | exact (fun h9 => pz_Yk (hI h9) (by omega)) | exact (fun h => absurd h (by decide)) | exact (fun _ => by first | with_reducible assumption | assumption)
      exact hQ 2 s hI (lf_fq_rf) (show 2 = 0 → pz_Y ((s.1 100)) ((s.1 98)) ((s.1 95 12)) ((s.1 95 13)) ((s.1 95 19)) ((s.1 95 20)) ((s.1 95 21)) ((s.1 95 22)) ((s.1 95 8)) (s.1 98 (s.1 95 12)) ((s.1 95 23)) (0) from fun h => absurd h (by decide)) (show 2 = 0 → (s.1 95 8 < (s.1 95 8) ∧ ((s.1 95 9) = 0 ∨ (s.1 95 8) < (s.1 95 7))) from fun h => absurd h (by decide)) (show pz_H ((s.1 98)) ((s.1 95 12)) (s.1 98 (s.1 95 12)) from by first | with_reducible assumption | assumption) (show (s.1 95 12) = s.1 95 12 from by omega) (show (0 : Int) ≤ 2 ∧ 2 ≤ (5 : Int) from by omega)
