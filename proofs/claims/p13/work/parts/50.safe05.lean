-- fm_219 Model.openNow 95
theorem sm_219 {Q : Int → lf_Z → Prop} {s : lf_Z} (hI : iv_A s.1 s.2.2) (hQ : ∀ (r : Int), (((-1) ≤ r ∧ r ≤ 45) ∧ (r = pz_op (s.1 100) (s.1 95 19))) → Q r s) : fm_219 Q s := by
  unfold fm_219
  refine sm_220 hI (fun r22 ps2 q1 => ?_)
  replace ps2 : ((r22 < 0 ∧ pz_op ((s.1 100)) ((s.1 95 19)) = -1) ∨ (0 ≤ r22 ∧ r22 < (s.1 95 19) ∧ pz_op ((s.1 100)) ((s.1 95 19)) = (s.1 100) (r22) ∧ 40 ≤ (s.1 100) (r22))) ∧ ((s.1 95 19) ≤ 0 ∨ (s.1 100) ((s.1 95 19) - 1) < 40 ∨ r22 = (s.1 95 19) - 1) := ps2
  refine ⟨(show lf_R r22 from lf_Rof (by omega)), ?_⟩
  refine ⟨fun c3 => ?_, fun c3 => ?_⟩
  · skip
    replace c3 : 0 ≤ r22 := c3
    refine sm_220 hI (fun r25 ps5 q4 => ?_)
    replace ps5 : ((r25 < 0 ∧ pz_op ((s.1 100)) ((s.1 95 19)) = -1) ∨ (0 ≤ r25 ∧ r25 < (s.1 95 19) ∧ pz_op ((s.1 100)) ((s.1 95 19)) = (s.1 100) (r25) ∧ 40 ≤ (s.1 100) (r25))) ∧ ((s.1 95 19) ≤ 0 ∨ (s.1 100) ((s.1 95 19) - 1) < 40 ∨ r25 = (s.1 95 19) - 1) := ps5
    refine ⟨(show (0 : Int) ≤ r25 ∧ r25 < (160 : Int) from by omega), ?_⟩
    have b6 : 0 ≤ s.1 100 r25 ∧ s.1 100 r25 ≤ 45 := iv_r100 hI _
    exact hQ (s.1 100 r25) ⟨(show (-1 : Int) ≤ s.1 100 r25 ∧ s.1 100 r25 ≤ (45 : Int) from by omega), (show s.1 100 r25 = pz_op (s.1 100) (s.1 95 19) from by omega)⟩
  · skip
    replace c3 : ¬ (0 ≤ r22) := c3
    exact hQ (-1) ⟨(show (-1 : Int) ≤ (-1) ∧ (-1) ≤ (45 : Int) from by omega), (show (-1) = pz_op (s.1 100) (s.1 95 19) from by omega)⟩
-- fm_235 Model.isAskAhead 95
theorem sm_235 {Q : Bool → lf_Z → Prop} {s : lf_Z} (hI : iv_A s.1 s.2.2) (hQ : ∀ (z : Bool), ((z = true → (0 < s.1 95 19 ∧ (s.1 100 (s.1 95 19 - 1) = 41 ∨ 20 ≤ s.1 100 (s.1 95 19 - 1) ∧ s.1 100 (s.1 95 19 - 1) ≤ 22) ∧ 0 < 1)) ∧ (z = false → True)) → Q z s) : fm_235 Q s := by
  unfold fm_235
  refine sm_219 hI (fun r22 q1 => ?_)
  obtain ⟨q1, q1x⟩ := q1
  have b2 : 0 ≤ s.1 95 19 ∧ s.1 95 19 ≤ 160 := iv_r95_19 hI
  replace q1x : r22 = pz_op (s.1 100) (s.1 95 19) := q1x
  refine ⟨(show lf_R r22 from lf_Rof (by omega)), ?_⟩
  refine ⟨fun c3 => ?_, fun c3 => ?_⟩
  · skip
    replace c3 : r22 ≠ 41 := c3
    exact hQ false ⟨fun h => (by cases h), fun _ => trivial⟩
  · skip
    replace c3 : ¬ (r22 ≠ 41) := c3
    have b4 : 0 ≤ s.1 95 19 ∧ s.1 95 19 ≤ 160 := iv_r95_19 hI
    have b5 : pz_op ((s.1 100)) ((s.1 95 19)) = -1 ∨ 0 < (s.1 95 19) := pz_opP
    refine ⟨(show (0 : Int) ≤ (s.1 95 19) - 1 ∧ (s.1 95 19) - 1 < (160 : Int) from by omega), ?_⟩
    have b6 : 0 ≤ s.1 100 ((s.1 95 19) - 1) ∧ s.1 100 ((s.1 95 19) - 1) ≤ 45 := iv_r100 hI _
    refine ⟨(show lf_R (s.1 100 ((s.1 95 19) - 1)) from lf_Rof (by omega)), ?_⟩
    refine ⟨fun c7 => ?_, fun c7 => ?_⟩
    · skip
      replace c7 : s.1 100 ((s.1 95 19) - 1) = 41 := c7
      exact hQ true ⟨fun _ => by omega, fun _ => trivial⟩
    · skip
      replace c7 : ¬ (s.1 100 ((s.1 95 19) - 1) = 41) := c7
      refine sm_222 hI (show (0 : Int) ≤ s.1 100 ((s.1 95 19) - 1) ∧ s.1 100 ((s.1 95 19) - 1) ≤ (45 : Int) from by omega) (fun r27 q8 => ?_)
      obtain ⟨q8, q8x⟩ := q8
      replace q8x : r27 = pz_rk (s.1 100 ((s.1 95 19) - 1)) ∧ ((40 ≤ (s.1 100 ((s.1 95 19) - 1)) ∧ r27 = 0) ∨ ((s.1 100 ((s.1 95 19) - 1)) = 22 ∧ r27 = 1) ∨ ((s.1 100 ((s.1 95 19) - 1)) = 21 ∧ r27 = 2) ∨ ((s.1 100 ((s.1 95 19) - 1)) = 20 ∧ r27 = 3) ∨ (10 ≤ (s.1 100 ((s.1 95 19) - 1)) ∧ (s.1 100 ((s.1 95 19) - 1)) < 40 ∧ (s.1 100 ((s.1 95 19) - 1)) ≠ 20 ∧ (s.1 100 ((s.1 95 19) - 1)) ≠ 21 ∧ (s.1 100 ((s.1 95 19) - 1)) ≠ 22 ∧ r27 = 4) ∨ ((s.1 100 ((s.1 95 19) - 1)) = 3 ∧ r27 = 7) ∨ (6 ≤ (s.1 100 ((s.1 95 19) - 1)) ∧ (s.1 100 ((s.1 95 19) - 1)) < 10 ∧ r27 = 6) ∨ ((s.1 100 ((s.1 95 19) - 1)) < 6 ∧ (s.1 100 ((s.1 95 19) - 1)) ≠ 3 ∧ r27 = 5)) := q8x
      refine sm_183 hI (show (-2147483648 : Int) ≤ r27 ∧ r27 ≤ (2147483647 : Int) from by omega) (show (-1 : Int) ≤ 1 ∧ 1 ≤ (97 : Int) from by omega) (show (-1 : Int) ≤ 3 ∧ 3 ≤ (9999 : Int) from by omega) (fun z29 q9 => ?_)
      refine ⟨fun c10 => ?_, fun c10 => ?_⟩
      · skip
        have dc10 := q9.2 c10
        exact hQ false ⟨fun h => (by cases h), fun _ => trivial⟩
      · skip
        have dc10 := q9.1 c10
        exact hQ true ⟨fun _ => by omega, fun _ => trivial⟩
-- fm_234 Model.opened 95 i
theorem sm_234 {a1 : Int} {Q : Int → lf_Z → Prop} {s : lf_Z} (hI : iv_A s.1 s.2.2) (ba1 : 3 ≤ a1 ∧ a1 ≤ 44) (kp0 : pz_Y (s.1 100) (s.1 98) (s.1 95 12) (s.1 95 13) (s.1 95 19) (s.1 95 20) (s.1 95 21) (s.1 95 22) (s.1 95 8) (s.1 98 (s.1 95 12)) (0) (0)) (kp1 : s.1 95 9 ≠ 0 ∧ s.1 95 8 < s.1 95 7 ∧ s.1 95 23 = 0) (kp2 : a1 = 40 ∨ a1 = 3 ∨ a1 = 41 ∨ a1 = 44 ∨ (a1 = 20 ∧ 0 < s.1 95 19 ∧ (s.1 100 (s.1 95 19 - 1) = 41 ∨ (20 ≤ s.1 100 (s.1 95 19 - 1) ∧ s.1 100 (s.1 95 19 - 1) ≤ 22)))) (hQ : ∀ (r : Int) (s' : lf_Z), iv_A s'.1 s'.2.2 → lf_fq [95, 100, 101] 1000000 true s.1 s.2.2 s'.1 s'.2.2 → (r = 0 → pz_Y (s'.1 100) (s'.1 98) (s'.1 95 12) (s'.1 95 13) (s'.1 95 19) (s'.1 95 20) (s'.1 95 21) (s'.1 95 22) (s'.1 95 8) (s.1 98 (s.1 95 12)) (s'.1 95 23) (0)) → (r = 0 → (s.1 95 8 < s'.1 95 8 ∧ (s'.1 95 9 = 0 ∨ s'.1 95 8 < s'.1 95 7))) → (pz_H (s'.1 98) (s'.1 95 12) (s.1 98 (s.1 95 12))) → (s'.1 95 12 = s.1 95 12) → (0 ≤ r ∧ r ≤ 3) → Q r s') : fm_234 a1 Q s := by
  unfold fm_234
  have b1 : 0 ≤ s.1 95 19 ∧ s.1 95 19 ≤ 160 := iv_r95_19 hI
  have b2 : 0 ≤ s.1 95 20 ∧ s.1 95 20 ≤ 8 := iv_r95_20 hI
  have b3 : 0 ≤ s.1 95 21 ∧ s.1 95 21 ≤ 8 := iv_r95_21 hI
  have b4 : 0 ≤ s.1 95 13 ∧ s.1 95 13 ≤ 304 := iv_r95_13 hI
  have b5 : 0 ≤ s.1 95 8 ∧ s.1 95 8 ≤ 300 := iv_r95_8 hI
  have b6 : 0 ≤ s.1 95 22 ∧ s.1 95 22 ≤ 80 := iv_r95_22 hI
  have b7 : 0 ≤ s.1 95 12 ∧ s.1 95 12 ≤ 2115 := iv_r95_12 hI
  have b8 : 0 ≤ (s.1 95 19) ∧ (s.1 95 19) ≤ 6 * (s.1 95 20) + 5 ∧ 0 ≤ (s.1 95 20) ∧ 0 ≤ (s.1 95 21) ∧ (s.1 95 21) ≤ (s.1 95 20) ∧ 0 ≤ (s.1 95 13) ∧ (s.1 95 13) + (s.1 95 19) ≤ (s.1 95 8) ∧ 4 * (s.1 95 22) + 3 * pz_4 ((s.1 100)) ((s.1 95 19)) ≤ (s.1 95 8) ∧ 0 ≤ pz_4 ((s.1 100)) ((s.1 95 19)) ∧ (s.1 98) ((s.1 95 12)) = (s.1 98) ((s.1 95 12)) ∧ 0 ≤ (s.1 98) ((s.1 95 12)) ∧ (s.1 98) ((s.1 95 12)) < 24 := pz_Yn2 kp0
  refine ⟨(show lf_R (s.1 95 20) from lf_Rof (by omega)), ?_⟩
  refine ⟨fun c9 => ?_, fun c9 => ?_⟩
  · skip
    replace c9 : s.1 95 20 ≠ 8 := c9
    have b10 : (pz_vo a1 = 1 ∧ (a1 = 3 ∨ a1 = 20 ∨ 40 ≤ a1) ∨ pz_vo a1 = 0 ∧ a1 ≠ 3 ∧ a1 ≠ 20 ∧ a1 < 40) ∧ (pz_vl a1 = 1 ∧ (a1 = 44 ∨ a1 = 45) ∨ pz_vl a1 = 0 ∧ a1 ≠ 44 ∧ a1 ≠ 45) ∧ (pz_v4 a1 = 1 ∧ a1 = 44 ∨ pz_v4 a1 = 0 ∧ a1 ≠ 44) := pz_vE _
    have hI11 : iv_A (lf_up s.1 95 20 ((s.1 95 20) + 1)) s.2.2 := iv_w95_20 hI (by omega)
    have fr12 : lf_fq [95, 100, 101] 1000000 true s.1 s.2.2 (lf_up s.1 95 20 ((s.1 95 20) + 1)) s.2.2 := lf_fq_up (lf_fq_rf) rfl (fun h => absurd h (by decide))
    have b13 : (lf_up s.1 95 20 ((s.1 95 20) + 1)) 95 19 = s.1 95 19 := lf_up_i (by omega)
    refine ⟨(show (0 : Int) ≤ s.1 95 19 ∧ s.1 95 19 < (160 : Int) from by omega), ?_⟩
    have hI14 : iv_A (lf_up (lf_up s.1 95 20 ((s.1 95 20) + 1)) 100 (s.1 95 19) a1) s.2.2 := iv_w100 hI11 (by omega)
    have fr15 : lf_fq [95, 100, 101] 1000000 true s.1 s.2.2 (lf_up (lf_up s.1 95 20 ((s.1 95 20) + 1)) 100 (s.1 95 19) a1) s.2.2 := lf_fq_up fr12 rfl (fun h => absurd h (by decide))
    have hI16 : iv_A (lf_up (lf_up (lf_up s.1 95 20 ((s.1 95 20) + 1)) 100 (s.1 95 19) a1) 95 19 ((s.1 95 19) + 1)) s.2.2 := iv_w95_19 hI14 (by omega)
    have fr17 : lf_fq [95, 100, 101] 1000000 true s.1 s.2.2 (lf_up (lf_up (lf_up s.1 95 20 ((s.1 95 20) + 1)) 100 (s.1 95 19) a1) 95 19 ((s.1 95 19) + 1)) s.2.2 := lf_fq_up fr15 rfl (fun h => absurd h (by decide))
    have b18 : (lf_up (lf_up (lf_up s.1 95 20 ((s.1 95 20) + 1)) 100 (s.1 95 19) a1) 95 19 ((s.1 95 19) + 1)) 95 12 = (lf_up (lf_up s.1 95 20 ((s.1 95 20) + 1)) 100 (s.1 95 19) a1) 95 12 := lf_up_i (by omega)
    have b19 : (lf_up s.1 95 20 ((s.1 95 20) + 1)) 95 12 = s.1 95 12 := lf_up_i (by omega)
    have b20 : (lf_up (lf_up (lf_up s.1 95 20 ((s.1 95 20) + 1)) 100 (s.1 95 19) a1) 95 19 ((s.1 95 19) + 1)) 95 13 = (lf_up (lf_up s.1 95 20 ((s.1 95 20) + 1)) 100 (s.1 95 19) a1) 95 13 := lf_up_i (by omega)
    have b21 : (lf_up s.1 95 20 ((s.1 95 20) + 1)) 95 13 = s.1 95 13 := lf_up_i (by omega)
    have b22 : (lf_up (lf_up (lf_up s.1 95 20 ((s.1 95 20) + 1)) 100 (s.1 95 19) a1) 95 19 ((s.1 95 19) + 1)) 95 22 = (lf_up (lf_up s.1 95 20 ((s.1 95 20) + 1)) 100 (s.1 95 19) a1) 95 22 := lf_up_i (by omega)
    have b23 : (lf_up s.1 95 20 ((s.1 95 20) + 1)) 95 22 = s.1 95 22 := lf_up_i (by omega)
    have b24 : pz_Y (((lf_up (lf_up s.1 95 20 ((s.1 95 20) + 1)) 100 (s.1 95 19) a1) 100)) ((s.1 98)) ((s.1 95 12)) ((s.1 95 13)) (((s.1 95 19) + 1)) (((s.1 95 20) + 1)) (s.1 95 21 + pz_vl a1) ((s.1 95 22)) (s.1 95 8 + 1 + 2 * pz_v4 a1) (s.1 98 (s.1 95 12)) (0) (0) := pz_cg (p := (((lf_up (lf_up s.1 95 20 ((s.1 95 20) + 1)) 100 (s.1 95 19) a1) 100))) rfl rfl (pz_Yu (p := (s.1 100)) (p' := (((lf_up (lf_up s.1 95 20 ((s.1 95 20) + 1)) 100 (s.1 95 19) a1) 100))) (e := a1) kp0 lf_up_s (fun j hj => lf_up_i hj) (pz_adjo kp2) (pz_vn0o kp2) (pz_vt0o kp2) (Int.le_refl _)) rfl rfl (by omega) (by omega) rfl rfl (Int.le_refl _) rfl rfl rfl
    refine sm_197 hI16 (fun s23 hI26 fr25 ps28 ps29 => ?_)
    replace ps28 : (s.1 95 7) ≤ s23.1 95 8 ∧ (s23.1 95 9 = 0 ∨ s23.1 95 8 < s23.1 95 7) := ps28
    replace ps29 : s23.1 95 12 = (s.1 95 12) ∧ s23.1 95 13 = (s.1 95 13) ∧ s23.1 95 19 = ((s.1 95 19) + 1) ∧ s23.1 95 20 = ((s.1 95 20) + 1) ∧ s23.1 95 21 = (s.1 95 21) ∧ s23.1 95 22 = (s.1 95 22) ∧ s23.1 95 23 = (s.1 95 23) := ps29
    have fr30 : lf_fq [95, 100, 101] 1000000 true s.1 s.2.2 s23.1 s23.2.2 := lf_fq_tr fr17 (lf_fq_wk fr25 rfl (by decide) (by decide))
    have b31 : 0 ≤ s23.1 95 12 ∧ s23.1 95 12 ≤ 2115 := iv_r95_12 hI26
    have b32 : 0 ≤ s23.1 95 13 ∧ s23.1 95 13 ≤ 304 := iv_r95_13 hI26
    have b33 : 0 ≤ s23.1 95 19 ∧ s23.1 95 19 ≤ 160 := iv_r95_19 hI26
    have b34 : 0 ≤ s23.1 95 20 ∧ s23.1 95 20 ≤ 8 := iv_r95_20 hI26
    have b35 : 0 ≤ s23.1 95 22 ∧ s23.1 95 22 ≤ 80 := iv_r95_22 hI26
    have b36 : pz_Y ((s23.1 100)) ((s23.1 98)) ((s23.1 95 12)) ((s23.1 95 13)) ((s23.1 95 19)) ((s23.1 95 20)) (s.1 95 21 + pz_vl a1) ((s23.1 95 22)) (s.1 95 8 + 1 + 2 * pz_v4 a1) (s.1 98 (s.1 95 12)) (0) (0) := pz_cg (fr25.1 100 rfl) (fr25.1 98 rfl) (by first | with_reducible assumption | assumption) (by omega) (by omega) (by omega) (by omega) (by omega) (by omega) (by omega) (by omega) rfl rfl
    refine ⟨(show lf_R a1 from lf_Rof (by omega)), ?_⟩
    refine ⟨fun c37 => ?_, fun c37 => ?_⟩
    · skip
      replace c37 : a1 = 44 := c37
      refine sm_232 hI26 (fun r26 q38 => ?_)
      obtain ⟨q38, q38x⟩ := q38
      have b39 : (-2147483648) ≤ s23.1 95 9 ∧ s23.1 95 9 ≤ 2147483647 := iv_full hI26
      have b40 : 0 ≤ s23.1 95 7 ∧ s23.1 95 7 ≤ 300 := iv_r95_7 hI26
      have b41 : 0 ≤ s23.1 95 8 ∧ s23.1 95 8 ≤ 300 := iv_r95_8 hI26
      have b42 : 0 ≤ s23.1 95 4 ∧ s23.1 95 4 ≤ 300 := iv_r95_4 hI26
      replace q38x : (r26 = -1 ∧ ¬ (s23.1 95 9 = 2 ∧ s23.1 95 7 - s23.1 95 8 = 1 ∧ s23.1 95 8 < s23.1 95 4 ∧ 97 ≤ s23.1 99 (s23.1 95 8) ∧ s23.1 99 (s23.1 95 8) ≤ 122)) ∨ (r26 = s23.1 99 (s23.1 95 8) - 97 ∧ s23.1 95 9 = 2 ∧ s23.1 95 7 - s23.1 95 8 = 1 ∧ s23.1 95 8 < s23.1 95 4 ∧ 97 ≤ s23.1 99 (s23.1 95 8) ∧ s23.1 99 (s23.1 95 8) ≤ 122) := q38x
      refine ⟨(show lf_R r26 from lf_Rof (by omega)), ?_⟩
      refine ⟨fun c43 => ?_, fun c43 => ?_⟩
      · skip
        replace c43 : 0 ≤ r26 := c43
        have b44 : 0 ≤ s23.1 95 21 ∧ s23.1 95 21 ≤ 8 := iv_r95_21 hI26
        refine sm_232 hI26 (fun r29 q45 => ?_)
        obtain ⟨q45, q45x⟩ := q45
        have b46 : (-2147483648) ≤ s23.1 95 9 ∧ s23.1 95 9 ≤ 2147483647 := iv_full hI26
        have b47 : 0 ≤ s23.1 95 7 ∧ s23.1 95 7 ≤ 300 := iv_r95_7 hI26
        have b48 : 0 ≤ s23.1 95 8 ∧ s23.1 95 8 ≤ 300 := iv_r95_8 hI26
        have b49 : 0 ≤ s23.1 95 4 ∧ s23.1 95 4 ≤ 300 := iv_r95_4 hI26
        replace q45x : (r29 = -1 ∧ ¬ (s23.1 95 9 = 2 ∧ s23.1 95 7 - s23.1 95 8 = 1 ∧ s23.1 95 8 < s23.1 95 4 ∧ 97 ≤ s23.1 99 (s23.1 95 8) ∧ s23.1 99 (s23.1 95 8) ≤ 122)) ∨ (r29 = s23.1 99 (s23.1 95 8) - 97 ∧ s23.1 95 9 = 2 ∧ s23.1 95 7 - s23.1 95 8 = 1 ∧ s23.1 95 8 < s23.1 95 4 ∧ 97 ≤ s23.1 99 (s23.1 95 8) ∧ s23.1 99 (s23.1 95 8) ≤ 122) := q45x
        refine ⟨(show (0 : Int) ≤ s23.1 95 21 ∧ s23.1 95 21 < (10 : Int) from by omega), ?_⟩
        have hI50 : iv_A (lf_up s23.1 101 (s23.1 95 21) r29) s23.2.2 := iv_w101 hI26 (by omega)
        have fr51 : lf_fq [95, 100, 101] 1000000 true s.1 s.2.2 (lf_up s23.1 101 (s23.1 95 21) r29) s23.2.2 := lf_fq_up fr30 rfl (fun h => absurd h (by decide))
        have hI52 : iv_A (lf_up (lf_up s23.1 101 (s23.1 95 21) r29) 95 21 ((s23.1 95 21) + 1)) s23.2.2 := iv_w95_21 hI50 (by omega)
        have fr53 : lf_fq [95, 100, 101] 1000000 true s.1 s.2.2 (lf_up (lf_up s23.1 101 (s23.1 95 21) r29) 95 21 ((s23.1 95 21) + 1)) s23.2.2 := lf_fq_up fr51 rfl (fun h => absurd h (by decide))
        refine sm_197 hI52 (fun s31 hI55 fr54 ps57 ps58 => ?_)
        replace ps57 : (s23.1 95 7) ≤ s31.1 95 8 ∧ (s31.1 95 9 = 0 ∨ s31.1 95 8 < s31.1 95 7) := ps57
        replace ps58 : s31.1 95 12 = (s23.1 95 12) ∧ s31.1 95 13 = (s23.1 95 13) ∧ s31.1 95 19 = (s23.1 95 19) ∧ s31.1 95 20 = (s23.1 95 20) ∧ s31.1 95 21 = ((s23.1 95 21) + 1) ∧ s31.1 95 22 = (s23.1 95 22) ∧ s31.1 95 23 = (s23.1 95 23) := ps58
        have fr59 : lf_fq [95, 100, 101] 1000000 true s.1 s.2.2 s31.1 s31.2.2 := lf_fq_tr fr53 (lf_fq_wk fr54 rfl (by decide) (by decide))
        have b60 : 0 ≤ s31.1 95 12 ∧ s31.1 95 12 ≤ 2115 := iv_r95_12 hI55
        have b61 : 0 ≤ s31.1 95 13 ∧ s31.1 95 13 ≤ 304 := iv_r95_13 hI55
        have b62 : 0 ≤ s31.1 95 19 ∧ s31.1 95 19 ≤ 160 := iv_r95_19 hI55
        have b63 : 0 ≤ s31.1 95 20 ∧ s31.1 95 20 ≤ 8 := iv_r95_20 hI55
        have b64 : 0 ≤ s31.1 95 22 ∧ s31.1 95 22 ≤ 80 := iv_r95_22 hI55
        have b65 : pz_Y ((s31.1 100)) ((s31.1 98)) ((s31.1 95 12)) ((s31.1 95 13)) ((s31.1 95 19)) ((s31.1 95 20)) (s.1 95 21 + pz_vl a1) ((s31.1 95 22)) (s.1 95 8 + 1 + 2 * pz_v4 a1) (s.1 98 (s.1 95 12)) (0) (0) := pz_cg (fr54.1 100 rfl) (fr54.1 98 rfl) (by first | with_reducible assumption | assumption) (by omega) (by omega) (by omega) (by omega) (by omega) (by omega) (by omega) (by omega) rfl rfl
        refine sm_206 hI55 (show (97 : Int) ≤ 98 ∧ 98 ≤ (119 : Int) from by omega) (show (97 : Int) ≤ 101 ∧ 101 ≤ (121 : Int) from by omega) (fun r33 => ?_)
        refine sm_207 hI55 (fun z35 q67 => ?_)
        have b68 : (-2147483648) ≤ s31.1 95 9 ∧ s31.1 95 9 ≤ 2147483647 := iv_full hI55
        refine ⟨fun c69 => ?_, fun c69 => ?_⟩
        · skip
          have dc69 := q67.1 c69
          refine sm_197 hI55 (fun s36 hI71 fr70 ps73 ps74 => ?_)
          replace ps73 : (s31.1 95 7) ≤ s36.1 95 8 ∧ (s36.1 95 9 = 0 ∨ s36.1 95 8 < s36.1 95 7) := ps73
          replace ps74 : s36.1 95 12 = (s31.1 95 12) ∧ s36.1 95 13 = (s31.1 95 13) ∧ s36.1 95 19 = (s31.1 95 19) ∧ s36.1 95 20 = (s31.1 95 20) ∧ s36.1 95 21 = (s31.1 95 21) ∧ s36.1 95 22 = (s31.1 95 22) ∧ s36.1 95 23 = (s31.1 95 23) := ps74
          have fr75 : lf_fq [95, 100, 101] 1000000 true s.1 s.2.2 s36.1 s36.2.2 := lf_fq_tr fr59 (lf_fq_wk fr70 rfl (by decide) (by decide))
          have b76 : 0 ≤ s36.1 95 12 ∧ s36.1 95 12 ≤ 2115 := iv_r95_12 hI71
          have b77 : 0 ≤ s36.1 95 13 ∧ s36.1 95 13 ≤ 304 := iv_r95_13 hI71
          have b78 : 0 ≤ s36.1 95 19 ∧ s36.1 95 19 ≤ 160 := iv_r95_19 hI71
          have b79 : 0 ≤ s36.1 95 20 ∧ s36.1 95 20 ≤ 8 := iv_r95_20 hI71
          have b80 : 0 ≤ s36.1 95 22 ∧ s36.1 95 22 ≤ 80 := iv_r95_22 hI71
          have b81 : pz_Y ((s36.1 100)) ((s36.1 98)) ((s36.1 95 12)) ((s36.1 95 13)) ((s36.1 95 19)) ((s36.1 95 20)) (s.1 95 21 + pz_vl a1) ((s36.1 95 22)) (s.1 95 8 + 1 + 2 * pz_v4 a1) (s.1 98 (s.1 95 12)) (0) (0) := pz_cg (fr70.1 100 rfl) (fr70.1 98 rfl) (by first | with_reducible assumption | assumption) (by omega) (by omega) (by omega) (by omega) (by omega) (by omega) (by omega) (by omega) rfl rfl
          have b82 : 0 ≤ s36.1 95 21 ∧ s36.1 95 21 ≤ 8 := iv_r95_21 hI71
          have b83 : 0 ≤ s36.1 95 8 ∧ s36.1 95 8 ≤ 300 := iv_r95_8 hI71
          have b84 : 0 ≤ s36.1 95 23 ∧ s36.1 95 23 ≤ 1 := iv_r95_23 hI71
          have b85 : pz_Y ((s36.1 100)) ((s36.1 98)) ((s36.1 95 12)) ((s36.1 95 13)) ((s36.1 95 19)) ((s36.1 95 20)) ((s36.1 95 21)) ((s36.1 95 22)) ((s36.1 95 8)) (s.1 98 (s.1 95 12)) ((s36.1 95 23)) (0) := pz_cg rfl rfl (by first | with_reducible assumption | assumption : pz_Y ((s36.1 100)) ((s36.1 98)) ((s36.1 95 12)) ((s36.1 95 13)) ((s36.1 95 19)) ((s36.1 95 20)) (s.1 95 21 + pz_vl a1) ((s36.1 95 22)) (s.1 95 8 + 1 + 2 * pz_v4 a1) (s.1 98 (s.1 95 12)) (0) (0)) rfl rfl rfl rfl (by omega) rfl (by omega) rfl (by omega) rfl
          have b86 : pz_H ((s36.1 98)) ((s36.1 95 12)) (s.1 98 (s.1 95 12)) := by first | exact pz_YH kp0 | exact pz_YH (by first | with_reducible assumption | assumption : pz_Y ((s36.1 100)) ((s36.1 98)) ((s36.1 95 12)) ((s36.1 95 13)) ((s36.1 95 19)) ((s36.1 95 20)) (s.1 95 21 + pz_vl a1) ((s36.1 95 22)) (s.1 95 8 + 1 + 2 * pz_v4 a1) (s.1 98 (s.1 95 12)) (0) (0))
          exact hQ 0 s36 hI71 fr75 (show 0 = 0 → pz_Y ((s36.1 100)) ((s36.1 98)) ((s36.1 95 12)) ((s36.1 95 13)) ((s36.1 95 19)) ((s36.1 95 20)) ((s36.1 95 21)) ((s36.1 95 22)) ((s36.1 95 8)) (s.1 98 (s.1 95 12)) ((s36.1 95 23)) (0) from fun _ => by first | with_reducible assumption | assumption) (show 0 = 0 → (s.1 95 8 < (s36.1 95 8) ∧ ((s36.1 95 9) = 0 ∨ (s36.1 95 8) < (s36.1 95 7))) from fun _ => by omega) (show pz_H ((s36.1 98)) ((s36.1 95 12)) (s.1 98 (s.1 95 12)) from by first | with_reducible assumption | assumption) (show (s36.1 95 12) = s.1 95 12 from by omega) (show (0 : Int) ≤ 0 ∧ 0 ≤ (3 : Int) from by omega)
        · skip
          have dc69 := q67.2 c69
          have b87 : pz_H ((s31.1 98)) ((s31.1 95 12)) (s.1 98 (s.1 95 12)) := by first | exact pz_YH kp0 | exact pz_YH (by first | with_reducible assumption | assumption : pz_Y ((s31.1 100)) ((s31.1 98)) ((s31.1 95 12)) ((s31.1 95 13)) ((s31.1 95 19)) ((s31.1 95 20)) (s.1 95 21 + pz_vl a1) ((s31.1 95 22)) (s.1 95 8 + 1 + 2 * pz_v4 a1) (s.1 98 (s.1 95 12)) (0) (0))
          exact hQ 1 s31 hI55 fr59 (show 1 = 0 → pz_Y ((s31.1 100)) ((s31.1 98)) ((s31.1 95 12)) ((s31.1 95 13)) ((s31.1 95 19)) ((s31.1 95 20)) ((s31.1 95 21)) ((s31.1 95 22)) ((s31.1 95 8)) (s.1 98 (s.1 95 12)) ((s31.1 95 23)) (0) from fun h => absurd h (by decide)) (show 1 = 0 → (s.1 95 8 < (s31.1 95 8) ∧ ((s31.1 95 9) = 0 ∨ (s31.1 95 8) < (s31.1 95 7))) from fun h => absurd h (by decide)) (show pz_H ((s31.1 98)) ((s31.1 95 12)) (s.1 98 (s.1 95 12)) from by first | with_reducible assumption | assumption) (show (s31.1 95 12) = s.1 95 12 from by omega) (show (0 : Int) ≤ 1 ∧ 1 ≤ (3 : Int) from by omega)
      · skip
        replace c43 : ¬ (0 ≤ r26) := c43
        have b88 : pz_H ((s23.1 98)) ((s23.1 95 12)) (s.1 98 (s.1 95 12)) := by first | exact pz_YH kp0 | exact pz_YH (by first | with_reducible assumption | assumption : pz_Y ((s23.1 100)) ((s23.1 98)) ((s23.1 95 12)) ((s23.1 95 13)) ((s23.1 95 19)) ((s23.1 95 20)) (s.1 95 21 + pz_vl a1) ((s23.1 95 22)) (s.1 95 8 + 1 + 2 * pz_v4 a1) (s.1 98 (s.1 95 12)) (0) (0))
        exact hQ 1 s23 hI26 fr30 (show 1 = 0 → pz_Y ((s23.1 100)) ((s23.1 98)) ((s23.1 95 12)) ((s23.1 95 13)) ((s23.1 95 19)) ((s23.1 95 20)) ((s23.1 95 21)) ((s23.1 95 22)) ((s23.1 95 8)) (s.1 98 (s.1 95 12)) ((s23.1 95 23)) (0) from fun h => absurd h (by decide)) (show 1 = 0 → (s.1 95 8 < (s23.1 95 8) ∧ ((s23.1 95 9) = 0 ∨ (s23.1 95 8) < (s23.1 95 7))) from fun h => absurd h (by decide)) (show pz_H ((s23.1 98)) ((s23.1 95 12)) (s.1 98 (s.1 95 12)) from by first | with_reducible assumption | assumption) (show (s23.1 95 12) = s.1 95 12 from by omega) (show (0 : Int) ≤ 1 ∧ 1 ≤ (3 : Int) from by omega)
    · skip
      replace c37 : ¬ (a1 = 44) := c37
      have b89 : 0 ≤ s23.1 95 21 ∧ s23.1 95 21 ≤ 8 := iv_r95_21 hI26
      have b90 : 0 ≤ s23.1 95 8 ∧ s23.1 95 8 ≤ 300 := iv_r95_8 hI26
      have b91 : 0 ≤ s23.1 95 23 ∧ s23.1 95 23 ≤ 1 := iv_r95_23 hI26
      have b92 : pz_Y ((s23.1 100)) ((s23.1 98)) ((s23.1 95 12)) ((s23.1 95 13)) ((s23.1 95 19)) ((s23.1 95 20)) ((s23.1 95 21)) ((s23.1 95 22)) ((s23.1 95 8)) (s.1 98 (s.1 95 12)) ((s23.1 95 23)) (0) := pz_cg rfl rfl (by first | with_reducible assumption | assumption : pz_Y ((s23.1 100)) ((s23.1 98)) ((s23.1 95 12)) ((s23.1 95 13)) ((s23.1 95 19)) ((s23.1 95 20)) (s.1 95 21 + pz_vl a1) ((s23.1 95 22)) (s.1 95 8 + 1 + 2 * pz_v4 a1) (s.1 98 (s.1 95 12)) (0) (0)) rfl rfl rfl rfl (by omega) rfl (by omega) rfl (by omega) rfl
      have b93 : pz_H ((s23.1 98)) ((s23.1 95 12)) (s.1 98 (s.1 95 12)) := by first | exact pz_YH kp0 | exact pz_YH (by first | with_reducible assumption | assumption : pz_Y ((s23.1 100)) ((s23.1 98)) ((s23.1 95 12)) ((s23.1 95 13)) ((s23.1 95 19)) ((s23.1 95 20)) (s.1 95 21 + pz_vl a1) ((s23.1 95 22)) (s.1 95 8 + 1 + 2 * pz_v4 a1) (s.1 98 (s.1 95 12)) (0) (0))
      exact hQ 0 s23 hI26 fr30 (show 0 = 0 → pz_Y ((s23.1 100)) ((s23.1 98)) ((s23.1 95 12)) ((s23.1 95 13)) ((s23.1 95 19)) ((s23.1 95 20)) ((s23.1 95 21)) ((s23.1 95 22)) ((s23.1 95 8)) (s.1 98 (s.1 95 12)) ((s23.1 95 23)) (0) from fun _ => by first | with_reducible assumption | assumption) (show 0 = 0 → (s.1 95 8 < (s23.1 95 8) ∧ ((s23.1 95 9) = 0 ∨ (s23.1 95 8) < (s23.1 95 7))) from fun _ => by omega) (show pz_H ((s23.1 98)) ((s23.1 95 12)) (s.1 98 (s.1 95 12)) from by first | with_reducible assumption | assumption) (show (s23.1 95 12) = s.1 95 12 from by omega) (show (0 : Int) ≤ 0 ∧ 0 ≤ (3 : Int) from by omega)
  · skip
    replace c9 : ¬ (s.1 95 20 ≠ 8) := c9
    have b94 : pz_H ((s.1 98)) ((s.1 95 12)) (s.1 98 (s.1 95 12)) := by first | exact pz_YH kp0 | exact pz_YH (by first | with_reducible assumption | assumption : pz_Y ((s.1 100)) ((s.1 98)) ((s.1 95 12)) ((s.1 95 13)) ((s.1 95 19)) ((s.1 95 20)) (s.1 95 21 + pz_vl a1) ((s.1 95 22)) (s.1 95 8 + 1 + 2 * pz_v4 a1) (s.1 98 (s.1 95 12)) (0) (0))
    exact hQ 3 s hI (lf_fq_rf) (show 3 = 0 → pz_Y ((s.1 100)) ((s.1 98)) ((s.1 95 12)) ((s.1 95 13)) ((s.1 95 19)) ((s.1 95 20)) ((s.1 95 21)) ((s.1 95 22)) ((s.1 95 8)) (s.1 98 (s.1 95 12)) ((s.1 95 23)) (0) from fun h => absurd h (by decide)) (show 3 = 0 → (s.1 95 8 < (s.1 95 8) ∧ ((s.1 95 9) = 0 ∨ (s.1 95 8) < (s.1 95 7))) from fun h => absurd h (by decide)) (show pz_H ((s.1 98)) ((s.1 95 12)) (s.1 98 (s.1 95 12)) from by first | with_reducible assumption | assumption) (show (s.1 95 12) = s.1 95 12 from by omega) (show (0 : Int) ≤ 3 ∧ 3 ≤ (3 : Int) from by omega)
-- fm_231 Model.isOf 95 i
theorem sm_231 {a1 : Int} {Q : Bool → lf_Z → Prop} {s : lf_Z} (hI : iv_A s.1 s.2.2) (ba1 : 0 ≤ a1 ∧ a1 ≤ 10) (hQ : ∀ (z : Bool), Q z s) : fm_231 a1 Q s := by
  unfold fm_231
  refine ⟨(show lf_R a1 from lf_Rof (by omega)), ?_⟩
  refine ⟨fun c1 => ?_, fun c1 => ?_⟩
  · skip
    replace c1 : a1 < 4 := c1
    exact hQ true
  · skip
    replace c1 : ¬ (a1 < 4) := c1
    refine ⟨fun c2 => ?_, fun c2 => ?_⟩
    · skip
      replace c2 : a1 ≠ 4 := c2
      refine ⟨fun c3 => ?_, fun c3 => ?_⟩
      · skip
        replace c3 : a1 ≠ 10 := c3
        have b4 : 0 ≤ s.1 95 14 ∧ s.1 95 14 ≤ 12 := iv_r95_14 hI
        refine ⟨(show lf_R (s.1 95 14) from lf_Rof (by omega)), ?_⟩
        refine ⟨fun c5 => ?_, fun c5 => ?_⟩
        · skip
          replace c5 : s.1 95 14 ≠ 1 := c5
          exact hQ false
        · skip
          replace c5 : ¬ (s.1 95 14 ≠ 1) := c5
          exact hQ true
      · skip
        replace c3 : ¬ (a1 ≠ 10) := c3
        have b6 : 0 ≤ s.1 95 14 ∧ s.1 95 14 ≤ 12 := iv_r95_14 hI
        refine ⟨(show lf_R (s.1 95 14) from lf_Rof (by omega)), ?_⟩
        refine ⟨fun c7 => ?_, fun c7 => ?_⟩
        · skip
          replace c7 : s.1 95 14 ≠ 2 := c7
          exact hQ false
        · skip
          replace c7 : ¬ (s.1 95 14 ≠ 2) := c7
          exact hQ true
    · skip
      replace c2 : ¬ (a1 ≠ 4) := c2
      have b8 : 0 ≤ s.1 95 14 ∧ s.1 95 14 ≤ 12 := iv_r95_14 hI
      refine ⟨(show lf_R (s.1 95 14) from lf_Rof (by omega)), ?_⟩
      refine ⟨fun c9 => ?_, fun c9 => ?_⟩
      · skip
        replace c9 : s.1 95 14 ≠ 0 := c9
        exact hQ false
      · skip
        replace c9 : ¬ (s.1 95 14 ≠ 0) := c9
        exact hQ true
-- fm_229 Model.beginOne 95
set_option maxHeartbeats 8000000 in
theorem sm_229_p79 {Q : Int → lf_Z → Prop} {x1 : Int} {s : lf_Z} {s0 : lf_Z} (hQ : ∀ (r : Int) (s' : lf_Z), iv_A s'.1 s'.2.2 → lf_fq [95, 98, 100, 101] 1000000 true s.1 s.2.2 s'.1 s'.2.2 → (r = 0 → pz_Y (s'.1 100) (s'.1 98) (s'.1 95 12) (s'.1 95 13) (s'.1 95 19) (s'.1 95 20) (s'.1 95 21) (s'.1 95 22) (s'.1 95 8) (s0.1 98 (s0.1 95 12)) (s'.1 95 23) (0)) → (r = 0 → (s0.1 95 8 < s'.1 95 8 ∧ (s'.1 95 9 = 0 ∨ s'.1 95 8 < s'.1 95 7))) → (pz_H (s'.1 98) (s'.1 95 12) (s0.1 98 (s0.1 95 12))) → (s'.1 95 12 = s0.1 95 12) → (0 ≤ r ∧ r ≤ 5) → Q r s') (hI : iv_A s.1 s.2.2) (bx1 : (-1) ≤ x1 ∧ x1 ≤ 10) (kv0 : pz_Y (s.1 100) (s.1 98) (s.1 95 12) (s.1 95 13) (s.1 95 19) (s.1 95 20) (s.1 95 21) (s.1 95 22) (s.1 95 8) (s0.1 98 (s0.1 95 12)) (0) (0)) (kv1 : s.1 95 9 = 0 ∨ s.1 95 8 < s.1 95 7) (kv2 : s.1 95 23 = 0) (kv3 : s.1 95 8 = s0.1 95 8 ∧ s.1 98 (s.1 95 12) = s0.1 98 (s0.1 95 12)) (kv4 : x1 = -1 ∨ s.1 95 9 = 2) (kv5 : s.1 95 9 ≠ 2 ∨ s.1 95 7 - s.1 95 8 ≠ 1 ∨ s.1 95 4 ≤ s.1 95 8 ∨ s.1 99 (s.1 95 8) < 97 ∨ 122 < s.1 99 (s.1 95 8) ∨ 0 ≤ s.1 103 (s.1 99 (s.1 95 8) - 97)) (kv6 : s.1 95 9 = 1 ∨ 0 ≤ x1 ∨ ¬ (s.1 95 9 ≠ 2 ∨ s.1 95 7 - s.1 95 8 ≠ 1 ∨ s.1 95 4 ≤ s.1 95 8 ∨ s.1 99 (s.1 95 8) < 97 ∨ 122 < s.1 99 (s.1 95 8))) (kv7 : s.1 95 12 = s0.1 95 12) : fm_229_p79 Q x1 s := by
  unfold fm_229_p79
  have b55 : 0 ≤ s.1 95 12 ∧ s.1 95 12 ≤ 2115 := iv_r95_12 hI
  have b56 : 0 ≤ s.1 95 13 ∧ s.1 95 13 ≤ 304 := iv_r95_13 hI
  have b57 : 0 ≤ s.1 95 19 ∧ s.1 95 19 ≤ 160 := iv_r95_19 hI
  have b58 : 0 ≤ s.1 95 20 ∧ s.1 95 20 ≤ 8 := iv_r95_20 hI
  have b59 : 0 ≤ s.1 95 21 ∧ s.1 95 21 ≤ 8 := iv_r95_21 hI
  have b60 : 0 ≤ s.1 95 22 ∧ s.1 95 22 ≤ 80 := iv_r95_22 hI
  have b61 : 0 ≤ s.1 95 8 ∧ s.1 95 8 ≤ 300 := iv_r95_8 hI
  have b62 : pz_Y ((s.1 100)) ((s.1 98)) ((s.1 95 12)) ((s.1 95 13)) ((s.1 95 19)) ((s.1 95 20)) ((s.1 95 21)) ((s.1 95 22)) ((s.1 95 8)) ((s.1 98) ((s.1 95 12))) (0) (0) := pz_Ym kv0
  have b63 : (-2147483648) ≤ s.1 95 9 ∧ s.1 95 9 ≤ 2147483647 := iv_full hI
  refine ⟨(show lf_R (s.1 95 9) from lf_Rof (by omega)), ?_⟩
  refine ⟨fun c64 => ?_, fun c64 => ?_⟩
  · skip
    replace c64 : s.1 95 9 ≠ 1 := c64
    refine ⟨(show lf_R x1 from lf_Rof (by omega)), ?_⟩
    refine ⟨fun c65 => ?_, fun c65 => ?_⟩
    · skip
      replace c65 : x1 < 0 := c65
      refine sm_232 hI (fun r32 q66 => ?_)
      obtain ⟨q66, q66x⟩ := q66
      have b67 : 0 ≤ s.1 95 7 ∧ s.1 95 7 ≤ 300 := iv_r95_7 hI
      have b68 : 0 ≤ s.1 95 4 ∧ s.1 95 4 ≤ 300 := iv_r95_4 hI
      replace q66x : (r32 = -1 ∧ ¬ (s.1 95 9 = 2 ∧ s.1 95 7 - s.1 95 8 = 1 ∧ s.1 95 8 < s.1 95 4 ∧ 97 ≤ s.1 99 (s.1 95 8) ∧ s.1 99 (s.1 95 8) ≤ 122)) ∨ (r32 = s.1 99 (s.1 95 8) - 97 ∧ s.1 95 9 = 2 ∧ s.1 95 7 - s.1 95 8 = 1 ∧ s.1 95 8 < s.1 95 4 ∧ 97 ≤ s.1 99 (s.1 95 8) ∧ s.1 99 (s.1 95 8) ≤ 122) := q66x
      refine ⟨(show (0 : Int) ≤ r32 ∧ r32 < (26 : Int) from by omega), ?_⟩
      have b69 : (-1) ≤ s.1 103 r32 ∧ s.1 103 r32 ≤ 79 := iv_r103 hI _
      have b70 : (s.1 103 r32) = (s.1 103) ((s.1 99) ((s.1 95 8)) - 97) := congrArg ((s.1 103)) (by omega)
      have b73 : 0 ≤ s.1 95 7 ∧ s.1 95 7 ≤ 300 := iv_r95_7 hI
      refine sm_233 hI (show (0 : Int) ≤ 31 ∧ 31 ≤ (31 : Int) from by omega) (show (-2147483648 : Int) ≤ s.1 103 r32 ∧ s.1 103 r32 ≤ (2147483647 : Int) from by omega) (show pz_Y ((s.1 100)) ((s.1 98)) ((s.1 95 12)) ((s.1 95 13)) ((s.1 95 19)) ((s.1 95 20)) ((s.1 95 21)) ((s.1 95 22)) ((s.1 95 8)) ((s.1 98) ((s.1 95 12))) (0) (0) from by first | with_reducible assumption | assumption) (show (s.1 95 9) ≠ 0 ∧ (s.1 95 8) < (s.1 95 7) from by omega) (show 31 = 0 ∨ (31 = 1 ∧ 0 ≤ (s.1 103 r32) ∧ (s.1 103 r32) < 11) ∨ (31 = 31 ∧ 0 ≤ (s.1 103 r32) ∧ (s.1 103 r32) < 80) from by omega) (fun s34 hI72 fr71 ps75 ps76 ps77 => ?_)
      replace ps75 : pz_Y (s34.1 100) (s34.1 98) (s34.1 95 12) (s34.1 95 13) (s34.1 95 19) (s34.1 95 20) (s34.1 95 21) (s34.1 95 22) (s34.1 95 8) ((s.1 98) ((s.1 95 12))) (1) (0) := ps75
      replace ps76 : (s.1 95 8) < s34.1 95 8 ∧ (s34.1 95 9 = 0 ∨ s34.1 95 8 < s34.1 95 7) ∧ s34.1 95 23 = 1 := ps76
      replace ps77 : s34.1 95 12 = (s.1 95 12) := ps77
      have fr78 : lf_fq [95, 98, 100, 101] 1000000 true s.1 s.2.2 s34.1 s34.2.2 := lf_fq_tr (lf_fq_rf) (lf_fq_wk fr71 rfl (by decide) (by decide))
      have b79 : 0 ≤ s34.1 95 12 ∧ s34.1 95 12 ≤ 2115 := iv_r95_12 hI72
      have b80 : 0 ≤ s34.1 95 13 ∧ s34.1 95 13 ≤ 304 := iv_r95_13 hI72
      have b81 : 0 ≤ s34.1 95 19 ∧ s34.1 95 19 ≤ 160 := iv_r95_19 hI72
      have b82 : 0 ≤ s34.1 95 20 ∧ s34.1 95 20 ≤ 8 := iv_r95_20 hI72
      have b83 : 0 ≤ s34.1 95 21 ∧ s34.1 95 21 ≤ 8 := iv_r95_21 hI72
      have b84 : 0 ≤ s34.1 95 22 ∧ s34.1 95 22 ≤ 80 := iv_r95_22 hI72
      have b85 : 0 ≤ s34.1 95 8 ∧ s34.1 95 8 ≤ 300 := iv_r95_8 hI72
      have b86 : 0 ≤ s34.1 95 23 ∧ s34.1 95 23 ≤ 1 := iv_r95_23 hI72
      have b87 : pz_Y ((s34.1 100)) ((s34.1 98)) ((s34.1 95 12)) ((s34.1 95 13)) ((s34.1 95 19)) ((s34.1 95 20)) ((s34.1 95 21)) ((s34.1 95 22)) ((s34.1 95 8)) (s0.1 98 (s0.1 95 12)) ((s34.1 95 23)) (0) := pz_cg rfl rfl ps75 rfl rfl rfl rfl rfl rfl (Int.le_refl _) (by omega) (by omega) rfl
      have b88 : pz_H ((s34.1 98)) ((s34.1 95 12)) (s0.1 98 (s0.1 95 12)) := by first | with_reducible assumption | exact pz_YH (by first | with_reducible assumption | assumption : pz_Y ((s34.1 100)) ((s34.1 98)) ((s34.1 95 12)) ((s34.1 95 13)) ((s34.1 95 19)) ((s34.1 95 20)) ((s34.1 95 21)) ((s34.1 95 22)) ((s34.1 95 8)) (s0.1 98 (s0.1 95 12)) ((s34.1 95 23)) (0)) | exact pz_YH (by first | with_reducible assumption | assumption : pz_Y ((s34.1 100)) ((s34.1 98)) ((s34.1 95 12)) ((s34.1 95 13)) ((s34.1 95 19)) ((s34.1 95 20)) ((s34.1 95 21)) ((s34.1 95 22)) ((s34.1 95 8)) (s0.1 98 (s0.1 95 12)) (0) (0)) | exact pz_cH rfl ps77 rfl (by omega)
      have b89 : 0 = 0 → pz_Y ((s34.1 100)) ((s34.1 98)) ((s34.1 95 12)) ((s34.1 95 13)) ((s34.1 95 19)) ((s34.1 95 20)) ((s34.1 95 21)) ((s34.1 95 22)) ((s34.1 95 8)) (s0.1 98 (s0.1 95 12)) ((s34.1 95 23)) (0) := by first | exact (fun h9 => pz_Yk (ps75 h9) (by omega)) | exact (fun h => absurd h (by decide)) | exact (fun _ => by first | with_reducible assumption | assumption)
      exact hQ 0 s34 hI72 fr78 (show 0 = 0 → pz_Y ((s34.1 100)) ((s34.1 98)) ((s34.1 95 12)) ((s34.1 95 13)) ((s34.1 95 19)) ((s34.1 95 20)) ((s34.1 95 21)) ((s34.1 95 22)) ((s34.1 95 8)) (s0.1 98 (s0.1 95 12)) ((s34.1 95 23)) (0) from fun _ => by first | with_reducible assumption | assumption) (show 0 = 0 → (s0.1 95 8 < (s34.1 95 8) ∧ ((s34.1 95 9) = 0 ∨ (s34.1 95 8) < (s34.1 95 7))) from fun _ => by omega) (show pz_H ((s34.1 98)) ((s34.1 95 12)) (s0.1 98 (s0.1 95 12)) from by first | with_reducible assumption | assumption) (show (s34.1 95 12) = s0.1 95 12 from by omega) (show (0 : Int) ≤ 0 ∧ 0 ≤ (5 : Int) from by omega)
    · skip
      replace c65 : ¬ (x1 < 0) := c65
      have b92 : 0 ≤ s.1 95 7 ∧ s.1 95 7 ≤ 300 := iv_r95_7 hI
      refine sm_233 hI (show (0 : Int) ≤ 1 ∧ 1 ≤ (31 : Int) from by omega) (show (-2147483648 : Int) ≤ x1 ∧ x1 ≤ (2147483647 : Int) from by omega) (show pz_Y ((s.1 100)) ((s.1 98)) ((s.1 95 12)) ((s.1 95 13)) ((s.1 95 19)) ((s.1 95 20)) ((s.1 95 21)) ((s.1 95 22)) ((s.1 95 8)) ((s.1 98) ((s.1 95 12))) (0) (0) from by first | with_reducible assumption | assumption) (show (s.1 95 9) ≠ 0 ∧ (s.1 95 8) < (s.1 95 7) from by omega) (show 1 = 0 ∨ (1 = 1 ∧ 0 ≤ x1 ∧ x1 < 11) ∨ (1 = 31 ∧ 0 ≤ x1 ∧ x1 < 80) from by omega) (fun s35 hI91 fr90 ps94 ps95 ps96 => ?_)
      replace ps94 : pz_Y (s35.1 100) (s35.1 98) (s35.1 95 12) (s35.1 95 13) (s35.1 95 19) (s35.1 95 20) (s35.1 95 21) (s35.1 95 22) (s35.1 95 8) ((s.1 98) ((s.1 95 12))) (1) (0) := ps94
      replace ps95 : (s.1 95 8) < s35.1 95 8 ∧ (s35.1 95 9 = 0 ∨ s35.1 95 8 < s35.1 95 7) ∧ s35.1 95 23 = 1 := ps95
      replace ps96 : s35.1 95 12 = (s.1 95 12) := ps96
      have fr97 : lf_fq [95, 98, 100, 101] 1000000 true s.1 s.2.2 s35.1 s35.2.2 := lf_fq_tr (lf_fq_rf) (lf_fq_wk fr90 rfl (by decide) (by decide))
      have b98 : 0 ≤ s35.1 95 12 ∧ s35.1 95 12 ≤ 2115 := iv_r95_12 hI91
      have b99 : 0 ≤ s35.1 95 13 ∧ s35.1 95 13 ≤ 304 := iv_r95_13 hI91
      have b100 : 0 ≤ s35.1 95 19 ∧ s35.1 95 19 ≤ 160 := iv_r95_19 hI91
      have b101 : 0 ≤ s35.1 95 20 ∧ s35.1 95 20 ≤ 8 := iv_r95_20 hI91
      have b102 : 0 ≤ s35.1 95 21 ∧ s35.1 95 21 ≤ 8 := iv_r95_21 hI91
      have b103 : 0 ≤ s35.1 95 22 ∧ s35.1 95 22 ≤ 80 := iv_r95_22 hI91
      have b104 : 0 ≤ s35.1 95 8 ∧ s35.1 95 8 ≤ 300 := iv_r95_8 hI91
      have b105 : 0 ≤ s35.1 95 23 ∧ s35.1 95 23 ≤ 1 := iv_r95_23 hI91
      have b106 : pz_Y ((s35.1 100)) ((s35.1 98)) ((s35.1 95 12)) ((s35.1 95 13)) ((s35.1 95 19)) ((s35.1 95 20)) ((s35.1 95 21)) ((s35.1 95 22)) ((s35.1 95 8)) (s0.1 98 (s0.1 95 12)) ((s35.1 95 23)) (0) := pz_cg rfl rfl ps94 rfl rfl rfl rfl rfl rfl (Int.le_refl _) (by omega) (by omega) rfl
      have b107 : pz_H ((s35.1 98)) ((s35.1 95 12)) (s0.1 98 (s0.1 95 12)) := by first | with_reducible assumption | exact pz_YH (by first | with_reducible assumption | assumption : pz_Y ((s35.1 100)) ((s35.1 98)) ((s35.1 95 12)) ((s35.1 95 13)) ((s35.1 95 19)) ((s35.1 95 20)) ((s35.1 95 21)) ((s35.1 95 22)) ((s35.1 95 8)) (s0.1 98 (s0.1 95 12)) ((s35.1 95 23)) (0)) | exact pz_YH (by first | with_reducible assumption | assumption : pz_Y ((s35.1 100)) ((s35.1 98)) ((s35.1 95 12)) ((s35.1 95 13)) ((s35.1 95 19)) ((s35.1 95 20)) ((s35.1 95 21)) ((s35.1 95 22)) ((s35.1 95 8)) (s0.1 98 (s0.1 95 12)) (0) (0)) | exact pz_cH rfl ps96 rfl (by omega)
      have b108 : 0 = 0 → pz_Y ((s35.1 100)) ((s35.1 98)) ((s35.1 95 12)) ((s35.1 95 13)) ((s35.1 95 19)) ((s35.1 95 20)) ((s35.1 95 21)) ((s35.1 95 22)) ((s35.1 95 8)) (s0.1 98 (s0.1 95 12)) ((s35.1 95 23)) (0) := by first | exact (fun h9 => pz_Yk (ps94 h9) (by omega)) | exact (fun h => absurd h (by decide)) | exact (fun _ => by first | with_reducible assumption | assumption)
      exact hQ 0 s35 hI91 fr97 (show 0 = 0 → pz_Y ((s35.1 100)) ((s35.1 98)) ((s35.1 95 12)) ((s35.1 95 13)) ((s35.1 95 19)) ((s35.1 95 20)) ((s35.1 95 21)) ((s35.1 95 22)) ((s35.1 95 8)) (s0.1 98 (s0.1 95 12)) ((s35.1 95 23)) (0) from fun _ => by first | with_reducible assumption | assumption) (show 0 = 0 → (s0.1 95 8 < (s35.1 95 8) ∧ ((s35.1 95 9) = 0 ∨ (s35.1 95 8) < (s35.1 95 7))) from fun _ => by omega) (show pz_H ((s35.1 98)) ((s35.1 95 12)) (s0.1 98 (s0.1 95 12)) from by first | with_reducible assumption | assumption) (show (s35.1 95 12) = s0.1 95 12 from by omega) (show (0 : Int) ≤ 0 ∧ 0 ≤ (5 : Int) from by omega)
  · skip
    replace c64 : ¬ (s.1 95 9 ≠ 1) := c64
    have b109 : (-2147483648) ≤ s.1 95 10 ∧ s.1 95 10 ≤ 2147483647 := iv_full hI
    have b112 : 0 ≤ s.1 95 7 ∧ s.1 95 7 ≤ 300 := iv_r95_7 hI
    refine sm_233 hI (show (0 : Int) ≤ 0 ∧ 0 ≤ (31 : Int) from by omega) (show (-2147483648 : Int) ≤ s.1 95 10 ∧ s.1 95 10 ≤ (2147483647 : Int) from by omega) (show pz_Y ((s.1 100)) ((s.1 98)) ((s.1 95 12)) ((s.1 95 13)) ((s.1 95 19)) ((s.1 95 20)) ((s.1 95 21)) ((s.1 95 22)) ((s.1 95 8)) ((s.1 98) ((s.1 95 12))) (0) (0) from by first | with_reducible assumption | assumption) (show (s.1 95 9) ≠ 0 ∧ (s.1 95 8) < (s.1 95 7) from by omega) (show 0 = 0 ∨ (0 = 1 ∧ 0 ≤ (s.1 95 10) ∧ (s.1 95 10) < 11) ∨ (0 = 31 ∧ 0 ≤ (s.1 95 10) ∧ (s.1 95 10) < 80) from by omega) (fun s36 hI111 fr110 ps114 ps115 ps116 => ?_)
    replace ps114 : pz_Y (s36.1 100) (s36.1 98) (s36.1 95 12) (s36.1 95 13) (s36.1 95 19) (s36.1 95 20) (s36.1 95 21) (s36.1 95 22) (s36.1 95 8) ((s.1 98) ((s.1 95 12))) (1) (0) := ps114
    replace ps115 : (s.1 95 8) < s36.1 95 8 ∧ (s36.1 95 9 = 0 ∨ s36.1 95 8 < s36.1 95 7) ∧ s36.1 95 23 = 1 := ps115
    replace ps116 : s36.1 95 12 = (s.1 95 12) := ps116
    have fr117 : lf_fq [95, 98, 100, 101] 1000000 true s.1 s.2.2 s36.1 s36.2.2 := lf_fq_tr (lf_fq_rf) (lf_fq_wk fr110 rfl (by decide) (by decide))
    have b118 : 0 ≤ s36.1 95 12 ∧ s36.1 95 12 ≤ 2115 := iv_r95_12 hI111
    have b119 : 0 ≤ s36.1 95 13 ∧ s36.1 95 13 ≤ 304 := iv_r95_13 hI111
    have b120 : 0 ≤ s36.1 95 19 ∧ s36.1 95 19 ≤ 160 := iv_r95_19 hI111
    have b121 : 0 ≤ s36.1 95 20 ∧ s36.1 95 20 ≤ 8 := iv_r95_20 hI111
    have b122 : 0 ≤ s36.1 95 21 ∧ s36.1 95 21 ≤ 8 := iv_r95_21 hI111
    have b123 : 0 ≤ s36.1 95 22 ∧ s36.1 95 22 ≤ 80 := iv_r95_22 hI111
    have b124 : 0 ≤ s36.1 95 8 ∧ s36.1 95 8 ≤ 300 := iv_r95_8 hI111
    have b125 : 0 ≤ s36.1 95 23 ∧ s36.1 95 23 ≤ 1 := iv_r95_23 hI111
    have b126 : pz_Y ((s36.1 100)) ((s36.1 98)) ((s36.1 95 12)) ((s36.1 95 13)) ((s36.1 95 19)) ((s36.1 95 20)) ((s36.1 95 21)) ((s36.1 95 22)) ((s36.1 95 8)) (s0.1 98 (s0.1 95 12)) ((s36.1 95 23)) (0) := pz_cg rfl rfl ps114 rfl rfl rfl rfl rfl rfl (Int.le_refl _) (by omega) (by omega) rfl
    have b127 : pz_H ((s36.1 98)) ((s36.1 95 12)) (s0.1 98 (s0.1 95 12)) := by first | with_reducible assumption | exact pz_YH (by first | with_reducible assumption | assumption : pz_Y ((s36.1 100)) ((s36.1 98)) ((s36.1 95 12)) ((s36.1 95 13)) ((s36.1 95 19)) ((s36.1 95 20)) ((s36.1 95 21)) ((s36.1 95 22)) ((s36.1 95 8)) (s0.1 98 (s0.1 95 12)) ((s36.1 95 23)) (0)) | exact pz_YH (by first | with_reducible assumption | assumption : pz_Y ((s36.1 100)) ((s36.1 98)) ((s36.1 95 12)) ((s36.1 95 13)) ((s36.1 95 19)) ((s36.1 95 20)) ((s36.1 95 21)) ((s36.1 95 22)) ((s36.1 95 8)) (s0.1 98 (s0.1 95 12)) (0) (0)) | exact pz_cH rfl ps116 rfl (by omega)
    have b128 : 0 = 0 → pz_Y ((s36.1 100)) ((s36.1 98)) ((s36.1 95 12)) ((s36.1 95 13)) ((s36.1 95 19)) ((s36.1 95 20)) ((s36.1 95 21)) ((s36.1 95 22)) ((s36.1 95 8)) (s0.1 98 (s0.1 95 12)) ((s36.1 95 23)) (0) := by first | exact (fun h9 => pz_Yk (ps114 h9) (by omega)) | exact (fun h => absurd h (by decide)) | exact (fun _ => by first | with_reducible assumption | assumption)
    exact hQ 0 s36 hI111 fr117 (show 0 = 0 → pz_Y ((s36.1 100)) ((s36.1 98)) ((s36.1 95 12)) ((s36.1 95 13)) ((s36.1 95 19)) ((s36.1 95 20)) ((s36.1 95 21)) ((s36.1 95 22)) ((s36.1 95 8)) (s0.1 98 (s0.1 95 12)) ((s36.1 95 23)) (0) from fun _ => by first | with_reducible assumption | assumption) (show 0 = 0 → (s0.1 95 8 < (s36.1 95 8) ∧ ((s36.1 95 9) = 0 ∨ (s36.1 95 8) < (s36.1 95 7))) from fun _ => by omega) (show pz_H ((s36.1 98)) ((s36.1 95 12)) (s0.1 98 (s0.1 95 12)) from by first | with_reducible assumption | assumption) (show (s36.1 95 12) = s0.1 95 12 from by omega) (show (0 : Int) ≤ 0 ∧ 0 ≤ (5 : Int) from by omega)
set_option maxHeartbeats 8000000 in
theorem sm_229_p60 {Q : Int → lf_Z → Prop} {x1 : Int} {s : lf_Z} {s0 : lf_Z} (hQ : ∀ (r : Int) (s' : lf_Z), iv_A s'.1 s'.2.2 → lf_fq [95, 98, 100, 101] 1000000 true s.1 s.2.2 s'.1 s'.2.2 → (r = 0 → pz_Y (s'.1 100) (s'.1 98) (s'.1 95 12) (s'.1 95 13) (s'.1 95 19) (s'.1 95 20) (s'.1 95 21) (s'.1 95 22) (s'.1 95 8) (s0.1 98 (s0.1 95 12)) (s'.1 95 23) (0)) → (r = 0 → (s0.1 95 8 < s'.1 95 8 ∧ (s'.1 95 9 = 0 ∨ s'.1 95 8 < s'.1 95 7))) → (pz_H (s'.1 98) (s'.1 95 12) (s0.1 98 (s0.1 95 12))) → (s'.1 95 12 = s0.1 95 12) → (0 ≤ r ∧ r ≤ 5) → Q r s') (hI : iv_A s.1 s.2.2) (bx1 : (-1) ≤ x1 ∧ x1 ≤ 10) (kv0 : pz_Y (s.1 100) (s.1 98) (s.1 95 12) (s.1 95 13) (s.1 95 19) (s.1 95 20) (s.1 95 21) (s.1 95 22) (s.1 95 8) (s0.1 98 (s0.1 95 12)) (0) (0)) (kv1 : s.1 95 9 = 0 ∨ s.1 95 8 < s.1 95 7) (kv2 : s.1 95 23 = 0) (kv3 : s.1 95 8 = s0.1 95 8 ∧ s.1 98 (s.1 95 12) = s0.1 98 (s0.1 95 12)) (kv4 : x1 = -1 ∨ s.1 95 9 = 2) (kv5 : s.1 95 9 ≠ 2 ∨ s.1 95 7 - s.1 95 8 ≠ 1 ∨ s.1 95 4 ≤ s.1 95 8 ∨ s.1 99 (s.1 95 8) < 97 ∨ 122 < s.1 99 (s.1 95 8) ∨ 0 ≤ s.1 103 (s.1 99 (s.1 95 8) - 97)) (kv6 : s.1 95 12 = s0.1 95 12) : fm_229_p60 Q x1 s := by
  unfold fm_229_p60
  have b43 : (-2147483648) ≤ s.1 95 9 ∧ s.1 95 9 ≤ 2147483647 := iv_full hI
  refine ⟨(show lf_R (s.1 95 9) from lf_Rof (by omega)), ?_⟩
  refine ⟨fun c44 => ?_, fun c44 => ?_⟩
  · skip
    replace c44 : s.1 95 9 = 1 := c44
    have b45 : 0 ≤ s.1 95 12 ∧ s.1 95 12 ≤ 2115 := iv_r95_12 hI
    have b46 : 0 ≤ s.1 95 13 ∧ s.1 95 13 ≤ 304 := iv_r95_13 hI
    have b47 : 0 ≤ s.1 95 19 ∧ s.1 95 19 ≤ 160 := iv_r95_19 hI
    have b48 : 0 ≤ s.1 95 20 ∧ s.1 95 20 ≤ 8 := iv_r95_20 hI
    have b49 : 0 ≤ s.1 95 21 ∧ s.1 95 21 ≤ 8 := iv_r95_21 hI
    have b50 : 0 ≤ s.1 95 22 ∧ s.1 95 22 ≤ 80 := iv_r95_22 hI
    have b51 : 0 ≤ s.1 95 8 ∧ s.1 95 8 ≤ 300 := iv_r95_8 hI
    have b52 : 0 ≤ s.1 95 7 ∧ s.1 95 7 ≤ 300 := iv_r95_7 hI
    have b53 : 0 ≤ s.1 95 23 ∧ s.1 95 23 ≤ 1 := iv_r95_23 hI
    have b54 : 0 ≤ s.1 95 4 ∧ s.1 95 4 ≤ 300 := iv_r95_4 hI
    exact sm_229_p79 (s0 := s0) hQ hI (show (-1 : Int) ≤ x1 ∧ x1 ≤ (10 : Int) from by omega) (show pz_Y ((s.1 100)) ((s.1 98)) ((s.1 95 12)) ((s.1 95 13)) ((s.1 95 19)) ((s.1 95 20)) ((s.1 95 21)) ((s.1 95 22)) ((s.1 95 8)) (s0.1 98 (s0.1 95 12)) (0) (0) from by first | with_reducible assumption | assumption) (show (s.1 95 9) = 0 ∨ (s.1 95 8) < (s.1 95 7) from by omega) (show (s.1 95 23) = 0 from by omega) (show (s.1 95 8) = s0.1 95 8 ∧ (s.1 98) ((s.1 95 12)) = s0.1 98 (s0.1 95 12) from by omega) (show x1 = -1 ∨ (s.1 95 9) = 2 from by omega) (show (s.1 95 9) ≠ 2 ∨ (s.1 95 7) - (s.1 95 8) ≠ 1 ∨ (s.1 95 4) ≤ (s.1 95 8) ∨ (s.1 99) ((s.1 95 8)) < 97 ∨ 122 < (s.1 99) ((s.1 95 8)) ∨ 0 ≤ (s.1 103) ((s.1 99) ((s.1 95 8)) - 97) from by omega) (show (s.1 95 9) = 1 ∨ 0 ≤ x1 ∨ ¬ ((s.1 95 9) ≠ 2 ∨ (s.1 95 7) - (s.1 95 8) ≠ 1 ∨ (s.1 95 4) ≤ (s.1 95 8) ∨ (s.1 99) ((s.1 95 8)) < 97 ∨ 122 < (s.1 99) ((s.1 95 8))) from by omega) (show (s.1 95 12) = s0.1 95 12 from by omega)
  · skip
    replace c44 : ¬ (s.1 95 9 = 1) := c44
    refine ⟨(show lf_R x1 from lf_Rof (by omega)), ?_⟩
    refine ⟨fun c129 => ?_, fun c129 => ?_⟩
    · skip
      replace c129 : 0 ≤ x1 := c129
      have b130 : 0 ≤ s.1 95 12 ∧ s.1 95 12 ≤ 2115 := iv_r95_12 hI
      have b131 : 0 ≤ s.1 95 13 ∧ s.1 95 13 ≤ 304 := iv_r95_13 hI
      have b132 : 0 ≤ s.1 95 19 ∧ s.1 95 19 ≤ 160 := iv_r95_19 hI
      have b133 : 0 ≤ s.1 95 20 ∧ s.1 95 20 ≤ 8 := iv_r95_20 hI
      have b134 : 0 ≤ s.1 95 21 ∧ s.1 95 21 ≤ 8 := iv_r95_21 hI
      have b135 : 0 ≤ s.1 95 22 ∧ s.1 95 22 ≤ 80 := iv_r95_22 hI
      have b136 : 0 ≤ s.1 95 8 ∧ s.1 95 8 ≤ 300 := iv_r95_8 hI
      have b137 : 0 ≤ s.1 95 7 ∧ s.1 95 7 ≤ 300 := iv_r95_7 hI
      have b138 : 0 ≤ s.1 95 23 ∧ s.1 95 23 ≤ 1 := iv_r95_23 hI
      have b139 : 0 ≤ s.1 95 4 ∧ s.1 95 4 ≤ 300 := iv_r95_4 hI
      exact sm_229_p79 (s0 := s0) hQ hI (show (-1 : Int) ≤ x1 ∧ x1 ≤ (10 : Int) from by omega) (show pz_Y ((s.1 100)) ((s.1 98)) ((s.1 95 12)) ((s.1 95 13)) ((s.1 95 19)) ((s.1 95 20)) ((s.1 95 21)) ((s.1 95 22)) ((s.1 95 8)) (s0.1 98 (s0.1 95 12)) (0) (0) from by first | with_reducible assumption | assumption) (show (s.1 95 9) = 0 ∨ (s.1 95 8) < (s.1 95 7) from by omega) (show (s.1 95 23) = 0 from by omega) (show (s.1 95 8) = s0.1 95 8 ∧ (s.1 98) ((s.1 95 12)) = s0.1 98 (s0.1 95 12) from by omega) (show x1 = -1 ∨ (s.1 95 9) = 2 from by omega) (show (s.1 95 9) ≠ 2 ∨ (s.1 95 7) - (s.1 95 8) ≠ 1 ∨ (s.1 95 4) ≤ (s.1 95 8) ∨ (s.1 99) ((s.1 95 8)) < 97 ∨ 122 < (s.1 99) ((s.1 95 8)) ∨ 0 ≤ (s.1 103) ((s.1 99) ((s.1 95 8)) - 97) from by omega) (show (s.1 95 9) = 1 ∨ 0 ≤ x1 ∨ ¬ ((s.1 95 9) ≠ 2 ∨ (s.1 95 7) - (s.1 95 8) ≠ 1 ∨ (s.1 95 4) ≤ (s.1 95 8) ∨ (s.1 99) ((s.1 95 8)) < 97 ∨ 122 < (s.1 99) ((s.1 95 8))) from by omega) (show (s.1 95 12) = s0.1 95 12 from by omega)
    · skip
      replace c129 : ¬ (0 ≤ x1) := c129
      refine sm_232 hI (fun r39 q140 => ?_)
      obtain ⟨q140, q140x⟩ := q140
      have b141 : 0 ≤ s.1 95 7 ∧ s.1 95 7 ≤ 300 := iv_r95_7 hI
      have b142 : 0 ≤ s.1 95 8 ∧ s.1 95 8 ≤ 300 := iv_r95_8 hI
      have b143 : 0 ≤ s.1 95 4 ∧ s.1 95 4 ≤ 300 := iv_r95_4 hI
      replace q140x : (r39 = -1 ∧ ¬ (s.1 95 9 = 2 ∧ s.1 95 7 - s.1 95 8 = 1 ∧ s.1 95 8 < s.1 95 4 ∧ 97 ≤ s.1 99 (s.1 95 8) ∧ s.1 99 (s.1 95 8) ≤ 122)) ∨ (r39 = s.1 99 (s.1 95 8) - 97 ∧ s.1 95 9 = 2 ∧ s.1 95 7 - s.1 95 8 = 1 ∧ s.1 95 8 < s.1 95 4 ∧ 97 ≤ s.1 99 (s.1 95 8) ∧ s.1 99 (s.1 95 8) ≤ 122) := q140x
      refine ⟨(show lf_R r39 from lf_Rof (by omega)), ?_⟩
      refine ⟨fun c144 => ?_, fun c144 => ?_⟩
      · skip
        replace c144 : r39 < 0 := c144
        have b145 : 0 ≤ s.1 95 12 ∧ s.1 95 12 ≤ 2115 := iv_r95_12 hI
        have b146 : 0 ≤ s.1 95 13 ∧ s.1 95 13 ≤ 304 := iv_r95_13 hI
        have b147 : 0 ≤ s.1 95 19 ∧ s.1 95 19 ≤ 160 := iv_r95_19 hI
        have b148 : 0 ≤ s.1 95 20 ∧ s.1 95 20 ≤ 8 := iv_r95_20 hI
        have b149 : 0 ≤ s.1 95 21 ∧ s.1 95 21 ≤ 8 := iv_r95_21 hI
        have b150 : 0 ≤ s.1 95 22 ∧ s.1 95 22 ≤ 80 := iv_r95_22 hI
        have b151 : 0 ≤ s.1 95 8 ∧ s.1 95 8 ≤ 300 := iv_r95_8 hI
        have b152 : pz_Y ((s.1 100)) ((s.1 98)) ((s.1 95 12)) ((s.1 95 13)) ((s.1 95 19)) ((s.1 95 20)) ((s.1 95 21)) ((s.1 95 22)) ((s.1 95 8)) ((s.1 98) ((s.1 95 12))) (0) (0) := pz_Ym kv0
        refine ⟨(show lf_R (s.1 95 9) from lf_Rof (by omega)), ?_⟩
        refine ⟨fun c153 => ?_, fun c153 => ?_⟩
        · skip
          replace c153 : s.1 95 9 ≠ 40 := c153
          refine ⟨fun c154 => ?_, fun c154 => ?_⟩
          · skip
            replace c154 : s.1 95 9 ≠ 45 := c154
            refine sm_206 hI (show (97 : Int) ≤ 105 ∧ 105 ≤ (119 : Int) from by omega) (show (97 : Int) ≤ 102 ∧ 102 ≤ (121 : Int) from by omega) (fun r43 => ?_)
            refine sm_207 hI (fun z45 q156 => ?_)
            refine ⟨fun c157 => ?_, fun c157 => ?_⟩
            · skip
              have dc157 := q156.2 c157
              refine sm_205 hI (show (97 : Int) ≤ 108 ∧ 108 ≤ (119 : Int) from by omega) (show (97 : Int) ≤ 101 ∧ 101 ≤ (117 : Int) from by omega) (show (97 : Int) ≤ 116 ∧ 116 ≤ (122 : Int) from by omega) (fun r47 => ?_)
              refine sm_207 hI (fun z49 q159 => ?_)
              refine ⟨fun c160 => ?_, fun c160 => ?_⟩
              · skip
                have dc160 := q159.2 c160
                refine sm_205 hI (show (97 : Int) ≤ 110 ∧ 110 ≤ (119 : Int) from by omega) (show (97 : Int) ≤ 111 ∧ 111 ≤ (117 : Int) from by omega) (show (97 : Int) ≤ 116 ∧ 116 ≤ (122 : Int) from by omega) (fun r51 => ?_)
                refine sm_207 hI (fun z53 q162 => ?_)
                refine ⟨fun c163 => ?_, fun c163 => ?_⟩
                · skip
                  have dc163 := q162.2 c163
                  have b164 : pz_H ((s.1 98)) ((s.1 95 12)) (s0.1 98 (s0.1 95 12)) := by first | with_reducible assumption | exact pz_YH (by first | with_reducible assumption | assumption : pz_Y ((s.1 100)) ((s.1 98)) ((s.1 95 12)) ((s.1 95 13)) ((s.1 95 19)) ((s.1 95 20)) ((s.1 95 21)) ((s.1 95 22)) ((s.1 95 8)) (s0.1 98 (s0.1 95 12)) ((s.1 95 23)) (0)) | exact pz_YH (by first | with_reducible assumption | assumption : pz_Y ((s.1 100)) ((s.1 98)) ((s.1 95 12)) ((s.1 95 13)) ((s.1 95 19)) ((s.1 95 20)) ((s.1 95 21)) ((s.1 95 22)) ((s.1 95 8)) (s0.1 98 (s0.1 95 12)) (0) (0)) | exact pz_cH rfl hI rfl (by omega)
                  have b165 : 0 ≤ s.1 95 23 ∧ s.1 95 23 ≤ 1 := iv_r95_23 hI
                  have b166 : 1 = 0 → pz_Y ((s.1 100)) ((s.1 98)) ((s.1 95 12)) ((s.1 95 13)) ((s.1 95 19)) ((s.1 95 20)) ((s.1 95 21)) ((s.1 95 22)) ((s.1 95 8)) (s0.1 98 (s0.1 95 12)) ((s.1 95 23)) (0) := by first | exact (fun h9 => pz_Yk (hI h9) (by omega)) | exact (fun h => absurd h (by decide)) | exact (fun _ => by first | with_reducible assumption | assumption)
                  exact hQ 1 s hI (lf_fq_rf) (show 1 = 0 → pz_Y ((s.1 100)) ((s.1 98)) ((s.1 95 12)) ((s.1 95 13)) ((s.1 95 19)) ((s.1 95 20)) ((s.1 95 21)) ((s.1 95 22)) ((s.1 95 8)) (s0.1 98 (s0.1 95 12)) ((s.1 95 23)) (0) from fun h => absurd h (by decide)) (show 1 = 0 → (s0.1 95 8 < (s.1 95 8) ∧ ((s.1 95 9) = 0 ∨ (s.1 95 8) < (s.1 95 7))) from fun h => absurd h (by decide)) (show pz_H ((s.1 98)) ((s.1 95 12)) (s0.1 98 (s0.1 95 12)) from by first | with_reducible assumption | assumption) (show (s.1 95 12) = s0.1 95 12 from by omega) (show (0 : Int) ≤ 1 ∧ 1 ≤ (5 : Int) from by omega)
                · skip
                  have dc163 := q162.1 c163
                  refine sm_235 hI (fun z55 q167 => ?_)
                  refine ⟨fun c168 => ?_, fun c168 => ?_⟩
                  · skip
                    have dc168 := q167.2 c168
                    have b169 : pz_H ((s.1 98)) ((s.1 95 12)) (s0.1 98 (s0.1 95 12)) := by first | with_reducible assumption | exact pz_YH (by first | with_reducible assumption | assumption : pz_Y ((s.1 100)) ((s.1 98)) ((s.1 95 12)) ((s.1 95 13)) ((s.1 95 19)) ((s.1 95 20)) ((s.1 95 21)) ((s.1 95 22)) ((s.1 95 8)) (s0.1 98 (s0.1 95 12)) ((s.1 95 23)) (0)) | exact pz_YH (by first | with_reducible assumption | assumption : pz_Y ((s.1 100)) ((s.1 98)) ((s.1 95 12)) ((s.1 95 13)) ((s.1 95 19)) ((s.1 95 20)) ((s.1 95 21)) ((s.1 95 22)) ((s.1 95 8)) (s0.1 98 (s0.1 95 12)) (0) (0)) | exact pz_cH rfl hI rfl (by omega)
                    have b170 : 0 ≤ s.1 95 23 ∧ s.1 95 23 ≤ 1 := iv_r95_23 hI
                    have b171 : 1 = 0 → pz_Y ((s.1 100)) ((s.1 98)) ((s.1 95 12)) ((s.1 95 13)) ((s.1 95 19)) ((s.1 95 20)) ((s.1 95 21)) ((s.1 95 22)) ((s.1 95 8)) (s0.1 98 (s0.1 95 12)) ((s.1 95 23)) (0) := by first | exact (fun h9 => pz_Yk (hI h9) (by omega)) | exact (fun h => absurd h (by decide)) | exact (fun _ => by first | with_reducible assumption | assumption)
                    exact hQ 1 s hI (lf_fq_rf) (show 1 = 0 → pz_Y ((s.1 100)) ((s.1 98)) ((s.1 95 12)) ((s.1 95 13)) ((s.1 95 19)) ((s.1 95 20)) ((s.1 95 21)) ((s.1 95 22)) ((s.1 95 8)) (s0.1 98 (s0.1 95 12)) ((s.1 95 23)) (0) from fun h => absurd h (by decide)) (show 1 = 0 → (s0.1 95 8 < (s.1 95 8) ∧ ((s.1 95 9) = 0 ∨ (s.1 95 8) < (s.1 95 7))) from fun h => absurd h (by decide)) (show pz_H ((s.1 98)) ((s.1 95 12)) (s0.1 98 (s0.1 95 12)) from by first | with_reducible assumption | assumption) (show (s.1 95 12) = s0.1 95 12 from by omega) (show (0 : Int) ≤ 1 ∧ 1 ≤ (5 : Int) from by omega)
                  · skip
                    have dc168 := q167.1 c168
                    have b174 : 0 ≤ s.1 95 7 ∧ s.1 95 7 ≤ 300 := iv_r95_7 hI
                    have b175 : 0 ≤ s.1 95 23 ∧ s.1 95 23 ≤ 1 := iv_r95_23 hI
                    refine sm_234 hI (show (3 : Int) ≤ 20 ∧ 20 ≤ (44 : Int) from by omega) (show pz_Y ((s.1 100)) ((s.1 98)) ((s.1 95 12)) ((s.1 95 13)) ((s.1 95 19)) ((s.1 95 20)) ((s.1 95 21)) ((s.1 95 22)) ((s.1 95 8)) ((s.1 98) ((s.1 95 12))) (0) (0) from by first | with_reducible assumption | assumption) (show (s.1 95 9) ≠ 0 ∧ (s.1 95 8) < (s.1 95 7) ∧ (s.1 95 23) = 0 from by omega) (show 20 = 40 ∨ 20 = 3 ∨ 20 = 41 ∨ 20 = 44 ∨ (20 = 20 ∧ 0 < (s.1 95 19) ∧ ((s.1 100) ((s.1 95 19) - 1) = 41 ∨ (20 ≤ (s.1 100) ((s.1 95 19) - 1) ∧ (s.1 100) ((s.1 95 19) - 1) ≤ 22))) from by omega) (fun r57 s56 hI173 fr172 ps177 ps178 ps179 ps180 q176 => ?_)
                    replace ps177 : r57 = 0 → pz_Y (s56.1 100) (s56.1 98) (s56.1 95 12) (s56.1 95 13) (s56.1 95 19) (s56.1 95 20) (s56.1 95 21) (s56.1 95 22) (s56.1 95 8) ((s.1 98) ((s.1 95 12))) (s56.1 95 23) (0) := ps177
                    replace ps178 : r57 = 0 → ((s.1 95 8) < s56.1 95 8 ∧ (s56.1 95 9 = 0 ∨ s56.1 95 8 < s56.1 95 7)) := ps178
                    replace ps179 : pz_H (s56.1 98) (s56.1 95 12) ((s.1 98) ((s.1 95 12))) := ps179
                    replace ps180 : s56.1 95 12 = (s.1 95 12) := ps180
                    have fr181 : lf_fq [95, 98, 100, 101] 1000000 true s.1 s.2.2 s56.1 s56.2.2 := lf_fq_tr (lf_fq_rf) (lf_fq_wk fr172 rfl (by decide) (by decide))
                    have b182 : 0 ≤ s56.1 95 12 ∧ s56.1 95 12 ≤ 2115 := iv_r95_12 hI173
                    have b183 : pz_H ((s56.1 98)) ((s56.1 95 12)) (s0.1 98 (s0.1 95 12)) := by first | with_reducible assumption | exact pz_YH (by first | with_reducible assumption | assumption : pz_Y ((s56.1 100)) ((s56.1 98)) ((s56.1 95 12)) ((s56.1 95 13)) ((s56.1 95 19)) ((s56.1 95 20)) ((s56.1 95 21)) ((s56.1 95 22)) ((s56.1 95 8)) (s0.1 98 (s0.1 95 12)) ((s56.1 95 23)) (0)) | exact pz_YH (by first | with_reducible assumption | assumption : pz_Y ((s56.1 100)) ((s56.1 98)) ((s56.1 95 12)) ((s56.1 95 13)) ((s56.1 95 19)) ((s56.1 95 20)) ((s56.1 95 21)) ((s56.1 95 22)) ((s56.1 95 8)) (s0.1 98 (s0.1 95 12)) (0) (0)) | exact pz_cH rfl ps179 rfl (by omega)
                    have b184 : 0 ≤ s56.1 95 13 ∧ s56.1 95 13 ≤ 304 := iv_r95_13 hI173
                    have b185 : 0 ≤ s56.1 95 19 ∧ s56.1 95 19 ≤ 160 := iv_r95_19 hI173
                    have b186 : 0 ≤ s56.1 95 20 ∧ s56.1 95 20 ≤ 8 := iv_r95_20 hI173
                    have b187 : 0 ≤ s56.1 95 21 ∧ s56.1 95 21 ≤ 8 := iv_r95_21 hI173
                    have b188 : 0 ≤ s56.1 95 22 ∧ s56.1 95 22 ≤ 80 := iv_r95_22 hI173
                    have b189 : 0 ≤ s56.1 95 8 ∧ s56.1 95 8 ≤ 300 := iv_r95_8 hI173
                    have b190 : 0 ≤ s56.1 95 23 ∧ s56.1 95 23 ≤ 1 := iv_r95_23 hI173
                    have b191 : r57 = 0 → pz_Y ((s56.1 100)) ((s56.1 98)) ((s56.1 95 12)) ((s56.1 95 13)) ((s56.1 95 19)) ((s56.1 95 20)) ((s56.1 95 21)) ((s56.1 95 22)) ((s56.1 95 8)) (s0.1 98 (s0.1 95 12)) ((s56.1 95 23)) (0) := by first | exact (fun h9 => pz_Yk (ps177 h9) (by omega)) | exact (fun h => absurd h (by decide)) | exact (fun _ => by first | with_reducible assumption | assumption)
                    exact hQ r57 s56 hI173 fr181 (show r57 = 0 → pz_Y ((s56.1 100)) ((s56.1 98)) ((s56.1 95 12)) ((s56.1 95 13)) ((s56.1 95 19)) ((s56.1 95 20)) ((s56.1 95 21)) ((s56.1 95 22)) ((s56.1 95 8)) (s0.1 98 (s0.1 95 12)) ((s56.1 95 23)) (0) from by first | with_reducible assumption | omega) (show r57 = 0 → (s0.1 95 8 < (s56.1 95 8) ∧ ((s56.1 95 9) = 0 ∨ (s56.1 95 8) < (s56.1 95 7))) from by first | with_reducible assumption | omega) (show pz_H ((s56.1 98)) ((s56.1 95 12)) (s0.1 98 (s0.1 95 12)) from by first | with_reducible assumption | assumption) (show (s56.1 95 12) = s0.1 95 12 from by omega) (show (0 : Int) ≤ r57 ∧ r57 ≤ (5 : Int) from by omega)
              · skip
                have dc160 := q159.1 c160
                have b194 : 0 ≤ s.1 95 7 ∧ s.1 95 7 ≤ 300 := iv_r95_7 hI
                have b195 : 0 ≤ s.1 95 23 ∧ s.1 95 23 ≤ 1 := iv_r95_23 hI
                refine sm_234 hI (show (3 : Int) ≤ 44 ∧ 44 ≤ (44 : Int) from by omega) (show pz_Y ((s.1 100)) ((s.1 98)) ((s.1 95 12)) ((s.1 95 13)) ((s.1 95 19)) ((s.1 95 20)) ((s.1 95 21)) ((s.1 95 22)) ((s.1 95 8)) ((s.1 98) ((s.1 95 12))) (0) (0) from by first | with_reducible assumption | assumption) (show (s.1 95 9) ≠ 0 ∧ (s.1 95 8) < (s.1 95 7) ∧ (s.1 95 23) = 0 from by omega) (show 44 = 40 ∨ 44 = 3 ∨ 44 = 41 ∨ 44 = 44 ∨ (44 = 20 ∧ 0 < (s.1 95 19) ∧ ((s.1 100) ((s.1 95 19) - 1) = 41 ∨ (20 ≤ (s.1 100) ((s.1 95 19) - 1) ∧ (s.1 100) ((s.1 95 19) - 1) ≤ 22))) from by omega) (fun r59 s58 hI193 fr192 ps197 ps198 ps199 ps200 q196 => ?_)
                replace ps197 : r59 = 0 → pz_Y (s58.1 100) (s58.1 98) (s58.1 95 12) (s58.1 95 13) (s58.1 95 19) (s58.1 95 20) (s58.1 95 21) (s58.1 95 22) (s58.1 95 8) ((s.1 98) ((s.1 95 12))) (s58.1 95 23) (0) := ps197
                replace ps198 : r59 = 0 → ((s.1 95 8) < s58.1 95 8 ∧ (s58.1 95 9 = 0 ∨ s58.1 95 8 < s58.1 95 7)) := ps198
                replace ps199 : pz_H (s58.1 98) (s58.1 95 12) ((s.1 98) ((s.1 95 12))) := ps199
                replace ps200 : s58.1 95 12 = (s.1 95 12) := ps200
                have fr201 : lf_fq [95, 98, 100, 101] 1000000 true s.1 s.2.2 s58.1 s58.2.2 := lf_fq_tr (lf_fq_rf) (lf_fq_wk fr192 rfl (by decide) (by decide))
                have b202 : 0 ≤ s58.1 95 12 ∧ s58.1 95 12 ≤ 2115 := iv_r95_12 hI193
                have b203 : pz_H ((s58.1 98)) ((s58.1 95 12)) (s0.1 98 (s0.1 95 12)) := by first | with_reducible assumption | exact pz_YH (by first | with_reducible assumption | assumption : pz_Y ((s58.1 100)) ((s58.1 98)) ((s58.1 95 12)) ((s58.1 95 13)) ((s58.1 95 19)) ((s58.1 95 20)) ((s58.1 95 21)) ((s58.1 95 22)) ((s58.1 95 8)) (s0.1 98 (s0.1 95 12)) ((s58.1 95 23)) (0)) | exact pz_YH (by first | with_reducible assumption | assumption : pz_Y ((s58.1 100)) ((s58.1 98)) ((s58.1 95 12)) ((s58.1 95 13)) ((s58.1 95 19)) ((s58.1 95 20)) ((s58.1 95 21)) ((s58.1 95 22)) ((s58.1 95 8)) (s0.1 98 (s0.1 95 12)) (0) (0)) | exact pz_cH rfl ps199 rfl (by omega)
                have b204 : 0 ≤ s58.1 95 13 ∧ s58.1 95 13 ≤ 304 := iv_r95_13 hI193
                have b205 : 0 ≤ s58.1 95 19 ∧ s58.1 95 19 ≤ 160 := iv_r95_19 hI193
                have b206 : 0 ≤ s58.1 95 20 ∧ s58.1 95 20 ≤ 8 := iv_r95_20 hI193
                have b207 : 0 ≤ s58.1 95 21 ∧ s58.1 95 21 ≤ 8 := iv_r95_21 hI193
                have b208 : 0 ≤ s58.1 95 22 ∧ s58.1 95 22 ≤ 80 := iv_r95_22 hI193
                have b209 : 0 ≤ s58.1 95 8 ∧ s58.1 95 8 ≤ 300 := iv_r95_8 hI193
                have b210 : 0 ≤ s58.1 95 23 ∧ s58.1 95 23 ≤ 1 := iv_r95_23 hI193
                have b211 : r59 = 0 → pz_Y ((s58.1 100)) ((s58.1 98)) ((s58.1 95 12)) ((s58.1 95 13)) ((s58.1 95 19)) ((s58.1 95 20)) ((s58.1 95 21)) ((s58.1 95 22)) ((s58.1 95 8)) (s0.1 98 (s0.1 95 12)) ((s58.1 95 23)) (0) := by first | exact (fun h9 => pz_Yk (ps197 h9) (by omega)) | exact (fun h => absurd h (by decide)) | exact (fun _ => by first | with_reducible assumption | assumption)
                exact hQ r59 s58 hI193 fr201 (show r59 = 0 → pz_Y ((s58.1 100)) ((s58.1 98)) ((s58.1 95 12)) ((s58.1 95 13)) ((s58.1 95 19)) ((s58.1 95 20)) ((s58.1 95 21)) ((s58.1 95 22)) ((s58.1 95 8)) (s0.1 98 (s0.1 95 12)) ((s58.1 95 23)) (0) from by first | with_reducible assumption | omega) (show r59 = 0 → (s0.1 95 8 < (s58.1 95 8) ∧ ((s58.1 95 9) = 0 ∨ (s58.1 95 8) < (s58.1 95 7))) from by first | with_reducible assumption | omega) (show pz_H ((s58.1 98)) ((s58.1 95 12)) (s0.1 98 (s0.1 95 12)) from by first | with_reducible assumption | assumption) (show (s58.1 95 12) = s0.1 95 12 from by omega) (show (0 : Int) ≤ r59 ∧ r59 ≤ (5 : Int) from by omega)
            · skip
              have dc157 := q156.1 c157
              have b214 : 0 ≤ s.1 95 7 ∧ s.1 95 7 ≤ 300 := iv_r95_7 hI
              have b215 : 0 ≤ s.1 95 23 ∧ s.1 95 23 ≤ 1 := iv_r95_23 hI
              refine sm_234 hI (show (3 : Int) ≤ 41 ∧ 41 ≤ (44 : Int) from by omega) (show pz_Y ((s.1 100)) ((s.1 98)) ((s.1 95 12)) ((s.1 95 13)) ((s.1 95 19)) ((s.1 95 20)) ((s.1 95 21)) ((s.1 95 22)) ((s.1 95 8)) ((s.1 98) ((s.1 95 12))) (0) (0) from by first | with_reducible assumption | assumption) (show (s.1 95 9) ≠ 0 ∧ (s.1 95 8) < (s.1 95 7) ∧ (s.1 95 23) = 0 from by omega) (show 41 = 40 ∨ 41 = 3 ∨ 41 = 41 ∨ 41 = 44 ∨ (41 = 20 ∧ 0 < (s.1 95 19) ∧ ((s.1 100) ((s.1 95 19) - 1) = 41 ∨ (20 ≤ (s.1 100) ((s.1 95 19) - 1) ∧ (s.1 100) ((s.1 95 19) - 1) ≤ 22))) from by omega) (fun r61 s60 hI213 fr212 ps217 ps218 ps219 ps220 q216 => ?_)
              replace ps217 : r61 = 0 → pz_Y (s60.1 100) (s60.1 98) (s60.1 95 12) (s60.1 95 13) (s60.1 95 19) (s60.1 95 20) (s60.1 95 21) (s60.1 95 22) (s60.1 95 8) ((s.1 98) ((s.1 95 12))) (s60.1 95 23) (0) := ps217
              replace ps218 : r61 = 0 → ((s.1 95 8) < s60.1 95 8 ∧ (s60.1 95 9 = 0 ∨ s60.1 95 8 < s60.1 95 7)) := ps218
              replace ps219 : pz_H (s60.1 98) (s60.1 95 12) ((s.1 98) ((s.1 95 12))) := ps219
              replace ps220 : s60.1 95 12 = (s.1 95 12) := ps220
              have fr221 : lf_fq [95, 98, 100, 101] 1000000 true s.1 s.2.2 s60.1 s60.2.2 := lf_fq_tr (lf_fq_rf) (lf_fq_wk fr212 rfl (by decide) (by decide))
              have b222 : 0 ≤ s60.1 95 12 ∧ s60.1 95 12 ≤ 2115 := iv_r95_12 hI213
              have b223 : pz_H ((s60.1 98)) ((s60.1 95 12)) (s0.1 98 (s0.1 95 12)) := by first | with_reducible assumption | exact pz_YH (by first | with_reducible assumption | assumption : pz_Y ((s60.1 100)) ((s60.1 98)) ((s60.1 95 12)) ((s60.1 95 13)) ((s60.1 95 19)) ((s60.1 95 20)) ((s60.1 95 21)) ((s60.1 95 22)) ((s60.1 95 8)) (s0.1 98 (s0.1 95 12)) ((s60.1 95 23)) (0)) | exact pz_YH (by first | with_reducible assumption | assumption : pz_Y ((s60.1 100)) ((s60.1 98)) ((s60.1 95 12)) ((s60.1 95 13)) ((s60.1 95 19)) ((s60.1 95 20)) ((s60.1 95 21)) ((s60.1 95 22)) ((s60.1 95 8)) (s0.1 98 (s0.1 95 12)) (0) (0)) | exact pz_cH rfl ps219 rfl (by omega)
              have b224 : 0 ≤ s60.1 95 13 ∧ s60.1 95 13 ≤ 304 := iv_r95_13 hI213
              have b225 : 0 ≤ s60.1 95 19 ∧ s60.1 95 19 ≤ 160 := iv_r95_19 hI213
              have b226 : 0 ≤ s60.1 95 20 ∧ s60.1 95 20 ≤ 8 := iv_r95_20 hI213
              have b227 : 0 ≤ s60.1 95 21 ∧ s60.1 95 21 ≤ 8 := iv_r95_21 hI213
              have b228 : 0 ≤ s60.1 95 22 ∧ s60.1 95 22 ≤ 80 := iv_r95_22 hI213
              have b229 : 0 ≤ s60.1 95 8 ∧ s60.1 95 8 ≤ 300 := iv_r95_8 hI213
              have b230 : 0 ≤ s60.1 95 23 ∧ s60.1 95 23 ≤ 1 := iv_r95_23 hI213
              have b231 : r61 = 0 → pz_Y ((s60.1 100)) ((s60.1 98)) ((s60.1 95 12)) ((s60.1 95 13)) ((s60.1 95 19)) ((s60.1 95 20)) ((s60.1 95 21)) ((s60.1 95 22)) ((s60.1 95 8)) (s0.1 98 (s0.1 95 12)) ((s60.1 95 23)) (0) := by first | exact (fun h9 => pz_Yk (ps217 h9) (by omega)) | exact (fun h => absurd h (by decide)) | exact (fun _ => by first | with_reducible assumption | assumption)
              exact hQ r61 s60 hI213 fr221 (show r61 = 0 → pz_Y ((s60.1 100)) ((s60.1 98)) ((s60.1 95 12)) ((s60.1 95 13)) ((s60.1 95 19)) ((s60.1 95 20)) ((s60.1 95 21)) ((s60.1 95 22)) ((s60.1 95 8)) (s0.1 98 (s0.1 95 12)) ((s60.1 95 23)) (0) from by first | with_reducible assumption | omega) (show r61 = 0 → (s0.1 95 8 < (s60.1 95 8) ∧ ((s60.1 95 9) = 0 ∨ (s60.1 95 8) < (s60.1 95 7))) from by first | with_reducible assumption | omega) (show pz_H ((s60.1 98)) ((s60.1 95 12)) (s0.1 98 (s0.1 95 12)) from by first | with_reducible assumption | assumption) (show (s60.1 95 12) = s0.1 95 12 from by omega) (show (0 : Int) ≤ r61 ∧ r61 ≤ (5 : Int) from by omega)
          · skip
            replace c154 : ¬ (s.1 95 9 ≠ 45) := c154
            have b234 : 0 ≤ s.1 95 7 ∧ s.1 95 7 ≤ 300 := iv_r95_7 hI
            have b235 : 0 ≤ s.1 95 23 ∧ s.1 95 23 ≤ 1 := iv_r95_23 hI
            refine sm_234 hI (show (3 : Int) ≤ 3 ∧ 3 ≤ (44 : Int) from by omega) (show pz_Y ((s.1 100)) ((s.1 98)) ((s.1 95 12)) ((s.1 95 13)) ((s.1 95 19)) ((s.1 95 20)) ((s.1 95 21)) ((s.1 95 22)) ((s.1 95 8)) ((s.1 98) ((s.1 95 12))) (0) (0) from by first | with_reducible assumption | assumption) (show (s.1 95 9) ≠ 0 ∧ (s.1 95 8) < (s.1 95 7) ∧ (s.1 95 23) = 0 from by omega) (show 3 = 40 ∨ 3 = 3 ∨ 3 = 41 ∨ 3 = 44 ∨ (3 = 20 ∧ 0 < (s.1 95 19) ∧ ((s.1 100) ((s.1 95 19) - 1) = 41 ∨ (20 ≤ (s.1 100) ((s.1 95 19) - 1) ∧ (s.1 100) ((s.1 95 19) - 1) ≤ 22))) from by omega) (fun r63 s62 hI233 fr232 ps237 ps238 ps239 ps240 q236 => ?_)
            replace ps237 : r63 = 0 → pz_Y (s62.1 100) (s62.1 98) (s62.1 95 12) (s62.1 95 13) (s62.1 95 19) (s62.1 95 20) (s62.1 95 21) (s62.1 95 22) (s62.1 95 8) ((s.1 98) ((s.1 95 12))) (s62.1 95 23) (0) := ps237
            replace ps238 : r63 = 0 → ((s.1 95 8) < s62.1 95 8 ∧ (s62.1 95 9 = 0 ∨ s62.1 95 8 < s62.1 95 7)) := ps238
            replace ps239 : pz_H (s62.1 98) (s62.1 95 12) ((s.1 98) ((s.1 95 12))) := ps239
            replace ps240 : s62.1 95 12 = (s.1 95 12) := ps240
            have fr241 : lf_fq [95, 98, 100, 101] 1000000 true s.1 s.2.2 s62.1 s62.2.2 := lf_fq_tr (lf_fq_rf) (lf_fq_wk fr232 rfl (by decide) (by decide))
            have b242 : 0 ≤ s62.1 95 12 ∧ s62.1 95 12 ≤ 2115 := iv_r95_12 hI233
            have b243 : pz_H ((s62.1 98)) ((s62.1 95 12)) (s0.1 98 (s0.1 95 12)) := by first | with_reducible assumption | exact pz_YH (by first | with_reducible assumption | assumption : pz_Y ((s62.1 100)) ((s62.1 98)) ((s62.1 95 12)) ((s62.1 95 13)) ((s62.1 95 19)) ((s62.1 95 20)) ((s62.1 95 21)) ((s62.1 95 22)) ((s62.1 95 8)) (s0.1 98 (s0.1 95 12)) ((s62.1 95 23)) (0)) | exact pz_YH (by first | with_reducible assumption | assumption : pz_Y ((s62.1 100)) ((s62.1 98)) ((s62.1 95 12)) ((s62.1 95 13)) ((s62.1 95 19)) ((s62.1 95 20)) ((s62.1 95 21)) ((s62.1 95 22)) ((s62.1 95 8)) (s0.1 98 (s0.1 95 12)) (0) (0)) | exact pz_cH rfl ps239 rfl (by omega)
            have b244 : 0 ≤ s62.1 95 13 ∧ s62.1 95 13 ≤ 304 := iv_r95_13 hI233
            have b245 : 0 ≤ s62.1 95 19 ∧ s62.1 95 19 ≤ 160 := iv_r95_19 hI233
            have b246 : 0 ≤ s62.1 95 20 ∧ s62.1 95 20 ≤ 8 := iv_r95_20 hI233
            have b247 : 0 ≤ s62.1 95 21 ∧ s62.1 95 21 ≤ 8 := iv_r95_21 hI233
            have b248 : 0 ≤ s62.1 95 22 ∧ s62.1 95 22 ≤ 80 := iv_r95_22 hI233
            have b249 : 0 ≤ s62.1 95 8 ∧ s62.1 95 8 ≤ 300 := iv_r95_8 hI233
            have b250 : 0 ≤ s62.1 95 23 ∧ s62.1 95 23 ≤ 1 := iv_r95_23 hI233
            have b251 : r63 = 0 → pz_Y ((s62.1 100)) ((s62.1 98)) ((s62.1 95 12)) ((s62.1 95 13)) ((s62.1 95 19)) ((s62.1 95 20)) ((s62.1 95 21)) ((s62.1 95 22)) ((s62.1 95 8)) (s0.1 98 (s0.1 95 12)) ((s62.1 95 23)) (0) := by first | exact (fun h9 => pz_Yk (ps237 h9) (by omega)) | exact (fun h => absurd h (by decide)) | exact (fun _ => by first | with_reducible assumption | assumption)
            exact hQ r63 s62 hI233 fr241 (show r63 = 0 → pz_Y ((s62.1 100)) ((s62.1 98)) ((s62.1 95 12)) ((s62.1 95 13)) ((s62.1 95 19)) ((s62.1 95 20)) ((s62.1 95 21)) ((s62.1 95 22)) ((s62.1 95 8)) (s0.1 98 (s0.1 95 12)) ((s62.1 95 23)) (0) from by first | with_reducible assumption | omega) (show r63 = 0 → (s0.1 95 8 < (s62.1 95 8) ∧ ((s62.1 95 9) = 0 ∨ (s62.1 95 8) < (s62.1 95 7))) from by first | with_reducible assumption | omega) (show pz_H ((s62.1 98)) ((s62.1 95 12)) (s0.1 98 (s0.1 95 12)) from by first | with_reducible assumption | assumption) (show (s62.1 95 12) = s0.1 95 12 from by omega) (show (0 : Int) ≤ r63 ∧ r63 ≤ (5 : Int) from by omega)
        · skip
          replace c153 : ¬ (s.1 95 9 ≠ 40) := c153
          have b254 : 0 ≤ s.1 95 7 ∧ s.1 95 7 ≤ 300 := iv_r95_7 hI
          have b255 : 0 ≤ s.1 95 23 ∧ s.1 95 23 ≤ 1 := iv_r95_23 hI
          refine sm_234 hI (show (3 : Int) ≤ 40 ∧ 40 ≤ (44 : Int) from by omega) (show pz_Y ((s.1 100)) ((s.1 98)) ((s.1 95 12)) ((s.1 95 13)) ((s.1 95 19)) ((s.1 95 20)) ((s.1 95 21)) ((s.1 95 22)) ((s.1 95 8)) ((s.1 98) ((s.1 95 12))) (0) (0) from by first | with_reducible assumption | assumption) (show (s.1 95 9) ≠ 0 ∧ (s.1 95 8) < (s.1 95 7) ∧ (s.1 95 23) = 0 from by omega) (show 40 = 40 ∨ 40 = 3 ∨ 40 = 41 ∨ 40 = 44 ∨ (40 = 20 ∧ 0 < (s.1 95 19) ∧ ((s.1 100) ((s.1 95 19) - 1) = 41 ∨ (20 ≤ (s.1 100) ((s.1 95 19) - 1) ∧ (s.1 100) ((s.1 95 19) - 1) ≤ 22))) from by omega) (fun r65 s64 hI253 fr252 ps257 ps258 ps259 ps260 q256 => ?_)
          replace ps257 : r65 = 0 → pz_Y (s64.1 100) (s64.1 98) (s64.1 95 12) (s64.1 95 13) (s64.1 95 19) (s64.1 95 20) (s64.1 95 21) (s64.1 95 22) (s64.1 95 8) ((s.1 98) ((s.1 95 12))) (s64.1 95 23) (0) := ps257
          replace ps258 : r65 = 0 → ((s.1 95 8) < s64.1 95 8 ∧ (s64.1 95 9 = 0 ∨ s64.1 95 8 < s64.1 95 7)) := ps258
          replace ps259 : pz_H (s64.1 98) (s64.1 95 12) ((s.1 98) ((s.1 95 12))) := ps259
          replace ps260 : s64.1 95 12 = (s.1 95 12) := ps260
          have fr261 : lf_fq [95, 98, 100, 101] 1000000 true s.1 s.2.2 s64.1 s64.2.2 := lf_fq_tr (lf_fq_rf) (lf_fq_wk fr252 rfl (by decide) (by decide))
          have b262 : 0 ≤ s64.1 95 12 ∧ s64.1 95 12 ≤ 2115 := iv_r95_12 hI253
          have b263 : pz_H ((s64.1 98)) ((s64.1 95 12)) (s0.1 98 (s0.1 95 12)) := by first | with_reducible assumption | exact pz_YH (by first | with_reducible assumption | assumption : pz_Y ((s64.1 100)) ((s64.1 98)) ((s64.1 95 12)) ((s64.1 95 13)) ((s64.1 95 19)) ((s64.1 95 20)) ((s64.1 95 21)) ((s64.1 95 22)) ((s64.1 95 8)) (s0.1 98 (s0.1 95 12)) ((s64.1 95 23)) (0)) | exact pz_YH (by first | with_reducible assumption | assumption : pz_Y ((s64.1 100)) ((s64.1 98)) ((s64.1 95 12)) ((s64.1 95 13)) ((s64.1 95 19)) ((s64.1 95 20)) ((s64.1 95 21)) ((s64.1 95 22)) ((s64.1 95 8)) (s0.1 98 (s0.1 95 12)) (0) (0)) | exact pz_cH rfl ps259 rfl (by omega)
          have b264 : 0 ≤ s64.1 95 13 ∧ s64.1 95 13 ≤ 304 := iv_r95_13 hI253
          have b265 : 0 ≤ s64.1 95 19 ∧ s64.1 95 19 ≤ 160 := iv_r95_19 hI253
          have b266 : 0 ≤ s64.1 95 20 ∧ s64.1 95 20 ≤ 8 := iv_r95_20 hI253
          have b267 : 0 ≤ s64.1 95 21 ∧ s64.1 95 21 ≤ 8 := iv_r95_21 hI253
          have b268 : 0 ≤ s64.1 95 22 ∧ s64.1 95 22 ≤ 80 := iv_r95_22 hI253
          have b269 : 0 ≤ s64.1 95 8 ∧ s64.1 95 8 ≤ 300 := iv_r95_8 hI253
          have b270 : 0 ≤ s64.1 95 23 ∧ s64.1 95 23 ≤ 1 := iv_r95_23 hI253
          have b271 : r65 = 0 → pz_Y ((s64.1 100)) ((s64.1 98)) ((s64.1 95 12)) ((s64.1 95 13)) ((s64.1 95 19)) ((s64.1 95 20)) ((s64.1 95 21)) ((s64.1 95 22)) ((s64.1 95 8)) (s0.1 98 (s0.1 95 12)) ((s64.1 95 23)) (0) := by first | exact (fun h9 => pz_Yk (ps257 h9) (by omega)) | exact (fun h => absurd h (by decide)) | exact (fun _ => by first | with_reducible assumption | assumption)
          exact hQ r65 s64 hI253 fr261 (show r65 = 0 → pz_Y ((s64.1 100)) ((s64.1 98)) ((s64.1 95 12)) ((s64.1 95 13)) ((s64.1 95 19)) ((s64.1 95 20)) ((s64.1 95 21)) ((s64.1 95 22)) ((s64.1 95 8)) (s0.1 98 (s0.1 95 12)) ((s64.1 95 23)) (0) from by first | with_reducible assumption | omega) (show r65 = 0 → (s0.1 95 8 < (s64.1 95 8) ∧ ((s64.1 95 9) = 0 ∨ (s64.1 95 8) < (s64.1 95 7))) from by first | with_reducible assumption | omega) (show pz_H ((s64.1 98)) ((s64.1 95 12)) (s0.1 98 (s0.1 95 12)) from by first | with_reducible assumption | assumption) (show (s64.1 95 12) = s0.1 95 12 from by omega) (show (0 : Int) ≤ r65 ∧ r65 ≤ (5 : Int) from by omega)
      · skip
        replace c144 : ¬ (r39 < 0) := c144
        have b272 : 0 ≤ s.1 95 12 ∧ s.1 95 12 ≤ 2115 := iv_r95_12 hI
        have b273 : 0 ≤ s.1 95 13 ∧ s.1 95 13 ≤ 304 := iv_r95_13 hI
        have b274 : 0 ≤ s.1 95 19 ∧ s.1 95 19 ≤ 160 := iv_r95_19 hI
        have b275 : 0 ≤ s.1 95 20 ∧ s.1 95 20 ≤ 8 := iv_r95_20 hI
        have b276 : 0 ≤ s.1 95 21 ∧ s.1 95 21 ≤ 8 := iv_r95_21 hI
        have b277 : 0 ≤ s.1 95 22 ∧ s.1 95 22 ≤ 80 := iv_r95_22 hI
        have b278 : 0 ≤ s.1 95 8 ∧ s.1 95 8 ≤ 300 := iv_r95_8 hI
        have b279 : 0 ≤ s.1 95 7 ∧ s.1 95 7 ≤ 300 := iv_r95_7 hI
        have b280 : 0 ≤ s.1 95 23 ∧ s.1 95 23 ≤ 1 := iv_r95_23 hI
        have b281 : 0 ≤ s.1 95 4 ∧ s.1 95 4 ≤ 300 := iv_r95_4 hI
        exact sm_229_p79 (s0 := s0) hQ hI (show (-1 : Int) ≤ x1 ∧ x1 ≤ (10 : Int) from by omega) (show pz_Y ((s.1 100)) ((s.1 98)) ((s.1 95 12)) ((s.1 95 13)) ((s.1 95 19)) ((s.1 95 20)) ((s.1 95 21)) ((s.1 95 22)) ((s.1 95 8)) (s0.1 98 (s0.1 95 12)) (0) (0) from by first | with_reducible assumption | assumption) (show (s.1 95 9) = 0 ∨ (s.1 95 8) < (s.1 95 7) from by omega) (show (s.1 95 23) = 0 from by omega) (show (s.1 95 8) = s0.1 95 8 ∧ (s.1 98) ((s.1 95 12)) = s0.1 98 (s0.1 95 12) from by omega) (show x1 = -1 ∨ (s.1 95 9) = 2 from by omega) (show (s.1 95 9) ≠ 2 ∨ (s.1 95 7) - (s.1 95 8) ≠ 1 ∨ (s.1 95 4) ≤ (s.1 95 8) ∨ (s.1 99) ((s.1 95 8)) < 97 ∨ 122 < (s.1 99) ((s.1 95 8)) ∨ 0 ≤ (s.1 103) ((s.1 99) ((s.1 95 8)) - 97) from by omega) (show (s.1 95 9) = 1 ∨ 0 ≤ x1 ∨ ¬ ((s.1 95 9) ≠ 2 ∨ (s.1 95 7) - (s.1 95 8) ≠ 1 ∨ (s.1 95 4) ≤ (s.1 95 8) ∨ (s.1 99) ((s.1 95 8)) < 97 ∨ 122 < (s.1 99) ((s.1 95 8))) from by omega) (show (s.1 95 12) = s0.1 95 12 from by omega)
theorem sm_229_p39 {Q : Int → lf_Z → Prop} {x1 : Int} {s : lf_Z} {s0 : lf_Z} (hQ : ∀ (r : Int) (s' : lf_Z), iv_A s'.1 s'.2.2 → lf_fq [95, 98, 100, 101] 1000000 true s.1 s.2.2 s'.1 s'.2.2 → (r = 0 → pz_Y (s'.1 100) (s'.1 98) (s'.1 95 12) (s'.1 95 13) (s'.1 95 19) (s'.1 95 20) (s'.1 95 21) (s'.1 95 22) (s'.1 95 8) (s0.1 98 (s0.1 95 12)) (s'.1 95 23) (0)) → (r = 0 → (s0.1 95 8 < s'.1 95 8 ∧ (s'.1 95 9 = 0 ∨ s'.1 95 8 < s'.1 95 7))) → (pz_H (s'.1 98) (s'.1 95 12) (s0.1 98 (s0.1 95 12))) → (s'.1 95 12 = s0.1 95 12) → (0 ≤ r ∧ r ≤ 5) → Q r s') (hI : iv_A s.1 s.2.2) (bx1 : (-1) ≤ x1 ∧ x1 ≤ 10) (kv0 : pz_Y (s.1 100) (s.1 98) (s.1 95 12) (s.1 95 13) (s.1 95 19) (s.1 95 20) (s.1 95 21) (s.1 95 22) (s.1 95 8) (s0.1 98 (s0.1 95 12)) (0) (0)) (kv1 : s.1 95 9 = 0 ∨ s.1 95 8 < s.1 95 7) (kv2 : s.1 95 23 = 0) (kv3 : s.1 95 8 = s0.1 95 8 ∧ s.1 98 (s.1 95 12) = s0.1 98 (s0.1 95 12)) (kv4 : x1 = -1 ∨ s.1 95 9 = 2) (kv5 : s.1 95 12 = s0.1 95 12) : fm_229_p39 Q x1 s := by
  unfold fm_229_p39
  refine sm_232 hI (fun r26 q26 => ?_)
  obtain ⟨q26, q26x⟩ := q26
  have b27 : (-2147483648) ≤ s.1 95 9 ∧ s.1 95 9 ≤ 2147483647 := iv_full hI
  have b28 : 0 ≤ s.1 95 7 ∧ s.1 95 7 ≤ 300 := iv_r95_7 hI
  have b29 : 0 ≤ s.1 95 8 ∧ s.1 95 8 ≤ 300 := iv_r95_8 hI
  have b30 : 0 ≤ s.1 95 4 ∧ s.1 95 4 ≤ 300 := iv_r95_4 hI
  replace q26x : (r26 = -1 ∧ ¬ (s.1 95 9 = 2 ∧ s.1 95 7 - s.1 95 8 = 1 ∧ s.1 95 8 < s.1 95 4 ∧ 97 ≤ s.1 99 (s.1 95 8) ∧ s.1 99 (s.1 95 8) ≤ 122)) ∨ (r26 = s.1 99 (s.1 95 8) - 97 ∧ s.1 95 9 = 2 ∧ s.1 95 7 - s.1 95 8 = 1 ∧ s.1 95 8 < s.1 95 4 ∧ 97 ≤ s.1 99 (s.1 95 8) ∧ s.1 99 (s.1 95 8) ≤ 122) := q26x
  refine ⟨(show lf_R r26 from lf_Rof (by omega)), ?_⟩
  refine ⟨fun c31 => ?_, fun c31 => ?_⟩
  · skip
    replace c31 : r26 < 0 := c31
    have b32 : 0 ≤ s.1 95 12 ∧ s.1 95 12 ≤ 2115 := iv_r95_12 hI
    have b33 : 0 ≤ s.1 95 13 ∧ s.1 95 13 ≤ 304 := iv_r95_13 hI
    have b34 : 0 ≤ s.1 95 19 ∧ s.1 95 19 ≤ 160 := iv_r95_19 hI
    have b35 : 0 ≤ s.1 95 20 ∧ s.1 95 20 ≤ 8 := iv_r95_20 hI
    have b36 : 0 ≤ s.1 95 21 ∧ s.1 95 21 ≤ 8 := iv_r95_21 hI
    have b37 : 0 ≤ s.1 95 22 ∧ s.1 95 22 ≤ 80 := iv_r95_22 hI
    have b38 : 0 ≤ s.1 95 8 ∧ s.1 95 8 ≤ 300 := iv_r95_8 hI
    have b39 : (-2147483648) ≤ s.1 95 9 ∧ s.1 95 9 ≤ 2147483647 := iv_full hI
    have b40 : 0 ≤ s.1 95 7 ∧ s.1 95 7 ≤ 300 := iv_r95_7 hI
    have b41 : 0 ≤ s.1 95 23 ∧ s.1 95 23 ≤ 1 := iv_r95_23 hI
    have b42 : 0 ≤ s.1 95 4 ∧ s.1 95 4 ≤ 300 := iv_r95_4 hI
    exact sm_229_p60 (s0 := s0) hQ hI (show (-1 : Int) ≤ x1 ∧ x1 ≤ (10 : Int) from by omega) (show pz_Y ((s.1 100)) ((s.1 98)) ((s.1 95 12)) ((s.1 95 13)) ((s.1 95 19)) ((s.1 95 20)) ((s.1 95 21)) ((s.1 95 22)) ((s.1 95 8)) (s0.1 98 (s0.1 95 12)) (0) (0) from by first | with_reducible assumption | assumption) (show (s.1 95 9) = 0 ∨ (s.1 95 8) < (s.1 95 7) from by omega) (show (s.1 95 23) = 0 from by omega) (show (s.1 95 8) = s0.1 95 8 ∧ (s.1 98) ((s.1 95 12)) = s0.1 98 (s0.1 95 12) from by omega) (show x1 = -1 ∨ (s.1 95 9) = 2 from by omega) (show (s.1 95 9) ≠ 2 ∨ (s.1 95 7) - (s.1 95 8) ≠ 1 ∨ (s.1 95 4) ≤ (s.1 95 8) ∨ (s.1 99) ((s.1 95 8)) < 97 ∨ 122 < (s.1 99) ((s.1 95 8)) ∨ 0 ≤ (s.1 103) ((s.1 99) ((s.1 95 8)) - 97) from by omega) (show (s.1 95 12) = s0.1 95 12 from by omega)
  · skip
    replace c31 : ¬ (r26 < 0) := c31
    refine sm_232 hI (fun r67 q282 => ?_)
    obtain ⟨q282, q282x⟩ := q282
    have b283 : (-2147483648) ≤ s.1 95 9 ∧ s.1 95 9 ≤ 2147483647 := iv_full hI
    have b284 : 0 ≤ s.1 95 7 ∧ s.1 95 7 ≤ 300 := iv_r95_7 hI
    have b285 : 0 ≤ s.1 95 8 ∧ s.1 95 8 ≤ 300 := iv_r95_8 hI
    have b286 : 0 ≤ s.1 95 4 ∧ s.1 95 4 ≤ 300 := iv_r95_4 hI
    replace q282x : (r67 = -1 ∧ ¬ (s.1 95 9 = 2 ∧ s.1 95 7 - s.1 95 8 = 1 ∧ s.1 95 8 < s.1 95 4 ∧ 97 ≤ s.1 99 (s.1 95 8) ∧ s.1 99 (s.1 95 8) ≤ 122)) ∨ (r67 = s.1 99 (s.1 95 8) - 97 ∧ s.1 95 9 = 2 ∧ s.1 95 7 - s.1 95 8 = 1 ∧ s.1 95 8 < s.1 95 4 ∧ 97 ≤ s.1 99 (s.1 95 8) ∧ s.1 99 (s.1 95 8) ≤ 122) := q282x
    refine ⟨(show (0 : Int) ≤ r67 ∧ r67 < (26 : Int) from by omega), ?_⟩
    have b287 : (-1) ≤ s.1 103 r67 ∧ s.1 103 r67 ≤ 79 := iv_r103 hI _
    have b288 : 0 ≤ s.1 95 8 ∧ s.1 95 8 ≤ 300 := iv_r95_8 hI
    have b289 : (s.1 103 r67) = (s.1 103) ((s.1 99) ((s.1 95 8)) - 97) := congrArg ((s.1 103)) (by omega)
    refine ⟨(show lf_R (s.1 103 r67) from lf_Rof (by omega)), ?_⟩
    refine ⟨fun c290 => ?_, fun c290 => ?_⟩
    · skip
      replace c290 : 0 ≤ s.1 103 r67 := c290
      have b291 : 0 ≤ s.1 95 12 ∧ s.1 95 12 ≤ 2115 := iv_r95_12 hI
      have b292 : 0 ≤ s.1 95 13 ∧ s.1 95 13 ≤ 304 := iv_r95_13 hI
      have b293 : 0 ≤ s.1 95 19 ∧ s.1 95 19 ≤ 160 := iv_r95_19 hI
      have b294 : 0 ≤ s.1 95 20 ∧ s.1 95 20 ≤ 8 := iv_r95_20 hI
      have b295 : 0 ≤ s.1 95 21 ∧ s.1 95 21 ≤ 8 := iv_r95_21 hI
      have b296 : 0 ≤ s.1 95 22 ∧ s.1 95 22 ≤ 80 := iv_r95_22 hI
      have b297 : (-2147483648) ≤ s.1 95 9 ∧ s.1 95 9 ≤ 2147483647 := iv_full hI
      have b298 : 0 ≤ s.1 95 7 ∧ s.1 95 7 ≤ 300 := iv_r95_7 hI
      have b299 : 0 ≤ s.1 95 23 ∧ s.1 95 23 ≤ 1 := iv_r95_23 hI
      have b300 : 0 ≤ s.1 95 4 ∧ s.1 95 4 ≤ 300 := iv_r95_4 hI
      exact sm_229_p60 (s0 := s0) hQ hI (show (-1 : Int) ≤ x1 ∧ x1 ≤ (10 : Int) from by omega) (show pz_Y ((s.1 100)) ((s.1 98)) ((s.1 95 12)) ((s.1 95 13)) ((s.1 95 19)) ((s.1 95 20)) ((s.1 95 21)) ((s.1 95 22)) ((s.1 95 8)) (s0.1 98 (s0.1 95 12)) (0) (0) from by first | with_reducible assumption | assumption) (show (s.1 95 9) = 0 ∨ (s.1 95 8) < (s.1 95 7) from by omega) (show (s.1 95 23) = 0 from by omega) (show (s.1 95 8) = s0.1 95 8 ∧ (s.1 98) ((s.1 95 12)) = s0.1 98 (s0.1 95 12) from by omega) (show x1 = -1 ∨ (s.1 95 9) = 2 from by omega) (show (s.1 95 9) ≠ 2 ∨ (s.1 95 7) - (s.1 95 8) ≠ 1 ∨ (s.1 95 4) ≤ (s.1 95 8) ∨ (s.1 99) ((s.1 95 8)) < 97 ∨ 122 < (s.1 99) ((s.1 95 8)) ∨ 0 ≤ (s.1 103) ((s.1 99) ((s.1 95 8)) - 97) from by omega) (show (s.1 95 12) = s0.1 95 12 from by omega)
    · skip
      replace c290 : ¬ (0 ≤ s.1 103 r67) := c290
      have b301 : 0 ≤ s.1 95 12 ∧ s.1 95 12 ≤ 2115 := iv_r95_12 hI
      have b302 : pz_H ((s.1 98)) ((s.1 95 12)) (s0.1 98 (s0.1 95 12)) := by first | with_reducible assumption | exact pz_YH (by first | with_reducible assumption | assumption : pz_Y ((s.1 100)) ((s.1 98)) ((s.1 95 12)) ((s.1 95 13)) ((s.1 95 19)) ((s.1 95 20)) ((s.1 95 21)) ((s.1 95 22)) ((s.1 95 8)) (s0.1 98 (s0.1 95 12)) ((s.1 95 23)) (0)) | exact pz_YH (by first | with_reducible assumption | assumption : pz_Y ((s.1 100)) ((s.1 98)) ((s.1 95 12)) ((s.1 95 13)) ((s.1 95 19)) ((s.1 95 20)) ((s.1 95 21)) ((s.1 95 22)) ((s.1 95 8)) (s0.1 98 (s0.1 95 12)) (0) (0)) | exact pz_cH rfl hI rfl (by omega)
      have b303 : 0 ≤ s.1 95 13 ∧ s.1 95 13 ≤ 304 := iv_r95_13 hI
      have b304 : 0 ≤ s.1 95 19 ∧ s.1 95 19 ≤ 160 := iv_r95_19 hI
      have b305 : 0 ≤ s.1 95 20 ∧ s.1 95 20 ≤ 8 := iv_r95_20 hI
      have b306 : 0 ≤ s.1 95 21 ∧ s.1 95 21 ≤ 8 := iv_r95_21 hI
      have b307 : 0 ≤ s.1 95 22 ∧ s.1 95 22 ≤ 80 := iv_r95_22 hI
      have b308 : 0 ≤ s.1 95 23 ∧ s.1 95 23 ≤ 1 := iv_r95_23 hI
      have b309 : 5 = 0 → pz_Y ((s.1 100)) ((s.1 98)) ((s.1 95 12)) ((s.1 95 13)) ((s.1 95 19)) ((s.1 95 20)) ((s.1 95 21)) ((s.1 95 22)) ((s.1 95 8)) (s0.1 98 (s0.1 95 12)) ((s.1 95 23)) (0) := by first | exact (fun h9 => pz_Yk (hI h9) (by omega)) | exact (fun h => absurd h (by decide)) | exact (fun _ => by first | with_reducible assumption | assumption)
      exact hQ 5 s hI (lf_fq_rf) (show 5 = 0 → pz_Y ((s.1 100)) ((s.1 98)) ((s.1 95 12)) ((s.1 95 13)) ((s.1 95 19)) ((s.1 95 20)) ((s.1 95 21)) ((s.1 95 22)) ((s.1 95 8)) (s0.1 98 (s0.1 95 12)) ((s.1 95 23)) (0) from fun h => absurd h (by decide)) (show 5 = 0 → (s0.1 95 8 < (s.1 95 8) ∧ ((s.1 95 9) = 0 ∨ (s.1 95 8) < (s.1 95 7))) from fun h => absurd h (by decide)) (show pz_H ((s.1 98)) ((s.1 95 12)) (s0.1 98 (s0.1 95 12)) from by first | with_reducible assumption | assumption) (show (s.1 95 12) = s0.1 95 12 from by omega) (show (0 : Int) ≤ 5 ∧ 5 ≤ (5 : Int) from by omega)
theorem sm_229_p20 {Q : Int → lf_Z → Prop} {s : lf_Z} {s0 : lf_Z} (hQ : ∀ (r : Int) (s' : lf_Z), iv_A s'.1 s'.2.2 → lf_fq [95, 98, 100, 101] 1000000 true s.1 s.2.2 s'.1 s'.2.2 → (r = 0 → pz_Y (s'.1 100) (s'.1 98) (s'.1 95 12) (s'.1 95 13) (s'.1 95 19) (s'.1 95 20) (s'.1 95 21) (s'.1 95 22) (s'.1 95 8) (s0.1 98 (s0.1 95 12)) (s'.1 95 23) (0)) → (r = 0 → (s0.1 95 8 < s'.1 95 8 ∧ (s'.1 95 9 = 0 ∨ s'.1 95 8 < s'.1 95 7))) → (pz_H (s'.1 98) (s'.1 95 12) (s0.1 98 (s0.1 95 12))) → (s'.1 95 12 = s0.1 95 12) → (0 ≤ r ∧ r ≤ 5) → Q r s') (hI : iv_A s.1 s.2.2) (kv0 : pz_Y (s.1 100) (s.1 98) (s.1 95 12) (s.1 95 13) (s.1 95 19) (s.1 95 20) (s.1 95 21) (s.1 95 22) (s.1 95 8) (s0.1 98 (s0.1 95 12)) (0) (0)) (kv1 : s.1 95 9 = 0 ∨ s.1 95 8 < s.1 95 7) (kv2 : s.1 95 23 = 0) (kv3 : s.1 95 8 = s0.1 95 8 ∧ s.1 98 (s.1 95 12) = s0.1 98 (s0.1 95 12)) (kv4 : s.1 95 12 = s0.1 95 12) : fm_229_p20 Q s := by
  unfold fm_229_p20
  refine sm_230 hI (fun r23 q13 => ?_)
  obtain ⟨q13, q13x⟩ := q13
  have b14 : (-2147483648) ≤ s.1 95 9 ∧ s.1 95 9 ≤ 2147483647 := iv_full hI
  replace q13x : r23 = -1 ∨ s.1 95 9 = 2 := q13x
  refine ⟨(show lf_R r23 from lf_Rof (by omega)), ?_⟩
  refine ⟨fun c15 => ?_, fun c15 => ?_⟩
  · skip
    replace c15 : r23 < 0 := c15
    have b16 : 0 ≤ s.1 95 12 ∧ s.1 95 12 ≤ 2115 := iv_r95_12 hI
    have b17 : 0 ≤ s.1 95 13 ∧ s.1 95 13 ≤ 304 := iv_r95_13 hI
    have b18 : 0 ≤ s.1 95 19 ∧ s.1 95 19 ≤ 160 := iv_r95_19 hI
    have b19 : 0 ≤ s.1 95 20 ∧ s.1 95 20 ≤ 8 := iv_r95_20 hI
    have b20 : 0 ≤ s.1 95 21 ∧ s.1 95 21 ≤ 8 := iv_r95_21 hI
    have b21 : 0 ≤ s.1 95 22 ∧ s.1 95 22 ≤ 80 := iv_r95_22 hI
    have b22 : 0 ≤ s.1 95 8 ∧ s.1 95 8 ≤ 300 := iv_r95_8 hI
    have b23 : (-2147483648) ≤ s.1 95 9 ∧ s.1 95 9 ≤ 2147483647 := iv_full hI
    have b24 : 0 ≤ s.1 95 7 ∧ s.1 95 7 ≤ 300 := iv_r95_7 hI
    have b25 : 0 ≤ s.1 95 23 ∧ s.1 95 23 ≤ 1 := iv_r95_23 hI
    exact sm_229_p39 (s0 := s0) hQ hI (show (-1 : Int) ≤ r23 ∧ r23 ≤ (10 : Int) from by omega) (show pz_Y ((s.1 100)) ((s.1 98)) ((s.1 95 12)) ((s.1 95 13)) ((s.1 95 19)) ((s.1 95 20)) ((s.1 95 21)) ((s.1 95 22)) ((s.1 95 8)) (s0.1 98 (s0.1 95 12)) (0) (0) from by first | with_reducible assumption | assumption) (show (s.1 95 9) = 0 ∨ (s.1 95 8) < (s.1 95 7) from by omega) (show (s.1 95 23) = 0 from by omega) (show (s.1 95 8) = s0.1 95 8 ∧ (s.1 98) ((s.1 95 12)) = s0.1 98 (s0.1 95 12) from by omega) (show r23 = -1 ∨ (s.1 95 9) = 2 from by omega) (show (s.1 95 12) = s0.1 95 12 from by omega)
  · skip
    replace c15 : ¬ (r23 < 0) := c15
    refine sm_231 hI (show (0 : Int) ≤ r23 ∧ r23 ≤ (10 : Int) from by omega) (fun z71 => ?_)
    refine ⟨fun c311 => ?_, fun c311 => ?_⟩
    · skip
      have b312 : 0 ≤ s.1 95 12 ∧ s.1 95 12 ≤ 2115 := iv_r95_12 hI
      have b313 : 0 ≤ s.1 95 13 ∧ s.1 95 13 ≤ 304 := iv_r95_13 hI
      have b314 : 0 ≤ s.1 95 19 ∧ s.1 95 19 ≤ 160 := iv_r95_19 hI
      have b315 : 0 ≤ s.1 95 20 ∧ s.1 95 20 ≤ 8 := iv_r95_20 hI
      have b316 : 0 ≤ s.1 95 21 ∧ s.1 95 21 ≤ 8 := iv_r95_21 hI
      have b317 : 0 ≤ s.1 95 22 ∧ s.1 95 22 ≤ 80 := iv_r95_22 hI
      have b318 : 0 ≤ s.1 95 8 ∧ s.1 95 8 ≤ 300 := iv_r95_8 hI
      have b319 : (-2147483648) ≤ s.1 95 9 ∧ s.1 95 9 ≤ 2147483647 := iv_full hI
      have b320 : 0 ≤ s.1 95 7 ∧ s.1 95 7 ≤ 300 := iv_r95_7 hI
      have b321 : 0 ≤ s.1 95 23 ∧ s.1 95 23 ≤ 1 := iv_r95_23 hI
      exact sm_229_p39 (s0 := s0) hQ hI (show (-1 : Int) ≤ r23 ∧ r23 ≤ (10 : Int) from by omega) (show pz_Y ((s.1 100)) ((s.1 98)) ((s.1 95 12)) ((s.1 95 13)) ((s.1 95 19)) ((s.1 95 20)) ((s.1 95 21)) ((s.1 95 22)) ((s.1 95 8)) (s0.1 98 (s0.1 95 12)) (0) (0) from by first | with_reducible assumption | assumption) (show (s.1 95 9) = 0 ∨ (s.1 95 8) < (s.1 95 7) from by omega) (show (s.1 95 23) = 0 from by omega) (show (s.1 95 8) = s0.1 95 8 ∧ (s.1 98) ((s.1 95 12)) = s0.1 98 (s0.1 95 12) from by omega) (show r23 = -1 ∨ (s.1 95 9) = 2 from by omega) (show (s.1 95 12) = s0.1 95 12 from by omega)
    · skip
      have b322 : 0 ≤ s.1 95 12 ∧ s.1 95 12 ≤ 2115 := iv_r95_12 hI
      have b323 : pz_H ((s.1 98)) ((s.1 95 12)) (s0.1 98 (s0.1 95 12)) := by first | with_reducible assumption | exact pz_YH (by first | with_reducible assumption | assumption : pz_Y ((s.1 100)) ((s.1 98)) ((s.1 95 12)) ((s.1 95 13)) ((s.1 95 19)) ((s.1 95 20)) ((s.1 95 21)) ((s.1 95 22)) ((s.1 95 8)) (s0.1 98 (s0.1 95 12)) ((s.1 95 23)) (0)) | exact pz_YH (by first | with_reducible assumption | assumption : pz_Y ((s.1 100)) ((s.1 98)) ((s.1 95 12)) ((s.1 95 13)) ((s.1 95 19)) ((s.1 95 20)) ((s.1 95 21)) ((s.1 95 22)) ((s.1 95 8)) (s0.1 98 (s0.1 95 12)) (0) (0)) | exact pz_cH rfl hI rfl (by omega)
      have b324 : 0 ≤ s.1 95 13 ∧ s.1 95 13 ≤ 304 := iv_r95_13 hI
      have b325 : 0 ≤ s.1 95 19 ∧ s.1 95 19 ≤ 160 := iv_r95_19 hI
      have b326 : 0 ≤ s.1 95 20 ∧ s.1 95 20 ≤ 8 := iv_r95_20 hI
      have b327 : 0 ≤ s.1 95 21 ∧ s.1 95 21 ≤ 8 := iv_r95_21 hI
      have b328 : 0 ≤ s.1 95 22 ∧ s.1 95 22 ≤ 80 := iv_r95_22 hI
      have b329 : 0 ≤ s.1 95 8 ∧ s.1 95 8 ≤ 300 := iv_r95_8 hI
      have b330 : 0 ≤ s.1 95 23 ∧ s.1 95 23 ≤ 1 := iv_r95_23 hI
      have b331 : 5 = 0 → pz_Y ((s.1 100)) ((s.1 98)) ((s.1 95 12)) ((s.1 95 13)) ((s.1 95 19)) ((s.1 95 20)) ((s.1 95 21)) ((s.1 95 22)) ((s.1 95 8)) (s0.1 98 (s0.1 95 12)) ((s.1 95 23)) (0) := by first | exact (fun h9 => pz_Yk (hI h9) (by omega)) | exact (fun h => absurd h (by decide)) | exact (fun _ => by first | with_reducible assumption | assumption)
      exact hQ 5 s hI (lf_fq_rf) (show 5 = 0 → pz_Y ((s.1 100)) ((s.1 98)) ((s.1 95 12)) ((s.1 95 13)) ((s.1 95 19)) ((s.1 95 20)) ((s.1 95 21)) ((s.1 95 22)) ((s.1 95 8)) (s0.1 98 (s0.1 95 12)) ((s.1 95 23)) (0) from fun h => absurd h (by decide)) (show 5 = 0 → (s0.1 95 8 < (s.1 95 8) ∧ ((s.1 95 9) = 0 ∨ (s.1 95 8) < (s.1 95 7))) from fun h => absurd h (by decide)) (show pz_H ((s.1 98)) ((s.1 95 12)) (s0.1 98 (s0.1 95 12)) from by first | with_reducible assumption | assumption) (show (s.1 95 12) = s0.1 95 12 from by omega) (show (0 : Int) ≤ 5 ∧ 5 ≤ (5 : Int) from by omega)
theorem sm_229 {Q : Int → lf_Z → Prop} {s : lf_Z} (hI : iv_A s.1 s.2.2) (kp0 : pz_Y (s.1 100) (s.1 98) (s.1 95 12) (s.1 95 13) (s.1 95 19) (s.1 95 20) (s.1 95 21) (s.1 95 22) (s.1 95 8) (s.1 98 (s.1 95 12)) (0) (0)) (kp1 : s.1 95 9 = 0 ∨ s.1 95 8 < s.1 95 7) (kp2 : s.1 95 23 = 0) (hQ : ∀ (r : Int) (s' : lf_Z), iv_A s'.1 s'.2.2 → lf_fq [95, 98, 100, 101] 1000000 true s.1 s.2.2 s'.1 s'.2.2 → (r = 0 → pz_Y (s'.1 100) (s'.1 98) (s'.1 95 12) (s'.1 95 13) (s'.1 95 19) (s'.1 95 20) (s'.1 95 21) (s'.1 95 22) (s'.1 95 8) (s.1 98 (s.1 95 12)) (s'.1 95 23) (0)) → (r = 0 → (s.1 95 8 < s'.1 95 8 ∧ (s'.1 95 9 = 0 ∨ s'.1 95 8 < s'.1 95 7))) → (pz_H (s'.1 98) (s'.1 95 12) (s.1 98 (s.1 95 12))) → (s'.1 95 12 = s.1 95 12) → (0 ≤ r ∧ r ≤ 5) → Q r s') : fm_229 Q s := by
  unfold fm_229
  have b1 : 0 ≤ s.1 95 12 ∧ s.1 95 12 ≤ 2115 := iv_r95_12 hI
  have b2 : 0 ≤ s.1 95 13 ∧ s.1 95 13 ≤ 304 := iv_r95_13 hI
  have b3 : 0 ≤ s.1 95 19 ∧ s.1 95 19 ≤ 160 := iv_r95_19 hI
  have b4 : 0 ≤ s.1 95 20 ∧ s.1 95 20 ≤ 8 := iv_r95_20 hI
  have b5 : 0 ≤ s.1 95 21 ∧ s.1 95 21 ≤ 8 := iv_r95_21 hI
  have b6 : 0 ≤ s.1 95 22 ∧ s.1 95 22 ≤ 80 := iv_r95_22 hI
  have b7 : 0 ≤ s.1 95 8 ∧ s.1 95 8 ≤ 300 := iv_r95_8 hI
  have b8 : pz_Y ((s.1 100)) ((s.1 98)) ((s.1 95 12)) ((s.1 95 13)) ((s.1 95 19)) ((s.1 95 20)) ((s.1 95 21)) ((s.1 95 22)) ((s.1 95 8)) (s.1 98 (s.1 95 12)) (0) (0) := kp0
  have b9 : (-2147483648) ≤ s.1 95 9 ∧ s.1 95 9 ≤ 2147483647 := iv_full hI
  refine ⟨(show lf_R (s.1 95 9) from lf_Rof (by omega)), ?_⟩
  refine ⟨fun c10 => ?_, fun c10 => ?_⟩
  · skip
    replace c10 : s.1 95 9 ≠ 1 := c10
    have b11 : 0 ≤ s.1 95 7 ∧ s.1 95 7 ≤ 300 := iv_r95_7 hI
    have b12 : 0 ≤ s.1 95 23 ∧ s.1 95 23 ≤ 1 := iv_r95_23 hI
    exact sm_229_p20 (s0 := s) hQ hI (show pz_Y ((s.1 100)) ((s.1 98)) ((s.1 95 12)) ((s.1 95 13)) ((s.1 95 19)) ((s.1 95 20)) ((s.1 95 21)) ((s.1 95 22)) ((s.1 95 8)) (s.1 98 (s.1 95 12)) (0) (0) from by first | with_reducible assumption | assumption) (show (s.1 95 9) = 0 ∨ (s.1 95 8) < (s.1 95 7) from by omega) (show (s.1 95 23) = 0 from by omega) (show (s.1 95 8) = s.1 95 8 ∧ (s.1 98) ((s.1 95 12)) = s.1 98 (s.1 95 12) from by omega) (show (s.1 95 12) = s.1 95 12 from by omega)
  · skip
    replace c10 : ¬ (s.1 95 9 ≠ 1) := c10
    have b332 : (-2147483648) ≤ s.1 95 10 ∧ s.1 95 10 ≤ 2147483647 := iv_full hI
    refine ⟨(show lf_R (s.1 95 10) from lf_Rof (by omega)), ?_⟩
    refine ⟨fun c333 => ?_, fun c333 => ?_⟩
    · skip
      replace c333 : s.1 95 10 ≤ 9999 := c333
      have b334 : 0 ≤ s.1 95 7 ∧ s.1 95 7 ≤ 300 := iv_r95_7 hI
      have b335 : 0 ≤ s.1 95 23 ∧ s.1 95 23 ≤ 1 := iv_r95_23 hI
      exact sm_229_p20 (s0 := s) hQ hI (show pz_Y ((s.1 100)) ((s.1 98)) ((s.1 95 12)) ((s.1 95 13)) ((s.1 95 19)) ((s.1 95 20)) ((s.1 95 21)) ((s.1 95 22)) ((s.1 95 8)) (s.1 98 (s.1 95 12)) (0) (0) from by first | with_reducible assumption | assumption) (show (s.1 95 9) = 0 ∨ (s.1 95 8) < (s.1 95 7) from by omega) (show (s.1 95 23) = 0 from by omega) (show (s.1 95 8) = s.1 95 8 ∧ (s.1 98) ((s.1 95 12)) = s.1 98 (s.1 95 12) from by omega) (show (s.1 95 12) = s.1 95 12 from by omega)
    · skip
      replace c333 : ¬ (s.1 95 10 ≤ 9999) := c333
      have b336 : pz_H ((s.1 98)) ((s.1 95 12)) (s.1 98 (s.1 95 12)) := by first | with_reducible assumption | exact pz_YH (by first | with_reducible assumption | assumption : pz_Y ((s.1 100)) ((s.1 98)) ((s.1 95 12)) ((s.1 95 13)) ((s.1 95 19)) ((s.1 95 20)) ((s.1 95 21)) ((s.1 95 22)) ((s.1 95 8)) (s.1 98 (s.1 95 12)) ((s.1 95 23)) (0)) | exact pz_YH (by first | with_reducible assumption | assumption : pz_Y ((s.1 100)) ((s.1 98)) ((s.1 95 12)) ((s.1 95 13)) ((s.1 95 19)) ((s.1 95 20)) ((s.1 95 21)) ((s.1 95 22)) ((s.1 95 8)) (s.1 98 (s.1 95 12)) (0) (0)) | exact pz_cH rfl hI rfl (by omega)
      have b337 : 0 ≤ s.1 95 23 ∧ s.1 95 23 ≤ 1 := iv_r95_23 hI
      have b338 : 2 = 0 → pz_Y ((s.1 100)) ((s.1 98)) ((s.1 95 12)) ((s.1 95 13)) ((s.1 95 19)) ((s.1 95 20)) ((s.1 95 21)) ((s.1 95 22)) ((s.1 95 8)) (s.1 98 (s.1 95 12)) ((s.1 95 23)) (0) := by first | exact (fun h9 => pz_Yk (hI h9) (by omega)) | exact (fun h => absurd h (by decide)) | exact (fun _ => by first | with_reducible assumption | assumption)
      exact hQ 2 s hI (lf_fq_rf) (show 2 = 0 → pz_Y ((s.1 100)) ((s.1 98)) ((s.1 95 12)) ((s.1 95 13)) ((s.1 95 19)) ((s.1 95 20)) ((s.1 95 21)) ((s.1 95 22)) ((s.1 95 8)) (s.1 98 (s.1 95 12)) ((s.1 95 23)) (0) from fun h => absurd h (by decide)) (show 2 = 0 → (s.1 95 8 < (s.1 95 8) ∧ ((s.1 95 9) = 0 ∨ (s.1 95 8) < (s.1 95 7))) from fun h => absurd h (by decide)) (show pz_H ((s.1 98)) ((s.1 95 12)) (s.1 98 (s.1 95 12)) from by first | with_reducible assumption | assumption) (show (s.1 95 12) = s.1 95 12 from by omega) (show (0 : Int) ≤ 2 ∧ 2 ≤ (5 : Int) from by omega)
-- fm_221 Model.isCompared 95
theorem sm_221_p30 {Q : Bool → lf_Z → Prop} {x1 : Int} {s : lf_Z} (hQ : ∀ (z : Bool), ((z = true → (pz_cm (s.1 100) (s.1 95 19) = 1)) ∧ (z = false → ¬ (pz_cm (s.1 100) (s.1 95 19) = 1))) → Q z s) (hI : iv_A s.1 s.2.2) (bx1 : (-1) ≤ x1 ∧ x1 ≤ 159) (kv0 : pz_cm (s.1 100) (s.1 95 19) = pz_cq (s.1 100) (x1)) (kv1 : x1 < 0 ∨ 10 ≤ s.1 100 x1) : fm_221_p30 Q x1 s := by
  unfold fm_221_p30
  have b7 : (x1 < 0 → pz_cq ((s.1 100)) x1 = 0) ∧ (0 ≤ x1 → ((s.1 100 x1) < 10 → pz_cq ((s.1 100)) x1 = pz_cq ((s.1 100)) (x1 + -1)) ∧ (10 ≤ (s.1 100 x1) ∧ (s.1 100 x1) < 40 ∧ (s.1 100 x1) ≠ 20 ∧ (s.1 100 x1) ≠ 21 ∧ (s.1 100 x1) ≠ 22 → pz_cq ((s.1 100)) x1 = 1) ∧ (40 ≤ (s.1 100 x1) ∨ (s.1 100 x1) = 20 ∨ (s.1 100 x1) = 21 ∨ (s.1 100 x1) = 22 → pz_cq ((s.1 100)) x1 = 0)) := pz_cqA _ _
  refine ⟨(show lf_R x1 from lf_Rof (by omega)), ?_⟩
  refine ⟨fun c8 => ?_, fun c8 => ?_⟩
  · skip
    replace c8 : x1 < 0 := c8
    exact hQ false (lf_pf (by omega))
  · skip
    replace c8 : ¬ (x1 < 0) := c8
    refine ⟨(show (0 : Int) ≤ x1 ∧ x1 < (160 : Int) from by omega), ?_⟩
    have b9 : 0 ≤ s.1 100 x1 ∧ s.1 100 x1 ≤ 45 := iv_r100 hI _
    refine sm_222 hI (show (0 : Int) ≤ s.1 100 x1 ∧ s.1 100 x1 ≤ (45 : Int) from by omega) (fun r25 q10 => ?_)
    obtain ⟨q10, q10x⟩ := q10
    replace q10x : r25 = pz_rk (s.1 100 x1) ∧ ((40 ≤ (s.1 100 x1) ∧ r25 = 0) ∨ ((s.1 100 x1) = 22 ∧ r25 = 1) ∨ ((s.1 100 x1) = 21 ∧ r25 = 2) ∨ ((s.1 100 x1) = 20 ∧ r25 = 3) ∨ (10 ≤ (s.1 100 x1) ∧ (s.1 100 x1) < 40 ∧ (s.1 100 x1) ≠ 20 ∧ (s.1 100 x1) ≠ 21 ∧ (s.1 100 x1) ≠ 22 ∧ r25 = 4) ∨ ((s.1 100 x1) = 3 ∧ r25 = 7) ∨ (6 ≤ (s.1 100 x1) ∧ (s.1 100 x1) < 10 ∧ r25 = 6) ∨ ((s.1 100 x1) < 6 ∧ (s.1 100 x1) ≠ 3 ∧ r25 = 5)) := q10x
    refine ⟨(show lf_R r25 from lf_Rof (by omega)), ?_⟩
    refine ⟨fun c11 => ?_, fun c11 => ?_⟩
    · skip
      replace c11 : r25 ≠ 4 := c11
      exact hQ false (lf_pf (by omega))
    · skip
      replace c11 : ¬ (r25 ≠ 4) := c11
      exact hQ true (lf_pt (by omega))
theorem sm_221_p7 {X7 : Int → lf_Z → Prop} {Q : Bool → lf_Z → Prop} {x1 : Int} {s : lf_Z} (hQ : ∀ (z : Bool), ((z = true → (pz_cm (s.1 100) (s.1 95 19) = 1)) ∧ (z = false → ¬ (pz_cm (s.1 100) (s.1 95 19) = 1))) → Q z s) {M7 : Nat} (hX7 : ∀ (x1 : Int), (-1) ≤ x1 ∧ x1 ≤ 159 → (pz_cm (s.1 100) (s.1 95 19) = pz_cq (s.1 100) (x1)) → (x1 - (-1)).toNat < M7 → X7 x1 s) (hM7 : (x1 - (-1)).toNat ≤ M7) (hI : iv_A s.1 s.2.2) (bx1 : (-1) ≤ x1 ∧ x1 ≤ 159) (kv0 : pz_cm (s.1 100) (s.1 95 19) = pz_cq (s.1 100) (x1)) : fm_221_p7 Q X7 x1 s := by
  unfold fm_221_p7
  have b3 : (x1 < 0 → pz_cq ((s.1 100)) x1 = 0) ∧ (0 ≤ x1 → ((s.1 100 x1) < 10 → pz_cq ((s.1 100)) x1 = pz_cq ((s.1 100)) (x1 + -1)) ∧ (10 ≤ (s.1 100 x1) ∧ (s.1 100 x1) < 40 ∧ (s.1 100 x1) ≠ 20 ∧ (s.1 100 x1) ≠ 21 ∧ (s.1 100 x1) ≠ 22 → pz_cq ((s.1 100)) x1 = 1) ∧ (40 ≤ (s.1 100 x1) ∨ (s.1 100 x1) = 20 ∨ (s.1 100 x1) = 21 ∨ (s.1 100 x1) = 22 → pz_cq ((s.1 100)) x1 = 0)) := pz_cqA _ _
  refine ⟨(show lf_R x1 from lf_Rof (by omega)), ?_⟩
  refine ⟨fun c4 => ?_, fun c4 => ?_⟩
  · skip
    replace c4 : x1 < 0 := c4
    have b5 : 0 ≤ s.1 95 19 ∧ s.1 95 19 ≤ 160 := iv_r95_19 hI
    have b6 : 0 ≤ s.1 100 x1 ∧ s.1 100 x1 ≤ 45 := iv_r100 hI _
    exact sm_221_p30 hQ hI (show (-1 : Int) ≤ x1 ∧ x1 ≤ (159 : Int) from by omega) (show pz_cm ((s.1 100)) ((s.1 95 19)) = pz_cq ((s.1 100)) (x1) from by omega) (show x1 < 0 ∨ 10 ≤ (s.1 100 x1) from by omega)
  · skip
    replace c4 : ¬ (x1 < 0) := c4
    refine ⟨(show (0 : Int) ≤ x1 ∧ x1 < (160 : Int) from by omega), ?_⟩
    have b12 : 0 ≤ s.1 100 x1 ∧ s.1 100 x1 ≤ 45 := iv_r100 hI _
    refine sm_222 hI (show (0 : Int) ≤ s.1 100 x1 ∧ s.1 100 x1 ≤ (45 : Int) from by omega) (fun r29 q13 => ?_)
    obtain ⟨q13, q13x⟩ := q13
    replace q13x : r29 = pz_rk (s.1 100 x1) ∧ ((40 ≤ (s.1 100 x1) ∧ r29 = 0) ∨ ((s.1 100 x1) = 22 ∧ r29 = 1) ∨ ((s.1 100 x1) = 21 ∧ r29 = 2) ∨ ((s.1 100 x1) = 20 ∧ r29 = 3) ∨ (10 ≤ (s.1 100 x1) ∧ (s.1 100 x1) < 40 ∧ (s.1 100 x1) ≠ 20 ∧ (s.1 100 x1) ≠ 21 ∧ (s.1 100 x1) ≠ 22 ∧ r29 = 4) ∨ ((s.1 100 x1) = 3 ∧ r29 = 7) ∨ (6 ≤ (s.1 100 x1) ∧ (s.1 100 x1) < 10 ∧ r29 = 6) ∨ ((s.1 100 x1) < 6 ∧ (s.1 100 x1) ≠ 3 ∧ r29 = 5)) := q13x
    refine ⟨(show lf_R r29 from lf_Rof (by omega)), ?_⟩
    refine ⟨fun c14 => ?_, fun c14 => ?_⟩
    · skip
      replace c14 : r29 ≤ 4 := c14
      have b15 : 0 ≤ s.1 95 19 ∧ s.1 95 19 ≤ 160 := iv_r95_19 hI
      exact sm_221_p30 hQ hI (show (-1 : Int) ≤ x1 ∧ x1 ≤ (159 : Int) from by omega) (show pz_cm ((s.1 100)) ((s.1 95 19)) = pz_cq ((s.1 100)) (x1) from by omega) (show x1 < 0 ∨ 10 ≤ (s.1 100 x1) from by omega)
    · skip
      replace c14 : ¬ (r29 ≤ 4) := c14
      have b16 : 0 ≤ s.1 95 19 ∧ s.1 95 19 ≤ 160 := iv_r95_19 hI
      have b17 : pz_cm ((s.1 100)) ((s.1 95 19)) = pz_cq ((s.1 100)) ((s.1 95 19) - 1) := pz_cqE
      exact hX7 (x1 + (-1)) (show (-1 : Int) ≤ x1 + (-1) ∧ x1 + (-1) ≤ (159 : Int) from by omega) (show pz_cm ((s.1 100)) ((s.1 95 19)) = pz_cq ((s.1 100)) ((x1 + (-1))) from by omega) (show ((x1 + (-1)) - (-1)).toNat < M7 from by omega)
theorem sm_221_p7L {Q : Bool → lf_Z → Prop} {x1 : Int} {s : lf_Z} (hQ : ∀ (z : Bool), ((z = true → (pz_cm (s.1 100) (s.1 95 19) = 1)) ∧ (z = false → ¬ (pz_cm (s.1 100) (s.1 95 19) = 1))) → Q z s) (hI : iv_A s.1 s.2.2) (bx1 : (-1) ≤ x1 ∧ x1 ≤ 159) (kv0 : pz_cm (s.1 100) (s.1 95 19) = pz_cq (s.1 100) (x1)) : fm_221_p7L Q x1 s := by
  intro X7 hX
  have key : ∀ (m9 : Nat) (x1 : Int), (-1) ≤ x1 ∧ x1 ≤ 159 → (pz_cm (s.1 100) (s.1 95 19) = pz_cq (s.1 100) (x1)) → (x1 - (-1)).toNat < m9 → X7 x1 s := by
    intro m9
    induction m9 with
    | zero => intro x1 bx1 kv0 h9; exact absurd h9 (Nat.not_lt_zero _)
    | succ m9 ih => intro x1 bx1 kv0 h9; exact hX _ _ (sm_221_p7 hQ   (fun x1' bx1' kv0' h8 => ih x1' bx1' kv0' (by omega)) (Nat.le_refl _)  hI  bx1  kv0)
  exact key _ _ bx1  kv0 (Nat.lt_succ_self _)
theorem sm_221 {Q : Bool → lf_Z → Prop} {s : lf_Z} (hI : iv_A s.1 s.2.2) (hQ : ∀ (z : Bool), ((z = true → (pz_cm (s.1 100) (s.1 95 19) = 1)) ∧ (z = false → ¬ (pz_cm (s.1 100) (s.1 95 19) = 1))) → Q z s) : fm_221 Q s := by
  unfold fm_221
  have b1 : 0 ≤ s.1 95 19 ∧ s.1 95 19 ≤ 160 := iv_r95_19 hI
  have b2 : pz_cm ((s.1 100)) ((s.1 95 19)) = pz_cq ((s.1 100)) ((s.1 95 19) - 1) := pz_cqE
  exact sm_221_p7L hQ hI (show (-1 : Int) ≤ (s.1 95 19) - 1 ∧ (s.1 95 19) - 1 ≤ (159 : Int) from by omega) (show pz_cm ((s.1 100)) ((s.1 95 19)) = pz_cq ((s.1 100)) (((s.1 95 19) - 1)) from by omega)
-- fm_223 Model.compareOf 95
theorem sm_223 {Q : Int → lf_Z → Prop} {s : lf_Z} (hI : iv_A s.1 s.2.2) (hQ : ∀ (r : Int), (((-1) ≤ r ∧ r ≤ 15) ∧ (r = -1 ∨ (10 ≤ r ∧ r ≤ 15 ∧ s.1 95 9 ≠ 0))) → Q r s) : fm_223 Q s := by
  unfold fm_223
  have b1 : (-2147483648) ≤ s.1 95 9 ∧ s.1 95 9 ≤ 2147483647 := iv_full hI
  refine ⟨(show lf_R (s.1 95 9) from lf_Rof (by omega)), ?_⟩
  refine ⟨fun c2 => ?_, fun c2 => ?_⟩
  · skip
    replace c2 : s.1 95 9 ≠ 60 := c2
    refine ⟨fun c3 => ?_, fun c3 => ?_⟩
    · skip
      replace c3 : s.1 95 9 ≠ 4 := c3
      refine ⟨fun c4 => ?_, fun c4 => ?_⟩
      · skip
        replace c4 : s.1 95 9 ≠ 62 := c4
        refine ⟨fun c5 => ?_, fun c5 => ?_⟩
        · skip
          replace c5 : s.1 95 9 ≠ 5 := c5
          refine ⟨fun c6 => ?_, fun c6 => ?_⟩
          · skip
            replace c6 : s.1 95 9 ≠ 61 := c6
            refine ⟨fun c7 => ?_, fun c7 => ?_⟩
            · skip
              replace c7 : s.1 95 9 ≠ 35 := c7
              exact hQ (-1) ⟨(show (-1 : Int) ≤ (-1) ∧ (-1) ≤ (15 : Int) from by omega), (show (-1) = -1 ∨ (10 ≤ (-1) ∧ (-1) ≤ 15 ∧ s.1 95 9 ≠ 0) from by omega)⟩
            · skip
              replace c7 : ¬ (s.1 95 9 ≠ 35) := c7
              exact hQ 15 ⟨(show (-1 : Int) ≤ 15 ∧ 15 ≤ (15 : Int) from by omega), (show 15 = -1 ∨ (10 ≤ 15 ∧ 15 ≤ 15 ∧ s.1 95 9 ≠ 0) from by omega)⟩
          · skip
            replace c6 : ¬ (s.1 95 9 ≠ 61) := c6
            exact hQ 14 ⟨(show (-1 : Int) ≤ 14 ∧ 14 ≤ (15 : Int) from by omega), (show 14 = -1 ∨ (10 ≤ 14 ∧ 14 ≤ 15 ∧ s.1 95 9 ≠ 0) from by omega)⟩
        · skip
          replace c5 : ¬ (s.1 95 9 ≠ 5) := c5
          exact hQ 13 ⟨(show (-1 : Int) ≤ 13 ∧ 13 ≤ (15 : Int) from by omega), (show 13 = -1 ∨ (10 ≤ 13 ∧ 13 ≤ 15 ∧ s.1 95 9 ≠ 0) from by omega)⟩
      · skip
        replace c4 : ¬ (s.1 95 9 ≠ 62) := c4
        exact hQ 12 ⟨(show (-1 : Int) ≤ 12 ∧ 12 ≤ (15 : Int) from by omega), (show 12 = -1 ∨ (10 ≤ 12 ∧ 12 ≤ 15 ∧ s.1 95 9 ≠ 0) from by omega)⟩
    · skip
      replace c3 : ¬ (s.1 95 9 ≠ 4) := c3
      exact hQ 11 ⟨(show (-1 : Int) ≤ 11 ∧ 11 ≤ (15 : Int) from by omega), (show 11 = -1 ∨ (10 ≤ 11 ∧ 11 ≤ 15 ∧ s.1 95 9 ≠ 0) from by omega)⟩
  · skip
    replace c2 : ¬ (s.1 95 9 ≠ 60) := c2
    exact hQ 10 ⟨(show (-1 : Int) ≤ 10 ∧ 10 ≤ (15 : Int) from by omega), (show 10 = -1 ∨ (10 ≤ 10 ∧ 10 ≤ 15 ∧ s.1 95 9 ≠ 0) from by omega)⟩
-- fm_218 Model.betweenOf 95
theorem sm_218 {Q : Int → lf_Z → Prop} {s : lf_Z} (hI : iv_A s.1 s.2.2) (hQ : ∀ (r : Int), (((-1) ≤ r ∧ r ≤ 22) ∧ (r = -1 ∨ (s.1 95 9 ≠ 0 ∧ ((4 ≤ r ∧ r ≤ 7) ∨ (10 ≤ r ∧ r ≤ 15 ∧ pz_op (s.1 100) (s.1 95 19) = 41 ∧ pz_cm (s.1 100) (s.1 95 19) ≠ 1) ∨ ((r = 21 ∨ r = 22) ∧ pz_op (s.1 100) (s.1 95 19) = 41 ∧ pz_cm (s.1 100) (s.1 95 19) = 1))))) → Q r s) : fm_218 Q s := by
  unfold fm_218
  have b1 : (-2147483648) ≤ s.1 95 9 ∧ s.1 95 9 ≤ 2147483647 := iv_full hI
  refine ⟨(show lf_R (s.1 95 9) from lf_Rof (by omega)), ?_⟩
  refine ⟨fun c2 => ?_, fun c2 => ?_⟩
  · skip
    replace c2 : s.1 95 9 ≠ 43 := c2
    refine ⟨fun c3 => ?_, fun c3 => ?_⟩
    · skip
      replace c3 : s.1 95 9 ≠ 45 := c3
      refine ⟨fun c4 => ?_, fun c4 => ?_⟩
      · skip
        replace c4 : s.1 95 9 ≠ 42 := c4
        refine ⟨fun c5 => ?_, fun c5 => ?_⟩
        · skip
          replace c5 : s.1 95 9 ≠ 47 := c5
          refine sm_219 hI (fun r23 q6 => ?_)
          obtain ⟨q6, q6x⟩ := q6
          have b7 : 0 ≤ s.1 95 19 ∧ s.1 95 19 ≤ 160 := iv_r95_19 hI
          replace q6x : r23 = pz_op (s.1 100) (s.1 95 19) := q6x
          refine ⟨(show lf_R r23 from lf_Rof (by omega)), ?_⟩
          refine ⟨fun c8 => ?_, fun c8 => ?_⟩
          · skip
            replace c8 : r23 = 41 := c8
            refine sm_221 hI (fun z26 q9 => ?_)
            have b10 : 0 ≤ s.1 95 19 ∧ s.1 95 19 ≤ 160 := iv_r95_19 hI
            refine ⟨fun c11 => ?_, fun c11 => ?_⟩
            · skip
              have dc11 := q9.1 c11
              refine sm_205 hI (show (97 : Int) ≤ 97 ∧ 97 ≤ (119 : Int) from by omega) (show (97 : Int) ≤ 110 ∧ 110 ≤ (117 : Int) from by omega) (show (97 : Int) ≤ 100 ∧ 100 ≤ (122 : Int) from by omega) (fun r28 => ?_)
              refine sm_207 hI (fun z30 q13 => ?_)
              refine ⟨fun c14 => ?_, fun c14 => ?_⟩
              · skip
                have dc14 := q13.2 c14
                refine sm_206 hI (show (97 : Int) ≤ 111 ∧ 111 ≤ (119 : Int) from by omega) (show (97 : Int) ≤ 114 ∧ 114 ≤ (121 : Int) from by omega) (fun r32 => ?_)
                refine sm_207 hI (fun z34 q16 => ?_)
                refine ⟨fun c17 => ?_, fun c17 => ?_⟩
                · skip
                  have dc17 := q16.2 c17
                  exact hQ (-1) ⟨(show (-1 : Int) ≤ (-1) ∧ (-1) ≤ (22 : Int) from by omega), (show (-1) = -1 ∨ (s.1 95 9 ≠ 0 ∧ ((4 ≤ (-1) ∧ (-1) ≤ 7) ∨ (10 ≤ (-1) ∧ (-1) ≤ 15 ∧ pz_op (s.1 100) (s.1 95 19) = 41 ∧ pz_cm (s.1 100) (s.1 95 19) ≠ 1) ∨ (((-1) = 21 ∨ (-1) = 22) ∧ pz_op (s.1 100) (s.1 95 19) = 41 ∧ pz_cm (s.1 100) (s.1 95 19) = 1))) from by omega)⟩
                · skip
                  have dc17 := q16.1 c17
                  exact hQ 22 ⟨(show (-1 : Int) ≤ 22 ∧ 22 ≤ (22 : Int) from by omega), (show 22 = -1 ∨ (s.1 95 9 ≠ 0 ∧ ((4 ≤ 22 ∧ 22 ≤ 7) ∨ (10 ≤ 22 ∧ 22 ≤ 15 ∧ pz_op (s.1 100) (s.1 95 19) = 41 ∧ pz_cm (s.1 100) (s.1 95 19) ≠ 1) ∨ ((22 = 21 ∨ 22 = 22) ∧ pz_op (s.1 100) (s.1 95 19) = 41 ∧ pz_cm (s.1 100) (s.1 95 19) = 1))) from by omega)⟩
              · skip
                have dc14 := q13.1 c14
                exact hQ 21 ⟨(show (-1 : Int) ≤ 21 ∧ 21 ≤ (22 : Int) from by omega), (show 21 = -1 ∨ (s.1 95 9 ≠ 0 ∧ ((4 ≤ 21 ∧ 21 ≤ 7) ∨ (10 ≤ 21 ∧ 21 ≤ 15 ∧ pz_op (s.1 100) (s.1 95 19) = 41 ∧ pz_cm (s.1 100) (s.1 95 19) ≠ 1) ∨ ((21 = 21 ∨ 21 = 22) ∧ pz_op (s.1 100) (s.1 95 19) = 41 ∧ pz_cm (s.1 100) (s.1 95 19) = 1))) from by omega)⟩
            · skip
              have dc11 := q9.2 c11
              refine sm_223 hI (fun r36 q18 => ?_)
              obtain ⟨q18, q18x⟩ := q18
              replace q18x : r36 = -1 ∨ (10 ≤ r36 ∧ r36 ≤ 15 ∧ s.1 95 9 ≠ 0) := q18x
              exact hQ r36 ⟨(show (-1 : Int) ≤ r36 ∧ r36 ≤ (22 : Int) from by omega), (show r36 = -1 ∨ (s.1 95 9 ≠ 0 ∧ ((4 ≤ r36 ∧ r36 ≤ 7) ∨ (10 ≤ r36 ∧ r36 ≤ 15 ∧ pz_op (s.1 100) (s.1 95 19) = 41 ∧ pz_cm (s.1 100) (s.1 95 19) ≠ 1) ∨ ((r36 = 21 ∨ r36 = 22) ∧ pz_op (s.1 100) (s.1 95 19) = 41 ∧ pz_cm (s.1 100) (s.1 95 19) = 1))) from by omega)⟩
          · skip
            replace c8 : ¬ (r23 = 41) := c8
            exact hQ (-1) ⟨(show (-1 : Int) ≤ (-1) ∧ (-1) ≤ (22 : Int) from by omega), (show (-1) = -1 ∨ (s.1 95 9 ≠ 0 ∧ ((4 ≤ (-1) ∧ (-1) ≤ 7) ∨ (10 ≤ (-1) ∧ (-1) ≤ 15 ∧ pz_op (s.1 100) (s.1 95 19) = 41 ∧ pz_cm (s.1 100) (s.1 95 19) ≠ 1) ∨ (((-1) = 21 ∨ (-1) = 22) ∧ pz_op (s.1 100) (s.1 95 19) = 41 ∧ pz_cm (s.1 100) (s.1 95 19) = 1))) from by omega)⟩
        · skip
          replace c5 : ¬ (s.1 95 9 ≠ 47) := c5
          exact hQ 7 ⟨(show (-1 : Int) ≤ 7 ∧ 7 ≤ (22 : Int) from by omega), (show 7 = -1 ∨ (s.1 95 9 ≠ 0 ∧ ((4 ≤ 7 ∧ 7 ≤ 7) ∨ (10 ≤ 7 ∧ 7 ≤ 15 ∧ pz_op (s.1 100) (s.1 95 19) = 41 ∧ pz_cm (s.1 100) (s.1 95 19) ≠ 1) ∨ ((7 = 21 ∨ 7 = 22) ∧ pz_op (s.1 100) (s.1 95 19) = 41 ∧ pz_cm (s.1 100) (s.1 95 19) = 1))) from by omega)⟩
      · skip
        replace c4 : ¬ (s.1 95 9 ≠ 42) := c4
        exact hQ 6 ⟨(show (-1 : Int) ≤ 6 ∧ 6 ≤ (22 : Int) from by omega), (show 6 = -1 ∨ (s.1 95 9 ≠ 0 ∧ ((4 ≤ 6 ∧ 6 ≤ 7) ∨ (10 ≤ 6 ∧ 6 ≤ 15 ∧ pz_op (s.1 100) (s.1 95 19) = 41 ∧ pz_cm (s.1 100) (s.1 95 19) ≠ 1) ∨ ((6 = 21 ∨ 6 = 22) ∧ pz_op (s.1 100) (s.1 95 19) = 41 ∧ pz_cm (s.1 100) (s.1 95 19) = 1))) from by omega)⟩
    · skip
      replace c3 : ¬ (s.1 95 9 ≠ 45) := c3
      exact hQ 5 ⟨(show (-1 : Int) ≤ 5 ∧ 5 ≤ (22 : Int) from by omega), (show 5 = -1 ∨ (s.1 95 9 ≠ 0 ∧ ((4 ≤ 5 ∧ 5 ≤ 7) ∨ (10 ≤ 5 ∧ 5 ≤ 15 ∧ pz_op (s.1 100) (s.1 95 19) = 41 ∧ pz_cm (s.1 100) (s.1 95 19) ≠ 1) ∨ ((5 = 21 ∨ 5 = 22) ∧ pz_op (s.1 100) (s.1 95 19) = 41 ∧ pz_cm (s.1 100) (s.1 95 19) = 1))) from by omega)⟩
  · skip
    replace c2 : ¬ (s.1 95 9 ≠ 43) := c2
    exact hQ 4 ⟨(show (-1 : Int) ≤ 4 ∧ 4 ≤ (22 : Int) from by omega), (show 4 = -1 ∨ (s.1 95 9 ≠ 0 ∧ ((4 ≤ 4 ∧ 4 ≤ 7) ∨ (10 ≤ 4 ∧ 4 ≤ 15 ∧ pz_op (s.1 100) (s.1 95 19) = 41 ∧ pz_cm (s.1 100) (s.1 95 19) ≠ 1) ∨ ((4 = 21 ∨ 4 = 22) ∧ pz_op (s.1 100) (s.1 95 19) = 41 ∧ pz_cm (s.1 100) (s.1 95 19) = 1))) from by omega)⟩
-- fm_226 Model.partOf 95 i
theorem sm_226 {a1 : Int} {Q : Int → lf_Z → Prop} {s : lf_Z} (hI : iv_A s.1 s.2.2) (ba1 : (-1) ≤ a1 ∧ a1 ≤ 45) (hQ : ∀ (r : Int), (((-1) ≤ r ∧ r ≤ 45) ∧ (r = -1 ∨ (s.1 95 9 ≠ 0 ∧ ((a1 = 40 ∧ r = 0) ∨ (a1 = 41 ∧ r = 42 ∧ pz_cm (s.1 100) (s.1 95 19) = 1) ∨ (a1 = 42 ∧ r = 43) ∨ (a1 = 44 ∧ r = 45) ∨ (a1 ≠ -1 ∧ a1 ≠ 40 ∧ a1 ≠ 41 ∧ a1 ≠ 42 ∧ a1 ≠ 44 ∧ r = 0))))) → Q r s) : fm_226 a1 Q s := by
  unfold fm_226
  refine ⟨(show lf_R a1 from lf_Rof (by omega)), ?_⟩
  refine ⟨fun c1 => ?_, fun c1 => ?_, fun c1 => ?_, fun c1 => ?_, fun c1 => ?_, fun c1 => ?_⟩
  · replace c1 : a1 ≠ (-1) ∧ a1 ≠ 40 ∧ a1 ≠ 41 ∧ a1 ≠ 42 ∧ a1 ≠ 44 := c1
    refine sm_205 hI (show (97 : Int) ≤ 101 ∧ 101 ≤ (119 : Int) from by omega) (show (97 : Int) ≤ 110 ∧ 110 ≤ (117 : Int) from by omega) (show (97 : Int) ≤ 100 ∧ 100 ≤ (122 : Int) from by omega) (fun r23 => ?_)
    refine sm_207 hI (fun z25 q3 => ?_)
    have b4 : (-2147483648) ≤ s.1 95 9 ∧ s.1 95 9 ≤ 2147483647 := iv_full hI
    refine ⟨fun c5 => ?_, fun c5 => ?_⟩
    · skip
      have dc5 := q3.2 c5
      exact hQ (-1) ⟨(show (-1 : Int) ≤ (-1) ∧ (-1) ≤ (45 : Int) from by omega), (show (-1) = -1 ∨ (s.1 95 9 ≠ 0 ∧ ((a1 = 40 ∧ (-1) = 0) ∨ (a1 = 41 ∧ (-1) = 42 ∧ pz_cm (s.1 100) (s.1 95 19) = 1) ∨ (a1 = 42 ∧ (-1) = 43) ∨ (a1 = 44 ∧ (-1) = 45) ∨ (a1 ≠ -1 ∧ a1 ≠ 40 ∧ a1 ≠ 41 ∧ a1 ≠ 42 ∧ a1 ≠ 44 ∧ (-1) = 0))) from by omega)⟩
    · skip
      have dc5 := q3.1 c5
      exact hQ 0 ⟨(show (-1 : Int) ≤ 0 ∧ 0 ≤ (45 : Int) from by omega), (show 0 = -1 ∨ (s.1 95 9 ≠ 0 ∧ ((a1 = 40 ∧ 0 = 0) ∨ (a1 = 41 ∧ 0 = 42 ∧ pz_cm (s.1 100) (s.1 95 19) = 1) ∨ (a1 = 42 ∧ 0 = 43) ∨ (a1 = 44 ∧ 0 = 45) ∨ (a1 ≠ -1 ∧ a1 ≠ 40 ∧ a1 ≠ 41 ∧ a1 ≠ 42 ∧ a1 ≠ 44 ∧ 0 = 0))) from by omega)⟩
  · replace c1 : a1 = (-1) := c1
    exact hQ (-1) ⟨(show (-1 : Int) ≤ (-1) ∧ (-1) ≤ (45 : Int) from by omega), (show (-1) = -1 ∨ (s.1 95 9 ≠ 0 ∧ ((a1 = 40 ∧ (-1) = 0) ∨ (a1 = 41 ∧ (-1) = 42 ∧ pz_cm (s.1 100) (s.1 95 19) = 1) ∨ (a1 = 42 ∧ (-1) = 43) ∨ (a1 = 44 ∧ (-1) = 45) ∨ (a1 ≠ -1 ∧ a1 ≠ 40 ∧ a1 ≠ 41 ∧ a1 ≠ 42 ∧ a1 ≠ 44 ∧ (-1) = 0))) from by omega)⟩
  · replace c1 : a1 = 40 := c1
    have b6 : (-2147483648) ≤ s.1 95 9 ∧ s.1 95 9 ≤ 2147483647 := iv_full hI
    refine ⟨(show lf_R (s.1 95 9) from lf_Rof (by omega)), ?_⟩
    refine ⟨fun c7 => ?_, fun c7 => ?_⟩
    · skip
      replace c7 : s.1 95 9 ≠ 41 := c7
      exact hQ (-1) ⟨(show (-1 : Int) ≤ (-1) ∧ (-1) ≤ (45 : Int) from by omega), (show (-1) = -1 ∨ (s.1 95 9 ≠ 0 ∧ ((a1 = 40 ∧ (-1) = 0) ∨ (a1 = 41 ∧ (-1) = 42 ∧ pz_cm (s.1 100) (s.1 95 19) = 1) ∨ (a1 = 42 ∧ (-1) = 43) ∨ (a1 = 44 ∧ (-1) = 45) ∨ (a1 ≠ -1 ∧ a1 ≠ 40 ∧ a1 ≠ 41 ∧ a1 ≠ 42 ∧ a1 ≠ 44 ∧ (-1) = 0))) from by omega)⟩
    · skip
      replace c7 : ¬ (s.1 95 9 ≠ 41) := c7
      exact hQ 0 ⟨(show (-1 : Int) ≤ 0 ∧ 0 ≤ (45 : Int) from by omega), (show 0 = -1 ∨ (s.1 95 9 ≠ 0 ∧ ((a1 = 40 ∧ 0 = 0) ∨ (a1 = 41 ∧ 0 = 42 ∧ pz_cm (s.1 100) (s.1 95 19) = 1) ∨ (a1 = 42 ∧ 0 = 43) ∨ (a1 = 44 ∧ 0 = 45) ∨ (a1 ≠ -1 ∧ a1 ≠ 40 ∧ a1 ≠ 41 ∧ a1 ≠ 42 ∧ a1 ≠ 44 ∧ 0 = 0))) from by omega)⟩
  · replace c1 : a1 = 41 := c1
    refine sm_204 hI (show (97 : Int) ≤ 116 ∧ 116 ≤ (116 : Int) from by omega) (show (97 : Int) ≤ 104 ∧ 104 ≤ (117 : Int) from by omega) (show (97 : Int) ≤ 101 ∧ 101 ≤ (122 : Int) from by omega) (show (97 : Int) ≤ 110 ∧ 110 ≤ (117 : Int) from by omega) (fun r28 => ?_)
    refine sm_207 hI (fun z30 q9 => ?_)
    have b10 : (-2147483648) ≤ s.1 95 9 ∧ s.1 95 9 ≤ 2147483647 := iv_full hI
    refine ⟨fun c11 => ?_, fun c11 => ?_⟩
    · skip
      have dc11 := q9.2 c11
      exact hQ (-1) ⟨(show (-1 : Int) ≤ (-1) ∧ (-1) ≤ (45 : Int) from by omega), (show (-1) = -1 ∨ (s.1 95 9 ≠ 0 ∧ ((a1 = 40 ∧ (-1) = 0) ∨ (a1 = 41 ∧ (-1) = 42 ∧ pz_cm (s.1 100) (s.1 95 19) = 1) ∨ (a1 = 42 ∧ (-1) = 43) ∨ (a1 = 44 ∧ (-1) = 45) ∨ (a1 ≠ -1 ∧ a1 ≠ 40 ∧ a1 ≠ 41 ∧ a1 ≠ 42 ∧ a1 ≠ 44 ∧ (-1) = 0))) from by omega)⟩
    · skip
      have dc11 := q9.1 c11
      refine sm_221 hI (fun z32 q12 => ?_)
      have b13 : 0 ≤ s.1 95 19 ∧ s.1 95 19 ≤ 160 := iv_r95_19 hI
      refine ⟨fun c14 => ?_, fun c14 => ?_⟩
      · skip
        have dc14 := q12.2 c14
        exact hQ (-1) ⟨(show (-1 : Int) ≤ (-1) ∧ (-1) ≤ (45 : Int) from by omega), (show (-1) = -1 ∨ (s.1 95 9 ≠ 0 ∧ ((a1 = 40 ∧ (-1) = 0) ∨ (a1 = 41 ∧ (-1) = 42 ∧ pz_cm (s.1 100) (s.1 95 19) = 1) ∨ (a1 = 42 ∧ (-1) = 43) ∨ (a1 = 44 ∧ (-1) = 45) ∨ (a1 ≠ -1 ∧ a1 ≠ 40 ∧ a1 ≠ 41 ∧ a1 ≠ 42 ∧ a1 ≠ 44 ∧ (-1) = 0))) from by omega)⟩
      · skip
        have dc14 := q12.1 c14
        exact hQ 42 ⟨(show (-1 : Int) ≤ 42 ∧ 42 ≤ (45 : Int) from by omega), (show 42 = -1 ∨ (s.1 95 9 ≠ 0 ∧ ((a1 = 40 ∧ 42 = 0) ∨ (a1 = 41 ∧ 42 = 42 ∧ pz_cm (s.1 100) (s.1 95 19) = 1) ∨ (a1 = 42 ∧ 42 = 43) ∨ (a1 = 44 ∧ 42 = 45) ∨ (a1 ≠ -1 ∧ a1 ≠ 40 ∧ a1 ≠ 41 ∧ a1 ≠ 42 ∧ a1 ≠ 44 ∧ 42 = 0))) from by omega)⟩
  · replace c1 : a1 = 42 := c1
    refine sm_204 hI (show (97 : Int) ≤ 101 ∧ 101 ≤ (116 : Int) from by omega) (show (97 : Int) ≤ 108 ∧ 108 ≤ (117 : Int) from by omega) (show (97 : Int) ≤ 115 ∧ 115 ≤ (122 : Int) from by omega) (show (97 : Int) ≤ 101 ∧ 101 ≤ (117 : Int) from by omega) (fun r34 => ?_)
    refine sm_207 hI (fun z36 q16 => ?_)
    have b17 : (-2147483648) ≤ s.1 95 9 ∧ s.1 95 9 ≤ 2147483647 := iv_full hI
    refine ⟨fun c18 => ?_, fun c18 => ?_⟩
    · skip
      have dc18 := q16.2 c18
      exact hQ (-1) ⟨(show (-1 : Int) ≤ (-1) ∧ (-1) ≤ (45 : Int) from by omega), (show (-1) = -1 ∨ (s.1 95 9 ≠ 0 ∧ ((a1 = 40 ∧ (-1) = 0) ∨ (a1 = 41 ∧ (-1) = 42 ∧ pz_cm (s.1 100) (s.1 95 19) = 1) ∨ (a1 = 42 ∧ (-1) = 43) ∨ (a1 = 44 ∧ (-1) = 45) ∨ (a1 ≠ -1 ∧ a1 ≠ 40 ∧ a1 ≠ 41 ∧ a1 ≠ 42 ∧ a1 ≠ 44 ∧ (-1) = 0))) from by omega)⟩
    · skip
      have dc18 := q16.1 c18
      exact hQ 43 ⟨(show (-1 : Int) ≤ 43 ∧ 43 ≤ (45 : Int) from by omega), (show 43 = -1 ∨ (s.1 95 9 ≠ 0 ∧ ((a1 = 40 ∧ 43 = 0) ∨ (a1 = 41 ∧ 43 = 42 ∧ pz_cm (s.1 100) (s.1 95 19) = 1) ∨ (a1 = 42 ∧ 43 = 43) ∨ (a1 = 44 ∧ 43 = 45) ∨ (a1 ≠ -1 ∧ a1 ≠ 40 ∧ a1 ≠ 41 ∧ a1 ≠ 42 ∧ a1 ≠ 44 ∧ 43 = 0))) from by omega)⟩
  · replace c1 : a1 = 44 := c1
    refine sm_206 hI (show (97 : Int) ≤ 105 ∧ 105 ≤ (119 : Int) from by omega) (show (97 : Int) ≤ 110 ∧ 110 ≤ (121 : Int) from by omega) (fun r38 => ?_)
    refine sm_207 hI (fun z40 q20 => ?_)
    have b21 : (-2147483648) ≤ s.1 95 9 ∧ s.1 95 9 ≤ 2147483647 := iv_full hI
    refine ⟨fun c22 => ?_, fun c22 => ?_⟩
    · skip
      have dc22 := q20.2 c22
      exact hQ (-1) ⟨(show (-1 : Int) ≤ (-1) ∧ (-1) ≤ (45 : Int) from by omega), (show (-1) = -1 ∨ (s.1 95 9 ≠ 0 ∧ ((a1 = 40 ∧ (-1) = 0) ∨ (a1 = 41 ∧ (-1) = 42 ∧ pz_cm (s.1 100) (s.1 95 19) = 1) ∨ (a1 = 42 ∧ (-1) = 43) ∨ (a1 = 44 ∧ (-1) = 45) ∨ (a1 ≠ -1 ∧ a1 ≠ 40 ∧ a1 ≠ 41 ∧ a1 ≠ 42 ∧ a1 ≠ 44 ∧ (-1) = 0))) from by omega)⟩
    · skip
      have dc22 := q20.1 c22
      exact hQ 45 ⟨(show (-1 : Int) ≤ 45 ∧ 45 ≤ (45 : Int) from by omega), (show 45 = -1 ∨ (s.1 95 9 ≠ 0 ∧ ((a1 = 40 ∧ 45 = 0) ∨ (a1 = 41 ∧ 45 = 42 ∧ pz_cm (s.1 100) (s.1 95 19) = 1) ∨ (a1 = 42 ∧ 45 = 43) ∨ (a1 = 44 ∧ 45 = 45) ∨ (a1 ≠ -1 ∧ a1 ≠ 40 ∧ a1 ≠ 41 ∧ a1 ≠ 42 ∧ a1 ≠ 44 ∧ 45 = 0))) from by omega)⟩
-- fm_228 Model.shut 95 i
theorem sm_228_p32 {Q : lf_Z → Prop} {x1 : Int} {s : lf_Z} {s0 : lf_Z} (hQ : ∀  (s' : lf_Z), iv_A s'.1 s'.2.2 → lf_fq [95, 98, 103] 1000000 true s.1 s.2.2 s'.1 s'.2.2 → (pz_Y (s'.1 100) (s'.1 98) (s'.1 95 12) (s'.1 95 13) (s'.1 95 19) (s'.1 95 20) (s'.1 95 21) (s'.1 95 22) (s'.1 95 8) (s0.1 98 (s0.1 95 12)) (1) (0)) → (s'.1 95 7 = s0.1 95 7 ∧ s'.1 95 8 = s0.1 95 8 ∧ s'.1 95 9 = s0.1 95 9 ∧ s'.1 95 12 = s0.1 95 12 ∧ s'.1 95 22 = s0.1 95 22 ∧ s'.1 95 23 = s0.1 95 23) → Q  s') (hI : iv_A s.1 s.2.2) (bx1 : (-1) ≤ x1 ∧ x1 ≤ 45) (kv0 : pz_Y (s.1 100) (s.1 98) (s.1 95 12) (s.1 95 13) (s.1 95 19) (s.1 95 20) (s.1 95 21 - pz_vl x1) (s.1 95 22) (s.1 95 8) (s0.1 98 (s0.1 95 12)) (1) (0)) (kv1 : x1 = 40 ∨ x1 = 43 ∨ x1 = 45) (kv2 : x1 ≠ 45 ∨ 1 ≤ s.1 95 21) (kv3 : s.1 95 7 = s0.1 95 7 ∧ s.1 95 8 = s0.1 95 8 ∧ s.1 95 9 = s0.1 95 9 ∧ s.1 95 12 = s0.1 95 12 ∧ s.1 95 22 = s0.1 95 22 ∧ s.1 95 23 = s0.1 95 23) : fm_228_p32 Q x1 s := by
  unfold fm_228_p32
  have b41 : (pz_vo x1 = 1 ∧ (x1 = 3 ∨ x1 = 20 ∨ 40 ≤ x1) ∨ pz_vo x1 = 0 ∧ x1 ≠ 3 ∧ x1 ≠ 20 ∧ x1 < 40) ∧ (pz_vl x1 = 1 ∧ (x1 = 44 ∨ x1 = 45) ∨ pz_vl x1 = 0 ∧ x1 ≠ 44 ∧ x1 ≠ 45) ∧ (pz_v4 x1 = 1 ∧ x1 = 44 ∨ pz_v4 x1 = 0 ∧ x1 ≠ 44) := pz_vE _
  refine ⟨(show lf_R x1 from lf_Rof (by omega)), ?_⟩
  refine ⟨fun c42 => ?_, fun c42 => ?_⟩
  · skip
    replace c42 : x1 ≠ 45 := c42
    have b43 : 0 ≤ s.1 95 12 ∧ s.1 95 12 ≤ 2115 := iv_r95_12 hI
    have b44 : 0 ≤ s.1 95 13 ∧ s.1 95 13 ≤ 304 := iv_r95_13 hI
    have b45 : 0 ≤ s.1 95 19 ∧ s.1 95 19 ≤ 160 := iv_r95_19 hI
    have b46 : 0 ≤ s.1 95 20 ∧ s.1 95 20 ≤ 8 := iv_r95_20 hI
    have b47 : 0 ≤ s.1 95 21 ∧ s.1 95 21 ≤ 8 := iv_r95_21 hI
    have b48 : 0 ≤ s.1 95 22 ∧ s.1 95 22 ≤ 80 := iv_r95_22 hI
    have b49 : 0 ≤ s.1 95 8 ∧ s.1 95 8 ≤ 300 := iv_r95_8 hI
    have b50 : pz_Y ((s.1 100)) ((s.1 98)) ((s.1 95 12)) ((s.1 95 13)) ((s.1 95 19)) ((s.1 95 20)) ((s.1 95 21)) ((s.1 95 22)) ((s.1 95 8)) (s0.1 98 (s0.1 95 12)) (1) (0) := pz_cg rfl rfl kv0 rfl rfl rfl rfl (by omega) rfl (Int.le_refl _) rfl rfl rfl
    exact hQ s hI (lf_fq_rf) (show pz_Y ((s.1 100)) ((s.1 98)) ((s.1 95 12)) ((s.1 95 13)) ((s.1 95 19)) ((s.1 95 20)) ((s.1 95 21)) ((s.1 95 22)) ((s.1 95 8)) (s0.1 98 (s0.1 95 12)) (1) (0) from by first | with_reducible assumption | assumption) (show (s.1 95 7) = s0.1 95 7 ∧ (s.1 95 8) = s0.1 95 8 ∧ (s.1 95 9) = s0.1 95 9 ∧ (s.1 95 12) = s0.1 95 12 ∧ (s.1 95 22) = s0.1 95 22 ∧ (s.1 95 23) = s0.1 95 23 from by omega)
  · skip
    replace c42 : ¬ (x1 ≠ 45) := c42
    have b51 : 0 ≤ s.1 95 21 ∧ s.1 95 21 ≤ 8 := iv_r95_21 hI
    have hI52 : iv_A (lf_up s.1 95 21 ((s.1 95 21) - 1)) s.2.2 := iv_w95_21 hI (by omega)
    have fr53 : lf_fq [95, 98, 103] 1000000 true s.1 s.2.2 (lf_up s.1 95 21 ((s.1 95 21) - 1)) s.2.2 := lf_fq_up (lf_fq_rf) rfl (fun h => absurd h (by decide))
    refine ⟨(show (0 : Int) ≤ (s.1 95 21) - 1 ∧ (s.1 95 21) - 1 < (10 : Int) from by omega), ?_⟩
    have b54 : 0 ≤ s.1 101 ((s.1 95 21) - 1) ∧ s.1 101 ((s.1 95 21) - 1) ≤ 25 := (show 0 ≤ (lf_up s.1 95 21 ((s.1 95 21) - 1)) 101 ((s.1 95 21) - 1) ∧ (lf_up s.1 95 21 ((s.1 95 21) - 1)) 101 ((s.1 95 21) - 1) ≤ 25 from iv_r101 hI52 _)
    have b55 : (-1) ≤ s.1 102 ((s.1 95 21) - 1) ∧ s.1 102 ((s.1 95 21) - 1) ≤ 79 := (show (-1) ≤ (lf_up s.1 95 21 ((s.1 95 21) - 1)) 102 ((s.1 95 21) - 1) ∧ (lf_up s.1 95 21 ((s.1 95 21) - 1)) 102 ((s.1 95 21) - 1) ≤ 79 from iv_r102 hI52 _)
    refine ⟨(show (0 : Int) ≤ s.1 101 ((s.1 95 21) - 1) ∧ s.1 101 ((s.1 95 21) - 1) < (26 : Int) from by omega), ?_⟩
    have hI56 : iv_A (lf_up (lf_up s.1 95 21 ((s.1 95 21) - 1)) 103 (s.1 101 ((s.1 95 21) - 1)) (s.1 102 ((s.1 95 21) - 1))) s.2.2 := iv_w103 hI52 (by omega)
    have fr57 : lf_fq [95, 98, 103] 1000000 true s.1 s.2.2 (lf_up (lf_up s.1 95 21 ((s.1 95 21) - 1)) 103 (s.1 101 ((s.1 95 21) - 1)) (s.1 102 ((s.1 95 21) - 1))) s.2.2 := lf_fq_up fr53 rfl (fun h => absurd h (by decide))
    have b58 : 0 ≤ s.1 95 12 ∧ s.1 95 12 ≤ 2115 := (show 0 ≤ (lf_up (lf_up s.1 95 21 ((s.1 95 21) - 1)) 103 (s.1 101 ((s.1 95 21) - 1)) (s.1 102 ((s.1 95 21) - 1))) 95 12 ∧ (lf_up (lf_up s.1 95 21 ((s.1 95 21) - 1)) 103 (s.1 101 ((s.1 95 21) - 1)) (s.1 102 ((s.1 95 21) - 1))) 95 12 ≤ 2115 from iv_r95_12 hI56)
    have b59 : (lf_up s.1 95 21 ((s.1 95 21) - 1)) 95 12 = s.1 95 12 := lf_up_i (by omega)
    have b60 : 0 ≤ s.1 95 13 ∧ s.1 95 13 ≤ 304 := (show 0 ≤ (lf_up (lf_up s.1 95 21 ((s.1 95 21) - 1)) 103 (s.1 101 ((s.1 95 21) - 1)) (s.1 102 ((s.1 95 21) - 1))) 95 13 ∧ (lf_up (lf_up s.1 95 21 ((s.1 95 21) - 1)) 103 (s.1 101 ((s.1 95 21) - 1)) (s.1 102 ((s.1 95 21) - 1))) 95 13 ≤ 304 from iv_r95_13 hI56)
    have b61 : (lf_up s.1 95 21 ((s.1 95 21) - 1)) 95 13 = s.1 95 13 := lf_up_i (by omega)
    have b62 : 0 ≤ s.1 95 19 ∧ s.1 95 19 ≤ 160 := (show 0 ≤ (lf_up (lf_up s.1 95 21 ((s.1 95 21) - 1)) 103 (s.1 101 ((s.1 95 21) - 1)) (s.1 102 ((s.1 95 21) - 1))) 95 19 ∧ (lf_up (lf_up s.1 95 21 ((s.1 95 21) - 1)) 103 (s.1 101 ((s.1 95 21) - 1)) (s.1 102 ((s.1 95 21) - 1))) 95 19 ≤ 160 from iv_r95_19 hI56)
    have b63 : (lf_up s.1 95 21 ((s.1 95 21) - 1)) 95 19 = s.1 95 19 := lf_up_i (by omega)
    have b64 : 0 ≤ s.1 95 20 ∧ s.1 95 20 ≤ 8 := (show 0 ≤ (lf_up (lf_up s.1 95 21 ((s.1 95 21) - 1)) 103 (s.1 101 ((s.1 95 21) - 1)) (s.1 102 ((s.1 95 21) - 1))) 95 20 ∧ (lf_up (lf_up s.1 95 21 ((s.1 95 21) - 1)) 103 (s.1 101 ((s.1 95 21) - 1)) (s.1 102 ((s.1 95 21) - 1))) 95 20 ≤ 8 from iv_r95_20 hI56)
    have b65 : (lf_up s.1 95 21 ((s.1 95 21) - 1)) 95 20 = s.1 95 20 := lf_up_i (by omega)
    have b66 : 0 ≤ s.1 95 22 ∧ s.1 95 22 ≤ 80 := (show 0 ≤ (lf_up (lf_up s.1 95 21 ((s.1 95 21) - 1)) 103 (s.1 101 ((s.1 95 21) - 1)) (s.1 102 ((s.1 95 21) - 1))) 95 22 ∧ (lf_up (lf_up s.1 95 21 ((s.1 95 21) - 1)) 103 (s.1 101 ((s.1 95 21) - 1)) (s.1 102 ((s.1 95 21) - 1))) 95 22 ≤ 80 from iv_r95_22 hI56)
    have b67 : (lf_up s.1 95 21 ((s.1 95 21) - 1)) 95 22 = s.1 95 22 := lf_up_i (by omega)
    have b68 : 0 ≤ s.1 95 8 ∧ s.1 95 8 ≤ 300 := (show 0 ≤ (lf_up (lf_up s.1 95 21 ((s.1 95 21) - 1)) 103 (s.1 101 ((s.1 95 21) - 1)) (s.1 102 ((s.1 95 21) - 1))) 95 8 ∧ (lf_up (lf_up s.1 95 21 ((s.1 95 21) - 1)) 103 (s.1 101 ((s.1 95 21) - 1)) (s.1 102 ((s.1 95 21) - 1))) 95 8 ≤ 300 from iv_r95_8 hI56)
    have b69 : (lf_up s.1 95 21 ((s.1 95 21) - 1)) 95 8 = s.1 95 8 := lf_up_i (by omega)
    have b70 : pz_Y ((s.1 100)) ((s.1 98)) ((s.1 95 12)) ((s.1 95 13)) ((s.1 95 19)) ((s.1 95 20)) (((s.1 95 21) - 1)) ((s.1 95 22)) ((s.1 95 8)) (s0.1 98 (s0.1 95 12)) (1) (0) := pz_cg rfl rfl kv0 rfl rfl rfl rfl (by omega) rfl (Int.le_refl _) rfl rfl rfl
    exact hQ (lf_up (lf_up s.1 95 21 ((s.1 95 21) - 1)) 103 (s.1 101 ((s.1 95 21) - 1)) (s.1 102 ((s.1 95 21) - 1)), s.2.1, s.2.2) hI56 fr57 (show pz_Y ((s.1 100)) ((s.1 98)) ((s.1 95 12)) ((s.1 95 13)) ((s.1 95 19)) ((s.1 95 20)) (((s.1 95 21) - 1)) ((s.1 95 22)) ((s.1 95 8)) (s0.1 98 (s0.1 95 12)) (1) (0) from by first | with_reducible assumption | assumption) (show (s.1 95 7) = s0.1 95 7 ∧ (s.1 95 8) = s0.1 95 8 ∧ (s.1 95 9) = s0.1 95 9 ∧ (s.1 95 12) = s0.1 95 12 ∧ (s.1 95 22) = s0.1 95 22 ∧ (s.1 95 23) = s0.1 95 23 from by omega)
theorem sm_228 {a1 : Int} {Q : lf_Z → Prop} {s : lf_Z} (hI : iv_A s.1 s.2.2) (ba1 : (-1) ≤ a1 ∧ a1 ≤ 45) (kp0 : pz_Y (s.1 100) (s.1 98) (s.1 95 12) (s.1 95 13) (s.1 95 19) (s.1 95 20) (s.1 95 21) (s.1 95 22) (s.1 95 8) (s.1 98 (s.1 95 12)) (1) (0)) (kp1 : 0 < s.1 95 19 ∧ s.1 100 (s.1 95 19 - 1) = a1) (kp2 : a1 = 40 ∨ a1 = 43 ∨ a1 = 45) (hQ : ∀  (s' : lf_Z), iv_A s'.1 s'.2.2 → lf_fq [95, 98, 103] 1000000 true s.1 s.2.2 s'.1 s'.2.2 → (pz_Y (s'.1 100) (s'.1 98) (s'.1 95 12) (s'.1 95 13) (s'.1 95 19) (s'.1 95 20) (s'.1 95 21) (s'.1 95 22) (s'.1 95 8) (s.1 98 (s.1 95 12)) (1) (0)) → (s'.1 95 7 = s.1 95 7 ∧ s'.1 95 8 = s.1 95 8 ∧ s'.1 95 9 = s.1 95 9 ∧ s'.1 95 12 = s.1 95 12 ∧ s'.1 95 22 = s.1 95 22 ∧ s'.1 95 23 = s.1 95 23) → Q  s') : fm_228 a1 Q s := by
  unfold fm_228
  have b1 : 0 ≤ s.1 95 19 ∧ s.1 95 19 ≤ 160 := iv_r95_19 hI
  have b2 : 0 ≤ s.1 95 20 ∧ s.1 95 20 ≤ 8 := iv_r95_20 hI
  have b3 : 0 ≤ s.1 95 21 ∧ s.1 95 21 ≤ 8 := iv_r95_21 hI
  have b4 : 0 ≤ s.1 95 13 ∧ s.1 95 13 ≤ 304 := iv_r95_13 hI
  have b5 : 0 ≤ s.1 95 8 ∧ s.1 95 8 ≤ 300 := iv_r95_8 hI
  have b6 : 0 ≤ s.1 95 22 ∧ s.1 95 22 ≤ 80 := iv_r95_22 hI
  have b7 : 0 ≤ s.1 95 12 ∧ s.1 95 12 ≤ 2115 := iv_r95_12 hI
  have b8 : 0 ≤ (s.1 95 19) ∧ (s.1 95 19) ≤ 6 * (s.1 95 20) + 5 ∧ 0 ≤ (s.1 95 20) ∧ 0 ≤ (s.1 95 21) ∧ (s.1 95 21) ≤ (s.1 95 20) ∧ 0 ≤ (s.1 95 13) ∧ (s.1 95 13) + (s.1 95 19) ≤ (s.1 95 8) ∧ 4 * (s.1 95 22) + 3 * pz_4 ((s.1 100)) ((s.1 95 19)) ≤ (s.1 95 8) ∧ 0 ≤ pz_4 ((s.1 100)) ((s.1 95 19)) ∧ (s.1 98) ((s.1 95 12)) = (s.1 98) ((s.1 95 12)) ∧ 0 ≤ (s.1 98) ((s.1 95 12)) ∧ (s.1 98) ((s.1 95 12)) < 24 := pz_Yn2 kp0
  have b9 : wk_E ((s.1 98)) ((s.1 95 12)) ((s.1 95 13)) := pz_YE kp0
  have b10 : (s.1 95 8) ≤ 300 := (iv_r95_8 hI).2
  have b11 : (pz_vo a1 = 1 ∧ (a1 = 3 ∨ a1 = 20 ∨ 40 ≤ a1) ∨ pz_vo a1 = 0 ∧ a1 ≠ 3 ∧ a1 ≠ 20 ∧ a1 < 40) ∧ (pz_vl a1 = 1 ∧ (a1 = 44 ∨ a1 = 45) ∨ pz_vl a1 = 0 ∧ a1 ≠ 44 ∧ a1 ≠ 45) ∧ (pz_v4 a1 = 1 ∧ a1 = 44 ∨ pz_v4 a1 = 0 ∧ a1 ≠ 44) := pz_vE _
  have b12 : 1 ≤ (s.1 95 20) := pz_Yo kp0 (by omega) (by omega)
  have b13 : pz_vl ((s.1 100) ((s.1 95 19) - 1)) ≤ (s.1 95 21) := pz_Yl kp0 (by omega)
  have b14 : pz_vl ((s.1 100) ((s.1 95 19) - 1)) = pz_vl a1 := congrArg pz_vl kp1.2
  have hI15 : iv_A (lf_up s.1 95 19 ((s.1 95 19) - 1)) s.2.2 := iv_w95_19 hI (by omega)
  have fr16 : lf_fq [95, 98, 103] 1000000 true s.1 s.2.2 (lf_up s.1 95 19 ((s.1 95 19) - 1)) s.2.2 := lf_fq_up (lf_fq_rf) rfl (fun h => absurd h (by decide))
  have b17 : (lf_up s.1 95 19 ((s.1 95 19) - 1)) 95 20 = s.1 95 20 := lf_up_i (by omega)
  have hI18 : iv_A (lf_up (lf_up s.1 95 19 ((s.1 95 19) - 1)) 95 20 ((s.1 95 20) - 1)) s.2.2 := iv_w95_20 hI15 (by omega)
  have fr19 : lf_fq [95, 98, 103] 1000000 true s.1 s.2.2 (lf_up (lf_up s.1 95 19 ((s.1 95 19) - 1)) 95 20 ((s.1 95 20) - 1)) s.2.2 := lf_fq_up fr16 rfl (fun h => absurd h (by decide))
  refine ⟨(show lf_R a1 from lf_Rof (by omega)), ?_⟩
  refine ⟨fun c20 => ?_, fun c20 => ?_⟩
  · skip
    replace c20 : a1 ≠ 43 := c20
    have b21 : (lf_up (lf_up s.1 95 19 ((s.1 95 19) - 1)) 95 20 ((s.1 95 20) - 1)) 95 12 = (lf_up s.1 95 19 ((s.1 95 19) - 1)) 95 12 := lf_up_i (by omega)
    have b22 : (lf_up s.1 95 19 ((s.1 95 19) - 1)) 95 12 = s.1 95 12 := lf_up_i (by omega)
    have b23 : (lf_up (lf_up s.1 95 19 ((s.1 95 19) - 1)) 95 20 ((s.1 95 20) - 1)) 95 13 = (lf_up s.1 95 19 ((s.1 95 19) - 1)) 95 13 := lf_up_i (by omega)
    have b24 : (lf_up s.1 95 19 ((s.1 95 19) - 1)) 95 13 = s.1 95 13 := lf_up_i (by omega)
    have b25 : (lf_up (lf_up s.1 95 19 ((s.1 95 19) - 1)) 95 20 ((s.1 95 20) - 1)) 95 21 = (lf_up s.1 95 19 ((s.1 95 19) - 1)) 95 21 := lf_up_i (by omega)
    have b26 : (lf_up s.1 95 19 ((s.1 95 19) - 1)) 95 21 = s.1 95 21 := lf_up_i (by omega)
    have b27 : (lf_up (lf_up s.1 95 19 ((s.1 95 19) - 1)) 95 20 ((s.1 95 20) - 1)) 95 22 = (lf_up s.1 95 19 ((s.1 95 19) - 1)) 95 22 := lf_up_i (by omega)
    have b28 : (lf_up s.1 95 19 ((s.1 95 19) - 1)) 95 22 = s.1 95 22 := lf_up_i (by omega)
    have b29 : (lf_up (lf_up s.1 95 19 ((s.1 95 19) - 1)) 95 20 ((s.1 95 20) - 1)) 95 8 = (lf_up s.1 95 19 ((s.1 95 19) - 1)) 95 8 := lf_up_i (by omega)
    have b30 : (lf_up s.1 95 19 ((s.1 95 19) - 1)) 95 8 = s.1 95 8 := lf_up_i (by omega)
    have b31 : 0 ≤ s.1 95 7 ∧ s.1 95 7 ≤ 300 := (show 0 ≤ (lf_up (lf_up s.1 95 19 ((s.1 95 19) - 1)) 95 20 ((s.1 95 20) - 1)) 95 7 ∧ (lf_up (lf_up s.1 95 19 ((s.1 95 19) - 1)) 95 20 ((s.1 95 20) - 1)) 95 7 ≤ 300 from iv_r95_7 hI18)
    have b32 : (lf_up (lf_up s.1 95 19 ((s.1 95 19) - 1)) 95 20 ((s.1 95 20) - 1)) 95 7 = (lf_up s.1 95 19 ((s.1 95 19) - 1)) 95 7 := lf_up_i (by omega)
    have b33 : (lf_up s.1 95 19 ((s.1 95 19) - 1)) 95 7 = s.1 95 7 := lf_up_i (by omega)
    have b34 : (-2147483648) ≤ s.1 95 9 ∧ s.1 95 9 ≤ 2147483647 := (show (-2147483648) ≤ (lf_up (lf_up s.1 95 19 ((s.1 95 19) - 1)) 95 20 ((s.1 95 20) - 1)) 95 9 ∧ (lf_up (lf_up s.1 95 19 ((s.1 95 19) - 1)) 95 20 ((s.1 95 20) - 1)) 95 9 ≤ 2147483647 from iv_full hI18)
    have b35 : (lf_up (lf_up s.1 95 19 ((s.1 95 19) - 1)) 95 20 ((s.1 95 20) - 1)) 95 9 = (lf_up s.1 95 19 ((s.1 95 19) - 1)) 95 9 := lf_up_i (by omega)
    have b36 : (lf_up s.1 95 19 ((s.1 95 19) - 1)) 95 9 = s.1 95 9 := lf_up_i (by omega)
    have b37 : 0 ≤ s.1 95 23 ∧ s.1 95 23 ≤ 1 := (show 0 ≤ (lf_up (lf_up s.1 95 19 ((s.1 95 19) - 1)) 95 20 ((s.1 95 20) - 1)) 95 23 ∧ (lf_up (lf_up s.1 95 19 ((s.1 95 19) - 1)) 95 20 ((s.1 95 20) - 1)) 95 23 ≤ 1 from iv_r95_23 hI18)
    have b38 : (lf_up (lf_up s.1 95 19 ((s.1 95 19) - 1)) 95 20 ((s.1 95 20) - 1)) 95 23 = (lf_up s.1 95 19 ((s.1 95 19) - 1)) 95 23 := lf_up_i (by omega)
    have b39 : (lf_up s.1 95 19 ((s.1 95 19) - 1)) 95 23 = s.1 95 23 := lf_up_i (by omega)
    have b40 : pz_Y ((s.1 100)) ((s.1 98)) ((s.1 95 12)) ((s.1 95 13)) (((s.1 95 19) - 1)) (((s.1 95 20) - 1)) ((s.1 95 21) - pz_vl a1) ((s.1 95 22)) ((s.1 95 8)) (s.1 98 (s.1 95 12)) (1) (0) := by first | exact pz_cg (show (s.1 100) = s.1 100 from hI.1 100 rfl) hI (pz_Ys43 kp0 (by omega) (by omega)) (by omega) (by omega) (by omega) (by omega) (by omega) (by omega) (by omega) rfl rfl rfl | exact pz_cg rfl rfl (pz_Ys kp0 (by omega) (by omega)) (by omega) (by omega) (by omega) (by omega) (by omega) (by omega) (by omega) rfl rfl rfl
    exact sm_228_p32 (s0 := s) (fun t9 i9 f9 => hQ t9 i9 (lf_fq_tr fr19 f9)) hI18 (show (-1 : Int) ≤ a1 ∧ a1 ≤ (45 : Int) from by omega) (show pz_Y ((s.1 100)) ((s.1 98)) ((s.1 95 12)) ((s.1 95 13)) (((s.1 95 19) - 1)) (((s.1 95 20) - 1)) ((s.1 95 21) - pz_vl a1) ((s.1 95 22)) ((s.1 95 8)) (s.1 98 (s.1 95 12)) (1) (0) from by first | with_reducible assumption | assumption) (show a1 = 40 ∨ a1 = 43 ∨ a1 = 45 from by omega) (show a1 ≠ 45 ∨ 1 ≤ (s.1 95 21) from by omega) (show (s.1 95 7) = s.1 95 7 ∧ (s.1 95 8) = s.1 95 8 ∧ (s.1 95 9) = s.1 95 9 ∧ (s.1 95 12) = s.1 95 12 ∧ (s.1 95 22) = s.1 95 22 ∧ (s.1 95 23) = s.1 95 23 from by omega)
  · skip
    replace c20 : ¬ (a1 ≠ 43) := c20
    have b73 : (lf_up (lf_up s.1 95 19 ((s.1 95 19) - 1)) 95 20 ((s.1 95 20) - 1)) 95 12 = (lf_up s.1 95 19 ((s.1 95 19) - 1)) 95 12 := lf_up_i (by omega)
    have b74 : (lf_up s.1 95 19 ((s.1 95 19) - 1)) 95 12 = s.1 95 12 := lf_up_i (by omega)
    have b75 : (lf_up (lf_up s.1 95 19 ((s.1 95 19) - 1)) 95 20 ((s.1 95 20) - 1)) 95 13 = (lf_up s.1 95 19 ((s.1 95 19) - 1)) 95 13 := lf_up_i (by omega)
    have b76 : (lf_up s.1 95 19 ((s.1 95 19) - 1)) 95 13 = s.1 95 13 := lf_up_i (by omega)
    refine sm_225 hI18 (show (0 : Int) ≤ 2 ∧ 2 ≤ (45 : Int) from by omega) (show (-2147483648 : Int) ≤ 0 ∧ 0 ≤ (2147483647 : Int) from by omega) (show wk_E ((s.1 98)) ((s.1 95 12)) ((s.1 95 13)) from by first | with_reducible assumption | assumption) (show (s.1 95 13) ≤ 303 from by omega) (fun s25 hI72 fr71 ps78 ps79 => ?_)
    replace ps78 : s25.1 98 = pz_em ((s.1 98)) ((s.1 95 12) + 97 + 2 * (s.1 95 13)) 2 0 := ps78
    replace ps79 : s25.1 95 13 = (s.1 95 13) + 1 ∧ s25.1 95 7 = (s.1 95 7) ∧ s25.1 95 8 = (s.1 95 8) ∧ s25.1 95 9 = (s.1 95 9) ∧ s25.1 95 12 = (s.1 95 12) ∧ s25.1 95 19 = ((s.1 95 19) - 1) ∧ s25.1 95 20 = ((s.1 95 20) - 1) ∧ s25.1 95 21 = (s.1 95 21) ∧ s25.1 95 22 = (s.1 95 22) ∧ s25.1 95 23 = (s.1 95 23) := ps79
    have fr80 : lf_fq [95, 98, 103] 1000000 true s.1 s.2.2 s25.1 s25.2.2 := lf_fq_tr fr19 (lf_fq_wk fr71 rfl (by decide) (by decide))
    have b81 : 0 ≤ s25.1 95 12 ∧ s25.1 95 12 ≤ 2115 := iv_r95_12 hI72
    have b82 : 0 ≤ s25.1 95 13 ∧ s25.1 95 13 ≤ 304 := iv_r95_13 hI72
    have b83 : 0 ≤ s25.1 95 19 ∧ s25.1 95 19 ≤ 160 := iv_r95_19 hI72
    have b84 : 0 ≤ s25.1 95 20 ∧ s25.1 95 20 ≤ 8 := iv_r95_20 hI72
    have b85 : 0 ≤ s25.1 95 21 ∧ s25.1 95 21 ≤ 8 := iv_r95_21 hI72
    have b86 : 0 ≤ s25.1 95 22 ∧ s25.1 95 22 ≤ 80 := iv_r95_22 hI72
    have b87 : 0 ≤ s25.1 95 8 ∧ s25.1 95 8 ≤ 300 := iv_r95_8 hI72
    have b88 : 0 ≤ s25.1 95 7 ∧ s25.1 95 7 ≤ 300 := iv_r95_7 hI72
    have b89 : (-2147483648) ≤ s25.1 95 9 ∧ s25.1 95 9 ≤ 2147483647 := iv_full hI72
    have b90 : 0 ≤ s25.1 95 23 ∧ s25.1 95 23 ≤ 1 := iv_r95_23 hI72
    have b91 : pz_Y ((s25.1 100)) ((s25.1 98)) ((s25.1 95 12)) ((s25.1 95 13)) ((s25.1 95 19)) ((s25.1 95 20)) ((s25.1 95 21) - pz_vl a1) ((s25.1 95 22)) ((s25.1 95 8)) (s.1 98 (s.1 95 12)) (1) (0) := by first | exact pz_cg (show (s25.1 100) = s.1 100 from fr71.1 100 rfl) ps78 (pz_Ys43 kp0 (by omega) (by omega)) (by omega) (by omega) (by omega) (by omega) (by omega) (by omega) (by omega) rfl rfl rfl | exact pz_cg rfl rfl (pz_Ys kp0 (by omega) (by omega)) (by omega) (by omega) (by omega) (by omega) (by omega) (by omega) (by omega) rfl rfl rfl
    exact sm_228_p32 (s0 := s) (fun t9 i9 f9 => hQ t9 i9 (lf_fq_tr fr80 f9)) hI72 (show (-1 : Int) ≤ a1 ∧ a1 ≤ (45 : Int) from by omega) (show pz_Y ((s25.1 100)) ((s25.1 98)) ((s25.1 95 12)) ((s25.1 95 13)) ((s25.1 95 19)) ((s25.1 95 20)) ((s25.1 95 21) - pz_vl a1) ((s25.1 95 22)) ((s25.1 95 8)) (s.1 98 (s.1 95 12)) (1) (0) from by first | with_reducible assumption | assumption) (show a1 = 40 ∨ a1 = 43 ∨ a1 = 45 from by omega) (show a1 ≠ 45 ∨ 1 ≤ (s25.1 95 21) from by omega) (show (s25.1 95 7) = s.1 95 7 ∧ (s25.1 95 8) = s.1 95 8 ∧ (s25.1 95 9) = s.1 95 9 ∧ (s25.1 95 12) = s.1 95 12 ∧ (s25.1 95 22) = s.1 95 22 ∧ (s25.1 95 23) = s.1 95 23 from by omega)
-- fm_227 Model.bind 95
theorem sm_227 {Q : lf_Z → Prop} {s : lf_Z} (hI : iv_A s.1 s.2.2) (kp0 : pz_B (s.1 100) (s.1 98) (s.1 95 12) (s.1 95 13) (s.1 95 19) (s.1 95 20) (s.1 95 21) (s.1 95 22) (s.1 95 8) (s.1 98 (s.1 95 12))) (hQ : ∀  (s' : lf_Z), iv_A s'.1 s'.2.2 → lf_fq [95, 98, 102, 103] 1000000 true s.1 s.2.2 s'.1 s'.2.2 → (pz_Y (s'.1 100) (s'.1 98) (s'.1 95 12) (s'.1 95 13) (s'.1 95 19) (s'.1 95 20) (s'.1 95 21) (s'.1 95 22) (s.1 95 8 + 1) (s.1 98 (s.1 95 12)) (0) (0)) → (s'.1 95 7 = s.1 95 7 ∧ s'.1 95 8 = s.1 95 8 ∧ s'.1 95 9 = s.1 95 9 ∧ s'.1 95 12 = s.1 95 12 ∧ s'.1 95 19 = s.1 95 19 ∧ s'.1 95 20 = s.1 95 20 ∧ s'.1 95 21 = s.1 95 21 ∧ s'.1 95 23 = s.1 95 23) → Q  s') : fm_227 Q s := by
  unfold fm_227
  have b1 : 0 ≤ s.1 95 21 ∧ s.1 95 21 ≤ 8 := iv_r95_21 hI
  have b2 : 0 ≤ s.1 95 20 ∧ s.1 95 20 ≤ 8 := iv_r95_20 hI
  have b3 : 0 ≤ s.1 95 19 ∧ s.1 95 19 ≤ 160 := iv_r95_19 hI
  have b4 : 0 ≤ s.1 95 13 ∧ s.1 95 13 ≤ 304 := iv_r95_13 hI
  have b5 : 0 ≤ s.1 95 8 ∧ s.1 95 8 ≤ 300 := iv_r95_8 hI
  have b6 : 0 ≤ s.1 95 22 ∧ s.1 95 22 ≤ 80 := iv_r95_22 hI
  have b7 : 0 ≤ s.1 95 12 ∧ s.1 95 12 ≤ 2115 := iv_r95_12 hI
  have b8 : 1 ≤ (s.1 95 21) ∧ (s.1 95 21) ≤ (s.1 95 20) ∧ 0 < (s.1 95 19) ∧ (s.1 95 19) ≤ 6 * (s.1 95 20) + 5 ∧ 0 ≤ (s.1 95 13) ∧ (s.1 95 13) + (s.1 95 19) ≤ (s.1 95 8) ∧ 4 * (s.1 95 22) + 3 ≤ (s.1 95 8) ∧ (s.1 98) ((s.1 95 12)) = (s.1 98) ((s.1 95 12)) ∧ 0 ≤ (s.1 98) ((s.1 95 12)) ∧ (s.1 98) ((s.1 95 12)) < 24 ∧ ((s.1 95 12) = 0 ∨ (s.1 95 12) = 705 ∨ (s.1 95 12) = 1410 ∨ (s.1 95 12) = 2115) := pz_Bn kp0
  have b9 : wk_E ((s.1 98)) ((s.1 95 12)) ((s.1 95 13)) := pz_BE kp0
  refine ⟨(show (0 : Int) ≤ (s.1 95 21) - 1 ∧ (s.1 95 21) - 1 < (10 : Int) from by omega), ?_⟩
  have b10 : 0 ≤ s.1 101 ((s.1 95 21) - 1) ∧ s.1 101 ((s.1 95 21) - 1) ≤ 25 := iv_r101 hI _
  refine ⟨(show (0 : Int) ≤ s.1 101 ((s.1 95 21) - 1) ∧ s.1 101 ((s.1 95 21) - 1) < (26 : Int) from by omega), ?_⟩
  have b11 : (-1) ≤ s.1 103 (s.1 101 ((s.1 95 21) - 1)) ∧ s.1 103 (s.1 101 ((s.1 95 21) - 1)) ≤ 79 := iv_r103 hI _
  have hI12 : iv_A (lf_up s.1 102 ((s.1 95 21) - 1) (s.1 103 (s.1 101 ((s.1 95 21) - 1)))) s.2.2 := iv_w102 hI (by omega)
  have fr13 : lf_fq [95, 98, 102, 103] 1000000 true s.1 s.2.2 (lf_up s.1 102 ((s.1 95 21) - 1) (s.1 103 (s.1 101 ((s.1 95 21) - 1)))) s.2.2 := lf_fq_up (lf_fq_rf) rfl (fun h => absurd h (by decide))
  have hI14 : iv_A (lf_up (lf_up s.1 102 ((s.1 95 21) - 1) (s.1 103 (s.1 101 ((s.1 95 21) - 1)))) 103 (s.1 101 ((s.1 95 21) - 1)) (s.1 95 22)) s.2.2 := iv_w103 hI12 (by omega)
  have fr15 : lf_fq [95, 98, 102, 103] 1000000 true s.1 s.2.2 (lf_up (lf_up s.1 102 ((s.1 95 21) - 1) (s.1 103 (s.1 101 ((s.1 95 21) - 1)))) 103 (s.1 101 ((s.1 95 21) - 1)) (s.1 95 22)) s.2.2 := lf_fq_up fr13 rfl (fun h => absurd h (by decide))
  refine sm_225 hI14 (show (0 : Int) ≤ 30 ∧ 30 ≤ (45 : Int) from by omega) (show (-2147483648 : Int) ≤ s.1 95 22 ∧ s.1 95 22 ≤ (2147483647 : Int) from by omega) (show wk_E ((s.1 98)) ((s.1 95 12)) ((s.1 95 13)) from by first | with_reducible assumption | assumption) (show (s.1 95 13) ≤ 303 from by omega) (fun s23 hI17 fr16 ps19 ps20 => ?_)
  replace ps19 : s23.1 98 = pz_em ((s.1 98)) ((s.1 95 12) + 97 + 2 * (s.1 95 13)) 30 (s.1 95 22) := ps19
  replace ps20 : s23.1 95 13 = (s.1 95 13) + 1 ∧ s23.1 95 7 = (s.1 95 7) ∧ s23.1 95 8 = (s.1 95 8) ∧ s23.1 95 9 = (s.1 95 9) ∧ s23.1 95 12 = (s.1 95 12) ∧ s23.1 95 19 = (s.1 95 19) ∧ s23.1 95 20 = (s.1 95 20) ∧ s23.1 95 21 = (s.1 95 21) ∧ s23.1 95 22 = (s.1 95 22) ∧ s23.1 95 23 = (s.1 95 23) := ps20
  have fr21 : lf_fq [95, 98, 102, 103] 1000000 true s.1 s.2.2 s23.1 s23.2.2 := lf_fq_tr fr15 (lf_fq_wk fr16 rfl (by decide) (by decide))
  have b22 : 0 ≤ s23.1 95 12 ∧ s23.1 95 12 ≤ 2115 := iv_r95_12 hI17
  have b23 : 0 ≤ s23.1 95 13 ∧ s23.1 95 13 ≤ 304 := iv_r95_13 hI17
  have b24 : 0 ≤ s23.1 95 19 ∧ s23.1 95 19 ≤ 160 := iv_r95_19 hI17
  have b25 : 0 ≤ s23.1 95 20 ∧ s23.1 95 20 ≤ 8 := iv_r95_20 hI17
  have b26 : 0 ≤ s23.1 95 21 ∧ s23.1 95 21 ≤ 8 := iv_r95_21 hI17
  have b27 : 0 ≤ s23.1 95 22 ∧ s23.1 95 22 ≤ 80 := iv_r95_22 hI17
  have b28 : pz_Y ((s23.1 100)) ((s23.1 98)) ((s23.1 95 12)) ((s23.1 95 13)) ((s23.1 95 19)) ((s23.1 95 20)) ((s23.1 95 21)) ((s23.1 95 22) + 1) (s.1 95 8 + 1) (s.1 98 (s.1 95 12)) 0 0 := pz_cg (fr16.1 100 rfl) ps19 (pz_Bb kp0 (by omega)) (by omega) (by omega) (by omega) (by omega) (by omega) (by omega) (Int.le_refl _) rfl rfl rfl
  have hI29 : iv_A (lf_up s23.1 95 22 ((s23.1 95 22) + 1)) s23.2.2 := iv_w95_22 hI17 (by omega)
  have fr30 : lf_fq [95, 98, 102, 103] 1000000 true s.1 s.2.2 (lf_up s23.1 95 22 ((s23.1 95 22) + 1)) s23.2.2 := lf_fq_up fr21 rfl (fun h => absurd h (by decide))
  exact hQ (lf_up s23.1 95 22 ((s23.1 95 22) + 1), s23.2.1, s23.2.2) hI29 fr30 (show pz_Y ((s23.1 100)) ((s23.1 98)) ((s23.1 95 12)) ((s23.1 95 13)) ((s23.1 95 19)) ((s23.1 95 20)) ((s23.1 95 21)) (((s23.1 95 22) + 1)) (s.1 95 8 + 1) (s.1 98 (s.1 95 12)) (0) (0) from by first | with_reducible assumption | assumption) (show (s23.1 95 7) = s.1 95 7 ∧ (s23.1 95 8) = s.1 95 8 ∧ (s23.1 95 9) = s.1 95 9 ∧ (s23.1 95 12) = s.1 95 12 ∧ (s23.1 95 19) = s.1 95 19 ∧ (s23.1 95 20) = s.1 95 20 ∧ (s23.1 95 21) = s.1 95 21 ∧ (s23.1 95 23) = s.1 95 23 from by omega)
-- fm_217 Model.behindOne 95
theorem sm_217_p99 {Q : Bool → lf_Z → Prop} {s : lf_Z} {s0 : lf_Z} (hQ : ∀ (z : Bool) (s' : lf_Z), iv_A s'.1 s'.2.2 → lf_fq [95, 98, 100, 102, 103] 1000000 true s.1 s.2.2 s'.1 s'.2.2 → (z = true → pz_Y (s'.1 100) (s'.1 98) (s'.1 95 12) (s'.1 95 13) (s'.1 95 19) (s'.1 95 20) (s'.1 95 21) (s'.1 95 22) (s'.1 95 8) (s0.1 98 (s0.1 95 12)) (s'.1 95 23) (0)) → (z = true → (s0.1 95 8 < s'.1 95 8 ∧ (s'.1 95 9 = 0 ∨ s'.1 95 8 < s'.1 95 7))) → (z = false → pz_Y (s'.1 100) (s'.1 98) (s'.1 95 12) (s'.1 95 13) (s'.1 95 19) (s'.1 95 20) (s'.1 95 21) (s'.1 95 22) (s'.1 95 8) (s0.1 98 (s0.1 95 12)) (1) (0)) → (s'.1 95 12 = s0.1 95 12) → (z = false → (s'.1 95 8 = s0.1 95 8 ∧ s'.1 95 7 = s0.1 95 7 ∧ s'.1 95 9 = s0.1 95 9)) → Q z s') (hI : iv_A s.1 s.2.2) (kv0 : pz_Y (s.1 100) (s.1 98) (s.1 95 12) (s.1 95 13) (s.1 95 19) (s.1 95 20) (s.1 95 21) (s.1 95 22) (s.1 95 8 + 1) (s0.1 98 (s0.1 95 12)) (0) (0)) (kv1 : s.1 95 9 ≠ 0 ∧ s.1 95 8 < s.1 95 7) (kv2 : s.1 95 23 = 0) (kv3 : s.1 95 8 = s0.1 95 8 ∧ s.1 95 12 = s0.1 95 12) : fm_217_p99 Q s := by
  unfold fm_217_p99
  refine sm_197 hI (fun s36 hI116 fr115 ps118 ps119 => ?_)
  replace ps118 : (s.1 95 7) ≤ s36.1 95 8 ∧ (s36.1 95 9 = 0 ∨ s36.1 95 8 < s36.1 95 7) := ps118
  replace ps119 : s36.1 95 12 = (s.1 95 12) ∧ s36.1 95 13 = (s.1 95 13) ∧ s36.1 95 19 = (s.1 95 19) ∧ s36.1 95 20 = (s.1 95 20) ∧ s36.1 95 21 = (s.1 95 21) ∧ s36.1 95 22 = (s.1 95 22) ∧ s36.1 95 23 = (s.1 95 23) := ps119
  have fr120 : lf_fq [95, 98, 100, 102, 103] 1000000 true s.1 s.2.2 s36.1 s36.2.2 := lf_fq_tr (lf_fq_rf) (lf_fq_wk fr115 rfl (by decide) (by decide))
  have b121 : 0 ≤ s36.1 95 12 ∧ s36.1 95 12 ≤ 2115 := iv_r95_12 hI116
  have b122 : 0 ≤ s36.1 95 13 ∧ s36.1 95 13 ≤ 304 := iv_r95_13 hI116
  have b123 : 0 ≤ s36.1 95 19 ∧ s36.1 95 19 ≤ 160 := iv_r95_19 hI116
  have b124 : 0 ≤ s36.1 95 20 ∧ s36.1 95 20 ≤ 8 := iv_r95_20 hI116
  have b125 : 0 ≤ s36.1 95 21 ∧ s36.1 95 21 ≤ 8 := iv_r95_21 hI116
  have b126 : 0 ≤ s36.1 95 22 ∧ s36.1 95 22 ≤ 80 := iv_r95_22 hI116
  have b127 : 0 ≤ s36.1 95 8 ∧ s36.1 95 8 ≤ 300 := iv_r95_8 hI116
  have b128 : 0 ≤ s36.1 95 23 ∧ s36.1 95 23 ≤ 1 := iv_r95_23 hI116
  have b129 : pz_Y ((s36.1 100)) ((s36.1 98)) ((s36.1 95 12)) ((s36.1 95 13)) ((s36.1 95 19)) ((s36.1 95 20)) ((s36.1 95 21)) ((s36.1 95 22)) ((s36.1 95 8)) (s0.1 98 (s0.1 95 12)) ((s36.1 95 23)) (0) := pz_cg (fr115.1 100 rfl) (fr115.1 98 rfl) kv0 (by omega) (by omega) (by omega) (by omega) (by omega) (by omega) (by omega) (by omega) (by omega) rfl
  exact hQ true s36 hI116 fr120 (show true = true → pz_Y ((s36.1 100)) ((s36.1 98)) ((s36.1 95 12)) ((s36.1 95 13)) ((s36.1 95 19)) ((s36.1 95 20)) ((s36.1 95 21)) ((s36.1 95 22)) ((s36.1 95 8)) (s0.1 98 (s0.1 95 12)) ((s36.1 95 23)) (0) from fun _ => by first | with_reducible assumption | assumption) (show true = true → (s0.1 95 8 < (s36.1 95 8) ∧ ((s36.1 95 9) = 0 ∨ (s36.1 95 8) < (s36.1 95 7))) from fun _ => by omega) (show true = false → pz_Y ((s36.1 100)) ((s36.1 98)) ((s36.1 95 12)) ((s36.1 95 13)) ((s36.1 95 19)) ((s36.1 95 20)) ((s36.1 95 21)) ((s36.1 95 22)) ((s36.1 95 8)) (s0.1 98 (s0.1 95 12)) (1) (0) from fun h => by cases h) (show (s36.1 95 12) = s0.1 95 12 from by omega) (show true = false → ((s36.1 95 8) = s0.1 95 8 ∧ (s36.1 95 7) = s0.1 95 7 ∧ (s36.1 95 9) = s0.1 95 9) from fun h => by cases h)
set_option maxHeartbeats 8000000 in
theorem sm_217 {Q : Bool → lf_Z → Prop} {s : lf_Z} (hI : iv_A s.1 s.2.2) (kp0 : pz_Y (s.1 100) (s.1 98) (s.1 95 12) (s.1 95 13) (s.1 95 19) (s.1 95 20) (s.1 95 21) (s.1 95 22) (s.1 95 8) (s.1 98 (s.1 95 12)) (1) (0)) (kp1 : s.1 95 9 = 0 ∨ s.1 95 8 < s.1 95 7) (kp2 : s.1 95 23 = 1) (hQ : ∀ (z : Bool) (s' : lf_Z), iv_A s'.1 s'.2.2 → lf_fq [95, 98, 100, 102, 103] 1000000 true s.1 s.2.2 s'.1 s'.2.2 → (z = true → pz_Y (s'.1 100) (s'.1 98) (s'.1 95 12) (s'.1 95 13) (s'.1 95 19) (s'.1 95 20) (s'.1 95 21) (s'.1 95 22) (s'.1 95 8) (s.1 98 (s.1 95 12)) (s'.1 95 23) (0)) → (z = true → (s.1 95 8 < s'.1 95 8 ∧ (s'.1 95 9 = 0 ∨ s'.1 95 8 < s'.1 95 7))) → (z = false → pz_Y (s'.1 100) (s'.1 98) (s'.1 95 12) (s'.1 95 13) (s'.1 95 19) (s'.1 95 20) (s'.1 95 21) (s'.1 95 22) (s'.1 95 8) (s.1 98 (s.1 95 12)) (1) (0)) → (s'.1 95 12 = s.1 95 12) → (z = false → (s'.1 95 8 = s.1 95 8 ∧ s'.1 95 7 = s.1 95 7 ∧ s'.1 95 9 = s.1 95 9)) → Q z s') : fm_217 Q s := by
  unfold fm_217
  have b1 : 0 ≤ s.1 95 19 ∧ s.1 95 19 ≤ 160 := iv_r95_19 hI
  have b2 : 0 ≤ s.1 95 20 ∧ s.1 95 20 ≤ 8 := iv_r95_20 hI
  have b3 : 0 ≤ s.1 95 21 ∧ s.1 95 21 ≤ 8 := iv_r95_21 hI
  have b4 : 0 ≤ s.1 95 13 ∧ s.1 95 13 ≤ 304 := iv_r95_13 hI
  have b5 : 0 ≤ s.1 95 8 ∧ s.1 95 8 ≤ 300 := iv_r95_8 hI
  have b6 : 0 ≤ s.1 95 22 ∧ s.1 95 22 ≤ 80 := iv_r95_22 hI
  have b7 : 0 ≤ s.1 95 12 ∧ s.1 95 12 ≤ 2115 := iv_r95_12 hI
  have b8 : 0 ≤ (s.1 95 19) ∧ (s.1 95 19) ≤ 6 * (s.1 95 20) + 5 ∧ 0 ≤ (s.1 95 20) ∧ 0 ≤ (s.1 95 21) ∧ (s.1 95 21) ≤ (s.1 95 20) ∧ 0 ≤ (s.1 95 13) ∧ (s.1 95 13) + (s.1 95 19) ≤ (s.1 95 8) ∧ 4 * (s.1 95 22) + 3 * pz_4 ((s.1 100)) ((s.1 95 19)) ≤ (s.1 95 8) ∧ 0 ≤ pz_4 ((s.1 100)) ((s.1 95 19)) ∧ (s.1 98) ((s.1 95 12)) = (s.1 98) ((s.1 95 12)) ∧ 0 ≤ (s.1 98) ((s.1 95 12)) ∧ (s.1 98) ((s.1 95 12)) < 24 := pz_Yn2 kp0
  have b9 : (s.1 95 8) ≤ 300 := (iv_r95_8 hI).2
  have b10 : pz_op ((s.1 100)) ((s.1 95 19)) = -1 ∨ 0 < (s.1 95 19) := pz_opP
  have b11 : pz_op ((s.1 100)) ((s.1 95 19)) = -1 ∨ 40 ≤ pz_op ((s.1 100)) ((s.1 95 19)) := pz_opR
  refine sm_218 hI (fun r22 q12 => ?_)
  obtain ⟨q12, q12x⟩ := q12
  have b13 : (-2147483648) ≤ s.1 95 9 ∧ s.1 95 9 ≤ 2147483647 := iv_full hI
  replace q12x : r22 = -1 ∨ (s.1 95 9 ≠ 0 ∧ ((4 ≤ r22 ∧ r22 ≤ 7) ∨ (10 ≤ r22 ∧ r22 ≤ 15 ∧ pz_op (s.1 100) (s.1 95 19) = 41 ∧ pz_cm (s.1 100) (s.1 95 19) ≠ 1) ∨ ((r22 = 21 ∨ r22 = 22) ∧ pz_op (s.1 100) (s.1 95 19) = 41 ∧ pz_cm (s.1 100) (s.1 95 19) = 1))) := q12x
  refine ⟨(show lf_R r22 from lf_Rof (by omega)), ?_⟩
  refine ⟨fun c14 => ?_, fun c14 => ?_⟩
  · skip
    replace c14 : r22 < 0 := c14
    refine sm_219 hI (fun r25 q15 => ?_)
    obtain ⟨q15, q15x⟩ := q15
    replace q15x : r25 = pz_op (s.1 100) (s.1 95 19) := q15x
    refine sm_226 hI (show (-1 : Int) ≤ r25 ∧ r25 ≤ (45 : Int) from by omega) (fun r27 q16 => ?_)
    obtain ⟨q16, q16x⟩ := q16
    have b17 : (-2147483648) ≤ s.1 95 9 ∧ s.1 95 9 ≤ 2147483647 := iv_full hI
    replace q16x : r27 = -1 ∨ (s.1 95 9 ≠ 0 ∧ ((r25 = 40 ∧ r27 = 0) ∨ (r25 = 41 ∧ r27 = 42 ∧ pz_cm (s.1 100) (s.1 95 19) = 1) ∨ (r25 = 42 ∧ r27 = 43) ∨ (r25 = 44 ∧ r27 = 45) ∨ (r25 ≠ -1 ∧ r25 ≠ 40 ∧ r25 ≠ 41 ∧ r25 ≠ 42 ∧ r25 ≠ 44 ∧ r27 = 0))) := q16x
    refine ⟨(show lf_R r27 from lf_Rof (by omega)), ?_⟩
    refine ⟨fun c18 => ?_, fun c18 => ?_⟩
    · skip
      replace c18 : 0 ≤ r27 := c18
      obtain ⟨t1, t2, t3, t6⟩ := pz_k2 q16x c18 q15x b11 q15
      have t11 := kp1.resolve_left t1
      clear q16x q12x b10 b11 kp1
      have b19 : pz_W ((s.1 100)) ((s.1 98)) ((s.1 95 12)) ((s.1 95 13)) ((s.1 95 19)) ((s.1 95 20)) ((s.1 95 21)) ((s.1 95 22)) ((s.1 95 8)) ((s.1 98) ((s.1 95 12))) (1) := pz_Wi kp0 (Or.inr (Or.inr ⟨by decide, t2⟩))
      refine sm_224 hI (show (0 : Int) ≤ 1 ∧ 1 ≤ (7 : Int) from by omega) (show 1 ≤ 1 from by omega) (show pz_W ((s.1 100)) ((s.1 98)) ((s.1 95 12)) ((s.1 95 13)) ((s.1 95 19)) ((s.1 95 20)) ((s.1 95 21)) ((s.1 95 22)) ((s.1 95 8)) ((s.1 98) ((s.1 95 12))) (1) from by first | with_reducible assumption | assumption) (show (s.1 95 8) ≤ 300 from by omega) (fun s29 hI21 fr20 ps23 ps24 ps25 ps26 => ?_)
      replace ps23 : pz_R (s29.1 100) (s29.1 98) (s29.1 95 12) (s29.1 95 13) (s29.1 95 19) (s29.1 95 20) (s29.1 95 21) (s29.1 95 22) (s29.1 95 8) ((s.1 98) ((s.1 95 12))) (1) (pz_op ((s.1 100)) ((s.1 95 19))) := ps23
      replace ps24 : s29.1 95 13 + s29.1 95 19 = (s.1 95 13) + (s.1 95 19) ∧ s29.1 95 19 ≤ (s.1 95 19) ∧ s29.1 95 7 = (s.1 95 7) ∧ s29.1 95 8 = (s.1 95 8) ∧ s29.1 95 9 = (s.1 95 9) ∧ s29.1 95 12 = (s.1 95 12) ∧ s29.1 95 21 = (s.1 95 21) ∧ s29.1 95 22 = (s.1 95 22) ∧ s29.1 95 23 = (s.1 95 23) := ps24
      replace ps25 : pz_op (s29.1 100) (s29.1 95 19) = pz_op ((s.1 100)) ((s.1 95 19)) := ps25
      replace ps26 : s29.1 95 19 ≤ 0 ∨ pz_rk (s29.1 100 (s29.1 95 19 - 1)) < 1 := ps26
      have fr27 : lf_fq [95, 98, 100, 102, 103] 1000000 true s.1 s.2.2 s29.1 s29.2.2 := lf_fq_tr (lf_fq_rf) (lf_fq_wk fr20 rfl (by decide) (by decide))
      have b28 : 0 ≤ s29.1 95 12 ∧ s29.1 95 12 ≤ 2115 := iv_r95_12 hI21
      have b29 : (s29.1 98) ((s29.1 95 12)) = s.1 98 (s.1 95 12) := pz_Rt ps23
      have b30 : 0 ≤ s29.1 95 19 ∧ s29.1 95 19 ≤ 160 := iv_r95_19 hI21
      have b31 : pz_op ((s29.1 100)) ((s29.1 95 19)) = -1 ∨ 0 < (s29.1 95 19) := pz_opP
      have b32 : 0 < (s29.1 95 19) → (40 ≤ (s29.1 100) ((s29.1 95 19) - 1) → pz_op ((s29.1 100)) ((s29.1 95 19)) = (s29.1 100) ((s29.1 95 19) - 1)) ∧ ((s29.1 100) ((s29.1 95 19) - 1) < 40 → pz_op ((s29.1 100)) ((s29.1 95 19)) = pz_op ((s29.1 100)) ((s29.1 95 19) - 1)) := pz_opS
      have b33 : (40 ≤ (s29.1 100) ((s29.1 95 19) - 1) ∧ pz_rk ((s29.1 100) ((s29.1 95 19) - 1)) = 0) ∨ ((s29.1 100) ((s29.1 95 19) - 1) < 40 ∧ 1 ≤ pz_rk ((s29.1 100) ((s29.1 95 19) - 1))) := pz_rk1 _
      obtain ⟨t4, t5⟩ := pz_k3 b31 b32 b33 ps25 ps26 t6
      clear b31 b32 b33 ps26 t2
      have b34 : 0 ≤ s29.1 95 8 ∧ s29.1 95 8 ≤ 300 := iv_r95_8 hI21
      have b35 : (s29.1 95 8) ≤ 300 := (iv_r95_8 hI21).2
      refine ⟨fun c36 => ?_, fun c36 => ?_⟩
      · skip
        replace c36 : r27 ≤ 0 := c36
        have t7 := pz_k5 t3 c36
        clear t3
        have b37 : 0 ≤ s29.1 95 13 ∧ s29.1 95 13 ≤ 304 := iv_r95_13 hI21
        have b38 : 0 ≤ s29.1 95 20 ∧ s29.1 95 20 ≤ 8 := iv_r95_20 hI21
        have b39 : 0 ≤ s29.1 95 21 ∧ s29.1 95 21 ≤ 8 := iv_r95_21 hI21
        have b40 : 0 ≤ s29.1 95 22 ∧ s29.1 95 22 ≤ 80 := iv_r95_22 hI21
        have b41 : pz_Y ((s29.1 100)) ((s29.1 98)) ((s29.1 95 12)) ((s29.1 95 13)) ((s29.1 95 19)) ((s29.1 95 20)) ((s29.1 95 21)) ((s29.1 95 22)) ((s29.1 95 8)) ((s29.1 98) ((s29.1 95 12))) (1) (0) := pz_Yk (pz_R1 ps23 (pz_k6 t7)) b29
        refine sm_228 hI21 (show (-1 : Int) ≤ r25 ∧ r25 ≤ (45 : Int) from by omega) (show pz_Y ((s29.1 100)) ((s29.1 98)) ((s29.1 95 12)) ((s29.1 95 13)) ((s29.1 95 19)) ((s29.1 95 20)) ((s29.1 95 21)) ((s29.1 95 22)) ((s29.1 95 8)) ((s29.1 98) ((s29.1 95 12))) (1) (0) from by first | with_reducible assumption | assumption) (show 0 < (s29.1 95 19) ∧ (s29.1 100) ((s29.1 95 19) - 1) = r25 from ⟨t4, t5.trans q15x.symm⟩) (show r25 = 40 ∨ r25 = 43 ∨ r25 = 45 from by rw [q15x]; exact t7) (fun s30 hI43 fr42 ps45 ps46 => ?_)
        clear t7
        replace ps45 : pz_Y (s30.1 100) (s30.1 98) (s30.1 95 12) (s30.1 95 13) (s30.1 95 19) (s30.1 95 20) (s30.1 95 21) (s30.1 95 22) (s30.1 95 8) ((s29.1 98) ((s29.1 95 12))) (1) (0) := ps45
        replace ps46 : s30.1 95 7 = (s29.1 95 7) ∧ s30.1 95 8 = (s29.1 95 8) ∧ s30.1 95 9 = (s29.1 95 9) ∧ s30.1 95 12 = (s29.1 95 12) ∧ s30.1 95 22 = (s29.1 95 22) ∧ s30.1 95 23 = (s29.1 95 23) := ps46
        have fr47 : lf_fq [95, 98, 100, 102, 103] 1000000 true s.1 s.2.2 s30.1 s30.2.2 := lf_fq_tr fr27 (lf_fq_wk fr42 rfl (by decide) (by decide))
        have b48 : 0 ≤ s30.1 95 12 ∧ s30.1 95 12 ≤ 2115 := iv_r95_12 hI43
        have b49 : 0 ≤ s30.1 95 13 ∧ s30.1 95 13 ≤ 304 := iv_r95_13 hI43
        have b50 : 0 ≤ s30.1 95 19 ∧ s30.1 95 19 ≤ 160 := iv_r95_19 hI43
        have b51 : 0 ≤ s30.1 95 20 ∧ s30.1 95 20 ≤ 8 := iv_r95_20 hI43
        have b52 : 0 ≤ s30.1 95 21 ∧ s30.1 95 21 ≤ 8 := iv_r95_21 hI43
        have b53 : 0 ≤ s30.1 95 22 ∧ s30.1 95 22 ≤ 80 := iv_r95_22 hI43
        have b54 : 0 ≤ s30.1 95 8 ∧ s30.1 95 8 ≤ 300 := iv_r95_8 hI43
        have b55 : pz_Y ((s30.1 100)) ((s30.1 98)) ((s30.1 95 12)) ((s30.1 95 13)) ((s30.1 95 19)) ((s30.1 95 20)) ((s30.1 95 21)) ((s30.1 95 22)) ((s30.1 95 8)) (s.1 98 (s.1 95 12)) (1) (0) := pz_Yk ps45 (by omega)
        refine sm_197 hI43 (fun s31 hI57 fr56 ps59 ps60 => ?_)
        replace ps59 : (s30.1 95 7) ≤ s31.1 95 8 ∧ (s31.1 95 9 = 0 ∨ s31.1 95 8 < s31.1 95 7) := ps59
        replace ps60 : s31.1 95 12 = (s30.1 95 12) ∧ s31.1 95 13 = (s30.1 95 13) ∧ s31.1 95 19 = (s30.1 95 19) ∧ s31.1 95 20 = (s30.1 95 20) ∧ s31.1 95 21 = (s30.1 95 21) ∧ s31.1 95 22 = (s30.1 95 22) ∧ s31.1 95 23 = (s30.1 95 23) := ps60
        have fr61 : lf_fq [95, 98, 100, 102, 103] 1000000 true s.1 s.2.2 s31.1 s31.2.2 := lf_fq_tr fr47 (lf_fq_wk fr56 rfl (by decide) (by decide))
        have b62 : 0 ≤ s31.1 95 12 ∧ s31.1 95 12 ≤ 2115 := iv_r95_12 hI57
        have b63 : 0 ≤ s31.1 95 13 ∧ s31.1 95 13 ≤ 304 := iv_r95_13 hI57
        have b64 : 0 ≤ s31.1 95 19 ∧ s31.1 95 19 ≤ 160 := iv_r95_19 hI57
        have b65 : 0 ≤ s31.1 95 20 ∧ s31.1 95 20 ≤ 8 := iv_r95_20 hI57
        have b66 : 0 ≤ s31.1 95 21 ∧ s31.1 95 21 ≤ 8 := iv_r95_21 hI57
        have b67 : 0 ≤ s31.1 95 22 ∧ s31.1 95 22 ≤ 80 := iv_r95_22 hI57
        have b68 : 0 ≤ s31.1 95 8 ∧ s31.1 95 8 ≤ 300 := iv_r95_8 hI57
        have b69 : pz_Y ((s31.1 100)) ((s31.1 98)) ((s31.1 95 12)) ((s31.1 95 13)) ((s31.1 95 19)) ((s31.1 95 20)) ((s31.1 95 21)) ((s31.1 95 22)) ((s31.1 95 8)) (s.1 98 (s.1 95 12)) (1) (0) := pz_cg (fr56.1 100 rfl) (fr56.1 98 rfl) (by first | with_reducible assumption | assumption) (by omega) (by omega) (by omega) (by omega) (by omega) (by omega) (by omega) (by omega) rfl rfl
        have b70 : (s31.1 98) ((s31.1 95 12)) = s.1 98 (s.1 95 12) := (show pz_Y ((s31.1 100)) ((s31.1 98)) ((s31.1 95 12)) ((s31.1 95 13)) ((s31.1 95 19)) ((s31.1 95 20)) ((s31.1 95 21)) ((s31.1 95 22)) ((s31.1 95 8)) (s.1 98 (s.1 95 12)) (1) (0) from by first | with_reducible assumption | assumption).2.2.2
        have b71 : pz_W ((s31.1 100)) ((s31.1 98)) ((s31.1 95 12)) ((s31.1 95 13)) ((s31.1 95 19)) ((s31.1 95 20)) ((s31.1 95 21)) ((s31.1 95 22)) ((s31.1 95 8)) ((s31.1 98) ((s31.1 95 12))) (7) := pz_Wi (pz_Ym (show pz_Y ((s31.1 100)) ((s31.1 98)) ((s31.1 95 12)) ((s31.1 95 13)) ((s31.1 95 19)) ((s31.1 95 20)) ((s31.1 95 21)) ((s31.1 95 22)) ((s31.1 95 8)) (s.1 98 (s.1 95 12)) (1) (0) from by first | with_reducible assumption | assumption)) (by omega)
        have b72 : (s31.1 95 8) ≤ 300 := (iv_r95_8 hI57).2
        refine sm_224 hI57 (show (0 : Int) ≤ 7 ∧ 7 ≤ (7 : Int) from by omega) (show 1 ≤ 7 from by omega) (show pz_W ((s31.1 100)) ((s31.1 98)) ((s31.1 95 12)) ((s31.1 95 13)) ((s31.1 95 19)) ((s31.1 95 20)) ((s31.1 95 21)) ((s31.1 95 22)) ((s31.1 95 8)) ((s31.1 98) ((s31.1 95 12))) (7) from by first | with_reducible assumption | assumption) (show (s31.1 95 8) ≤ 300 from by omega) (fun s32 hI74 fr73 ps76 ps77 ps78 ps79 => ?_)
        replace ps76 : pz_R (s32.1 100) (s32.1 98) (s32.1 95 12) (s32.1 95 13) (s32.1 95 19) (s32.1 95 20) (s32.1 95 21) (s32.1 95 22) (s32.1 95 8) ((s31.1 98) ((s31.1 95 12))) (7) (pz_op ((s31.1 100)) ((s31.1 95 19))) := ps76
        replace ps77 : s32.1 95 13 + s32.1 95 19 = (s31.1 95 13) + (s31.1 95 19) ∧ s32.1 95 19 ≤ (s31.1 95 19) ∧ s32.1 95 7 = (s31.1 95 7) ∧ s32.1 95 8 = (s31.1 95 8) ∧ s32.1 95 9 = (s31.1 95 9) ∧ s32.1 95 12 = (s31.1 95 12) ∧ s32.1 95 21 = (s31.1 95 21) ∧ s32.1 95 22 = (s31.1 95 22) ∧ s32.1 95 23 = (s31.1 95 23) := ps77
        replace ps78 : pz_op (s32.1 100) (s32.1 95 19) = pz_op ((s31.1 100)) ((s31.1 95 19)) := ps78
        replace ps79 : s32.1 95 19 ≤ 0 ∨ pz_rk (s32.1 100 (s32.1 95 19 - 1)) < 7 := ps79
        clear ps79
        have fr80 : lf_fq [95, 98, 100, 102, 103] 1000000 true s.1 s.2.2 s32.1 s32.2.2 := lf_fq_tr fr61 (lf_fq_wk fr73 rfl (by decide) (by decide))
        have b81 : 0 ≤ s32.1 95 12 ∧ s32.1 95 12 ≤ 2115 := iv_r95_12 hI74
        have b82 : 0 ≤ s32.1 95 13 ∧ s32.1 95 13 ≤ 304 := iv_r95_13 hI74
        have b83 : 0 ≤ s32.1 95 19 ∧ s32.1 95 19 ≤ 160 := iv_r95_19 hI74
        have b84 : 0 ≤ s32.1 95 20 ∧ s32.1 95 20 ≤ 8 := iv_r95_20 hI74
        have b85 : 0 ≤ s32.1 95 21 ∧ s32.1 95 21 ≤ 8 := iv_r95_21 hI74
        have b86 : 0 ≤ s32.1 95 22 ∧ s32.1 95 22 ≤ 80 := iv_r95_22 hI74
        have b87 : 0 ≤ s32.1 95 8 ∧ s32.1 95 8 ≤ 300 := iv_r95_8 hI74
        have b88 : 0 ≤ s32.1 95 23 ∧ s32.1 95 23 ≤ 1 := iv_r95_23 hI74
        have b89 : pz_Y ((s32.1 100)) ((s32.1 98)) ((s32.1 95 12)) ((s32.1 95 13)) ((s32.1 95 19)) ((s32.1 95 20)) ((s32.1 95 21)) ((s32.1 95 22)) ((s32.1 95 8)) (s.1 98 (s.1 95 12)) ((s32.1 95 23)) (0) := by first | with_reducible assumption | exact pz_cg rfl rfl (pz_R1 ps76 (fun h9 => absurd h9.1 (by decide))) rfl rfl rfl rfl rfl rfl (Int.le_refl _) (by omega) (by omega) rfl
        exact hQ true s32 hI74 fr80 (show true = true → pz_Y ((s32.1 100)) ((s32.1 98)) ((s32.1 95 12)) ((s32.1 95 13)) ((s32.1 95 19)) ((s32.1 95 20)) ((s32.1 95 21)) ((s32.1 95 22)) ((s32.1 95 8)) (s.1 98 (s.1 95 12)) ((s32.1 95 23)) (0) from fun _ => by first | with_reducible assumption | assumption) (show true = true → (s.1 95 8 < (s32.1 95 8) ∧ ((s32.1 95 9) = 0 ∨ (s32.1 95 8) < (s32.1 95 7))) from fun _ => by omega) (show true = false → pz_Y ((s32.1 100)) ((s32.1 98)) ((s32.1 95 12)) ((s32.1 95 13)) ((s32.1 95 19)) ((s32.1 95 20)) ((s32.1 95 21)) ((s32.1 95 22)) ((s32.1 95 8)) (s.1 98 (s.1 95 12)) (1) (0) from fun h => by cases h) (show (s32.1 95 12) = s.1 95 12 from by omega) (show true = false → ((s32.1 95 8) = s.1 95 8 ∧ (s32.1 95 7) = s.1 95 7 ∧ (s32.1 95 9) = s.1 95 9) from fun h => by cases h)
      · skip
        replace c36 : ¬ (r27 ≤ 0) := c36
        have t8 := pz_k7 t3 c36
        clear t3
        refine sm_220 hI21 (fun r34 ps91 q90 => ?_)
        replace ps91 : ((r34 < 0 ∧ pz_op ((s29.1 100)) ((s29.1 95 19)) = -1) ∨ (0 ≤ r34 ∧ r34 < (s29.1 95 19) ∧ pz_op ((s29.1 100)) ((s29.1 95 19)) = (s29.1 100) (r34) ∧ 40 ≤ (s29.1 100) (r34))) ∧ ((s29.1 95 19) ≤ 0 ∨ (s29.1 100) ((s29.1 95 19) - 1) < 40 ∨ r34 = (s29.1 95 19) - 1) := ps91
        obtain ⟨t9, t10⟩ := pz_k4 ps91 t4 t5 t8
        clear ps91
        refine ⟨(show (0 : Int) ≤ r34 ∧ r34 < (160 : Int) from by omega), ?_⟩
        have hI92 : iv_A (lf_up s29.1 100 r34 r27) s29.2.2 := iv_w100 hI21 (by omega)
        have fr93 : lf_fq [95, 98, 100, 102, 103] 1000000 true s.1 s.2.2 (lf_up s29.1 100 r34 r27) s29.2.2 := lf_fq_up fr27 rfl (fun h => absurd h (by decide))
        have b94 : 0 ≤ s29.1 95 13 ∧ s29.1 95 13 ≤ 304 := (show 0 ≤ (lf_up s29.1 100 r34 r27) 95 13 ∧ (lf_up s29.1 100 r34 r27) 95 13 ≤ 304 from iv_r95_13 hI92)
        have b95 : 0 ≤ s29.1 95 20 ∧ s29.1 95 20 ≤ 8 := (show 0 ≤ (lf_up s29.1 100 r34 r27) 95 20 ∧ (lf_up s29.1 100 r34 r27) 95 20 ≤ 8 from iv_r95_20 hI92)
        have b96 : 0 ≤ s29.1 95 21 ∧ s29.1 95 21 ≤ 8 := (show 0 ≤ (lf_up s29.1 100 r34 r27) 95 21 ∧ (lf_up s29.1 100 r34 r27) 95 21 ≤ 8 from iv_r95_21 hI92)
        have b97 : 0 ≤ s29.1 95 22 ∧ s29.1 95 22 ≤ 80 := (show 0 ≤ (lf_up s29.1 100 r34 r27) 95 22 ∧ (lf_up s29.1 100 r34 r27) 95 22 ≤ 80 from iv_r95_22 hI92)
        have b98 : r27 ≠ 45 → pz_Y (((lf_up s29.1 100 r34 r27) 100)) ((s29.1 98)) ((s29.1 95 12)) ((s29.1 95 13)) ((s29.1 95 19)) ((s29.1 95 20)) ((s29.1 95 21)) ((s29.1 95 22)) ((s29.1 95 8)) (s.1 98 (s.1 95 12)) (0) (0) := fun h9 => pz_Yq (p' := (((lf_up s29.1 100 r34 r27) 100))) ps23 t9 lf_up_s (fun j hj => lf_up_i hj) ⟨t4, rfl, t5⟩ (pz_k8 t8 h9)
        have b99 : r27 = 45 → pz_B (((lf_up s29.1 100 r34 r27) 100)) ((s29.1 98)) ((s29.1 95 12)) ((s29.1 95 13)) ((s29.1 95 19)) ((s29.1 95 20)) ((s29.1 95 21)) ((s29.1 95 22)) ((s29.1 95 8)) ((s29.1 98) ((s29.1 95 12))) := fun h9 => pz_cB rfl rfl (pz_Bi (p' := (((lf_up s29.1 100 r34 r27) 100))) (pz_R1 ps23 (pz_k9 t8 h9)) t4 t9 lf_up_s (fun j hj => lf_up_i hj) (t5.trans (pz_k10 t8 h9)) h9) rfl rfl rfl rfl rfl rfl rfl b29
        clear t8
        have hI100 : iv_A (lf_up (lf_up s29.1 100 r34 r27) 95 23 0) s29.2.2 := iv_w95_23 hI92 (by omega)
        have fr101 : lf_fq [95, 98, 100, 102, 103] 1000000 true s.1 s.2.2 (lf_up (lf_up s29.1 100 r34 r27) 95 23 0) s29.2.2 := lf_fq_up fr93 rfl (fun h => absurd h (by decide))
        refine ⟨fun c102 => ?_, fun c102 => ?_⟩
        · skip
          replace c102 : r27 ≠ 45 := c102
          have b103 : (lf_up (lf_up s29.1 100 r34 r27) 95 23 0) 95 12 = (lf_up s29.1 100 r34 r27) 95 12 := lf_up_i (by omega)
          have b104 : (lf_up (lf_up s29.1 100 r34 r27) 95 23 0) 95 13 = (lf_up s29.1 100 r34 r27) 95 13 := lf_up_i (by omega)
          have b105 : (lf_up (lf_up s29.1 100 r34 r27) 95 23 0) 95 19 = (lf_up s29.1 100 r34 r27) 95 19 := lf_up_i (by omega)
          have b106 : (lf_up (lf_up s29.1 100 r34 r27) 95 23 0) 95 20 = (lf_up s29.1 100 r34 r27) 95 20 := lf_up_i (by omega)
          have b107 : (lf_up (lf_up s29.1 100 r34 r27) 95 23 0) 95 21 = (lf_up s29.1 100 r34 r27) 95 21 := lf_up_i (by omega)
          have b108 : (lf_up (lf_up s29.1 100 r34 r27) 95 23 0) 95 22 = (lf_up s29.1 100 r34 r27) 95 22 := lf_up_i (by omega)
          have b109 : (lf_up (lf_up s29.1 100 r34 r27) 95 23 0) 95 8 = (lf_up s29.1 100 r34 r27) 95 8 := lf_up_i (by omega)
          have b110 : (-2147483648) ≤ s29.1 95 9 ∧ s29.1 95 9 ≤ 2147483647 := (show (-2147483648) ≤ (lf_up (lf_up s29.1 100 r34 r27) 95 23 0) 95 9 ∧ (lf_up (lf_up s29.1 100 r34 r27) 95 23 0) 95 9 ≤ 2147483647 from iv_full hI100)
          have b111 : (lf_up (lf_up s29.1 100 r34 r27) 95 23 0) 95 9 = (lf_up s29.1 100 r34 r27) 95 9 := lf_up_i (by omega)
          have b112 : 0 ≤ s29.1 95 7 ∧ s29.1 95 7 ≤ 300 := (show 0 ≤ (lf_up (lf_up s29.1 100 r34 r27) 95 23 0) 95 7 ∧ (lf_up (lf_up s29.1 100 r34 r27) 95 23 0) 95 7 ≤ 300 from iv_r95_7 hI100)
          have b113 : (lf_up (lf_up s29.1 100 r34 r27) 95 23 0) 95 7 = (lf_up s29.1 100 r34 r27) 95 7 := lf_up_i (by omega)
          have b114 : pz_Y (((lf_up s29.1 100 r34 r27) 100)) ((s29.1 98)) ((s29.1 95 12)) ((s29.1 95 13)) ((s29.1 95 19)) ((s29.1 95 20)) ((s29.1 95 21)) ((s29.1 95 22)) ((s29.1 95 8) + 1) (s.1 98 (s.1 95 12)) (0) (0) := by first | exact pz_cg rfl rfl ps91 rfl rfl rfl rfl rfl rfl (by omega) (by omega) rfl rfl | exact pz_cg rfl rfl ((show r27 ≠ 45 → pz_Y (((lf_up s29.1 100 r34 r27) 100)) ((s29.1 98)) ((s29.1 95 12)) ((s29.1 95 13)) ((s29.1 95 19)) ((s29.1 95 20)) ((s29.1 95 21)) ((s29.1 95 22)) ((s29.1 95 8)) (s.1 98 (s.1 95 12)) (0) (0) from by first | with_reducible assumption | assumption) (by omega)) rfl rfl rfl rfl rfl rfl (by omega) rfl rfl rfl
          exact sm_217_p99 (s0 := s) (fun r9 t9 i9 f9 => hQ r9 t9 i9 (lf_fq_tr fr101 f9)) hI100 (show pz_Y (((lf_up s29.1 100 r34 r27) 100)) ((s29.1 98)) ((s29.1 95 12)) ((s29.1 95 13)) ((s29.1 95 19)) ((s29.1 95 20)) ((s29.1 95 21)) ((s29.1 95 22)) ((s29.1 95 8) + 1) (s.1 98 (s.1 95 12)) (0) (0) from by first | with_reducible assumption | assumption) (show (s29.1 95 9) ≠ 0 ∧ (s29.1 95 8) < (s29.1 95 7) from by omega) (show 0 = 0 from by omega) (show (s29.1 95 8) = s.1 95 8 ∧ (s29.1 95 12) = s.1 95 12 from by omega)
        · skip
          replace c102 : ¬ (r27 ≠ 45) := c102
          have b130 : (lf_up (lf_up s29.1 100 r34 r27) 95 23 0) 95 12 = (lf_up s29.1 100 r34 r27) 95 12 := lf_up_i (by omega)
          have b131 : (lf_up (lf_up s29.1 100 r34 r27) 95 23 0) 95 13 = (lf_up s29.1 100 r34 r27) 95 13 := lf_up_i (by omega)
          have b132 : (lf_up (lf_up s29.1 100 r34 r27) 95 23 0) 95 19 = (lf_up s29.1 100 r34 r27) 95 19 := lf_up_i (by omega)
          have b133 : (lf_up (lf_up s29.1 100 r34 r27) 95 23 0) 95 20 = (lf_up s29.1 100 r34 r27) 95 20 := lf_up_i (by omega)
          have b134 : (lf_up (lf_up s29.1 100 r34 r27) 95 23 0) 95 21 = (lf_up s29.1 100 r34 r27) 95 21 := lf_up_i (by omega)
          have b135 : (lf_up (lf_up s29.1 100 r34 r27) 95 23 0) 95 22 = (lf_up s29.1 100 r34 r27) 95 22 := lf_up_i (by omega)
          have b136 : (lf_up (lf_up s29.1 100 r34 r27) 95 23 0) 95 8 = (lf_up s29.1 100 r34 r27) 95 8 := lf_up_i (by omega)
          have b137 : pz_B (((lf_up s29.1 100 r34 r27) 100)) ((s29.1 98)) ((s29.1 95 12)) ((s29.1 95 13)) ((s29.1 95 19)) ((s29.1 95 20)) ((s29.1 95 21)) ((s29.1 95 22)) ((s29.1 95 8)) ((s29.1 98) ((s29.1 95 12))) := (show r27 = 45 → pz_B (((lf_up s29.1 100 r34 r27) 100)) ((s29.1 98)) ((s29.1 95 12)) ((s29.1 95 13)) ((s29.1 95 19)) ((s29.1 95 20)) ((s29.1 95 21)) ((s29.1 95 22)) ((s29.1 95 8)) ((s29.1 98) ((s29.1 95 12))) from by first | with_reducible assumption | assumption) (by omega)
          refine sm_227 hI100 (show pz_B (((lf_up s29.1 100 r34 r27) 100)) ((s29.1 98)) ((s29.1 95 12)) ((s29.1 95 13)) ((s29.1 95 19)) ((s29.1 95 20)) ((s29.1 95 21)) ((s29.1 95 22)) ((s29.1 95 8)) ((s29.1 98) ((s29.1 95 12))) from by first | with_reducible assumption | assumption) (fun s37 hI139 fr138 ps141 ps142 => ?_)
          replace ps141 : pz_Y (s37.1 100) (s37.1 98) (s37.1 95 12) (s37.1 95 13) (s37.1 95 19) (s37.1 95 20) (s37.1 95 21) (s37.1 95 22) ((s29.1 95 8) + 1) ((s29.1 98) ((s29.1 95 12))) (0) (0) := ps141
          replace ps142 : s37.1 95 7 = (s29.1 95 7) ∧ s37.1 95 8 = (s29.1 95 8) ∧ s37.1 95 9 = (s29.1 95 9) ∧ s37.1 95 12 = (s29.1 95 12) ∧ s37.1 95 19 = (s29.1 95 19) ∧ s37.1 95 20 = (s29.1 95 20) ∧ s37.1 95 21 = (s29.1 95 21) ∧ s37.1 95 23 = 0 := ps142
          have fr143 : lf_fq [95, 98, 100, 102, 103] 1000000 true s.1 s.2.2 s37.1 s37.2.2 := lf_fq_tr fr101 (lf_fq_wk fr138 rfl (by decide) (by decide))
          have b144 : 0 ≤ s37.1 95 12 ∧ s37.1 95 12 ≤ 2115 := iv_r95_12 hI139
          have b145 : 0 ≤ s37.1 95 13 ∧ s37.1 95 13 ≤ 304 := iv_r95_13 hI139
          have b146 : 0 ≤ s37.1 95 19 ∧ s37.1 95 19 ≤ 160 := iv_r95_19 hI139
          have b147 : 0 ≤ s37.1 95 20 ∧ s37.1 95 20 ≤ 8 := iv_r95_20 hI139
          have b148 : 0 ≤ s37.1 95 21 ∧ s37.1 95 21 ≤ 8 := iv_r95_21 hI139
          have b149 : 0 ≤ s37.1 95 22 ∧ s37.1 95 22 ≤ 80 := iv_r95_22 hI139
          have b150 : 0 ≤ s37.1 95 8 ∧ s37.1 95 8 ≤ 300 := iv_r95_8 hI139
          have b151 : (-2147483648) ≤ s37.1 95 9 ∧ s37.1 95 9 ≤ 2147483647 := iv_full hI139
          have b152 : 0 ≤ s37.1 95 7 ∧ s37.1 95 7 ≤ 300 := iv_r95_7 hI139
          have b153 : 0 ≤ s37.1 95 23 ∧ s37.1 95 23 ≤ 1 := iv_r95_23 hI139
          have b154 : pz_Y ((s37.1 100)) ((s37.1 98)) ((s37.1 95 12)) ((s37.1 95 13)) ((s37.1 95 19)) ((s37.1 95 20)) ((s37.1 95 21)) ((s37.1 95 22)) ((s37.1 95 8) + 1) (s.1 98 (s.1 95 12)) (0) (0) := by first | exact pz_cg rfl rfl ps141 rfl rfl rfl rfl rfl rfl (by omega) (by omega) rfl rfl | exact pz_cg rfl rfl ((show r27 ≠ 45 → pz_Y ((s37.1 100)) ((s37.1 98)) ((s37.1 95 12)) ((s37.1 95 13)) ((s37.1 95 19)) ((s37.1 95 20)) ((s37.1 95 21)) ((s37.1 95 22)) ((s37.1 95 8)) (s.1 98 (s.1 95 12)) (0) (0) from by first | with_reducible assumption | assumption) (by omega)) rfl rfl rfl rfl rfl rfl (by omega) rfl rfl rfl
          exact sm_217_p99 (s0 := s) (fun r9 t9 i9 f9 => hQ r9 t9 i9 (lf_fq_tr fr143 f9)) hI139 (show pz_Y ((s37.1 100)) ((s37.1 98)) ((s37.1 95 12)) ((s37.1 95 13)) ((s37.1 95 19)) ((s37.1 95 20)) ((s37.1 95 21)) ((s37.1 95 22)) ((s37.1 95 8) + 1) (s.1 98 (s.1 95 12)) (0) (0) from by first | with_reducible assumption | assumption) (show (s37.1 95 9) ≠ 0 ∧ (s37.1 95 8) < (s37.1 95 7) from by omega) (show (s37.1 95 23) = 0 from by omega) (show (s37.1 95 8) = s.1 95 8 ∧ (s37.1 95 12) = s.1 95 12 from by omega)
    · skip
      replace c18 : ¬ (0 ≤ r27) := c18
      exact hQ false s hI (lf_fq_rf) (show false = true → pz_Y ((s.1 100)) ((s.1 98)) ((s.1 95 12)) ((s.1 95 13)) ((s.1 95 19)) ((s.1 95 20)) ((s.1 95 21)) ((s.1 95 22)) ((s.1 95 8)) (s.1 98 (s.1 95 12)) ((s.1 95 23)) (0) from fun h => by cases h) (show false = true → (s.1 95 8 < (s.1 95 8) ∧ ((s.1 95 9) = 0 ∨ (s.1 95 8) < (s.1 95 7))) from fun h => by cases h) (show false = false → pz_Y ((s.1 100)) ((s.1 98)) ((s.1 95 12)) ((s.1 95 13)) ((s.1 95 19)) ((s.1 95 20)) ((s.1 95 21)) ((s.1 95 22)) ((s.1 95 8)) (s.1 98 (s.1 95 12)) (1) (0) from fun _ => by first | with_reducible assumption | assumption) (show (s.1 95 12) = s.1 95 12 from by omega) (show false = false → ((s.1 95 8) = s.1 95 8 ∧ (s.1 95 7) = s.1 95 7 ∧ (s.1 95 9) = s.1 95 9) from fun _ => by omega)
  · skip
    replace c14 : ¬ (r22 < 0) := c14
    refine sm_222 hI (show (0 : Int) ≤ r22 ∧ r22 ≤ (45 : Int) from by omega) (fun r39 q155 => ?_)
    obtain ⟨q155, q155x⟩ := q155
    replace q155x : r39 = pz_rk r22 ∧ ((40 ≤ r22 ∧ r39 = 0) ∨ (r22 = 22 ∧ r39 = 1) ∨ (r22 = 21 ∧ r39 = 2) ∨ (r22 = 20 ∧ r39 = 3) ∨ (10 ≤ r22 ∧ r22 < 40 ∧ r22 ≠ 20 ∧ r22 ≠ 21 ∧ r22 ≠ 22 ∧ r39 = 4) ∨ (r22 = 3 ∧ r39 = 7) ∨ (6 ≤ r22 ∧ r22 < 10 ∧ r39 = 6) ∨ (r22 < 6 ∧ r22 ≠ 3 ∧ r39 = 5)) := q155x
    obtain ⟨t1, t2, t3, t4⟩ := pz_k1 q12x c14 q155x
    have t11 := kp1.resolve_left t1
    clear q12x q155x b10 b11 kp1
    have b156 : pz_W ((s.1 100)) ((s.1 98)) ((s.1 95 12)) ((s.1 95 13)) ((s.1 95 19)) ((s.1 95 20)) ((s.1 95 21)) ((s.1 95 22)) ((s.1 95 8)) ((s.1 98) ((s.1 95 12))) (r39) := pz_Wi kp0 t3
    clear t3
    refine sm_224 hI (show (0 : Int) ≤ r39 ∧ r39 ≤ (7 : Int) from by omega) (show 1 ≤ r39 from t2) (show pz_W ((s.1 100)) ((s.1 98)) ((s.1 95 12)) ((s.1 95 13)) ((s.1 95 19)) ((s.1 95 20)) ((s.1 95 21)) ((s.1 95 22)) ((s.1 95 8)) ((s.1 98) ((s.1 95 12))) (r39) from by first | with_reducible assumption | assumption) (show (s.1 95 8) ≤ 300 from by omega) (fun s40 hI158 fr157 ps160 ps161 ps162 ps163 => ?_)
    replace ps160 : pz_R (s40.1 100) (s40.1 98) (s40.1 95 12) (s40.1 95 13) (s40.1 95 19) (s40.1 95 20) (s40.1 95 21) (s40.1 95 22) (s40.1 95 8) ((s.1 98) ((s.1 95 12))) (r39) (pz_op ((s.1 100)) ((s.1 95 19))) := ps160
    replace ps161 : s40.1 95 13 + s40.1 95 19 = (s.1 95 13) + (s.1 95 19) ∧ s40.1 95 19 ≤ (s.1 95 19) ∧ s40.1 95 7 = (s.1 95 7) ∧ s40.1 95 8 = (s.1 95 8) ∧ s40.1 95 9 = (s.1 95 9) ∧ s40.1 95 12 = (s.1 95 12) ∧ s40.1 95 21 = (s.1 95 21) ∧ s40.1 95 22 = (s.1 95 22) ∧ s40.1 95 23 = (s.1 95 23) := ps161
    replace ps162 : pz_op (s40.1 100) (s40.1 95 19) = pz_op ((s.1 100)) ((s.1 95 19)) := ps162
    replace ps163 : s40.1 95 19 ≤ 0 ∨ pz_rk (s40.1 100 (s40.1 95 19 - 1)) < r39 := ps163
    have fr164 : lf_fq [95, 98, 100, 102, 103] 1000000 true s.1 s.2.2 s40.1 s40.2.2 := lf_fq_tr (lf_fq_rf) (lf_fq_wk fr157 rfl (by decide) (by decide))
    have b165 : 0 ≤ s40.1 95 19 ∧ s40.1 95 19 ≤ 160 := iv_r95_19 hI158
    refine ⟨(show (0 : Int) ≤ s40.1 95 19 ∧ s40.1 95 19 < (160 : Int) from by omega), ?_⟩
    have hI166 : iv_A (lf_up s40.1 100 (s40.1 95 19) r22) s40.2.2 := iv_w100 hI158 (by omega)
    have fr167 : lf_fq [95, 98, 100, 102, 103] 1000000 true s.1 s.2.2 (lf_up s40.1 100 (s40.1 95 19) r22) s40.2.2 := lf_fq_up fr164 rfl (fun h => absurd h (by decide))
    have hI168 : iv_A (lf_up (lf_up s40.1 100 (s40.1 95 19) r22) 95 19 ((s40.1 95 19) + 1)) s40.2.2 := iv_w95_19 hI166 (by omega)
    have fr169 : lf_fq [95, 98, 100, 102, 103] 1000000 true s.1 s.2.2 (lf_up (lf_up s40.1 100 (s40.1 95 19) r22) 95 19 ((s40.1 95 19) + 1)) s40.2.2 := lf_fq_up fr167 rfl (fun h => absurd h (by decide))
    have hI170 : iv_A (lf_up (lf_up (lf_up s40.1 100 (s40.1 95 19) r22) 95 19 ((s40.1 95 19) + 1)) 95 23 0) s40.2.2 := iv_w95_23 hI168 (by omega)
    have fr171 : lf_fq [95, 98, 100, 102, 103] 1000000 true s.1 s.2.2 (lf_up (lf_up (lf_up s40.1 100 (s40.1 95 19) r22) 95 19 ((s40.1 95 19) + 1)) 95 23 0) s40.2.2 := lf_fq_up fr169 rfl (fun h => absurd h (by decide))
    have b172 : 0 ≤ s40.1 95 12 ∧ s40.1 95 12 ≤ 2115 := (show 0 ≤ (lf_up (lf_up (lf_up s40.1 100 (s40.1 95 19) r22) 95 19 ((s40.1 95 19) + 1)) 95 23 0) 95 12 ∧ (lf_up (lf_up (lf_up s40.1 100 (s40.1 95 19) r22) 95 19 ((s40.1 95 19) + 1)) 95 23 0) 95 12 ≤ 2115 from iv_r95_12 hI170)
    have b173 : (lf_up (lf_up (lf_up s40.1 100 (s40.1 95 19) r22) 95 19 ((s40.1 95 19) + 1)) 95 23 0) 95 12 = (lf_up (lf_up s40.1 100 (s40.1 95 19) r22) 95 19 ((s40.1 95 19) + 1)) 95 12 := lf_up_i (by omega)
    have b174 : (lf_up (lf_up s40.1 100 (s40.1 95 19) r22) 95 19 ((s40.1 95 19) + 1)) 95 12 = (lf_up s40.1 100 (s40.1 95 19) r22) 95 12 := lf_up_i (by omega)
    have b175 : 0 ≤ s40.1 95 13 ∧ s40.1 95 13 ≤ 304 := (show 0 ≤ (lf_up (lf_up (lf_up s40.1 100 (s40.1 95 19) r22) 95 19 ((s40.1 95 19) + 1)) 95 23 0) 95 13 ∧ (lf_up (lf_up (lf_up s40.1 100 (s40.1 95 19) r22) 95 19 ((s40.1 95 19) + 1)) 95 23 0) 95 13 ≤ 304 from iv_r95_13 hI170)
    have b176 : (lf_up (lf_up (lf_up s40.1 100 (s40.1 95 19) r22) 95 19 ((s40.1 95 19) + 1)) 95 23 0) 95 13 = (lf_up (lf_up s40.1 100 (s40.1 95 19) r22) 95 19 ((s40.1 95 19) + 1)) 95 13 := lf_up_i (by omega)
    have b177 : (lf_up (lf_up s40.1 100 (s40.1 95 19) r22) 95 19 ((s40.1 95 19) + 1)) 95 13 = (lf_up s40.1 100 (s40.1 95 19) r22) 95 13 := lf_up_i (by omega)
    have b178 : 0 ≤ s40.1 95 20 ∧ s40.1 95 20 ≤ 8 := (show 0 ≤ (lf_up (lf_up (lf_up s40.1 100 (s40.1 95 19) r22) 95 19 ((s40.1 95 19) + 1)) 95 23 0) 95 20 ∧ (lf_up (lf_up (lf_up s40.1 100 (s40.1 95 19) r22) 95 19 ((s40.1 95 19) + 1)) 95 23 0) 95 20 ≤ 8 from iv_r95_20 hI170)
    have b179 : (lf_up (lf_up (lf_up s40.1 100 (s40.1 95 19) r22) 95 19 ((s40.1 95 19) + 1)) 95 23 0) 95 20 = (lf_up (lf_up s40.1 100 (s40.1 95 19) r22) 95 19 ((s40.1 95 19) + 1)) 95 20 := lf_up_i (by omega)
    have b180 : (lf_up (lf_up s40.1 100 (s40.1 95 19) r22) 95 19 ((s40.1 95 19) + 1)) 95 20 = (lf_up s40.1 100 (s40.1 95 19) r22) 95 20 := lf_up_i (by omega)
    have b181 : 0 ≤ s40.1 95 21 ∧ s40.1 95 21 ≤ 8 := (show 0 ≤ (lf_up (lf_up (lf_up s40.1 100 (s40.1 95 19) r22) 95 19 ((s40.1 95 19) + 1)) 95 23 0) 95 21 ∧ (lf_up (lf_up (lf_up s40.1 100 (s40.1 95 19) r22) 95 19 ((s40.1 95 19) + 1)) 95 23 0) 95 21 ≤ 8 from iv_r95_21 hI170)
    have b182 : (lf_up (lf_up (lf_up s40.1 100 (s40.1 95 19) r22) 95 19 ((s40.1 95 19) + 1)) 95 23 0) 95 21 = (lf_up (lf_up s40.1 100 (s40.1 95 19) r22) 95 19 ((s40.1 95 19) + 1)) 95 21 := lf_up_i (by omega)
    have b183 : (lf_up (lf_up s40.1 100 (s40.1 95 19) r22) 95 19 ((s40.1 95 19) + 1)) 95 21 = (lf_up s40.1 100 (s40.1 95 19) r22) 95 21 := lf_up_i (by omega)
    have b184 : 0 ≤ s40.1 95 22 ∧ s40.1 95 22 ≤ 80 := (show 0 ≤ (lf_up (lf_up (lf_up s40.1 100 (s40.1 95 19) r22) 95 19 ((s40.1 95 19) + 1)) 95 23 0) 95 22 ∧ (lf_up (lf_up (lf_up s40.1 100 (s40.1 95 19) r22) 95 19 ((s40.1 95 19) + 1)) 95 23 0) 95 22 ≤ 80 from iv_r95_22 hI170)
    have b185 : (lf_up (lf_up (lf_up s40.1 100 (s40.1 95 19) r22) 95 19 ((s40.1 95 19) + 1)) 95 23 0) 95 22 = (lf_up (lf_up s40.1 100 (s40.1 95 19) r22) 95 19 ((s40.1 95 19) + 1)) 95 22 := lf_up_i (by omega)
    have b186 : (lf_up (lf_up s40.1 100 (s40.1 95 19) r22) 95 19 ((s40.1 95 19) + 1)) 95 22 = (lf_up s40.1 100 (s40.1 95 19) r22) 95 22 := lf_up_i (by omega)
    have b187 : pz_Y (((lf_up s40.1 100 (s40.1 95 19) r22) 100)) ((s40.1 98)) ((s40.1 95 12)) ((s40.1 95 13)) (((s40.1 95 19) + 1)) ((s40.1 95 20)) ((s40.1 95 21)) ((s40.1 95 22)) (s.1 95 8 + 1) (s.1 98 (s.1 95 12)) (0) (0) := pz_cg rfl rfl (pz_Yp (p' := (((lf_up s40.1 100 (s40.1 95 19) r22) 100))) ps160 lf_up_s (fun j hj => lf_up_i hj) ps162 ps163 t4) rfl rfl (by omega) rfl rfl rfl (by omega) rfl rfl rfl
    clear t4 ps163
    refine sm_197 hI170 (fun s42 hI189 fr188 ps191 ps192 => ?_)
    replace ps191 : (s40.1 95 7) ≤ s42.1 95 8 ∧ (s42.1 95 9 = 0 ∨ s42.1 95 8 < s42.1 95 7) := ps191
    replace ps192 : s42.1 95 12 = (s40.1 95 12) ∧ s42.1 95 13 = (s40.1 95 13) ∧ s42.1 95 19 = ((s40.1 95 19) + 1) ∧ s42.1 95 20 = (s40.1 95 20) ∧ s42.1 95 21 = (s40.1 95 21) ∧ s42.1 95 22 = (s40.1 95 22) ∧ s42.1 95 23 = 0 := ps192
    have fr193 : lf_fq [95, 98, 100, 102, 103] 1000000 true s.1 s.2.2 s42.1 s42.2.2 := lf_fq_tr fr171 (lf_fq_wk fr188 rfl (by decide) (by decide))
    have b194 : 0 ≤ s42.1 95 12 ∧ s42.1 95 12 ≤ 2115 := iv_r95_12 hI189
    have b195 : 0 ≤ s42.1 95 13 ∧ s42.1 95 13 ≤ 304 := iv_r95_13 hI189
    have b196 : 0 ≤ s42.1 95 19 ∧ s42.1 95 19 ≤ 160 := iv_r95_19 hI189
    have b197 : 0 ≤ s42.1 95 20 ∧ s42.1 95 20 ≤ 8 := iv_r95_20 hI189
    have b198 : 0 ≤ s42.1 95 21 ∧ s42.1 95 21 ≤ 8 := iv_r95_21 hI189
    have b199 : 0 ≤ s42.1 95 22 ∧ s42.1 95 22 ≤ 80 := iv_r95_22 hI189
    have b200 : 0 ≤ s42.1 95 8 ∧ s42.1 95 8 ≤ 300 := iv_r95_8 hI189
    have b201 : 0 ≤ s42.1 95 23 ∧ s42.1 95 23 ≤ 1 := iv_r95_23 hI189
    have b202 : pz_Y ((s42.1 100)) ((s42.1 98)) ((s42.1 95 12)) ((s42.1 95 13)) ((s42.1 95 19)) ((s42.1 95 20)) ((s42.1 95 21)) ((s42.1 95 22)) ((s42.1 95 8)) (s.1 98 (s.1 95 12)) ((s42.1 95 23)) (0) := pz_cg (fr188.1 100 rfl) (fr188.1 98 rfl) (by first | with_reducible assumption | assumption) (by omega) (by omega) (by omega) (by omega) (by omega) (by omega) (by omega) (by omega) (by omega) rfl
    exact hQ true s42 hI189 fr193 (show true = true → pz_Y ((s42.1 100)) ((s42.1 98)) ((s42.1 95 12)) ((s42.1 95 13)) ((s42.1 95 19)) ((s42.1 95 20)) ((s42.1 95 21)) ((s42.1 95 22)) ((s42.1 95 8)) (s.1 98 (s.1 95 12)) ((s42.1 95 23)) (0) from fun _ => by first | with_reducible assumption | assumption) (show true = true → (s.1 95 8 < (s42.1 95 8) ∧ ((s42.1 95 9) = 0 ∨ (s42.1 95 8) < (s42.1 95 7))) from fun _ => by omega) (show true = false → pz_Y ((s42.1 100)) ((s42.1 98)) ((s42.1 95 12)) ((s42.1 95 13)) ((s42.1 95 19)) ((s42.1 95 20)) ((s42.1 95 21)) ((s42.1 95 22)) ((s42.1 95 8)) (s.1 98 (s.1 95 12)) (1) (0) from fun h => by cases h) (show (s42.1 95 12) = s.1 95 12 from by omega) (show true = false → ((s42.1 95 8) = s.1 95 8 ∧ (s42.1 95 7) = s.1 95 7 ∧ (s42.1 95 9) = s.1 95 9) from fun h => by cases h)
-- fm_216 Model.summed 95
set_option maxHeartbeats 8000000 in
theorem sm_216_p46 {X46 : lf_Z → Prop} {Q : Int → lf_Z → Prop} {s : lf_Z} {s0 : lf_Z} (hQ : ∀ (r : Int) (s' : lf_Z), iv_A s'.1 s'.2.2 → lf_fq [95, 98, 100, 101, 102, 103] 1000000 true s.1 s.2.2 s'.1 s'.2.2 → (r = 0 → pz_Y (s'.1 100) (s'.1 98) (s'.1 95 12) (s'.1 95 13) (s'.1 95 19) (s'.1 95 20) (s'.1 95 21) (s'.1 95 22) (s'.1 95 8) (s0.1 98 (s0.1 95 12)) (1) (0)) → (r = 0 → (s0.1 95 8 ≤ s'.1 95 8 ∧ (s'.1 95 9 = 0 ∨ s'.1 95 8 < s'.1 95 7))) → (pz_H (s'.1 98) (s'.1 95 12) (s0.1 98 (s0.1 95 12))) → (s'.1 95 12 = s0.1 95 12) → (0 ≤ r ∧ r ≤ 5) → Q r s') {M46 : Nat} (hX46 : ∀ (s' : lf_Z), iv_A s'.1 s'.2.2 → lf_fq [95, 98, 100, 101, 102, 103] 1000000 true s.1 s.2.2 s'.1 s'.2.2 → (pz_Y (s'.1 100) (s'.1 98) (s'.1 95 12) (s'.1 95 13) (s'.1 95 19) (s'.1 95 20) (s'.1 95 21) (s'.1 95 22) (s'.1 95 8) (s0.1 98 (s0.1 95 12)) (s'.1 95 23) (0)) → (s'.1 95 9 = 0 ∨ s'.1 95 8 < s'.1 95 7) → (s'.1 95 12 = s0.1 95 12 ∧ s0.1 95 8 ≤ s'.1 95 8) → (301 - s'.1 95 8).toNat < M46 → X46 s') (hM46 : (301 - s.1 95 8).toNat ≤ M46) (hI : iv_A s.1 s.2.2) (kv0 : pz_Y (s.1 100) (s.1 98) (s.1 95 12) (s.1 95 13) (s.1 95 19) (s.1 95 20) (s.1 95 21) (s.1 95 22) (s.1 95 8) (s0.1 98 (s0.1 95 12)) (s.1 95 23) (0)) (kv1 : s.1 95 9 = 0 ∨ s.1 95 8 < s.1 95 7) (kv2 : s.1 95 12 = s0.1 95 12 ∧ s0.1 95 8 ≤ s.1 95 8) : fm_216_p46 Q X46 s := by
  unfold fm_216_p46
  have b55 : 0 ≤ s.1 95 12 ∧ s.1 95 12 ≤ 2115 := iv_r95_12 hI
  have b56 : (s.1 98) ((s.1 95 12)) = s0.1 98 (s0.1 95 12) := kv0.2.2.2
  have b57 : 0 ≤ s.1 95 8 ∧ s.1 95 8 ≤ 300 := iv_r95_8 hI
  have b58 : (s.1 95 8) ≤ 300 := (iv_r95_8 hI).2
  have b59 : 0 ≤ s.1 95 23 ∧ s.1 95 23 ≤ 1 := iv_r95_23 hI
  refine ⟨(show lf_R (s.1 95 23) from lf_Rof (by omega)), ?_⟩
  refine ⟨fun c60 => ?_, fun c60 => ?_⟩
  · skip
    replace c60 : s.1 95 23 = 0 := c60
    have b61 : 0 ≤ s.1 95 13 ∧ s.1 95 13 ≤ 304 := iv_r95_13 hI
    have b62 : 0 ≤ s.1 95 19 ∧ s.1 95 19 ≤ 160 := iv_r95_19 hI
    have b63 : 0 ≤ s.1 95 20 ∧ s.1 95 20 ≤ 8 := iv_r95_20 hI
    have b64 : 0 ≤ s.1 95 21 ∧ s.1 95 21 ≤ 8 := iv_r95_21 hI
    have b65 : 0 ≤ s.1 95 22 ∧ s.1 95 22 ≤ 80 := iv_r95_22 hI
    have b66 : pz_Y ((s.1 100)) ((s.1 98)) ((s.1 95 12)) ((s.1 95 13)) ((s.1 95 19)) ((s.1 95 20)) ((s.1 95 21)) ((s.1 95 22)) ((s.1 95 8)) ((s.1 98) ((s.1 95 12))) (0) (0) := pz_Ym (pz_cg rfl rfl kv0 rfl rfl rfl rfl rfl rfl (Int.le_refl _) rfl (by omega) rfl)
    have b69 : (-2147483648) ≤ s.1 95 9 ∧ s.1 95 9 ≤ 2147483647 := iv_full hI
    have b70 : 0 ≤ s.1 95 7 ∧ s.1 95 7 ≤ 300 := iv_r95_7 hI
    refine sm_229 hI (show pz_Y ((s.1 100)) ((s.1 98)) ((s.1 95 12)) ((s.1 95 13)) ((s.1 95 19)) ((s.1 95 20)) ((s.1 95 21)) ((s.1 95 22)) ((s.1 95 8)) ((s.1 98) ((s.1 95 12))) (0) (0) from by first | with_reducible assumption | assumption) (show (s.1 95 9) = 0 ∨ (s.1 95 8) < (s.1 95 7) from by omega) (show (s.1 95 23) = 0 from by omega) (fun r24 s23 hI68 fr67 ps72 ps73 ps74 ps75 q71 => ?_)
    replace ps72 : r24 = 0 → pz_Y (s23.1 100) (s23.1 98) (s23.1 95 12) (s23.1 95 13) (s23.1 95 19) (s23.1 95 20) (s23.1 95 21) (s23.1 95 22) (s23.1 95 8) ((s.1 98) ((s.1 95 12))) (s23.1 95 23) (0) := ps72
    replace ps73 : r24 = 0 → ((s.1 95 8) < s23.1 95 8 ∧ (s23.1 95 9 = 0 ∨ s23.1 95 8 < s23.1 95 7)) := ps73
    replace ps74 : pz_H (s23.1 98) (s23.1 95 12) ((s.1 98) ((s.1 95 12))) := ps74
    replace ps75 : s23.1 95 12 = (s.1 95 12) := ps75
    have fr76 : lf_fq [95, 98, 100, 101, 102, 103] 1000000 true s.1 s.2.2 s23.1 s23.2.2 := lf_fq_tr (lf_fq_rf) (lf_fq_wk fr67 rfl (by decide) (by decide))
    refine ⟨(show lf_R r24 from lf_Rof (by omega)), ?_⟩
    refine ⟨fun c77 => ?_, fun c77 => ?_⟩
    · skip
      replace c77 : r24 = 0 := c77
      have dps72 := ps72 c77
      have dps73 := ps73 c77
      have b78 : 0 ≤ s23.1 95 12 ∧ s23.1 95 12 ≤ 2115 := iv_r95_12 hI68
      have b79 : 0 ≤ s23.1 95 13 ∧ s23.1 95 13 ≤ 304 := iv_r95_13 hI68
      have b80 : 0 ≤ s23.1 95 19 ∧ s23.1 95 19 ≤ 160 := iv_r95_19 hI68
      have b81 : 0 ≤ s23.1 95 20 ∧ s23.1 95 20 ≤ 8 := iv_r95_20 hI68
      have b82 : 0 ≤ s23.1 95 21 ∧ s23.1 95 21 ≤ 8 := iv_r95_21 hI68
      have b83 : 0 ≤ s23.1 95 22 ∧ s23.1 95 22 ≤ 80 := iv_r95_22 hI68
      have b84 : 0 ≤ s23.1 95 8 ∧ s23.1 95 8 ≤ 300 := iv_r95_8 hI68
      have b85 : 0 ≤ s23.1 95 23 ∧ s23.1 95 23 ≤ 1 := iv_r95_23 hI68
      have b86 : pz_Y ((s23.1 100)) ((s23.1 98)) ((s23.1 95 12)) ((s23.1 95 13)) ((s23.1 95 19)) ((s23.1 95 20)) ((s23.1 95 21)) ((s23.1 95 22)) ((s23.1 95 8)) (s0.1 98 (s0.1 95 12)) ((s23.1 95 23)) (0) := pz_Yk (by first | with_reducible assumption | assumption) (by omega)
      have b87 : (s23.1 95 8) ≤ 300 := (iv_r95_8 hI68).2
      have b88 : (-2147483648) ≤ s23.1 95 9 ∧ s23.1 95 9 ≤ 2147483647 := iv_full hI68
      have b89 : 0 ≤ s23.1 95 7 ∧ s23.1 95 7 ≤ 300 := iv_r95_7 hI68
      exact hX46  s23 hI68 fr76 (show pz_Y ((s23.1 100)) ((s23.1 98)) ((s23.1 95 12)) ((s23.1 95 13)) ((s23.1 95 19)) ((s23.1 95 20)) ((s23.1 95 21)) ((s23.1 95 22)) ((s23.1 95 8)) (s0.1 98 (s0.1 95 12)) ((s23.1 95 23)) (0) from by first | with_reducible assumption | assumption) (show (s23.1 95 9) = 0 ∨ (s23.1 95 8) < (s23.1 95 7) from by omega) (show (s23.1 95 12) = s0.1 95 12 ∧ s0.1 95 8 ≤ (s23.1 95 8) from by omega) (show (301 - (s23.1 95 8)).toNat < M46 from by omega)
    · skip
      replace c77 : ¬ (r24 = 0) := c77
      have b90 : 0 ≤ s23.1 95 12 ∧ s23.1 95 12 ≤ 2115 := iv_r95_12 hI68
      have b91 : pz_H ((s23.1 98)) ((s23.1 95 12)) (s0.1 98 (s0.1 95 12)) := by first | exact pz_YH (show pz_Y ((s23.1 100)) ((s23.1 98)) ((s23.1 95 12)) ((s23.1 95 13)) ((s23.1 95 19)) ((s23.1 95 20)) ((s23.1 95 21)) ((s23.1 95 22)) ((s23.1 95 8)) (s0.1 98 (s0.1 95 12)) (1) (0) from by first | with_reducible assumption | assumption) | exact pz_cH rfl ps74 rfl (by omega)
      exact hQ r24 s23 hI68 fr76 (show r24 = 0 → pz_Y ((s23.1 100)) ((s23.1 98)) ((s23.1 95 12)) ((s23.1 95 13)) ((s23.1 95 19)) ((s23.1 95 20)) ((s23.1 95 21)) ((s23.1 95 22)) ((s23.1 95 8)) (s0.1 98 (s0.1 95 12)) (1) (0) from by first | with_reducible assumption | omega) (show r24 = 0 → (s0.1 95 8 ≤ (s23.1 95 8) ∧ ((s23.1 95 9) = 0 ∨ (s23.1 95 8) < (s23.1 95 7))) from by first | with_reducible assumption | omega) (show pz_H ((s23.1 98)) ((s23.1 95 12)) (s0.1 98 (s0.1 95 12)) from by first | with_reducible assumption | assumption) (show (s23.1 95 12) = s0.1 95 12 from by omega) (show (0 : Int) ≤ r24 ∧ r24 ≤ (5 : Int) from by omega)
  · skip
    replace c60 : ¬ (s.1 95 23 = 0) := c60
    have b92 : 0 ≤ s.1 95 13 ∧ s.1 95 13 ≤ 304 := iv_r95_13 hI
    have b93 : 0 ≤ s.1 95 19 ∧ s.1 95 19 ≤ 160 := iv_r95_19 hI
    have b94 : 0 ≤ s.1 95 20 ∧ s.1 95 20 ≤ 8 := iv_r95_20 hI
    have b95 : 0 ≤ s.1 95 21 ∧ s.1 95 21 ≤ 8 := iv_r95_21 hI
    have b96 : 0 ≤ s.1 95 22 ∧ s.1 95 22 ≤ 80 := iv_r95_22 hI
    have b97 : pz_Y ((s.1 100)) ((s.1 98)) ((s.1 95 12)) ((s.1 95 13)) ((s.1 95 19)) ((s.1 95 20)) ((s.1 95 21)) ((s.1 95 22)) ((s.1 95 8)) ((s.1 98) ((s.1 95 12))) (1) (0) := pz_Ym (pz_cg rfl rfl kv0 rfl rfl rfl rfl rfl rfl (Int.le_refl _) rfl (by omega) rfl)
    have b100 : (-2147483648) ≤ s.1 95 9 ∧ s.1 95 9 ≤ 2147483647 := iv_full hI
    have b101 : 0 ≤ s.1 95 7 ∧ s.1 95 7 ≤ 300 := iv_r95_7 hI
    refine sm_217 hI (show pz_Y ((s.1 100)) ((s.1 98)) ((s.1 95 12)) ((s.1 95 13)) ((s.1 95 19)) ((s.1 95 20)) ((s.1 95 21)) ((s.1 95 22)) ((s.1 95 8)) ((s.1 98) ((s.1 95 12))) (1) (0) from by first | with_reducible assumption | assumption) (show (s.1 95 9) = 0 ∨ (s.1 95 8) < (s.1 95 7) from by omega) (show (s.1 95 23) = 1 from by omega) (fun z27 s26 hI99 fr98 ps103 ps104 ps105 ps106 ps107 => ?_)
    replace ps103 : z27 = true → pz_Y (s26.1 100) (s26.1 98) (s26.1 95 12) (s26.1 95 13) (s26.1 95 19) (s26.1 95 20) (s26.1 95 21) (s26.1 95 22) (s26.1 95 8) ((s.1 98) ((s.1 95 12))) (s26.1 95 23) (0) := ps103
    replace ps104 : z27 = true → ((s.1 95 8) < s26.1 95 8 ∧ (s26.1 95 9 = 0 ∨ s26.1 95 8 < s26.1 95 7)) := ps104
    replace ps105 : z27 = false → pz_Y (s26.1 100) (s26.1 98) (s26.1 95 12) (s26.1 95 13) (s26.1 95 19) (s26.1 95 20) (s26.1 95 21) (s26.1 95 22) (s26.1 95 8) ((s.1 98) ((s.1 95 12))) (1) (0) := ps105
    replace ps106 : s26.1 95 12 = (s.1 95 12) := ps106
    replace ps107 : z27 = false → (s26.1 95 8 = (s.1 95 8) ∧ s26.1 95 7 = (s.1 95 7) ∧ s26.1 95 9 = (s.1 95 9)) := ps107
    have fr108 : lf_fq [95, 98, 100, 101, 102, 103] 1000000 true s.1 s.2.2 s26.1 s26.2.2 := lf_fq_tr (lf_fq_rf) (lf_fq_wk fr98 rfl (by decide) (by decide))
    refine ⟨fun c109 => ?_, fun c109 => ?_⟩
    · skip
      have dps105 := ps105 c109
      have dps107 := ps107 c109
      have b110 : 0 ≤ s26.1 95 12 ∧ s26.1 95 12 ≤ 2115 := iv_r95_12 hI99
      have b111 : 0 ≤ s26.1 95 13 ∧ s26.1 95 13 ≤ 304 := iv_r95_13 hI99
      have b112 : 0 ≤ s26.1 95 19 ∧ s26.1 95 19 ≤ 160 := iv_r95_19 hI99
      have b113 : 0 ≤ s26.1 95 20 ∧ s26.1 95 20 ≤ 8 := iv_r95_20 hI99
      have b114 : 0 ≤ s26.1 95 21 ∧ s26.1 95 21 ≤ 8 := iv_r95_21 hI99
      have b115 : 0 ≤ s26.1 95 22 ∧ s26.1 95 22 ≤ 80 := iv_r95_22 hI99
      have b116 : 0 ≤ s26.1 95 8 ∧ s26.1 95 8 ≤ 300 := iv_r95_8 hI99
      have b117 : pz_Y ((s26.1 100)) ((s26.1 98)) ((s26.1 95 12)) ((s26.1 95 13)) ((s26.1 95 19)) ((s26.1 95 20)) ((s26.1 95 21)) ((s26.1 95 22)) ((s26.1 95 8)) (s0.1 98 (s0.1 95 12)) (1) (0) := pz_Yk (by first | with_reducible assumption | assumption) (by omega)
      refine sm_219 hI99 (fun r29 q118 => ?_)
      obtain ⟨q118, q118x⟩ := q118
      replace q118x : r29 = pz_op (s26.1 100) (s26.1 95 19) := q118x
      refine ⟨(show lf_R r29 from lf_Rof (by omega)), ?_⟩
      refine ⟨fun c119 => ?_, fun c119 => ?_⟩
      · skip
        replace c119 : r29 < 0 := c119
        have b120 : (s26.1 98) ((s26.1 95 12)) = s0.1 98 (s0.1 95 12) := (show pz_Y ((s26.1 100)) ((s26.1 98)) ((s26.1 95 12)) ((s26.1 95 13)) ((s26.1 95 19)) ((s26.1 95 20)) ((s26.1 95 21)) ((s26.1 95 22)) ((s26.1 95 8)) (s0.1 98 (s0.1 95 12)) (1) (0) from by first | with_reducible assumption | assumption).2.2.2
        have b121 : pz_W ((s26.1 100)) ((s26.1 98)) ((s26.1 95 12)) ((s26.1 95 13)) ((s26.1 95 19)) ((s26.1 95 20)) ((s26.1 95 21)) ((s26.1 95 22)) ((s26.1 95 8)) ((s26.1 98) ((s26.1 95 12))) (1) := pz_Wi (pz_Ym (show pz_Y ((s26.1 100)) ((s26.1 98)) ((s26.1 95 12)) ((s26.1 95 13)) ((s26.1 95 19)) ((s26.1 95 20)) ((s26.1 95 21)) ((s26.1 95 22)) ((s26.1 95 8)) (s0.1 98 (s0.1 95 12)) (1) (0) from by first | with_reducible assumption | assumption)) (by omega)
        have b122 : (s26.1 95 8) ≤ 300 := (iv_r95_8 hI99).2
        refine sm_224 hI99 (show (0 : Int) ≤ 1 ∧ 1 ≤ (7 : Int) from by omega) (show 1 ≤ 1 from by omega) (show pz_W ((s26.1 100)) ((s26.1 98)) ((s26.1 95 12)) ((s26.1 95 13)) ((s26.1 95 19)) ((s26.1 95 20)) ((s26.1 95 21)) ((s26.1 95 22)) ((s26.1 95 8)) ((s26.1 98) ((s26.1 95 12))) (1) from by first | with_reducible assumption | assumption) (show (s26.1 95 8) ≤ 300 from by omega) (fun s31 hI124 fr123 ps126 ps127 ps128 ps129 => ?_)
        replace ps126 : pz_R (s31.1 100) (s31.1 98) (s31.1 95 12) (s31.1 95 13) (s31.1 95 19) (s31.1 95 20) (s31.1 95 21) (s31.1 95 22) (s31.1 95 8) ((s26.1 98) ((s26.1 95 12))) (1) (pz_op ((s26.1 100)) ((s26.1 95 19))) := ps126
        replace ps127 : s31.1 95 13 + s31.1 95 19 = (s26.1 95 13) + (s26.1 95 19) ∧ s31.1 95 19 ≤ (s26.1 95 19) ∧ s31.1 95 7 = (s26.1 95 7) ∧ s31.1 95 8 = (s26.1 95 8) ∧ s31.1 95 9 = (s26.1 95 9) ∧ s31.1 95 12 = (s26.1 95 12) ∧ s31.1 95 21 = (s26.1 95 21) ∧ s31.1 95 22 = (s26.1 95 22) ∧ s31.1 95 23 = (s26.1 95 23) := ps127
        replace ps128 : pz_op (s31.1 100) (s31.1 95 19) = pz_op ((s26.1 100)) ((s26.1 95 19)) := ps128
        replace ps129 : s31.1 95 19 ≤ 0 ∨ pz_rk (s31.1 100 (s31.1 95 19 - 1)) < 1 := ps129
        have fr130 : lf_fq [95, 98, 100, 101, 102, 103] 1000000 true s.1 s.2.2 s31.1 s31.2.2 := lf_fq_tr fr108 (lf_fq_wk fr123 rfl (by decide) (by decide))
        have b131 : 0 ≤ s31.1 95 12 ∧ s31.1 95 12 ≤ 2115 := iv_r95_12 hI124
        have b132 : 0 ≤ s31.1 95 13 ∧ s31.1 95 13 ≤ 304 := iv_r95_13 hI124
        have b133 : 0 ≤ s31.1 95 19 ∧ s31.1 95 19 ≤ 160 := iv_r95_19 hI124
        have b134 : 0 ≤ s31.1 95 20 ∧ s31.1 95 20 ≤ 8 := iv_r95_20 hI124
        have b135 : 0 ≤ s31.1 95 21 ∧ s31.1 95 21 ≤ 8 := iv_r95_21 hI124
        have b136 : 0 ≤ s31.1 95 22 ∧ s31.1 95 22 ≤ 80 := iv_r95_22 hI124
        have b137 : 0 ≤ s31.1 95 8 ∧ s31.1 95 8 ≤ 300 := iv_r95_8 hI124
        have b138 : pz_Y ((s31.1 100)) ((s31.1 98)) ((s31.1 95 12)) ((s31.1 95 13)) ((s31.1 95 19)) ((s31.1 95 20)) ((s31.1 95 21)) ((s31.1 95 22)) ((s31.1 95 8)) (s0.1 98 (s0.1 95 12)) (1) (0) := pz_Yk (pz_R1 ps126 (by omega)) (by omega)
        have b139 : pz_H ((s31.1 98)) ((s31.1 95 12)) (s0.1 98 (s0.1 95 12)) := by first | exact pz_YH (show pz_Y ((s31.1 100)) ((s31.1 98)) ((s31.1 95 12)) ((s31.1 95 13)) ((s31.1 95 19)) ((s31.1 95 20)) ((s31.1 95 21)) ((s31.1 95 22)) ((s31.1 95 8)) (s0.1 98 (s0.1 95 12)) (1) (0) from by first | with_reducible assumption | assumption) | exact pz_cH rfl ps128 rfl (by omega)
        exact hQ 0 s31 hI124 fr130 (show 0 = 0 → pz_Y ((s31.1 100)) ((s31.1 98)) ((s31.1 95 12)) ((s31.1 95 13)) ((s31.1 95 19)) ((s31.1 95 20)) ((s31.1 95 21)) ((s31.1 95 22)) ((s31.1 95 8)) (s0.1 98 (s0.1 95 12)) (1) (0) from fun _ => by first | with_reducible assumption | assumption) (show 0 = 0 → (s0.1 95 8 ≤ (s31.1 95 8) ∧ ((s31.1 95 9) = 0 ∨ (s31.1 95 8) < (s31.1 95 7))) from fun _ => by omega) (show pz_H ((s31.1 98)) ((s31.1 95 12)) (s0.1 98 (s0.1 95 12)) from by first | with_reducible assumption | assumption) (show (s31.1 95 12) = s0.1 95 12 from by omega) (show (0 : Int) ≤ 0 ∧ 0 ≤ (5 : Int) from by omega)
      · skip
        replace c119 : ¬ (r29 < 0) := c119
        have b140 : pz_H ((s26.1 98)) ((s26.1 95 12)) (s0.1 98 (s0.1 95 12)) := by first | exact pz_YH (show pz_Y ((s26.1 100)) ((s26.1 98)) ((s26.1 95 12)) ((s26.1 95 13)) ((s26.1 95 19)) ((s26.1 95 20)) ((s26.1 95 21)) ((s26.1 95 22)) ((s26.1 95 8)) (s0.1 98 (s0.1 95 12)) (1) (0) from by first | with_reducible assumption | assumption) | exact pz_cH rfl ps105 rfl (by omega)
        exact hQ 1 s26 hI99 fr108 (show 1 = 0 → pz_Y ((s26.1 100)) ((s26.1 98)) ((s26.1 95 12)) ((s26.1 95 13)) ((s26.1 95 19)) ((s26.1 95 20)) ((s26.1 95 21)) ((s26.1 95 22)) ((s26.1 95 8)) (s0.1 98 (s0.1 95 12)) (1) (0) from fun h => absurd h (by decide)) (show 1 = 0 → (s0.1 95 8 ≤ (s26.1 95 8) ∧ ((s26.1 95 9) = 0 ∨ (s26.1 95 8) < (s26.1 95 7))) from fun h => absurd h (by decide)) (show pz_H ((s26.1 98)) ((s26.1 95 12)) (s0.1 98 (s0.1 95 12)) from by first | with_reducible assumption | assumption) (show (s26.1 95 12) = s0.1 95 12 from by omega) (show (0 : Int) ≤ 1 ∧ 1 ≤ (5 : Int) from by omega)
    · skip
      have dps103 := ps103 c109
      have dps104 := ps104 c109
      have b141 : 0 ≤ s26.1 95 12 ∧ s26.1 95 12 ≤ 2115 := iv_r95_12 hI99
      have b142 : 0 ≤ s26.1 95 13 ∧ s26.1 95 13 ≤ 304 := iv_r95_13 hI99
      have b143 : 0 ≤ s26.1 95 19 ∧ s26.1 95 19 ≤ 160 := iv_r95_19 hI99
      have b144 : 0 ≤ s26.1 95 20 ∧ s26.1 95 20 ≤ 8 := iv_r95_20 hI99
      have b145 : 0 ≤ s26.1 95 21 ∧ s26.1 95 21 ≤ 8 := iv_r95_21 hI99
      have b146 : 0 ≤ s26.1 95 22 ∧ s26.1 95 22 ≤ 80 := iv_r95_22 hI99
      have b147 : 0 ≤ s26.1 95 8 ∧ s26.1 95 8 ≤ 300 := iv_r95_8 hI99
      have b148 : 0 ≤ s26.1 95 23 ∧ s26.1 95 23 ≤ 1 := iv_r95_23 hI99
      have b149 : pz_Y ((s26.1 100)) ((s26.1 98)) ((s26.1 95 12)) ((s26.1 95 13)) ((s26.1 95 19)) ((s26.1 95 20)) ((s26.1 95 21)) ((s26.1 95 22)) ((s26.1 95 8)) (s0.1 98 (s0.1 95 12)) ((s26.1 95 23)) (0) := pz_Yk (by first | with_reducible assumption | assumption) (by omega)
      have b150 : (s26.1 95 8) ≤ 300 := (iv_r95_8 hI99).2
      have b151 : (-2147483648) ≤ s26.1 95 9 ∧ s26.1 95 9 ≤ 2147483647 := iv_full hI99
      have b152 : 0 ≤ s26.1 95 7 ∧ s26.1 95 7 ≤ 300 := iv_r95_7 hI99
      exact hX46  s26 hI99 fr108 (show pz_Y ((s26.1 100)) ((s26.1 98)) ((s26.1 95 12)) ((s26.1 95 13)) ((s26.1 95 19)) ((s26.1 95 20)) ((s26.1 95 21)) ((s26.1 95 22)) ((s26.1 95 8)) (s0.1 98 (s0.1 95 12)) ((s26.1 95 23)) (0) from by first | with_reducible assumption | assumption) (show (s26.1 95 9) = 0 ∨ (s26.1 95 8) < (s26.1 95 7) from by omega) (show (s26.1 95 12) = s0.1 95 12 ∧ s0.1 95 8 ≤ (s26.1 95 8) from by omega) (show (301 - (s26.1 95 8)).toNat < M46 from by omega)
theorem sm_216_p46L {Q : Int → lf_Z → Prop} {s : lf_Z} {s0 : lf_Z} (hQ : ∀ (r : Int) (s' : lf_Z), iv_A s'.1 s'.2.2 → lf_fq [95, 98, 100, 101, 102, 103] 1000000 true s.1 s.2.2 s'.1 s'.2.2 → (r = 0 → pz_Y (s'.1 100) (s'.1 98) (s'.1 95 12) (s'.1 95 13) (s'.1 95 19) (s'.1 95 20) (s'.1 95 21) (s'.1 95 22) (s'.1 95 8) (s0.1 98 (s0.1 95 12)) (1) (0)) → (r = 0 → (s0.1 95 8 ≤ s'.1 95 8 ∧ (s'.1 95 9 = 0 ∨ s'.1 95 8 < s'.1 95 7))) → (pz_H (s'.1 98) (s'.1 95 12) (s0.1 98 (s0.1 95 12))) → (s'.1 95 12 = s0.1 95 12) → (0 ≤ r ∧ r ≤ 5) → Q r s') (hI : iv_A s.1 s.2.2) (kv0 : pz_Y (s.1 100) (s.1 98) (s.1 95 12) (s.1 95 13) (s.1 95 19) (s.1 95 20) (s.1 95 21) (s.1 95 22) (s.1 95 8) (s0.1 98 (s0.1 95 12)) (s.1 95 23) (0)) (kv1 : s.1 95 9 = 0 ∨ s.1 95 8 < s.1 95 7) (kv2 : s.1 95 12 = s0.1 95 12 ∧ s0.1 95 8 ≤ s.1 95 8) : fm_216_p46L Q s := by
  intro X46 hX
  have key : ∀ (m9 : Nat) (s' : lf_Z), iv_A s'.1 s'.2.2 → lf_fq [95, 98, 100, 101, 102, 103] 1000000 true s.1 s.2.2 s'.1 s'.2.2 → (pz_Y (s'.1 100) (s'.1 98) (s'.1 95 12) (s'.1 95 13) (s'.1 95 19) (s'.1 95 20) (s'.1 95 21) (s'.1 95 22) (s'.1 95 8) (s0.1 98 (s0.1 95 12)) (s'.1 95 23) (0)) → (s'.1 95 9 = 0 ∨ s'.1 95 8 < s'.1 95 7) → (s'.1 95 12 = s0.1 95 12 ∧ s0.1 95 8 ≤ s'.1 95 8) → (301 - s'.1 95 8).toNat < m9 → X46 s' := by
    intro m9
    induction m9 with
    | zero => intro  s' _ _ kv0 kv1 kv2 h9; exact absurd h9 (Nat.not_lt_zero _)
    | succ m9 ih => intro  s' i7 f7 kv0 kv1 kv2 h9; exact hX  _ (sm_216_p46 (s0 := s0) (fun r9 t9 i9 f9 => hQ r9 t9 i9 (lf_fq_tr f7 f9))   (fun  t8 i8 f8 kv0' kv1' kv2' h8 => ih  t8 i8 (lf_fq_tr f7 f8) kv0' kv1' kv2' (by omega)) (Nat.le_refl _)  i7    kv0 kv1 kv2)
  exact key _  s hI lf_fq_rf kv0 kv1 kv2 (Nat.lt_succ_self _)
theorem sm_216_p22 {X22 : Int → lf_Z → Prop} {Q : Int → lf_Z → Prop} {x1 : Int} {s : lf_Z} {s0 : lf_Z} (hQ : ∀ (r : Int) (s' : lf_Z), iv_A s'.1 s'.2.2 → lf_fq [95, 98, 100, 101, 102, 103] 1000000 true s.1 s.2.2 s'.1 s'.2.2 → (r = 0 → pz_Y (s'.1 100) (s'.1 98) (s'.1 95 12) (s'.1 95 13) (s'.1 95 19) (s'.1 95 20) (s'.1 95 21) (s'.1 95 22) (s'.1 95 8) (s0.1 98 (s0.1 95 12)) (1) (0)) → (r = 0 → (s0.1 95 8 ≤ s'.1 95 8 ∧ (s'.1 95 9 = 0 ∨ s'.1 95 8 < s'.1 95 7))) → (pz_H (s'.1 98) (s'.1 95 12) (s0.1 98 (s0.1 95 12))) → (s'.1 95 12 = s0.1 95 12) → (0 ≤ r ∧ r ≤ 5) → Q r s') {M22 : Nat} (hX22 : ∀ (x1 : Int) (s' : lf_Z), iv_A s'.1 s'.2.2 → lf_fq [95, 98, 100, 101, 102, 103] 1000000 true s.1 s.2.2 s'.1 s'.2.2 → 0 ≤ x1 ∧ x1 ≤ 26 → (pz_Y (s'.1 100) (s'.1 98) (s'.1 95 12) (s'.1 95 13) (s'.1 95 19) (s'.1 95 20) (s'.1 95 21) (s'.1 95 22) (s'.1 95 8) (s0.1 98 (s0.1 95 12)) (0) (0)) → (s'.1 95 9 = 0 ∨ s'.1 95 8 < s'.1 95 7) → (s'.1 95 12 = s0.1 95 12 ∧ s0.1 95 8 ≤ s'.1 95 8) → (26 - x1).toNat < M22 → X22 x1 s') (hM22 : (26 - x1).toNat ≤ M22) (hI : iv_A s.1 s.2.2) (bx1 : 0 ≤ x1 ∧ x1 ≤ 26) (kv0 : pz_Y (s.1 100) (s.1 98) (s.1 95 12) (s.1 95 13) (s.1 95 19) (s.1 95 20) (s.1 95 21) (s.1 95 22) (s.1 95 8) (s0.1 98 (s0.1 95 12)) (0) (0)) (kv1 : s.1 95 9 = 0 ∨ s.1 95 8 < s.1 95 7) (kv2 : s.1 95 12 = s0.1 95 12 ∧ s0.1 95 8 ≤ s.1 95 8) : fm_216_p22 Q X22 x1 s := by
  unfold fm_216_p22
  refine ⟨(show lf_R x1 from lf_Rof (by omega)), ?_⟩
  refine ⟨fun c34 => ?_, fun c34 => ?_⟩
  · skip
    replace c34 : 26 ≤ x1 := c34
    have hI35 : iv_A (lf_up s.1 95 23 0) s.2.2 := iv_w95_23 hI (by omega)
    have fr36 : lf_fq [95, 98, 100, 101, 102, 103] 1000000 true s.1 s.2.2 (lf_up s.1 95 23 0) s.2.2 := lf_fq_up (lf_fq_rf) rfl (fun h => absurd h (by decide))
    have b37 : 0 ≤ s.1 95 12 ∧ s.1 95 12 ≤ 2115 := (show 0 ≤ (lf_up s.1 95 23 0) 95 12 ∧ (lf_up s.1 95 23 0) 95 12 ≤ 2115 from iv_r95_12 hI35)
    have b38 : (lf_up s.1 95 23 0) 95 12 = s.1 95 12 := lf_up_i (by omega)
    have b39 : 0 ≤ s.1 95 13 ∧ s.1 95 13 ≤ 304 := (show 0 ≤ (lf_up s.1 95 23 0) 95 13 ∧ (lf_up s.1 95 23 0) 95 13 ≤ 304 from iv_r95_13 hI35)
    have b40 : (lf_up s.1 95 23 0) 95 13 = s.1 95 13 := lf_up_i (by omega)
    have b41 : 0 ≤ s.1 95 19 ∧ s.1 95 19 ≤ 160 := (show 0 ≤ (lf_up s.1 95 23 0) 95 19 ∧ (lf_up s.1 95 23 0) 95 19 ≤ 160 from iv_r95_19 hI35)
    have b42 : (lf_up s.1 95 23 0) 95 19 = s.1 95 19 := lf_up_i (by omega)
    have b43 : 0 ≤ s.1 95 20 ∧ s.1 95 20 ≤ 8 := (show 0 ≤ (lf_up s.1 95 23 0) 95 20 ∧ (lf_up s.1 95 23 0) 95 20 ≤ 8 from iv_r95_20 hI35)
    have b44 : (lf_up s.1 95 23 0) 95 20 = s.1 95 20 := lf_up_i (by omega)
    have b45 : 0 ≤ s.1 95 21 ∧ s.1 95 21 ≤ 8 := (show 0 ≤ (lf_up s.1 95 23 0) 95 21 ∧ (lf_up s.1 95 23 0) 95 21 ≤ 8 from iv_r95_21 hI35)
    have b46 : (lf_up s.1 95 23 0) 95 21 = s.1 95 21 := lf_up_i (by omega)
    have b47 : 0 ≤ s.1 95 22 ∧ s.1 95 22 ≤ 80 := (show 0 ≤ (lf_up s.1 95 23 0) 95 22 ∧ (lf_up s.1 95 23 0) 95 22 ≤ 80 from iv_r95_22 hI35)
    have b48 : (lf_up s.1 95 23 0) 95 22 = s.1 95 22 := lf_up_i (by omega)
    have b49 : 0 ≤ s.1 95 8 ∧ s.1 95 8 ≤ 300 := (show 0 ≤ (lf_up s.1 95 23 0) 95 8 ∧ (lf_up s.1 95 23 0) 95 8 ≤ 300 from iv_r95_8 hI35)
    have b50 : (lf_up s.1 95 23 0) 95 8 = s.1 95 8 := lf_up_i (by omega)
    have b51 : (-2147483648) ≤ s.1 95 9 ∧ s.1 95 9 ≤ 2147483647 := (show (-2147483648) ≤ (lf_up s.1 95 23 0) 95 9 ∧ (lf_up s.1 95 23 0) 95 9 ≤ 2147483647 from iv_full hI35)
    have b52 : (lf_up s.1 95 23 0) 95 9 = s.1 95 9 := lf_up_i (by omega)
    have b53 : 0 ≤ s.1 95 7 ∧ s.1 95 7 ≤ 300 := (show 0 ≤ (lf_up s.1 95 23 0) 95 7 ∧ (lf_up s.1 95 23 0) 95 7 ≤ 300 from iv_r95_7 hI35)
    have b54 : (lf_up s.1 95 23 0) 95 7 = s.1 95 7 := lf_up_i (by omega)
    exact sm_216_p46L (s0 := s0) (fun r9 t9 i9 f9 => hQ r9 t9 i9 (lf_fq_tr fr36 f9)) hI35 (show pz_Y ((s.1 100)) ((s.1 98)) ((s.1 95 12)) ((s.1 95 13)) ((s.1 95 19)) ((s.1 95 20)) ((s.1 95 21)) ((s.1 95 22)) ((s.1 95 8)) (s0.1 98 (s0.1 95 12)) (0) (0) from by first | with_reducible assumption | assumption) (show (s.1 95 9) = 0 ∨ (s.1 95 8) < (s.1 95 7) from by omega) (show (s.1 95 12) = s0.1 95 12 ∧ s0.1 95 8 ≤ (s.1 95 8) from by omega)
  · skip
    replace c34 : ¬ (26 ≤ x1) := c34
    refine ⟨(show (0 : Int) ≤ x1 ∧ x1 < (26 : Int) from by omega), ?_⟩
    have hI153 : iv_A (lf_up s.1 103 x1 (-1)) s.2.2 := iv_w103 hI (by omega)
    have fr154 : lf_fq [95, 98, 100, 101, 102, 103] 1000000 true s.1 s.2.2 (lf_up s.1 103 x1 (-1)) s.2.2 := lf_fq_up (lf_fq_rf) rfl (fun h => absurd h (by decide))
    have b155 : 0 ≤ s.1 95 12 ∧ s.1 95 12 ≤ 2115 := (show 0 ≤ (lf_up s.1 103 x1 (-1)) 95 12 ∧ (lf_up s.1 103 x1 (-1)) 95 12 ≤ 2115 from iv_r95_12 hI153)
    have b156 : 0 ≤ s.1 95 13 ∧ s.1 95 13 ≤ 304 := (show 0 ≤ (lf_up s.1 103 x1 (-1)) 95 13 ∧ (lf_up s.1 103 x1 (-1)) 95 13 ≤ 304 from iv_r95_13 hI153)
    have b157 : 0 ≤ s.1 95 19 ∧ s.1 95 19 ≤ 160 := (show 0 ≤ (lf_up s.1 103 x1 (-1)) 95 19 ∧ (lf_up s.1 103 x1 (-1)) 95 19 ≤ 160 from iv_r95_19 hI153)
    have b158 : 0 ≤ s.1 95 20 ∧ s.1 95 20 ≤ 8 := (show 0 ≤ (lf_up s.1 103 x1 (-1)) 95 20 ∧ (lf_up s.1 103 x1 (-1)) 95 20 ≤ 8 from iv_r95_20 hI153)
    have b159 : 0 ≤ s.1 95 21 ∧ s.1 95 21 ≤ 8 := (show 0 ≤ (lf_up s.1 103 x1 (-1)) 95 21 ∧ (lf_up s.1 103 x1 (-1)) 95 21 ≤ 8 from iv_r95_21 hI153)
    have b160 : 0 ≤ s.1 95 22 ∧ s.1 95 22 ≤ 80 := (show 0 ≤ (lf_up s.1 103 x1 (-1)) 95 22 ∧ (lf_up s.1 103 x1 (-1)) 95 22 ≤ 80 from iv_r95_22 hI153)
    have b161 : 0 ≤ s.1 95 8 ∧ s.1 95 8 ≤ 300 := (show 0 ≤ (lf_up s.1 103 x1 (-1)) 95 8 ∧ (lf_up s.1 103 x1 (-1)) 95 8 ≤ 300 from iv_r95_8 hI153)
    have b162 : (-2147483648) ≤ s.1 95 9 ∧ s.1 95 9 ≤ 2147483647 := (show (-2147483648) ≤ (lf_up s.1 103 x1 (-1)) 95 9 ∧ (lf_up s.1 103 x1 (-1)) 95 9 ≤ 2147483647 from iv_full hI153)
    have b163 : 0 ≤ s.1 95 7 ∧ s.1 95 7 ≤ 300 := (show 0 ≤ (lf_up s.1 103 x1 (-1)) 95 7 ∧ (lf_up s.1 103 x1 (-1)) 95 7 ≤ 300 from iv_r95_7 hI153)
    exact hX22 (x1 + 1) (lf_up s.1 103 x1 (-1), s.2.1, s.2.2) hI153 fr154 (show (0 : Int) ≤ x1 + 1 ∧ x1 + 1 ≤ (26 : Int) from by omega) (show pz_Y ((s.1 100)) ((s.1 98)) ((s.1 95 12)) ((s.1 95 13)) ((s.1 95 19)) ((s.1 95 20)) ((s.1 95 21)) ((s.1 95 22)) ((s.1 95 8)) (s0.1 98 (s0.1 95 12)) (0) (0) from by first | with_reducible assumption | assumption) (show (s.1 95 9) = 0 ∨ (s.1 95 8) < (s.1 95 7) from by omega) (show (s.1 95 12) = s0.1 95 12 ∧ s0.1 95 8 ≤ (s.1 95 8) from by omega) (show (26 - (x1 + 1)).toNat < M22 from by omega)
theorem sm_216_p22L {Q : Int → lf_Z → Prop} {x1 : Int} {s : lf_Z} {s0 : lf_Z} (hQ : ∀ (r : Int) (s' : lf_Z), iv_A s'.1 s'.2.2 → lf_fq [95, 98, 100, 101, 102, 103] 1000000 true s.1 s.2.2 s'.1 s'.2.2 → (r = 0 → pz_Y (s'.1 100) (s'.1 98) (s'.1 95 12) (s'.1 95 13) (s'.1 95 19) (s'.1 95 20) (s'.1 95 21) (s'.1 95 22) (s'.1 95 8) (s0.1 98 (s0.1 95 12)) (1) (0)) → (r = 0 → (s0.1 95 8 ≤ s'.1 95 8 ∧ (s'.1 95 9 = 0 ∨ s'.1 95 8 < s'.1 95 7))) → (pz_H (s'.1 98) (s'.1 95 12) (s0.1 98 (s0.1 95 12))) → (s'.1 95 12 = s0.1 95 12) → (0 ≤ r ∧ r ≤ 5) → Q r s') (hI : iv_A s.1 s.2.2) (bx1 : 0 ≤ x1 ∧ x1 ≤ 26) (kv0 : pz_Y (s.1 100) (s.1 98) (s.1 95 12) (s.1 95 13) (s.1 95 19) (s.1 95 20) (s.1 95 21) (s.1 95 22) (s.1 95 8) (s0.1 98 (s0.1 95 12)) (0) (0)) (kv1 : s.1 95 9 = 0 ∨ s.1 95 8 < s.1 95 7) (kv2 : s.1 95 12 = s0.1 95 12 ∧ s0.1 95 8 ≤ s.1 95 8) : fm_216_p22L Q x1 s := by
  intro X22 hX
  have key : ∀ (m9 : Nat) (x1 : Int) (s' : lf_Z), iv_A s'.1 s'.2.2 → lf_fq [95, 98, 100, 101, 102, 103] 1000000 true s.1 s.2.2 s'.1 s'.2.2 → 0 ≤ x1 ∧ x1 ≤ 26 → (pz_Y (s'.1 100) (s'.1 98) (s'.1 95 12) (s'.1 95 13) (s'.1 95 19) (s'.1 95 20) (s'.1 95 21) (s'.1 95 22) (s'.1 95 8) (s0.1 98 (s0.1 95 12)) (0) (0)) → (s'.1 95 9 = 0 ∨ s'.1 95 8 < s'.1 95 7) → (s'.1 95 12 = s0.1 95 12 ∧ s0.1 95 8 ≤ s'.1 95 8) → (26 - x1).toNat < m9 → X22 x1 s' := by
    intro m9
    induction m9 with
    | zero => intro x1 s' _ _ bx1 kv0 kv1 kv2 h9; exact absurd h9 (Nat.not_lt_zero _)
    | succ m9 ih => intro x1 s' i7 f7 bx1 kv0 kv1 kv2 h9; exact hX _ _ (sm_216_p22 (s0 := s0) (fun r9 t9 i9 f9 => hQ r9 t9 i9 (lf_fq_tr f7 f9))   (fun x1' t8 i8 f8 bx1' kv0' kv1' kv2' h8 => ih x1' t8 i8 (lf_fq_tr f7 f8) bx1' kv0' kv1' kv2' (by omega)) (Nat.le_refl _)  i7  bx1  kv0 kv1 kv2)
  exact key _ _ s hI lf_fq_rf bx1 kv0 kv1 kv2 (Nat.lt_succ_self _)
theorem sm_216 {Q : Int → lf_Z → Prop} {s : lf_Z} (hI : iv_A s.1 s.2.2) (kp0 : pz_Y (s.1 100) (s.1 98) (s.1 95 12) (s.1 95 13) 0 0 0 0 (s.1 95 8) (s.1 98 (s.1 95 12)) 0 0) (kp1 : s.1 95 9 = 0 ∨ s.1 95 8 < s.1 95 7) (hQ : ∀ (r : Int) (s' : lf_Z), iv_A s'.1 s'.2.2 → lf_fq [95, 98, 100, 101, 102, 103] 1000000 true s.1 s.2.2 s'.1 s'.2.2 → (r = 0 → pz_Y (s'.1 100) (s'.1 98) (s'.1 95 12) (s'.1 95 13) (s'.1 95 19) (s'.1 95 20) (s'.1 95 21) (s'.1 95 22) (s'.1 95 8) (s.1 98 (s.1 95 12)) (1) (0)) → (r = 0 → (s.1 95 8 ≤ s'.1 95 8 ∧ (s'.1 95 9 = 0 ∨ s'.1 95 8 < s'.1 95 7))) → (pz_H (s'.1 98) (s'.1 95 12) (s.1 98 (s.1 95 12))) → (s'.1 95 12 = s.1 95 12) → (0 ≤ r ∧ r ≤ 5) → Q r s') : fm_216 Q s := by
  unfold fm_216
  have hI1 : iv_A (lf_up s.1 95 19 0) s.2.2 := iv_w95_19 hI (by omega)
  have fr2 : lf_fq [95, 98, 100, 101, 102, 103] 1000000 true s.1 s.2.2 (lf_up s.1 95 19 0) s.2.2 := lf_fq_up (lf_fq_rf) rfl (fun h => absurd h (by decide))
  have hI3 : iv_A (lf_up (lf_up s.1 95 19 0) 95 20 0) s.2.2 := iv_w95_20 hI1 (by omega)
  have fr4 : lf_fq [95, 98, 100, 101, 102, 103] 1000000 true s.1 s.2.2 (lf_up (lf_up s.1 95 19 0) 95 20 0) s.2.2 := lf_fq_up fr2 rfl (fun h => absurd h (by decide))
  have hI5 : iv_A (lf_up (lf_up (lf_up s.1 95 19 0) 95 20 0) 95 21 0) s.2.2 := iv_w95_21 hI3 (by omega)
  have fr6 : lf_fq [95, 98, 100, 101, 102, 103] 1000000 true s.1 s.2.2 (lf_up (lf_up (lf_up s.1 95 19 0) 95 20 0) 95 21 0) s.2.2 := lf_fq_up fr4 rfl (fun h => absurd h (by decide))
  have hI7 : iv_A (lf_up (lf_up (lf_up (lf_up s.1 95 19 0) 95 20 0) 95 21 0) 95 22 0) s.2.2 := iv_w95_22 hI5 (by omega)
  have fr8 : lf_fq [95, 98, 100, 101, 102, 103] 1000000 true s.1 s.2.2 (lf_up (lf_up (lf_up (lf_up s.1 95 19 0) 95 20 0) 95 21 0) 95 22 0) s.2.2 := lf_fq_up fr6 rfl (fun h => absurd h (by decide))
  have b9 : 0 ≤ s.1 95 12 ∧ s.1 95 12 ≤ 2115 := (show 0 ≤ (lf_up (lf_up (lf_up (lf_up s.1 95 19 0) 95 20 0) 95 21 0) 95 22 0) 95 12 ∧ (lf_up (lf_up (lf_up (lf_up s.1 95 19 0) 95 20 0) 95 21 0) 95 22 0) 95 12 ≤ 2115 from iv_r95_12 hI7)
  have b10 : (lf_up (lf_up (lf_up (lf_up s.1 95 19 0) 95 20 0) 95 21 0) 95 22 0) 95 12 = (lf_up (lf_up (lf_up s.1 95 19 0) 95 20 0) 95 21 0) 95 12 := lf_up_i (by omega)
  have b11 : (lf_up (lf_up (lf_up s.1 95 19 0) 95 20 0) 95 21 0) 95 12 = (lf_up (lf_up s.1 95 19 0) 95 20 0) 95 12 := lf_up_i (by omega)
  have b12 : (lf_up (lf_up s.1 95 19 0) 95 20 0) 95 12 = (lf_up s.1 95 19 0) 95 12 := lf_up_i (by omega)
  have b13 : (lf_up s.1 95 19 0) 95 12 = s.1 95 12 := lf_up_i (by omega)
  have b14 : 0 ≤ s.1 95 13 ∧ s.1 95 13 ≤ 304 := (show 0 ≤ (lf_up (lf_up (lf_up (lf_up s.1 95 19 0) 95 20 0) 95 21 0) 95 22 0) 95 13 ∧ (lf_up (lf_up (lf_up (lf_up s.1 95 19 0) 95 20 0) 95 21 0) 95 22 0) 95 13 ≤ 304 from iv_r95_13 hI7)
  have b15 : (lf_up (lf_up (lf_up (lf_up s.1 95 19 0) 95 20 0) 95 21 0) 95 22 0) 95 13 = (lf_up (lf_up (lf_up s.1 95 19 0) 95 20 0) 95 21 0) 95 13 := lf_up_i (by omega)
  have b16 : (lf_up (lf_up (lf_up s.1 95 19 0) 95 20 0) 95 21 0) 95 13 = (lf_up (lf_up s.1 95 19 0) 95 20 0) 95 13 := lf_up_i (by omega)
  have b17 : (lf_up (lf_up s.1 95 19 0) 95 20 0) 95 13 = (lf_up s.1 95 19 0) 95 13 := lf_up_i (by omega)
  have b18 : (lf_up s.1 95 19 0) 95 13 = s.1 95 13 := lf_up_i (by omega)
  have b19 : 0 ≤ s.1 95 8 ∧ s.1 95 8 ≤ 300 := (show 0 ≤ (lf_up (lf_up (lf_up (lf_up s.1 95 19 0) 95 20 0) 95 21 0) 95 22 0) 95 8 ∧ (lf_up (lf_up (lf_up (lf_up s.1 95 19 0) 95 20 0) 95 21 0) 95 22 0) 95 8 ≤ 300 from iv_r95_8 hI7)
  have b20 : (lf_up (lf_up (lf_up (lf_up s.1 95 19 0) 95 20 0) 95 21 0) 95 22 0) 95 8 = (lf_up (lf_up (lf_up s.1 95 19 0) 95 20 0) 95 21 0) 95 8 := lf_up_i (by omega)
  have b21 : (lf_up (lf_up (lf_up s.1 95 19 0) 95 20 0) 95 21 0) 95 8 = (lf_up (lf_up s.1 95 19 0) 95 20 0) 95 8 := lf_up_i (by omega)
  have b22 : (lf_up (lf_up s.1 95 19 0) 95 20 0) 95 8 = (lf_up s.1 95 19 0) 95 8 := lf_up_i (by omega)
  have b23 : (lf_up s.1 95 19 0) 95 8 = s.1 95 8 := lf_up_i (by omega)
  have b24 : (-2147483648) ≤ s.1 95 9 ∧ s.1 95 9 ≤ 2147483647 := (show (-2147483648) ≤ (lf_up (lf_up (lf_up (lf_up s.1 95 19 0) 95 20 0) 95 21 0) 95 22 0) 95 9 ∧ (lf_up (lf_up (lf_up (lf_up s.1 95 19 0) 95 20 0) 95 21 0) 95 22 0) 95 9 ≤ 2147483647 from iv_full hI7)
  have b25 : (lf_up (lf_up (lf_up (lf_up s.1 95 19 0) 95 20 0) 95 21 0) 95 22 0) 95 9 = (lf_up (lf_up (lf_up s.1 95 19 0) 95 20 0) 95 21 0) 95 9 := lf_up_i (by omega)
  have b26 : (lf_up (lf_up (lf_up s.1 95 19 0) 95 20 0) 95 21 0) 95 9 = (lf_up (lf_up s.1 95 19 0) 95 20 0) 95 9 := lf_up_i (by omega)
  have b27 : (lf_up (lf_up s.1 95 19 0) 95 20 0) 95 9 = (lf_up s.1 95 19 0) 95 9 := lf_up_i (by omega)
  have b28 : (lf_up s.1 95 19 0) 95 9 = s.1 95 9 := lf_up_i (by omega)
  have b29 : 0 ≤ s.1 95 7 ∧ s.1 95 7 ≤ 300 := (show 0 ≤ (lf_up (lf_up (lf_up (lf_up s.1 95 19 0) 95 20 0) 95 21 0) 95 22 0) 95 7 ∧ (lf_up (lf_up (lf_up (lf_up s.1 95 19 0) 95 20 0) 95 21 0) 95 22 0) 95 7 ≤ 300 from iv_r95_7 hI7)
  have b30 : (lf_up (lf_up (lf_up (lf_up s.1 95 19 0) 95 20 0) 95 21 0) 95 22 0) 95 7 = (lf_up (lf_up (lf_up s.1 95 19 0) 95 20 0) 95 21 0) 95 7 := lf_up_i (by omega)
  have b31 : (lf_up (lf_up (lf_up s.1 95 19 0) 95 20 0) 95 21 0) 95 7 = (lf_up (lf_up s.1 95 19 0) 95 20 0) 95 7 := lf_up_i (by omega)
  have b32 : (lf_up (lf_up s.1 95 19 0) 95 20 0) 95 7 = (lf_up s.1 95 19 0) 95 7 := lf_up_i (by omega)
  have b33 : (lf_up s.1 95 19 0) 95 7 = s.1 95 7 := lf_up_i (by omega)
  exact sm_216_p22L (s0 := s) (fun r9 t9 i9 f9 => hQ r9 t9 i9 (lf_fq_tr fr8 f9)) hI7 (show (0 : Int) ≤ 0 ∧ 0 ≤ (26 : Int) from by omega) (show pz_Y ((s.1 100)) ((s.1 98)) ((s.1 95 12)) ((s.1 95 13)) (0) (0) (0) (0) ((s.1 95 8)) (s.1 98 (s.1 95 12)) (0) (0) from by first | with_reducible assumption | assumption) (show (s.1 95 9) = 0 ∨ (s.1 95 8) < (s.1 95 7) from by omega) (show (s.1 95 12) = s.1 95 12 ∧ s.1 95 8 ≤ (s.1 95 8) from by omega)
-- fm_215 Model.lawClause 95 i
theorem sm_215 {a1 : Int} {Q : Int → lf_Z → Prop} {s : lf_Z} (hI : iv_A s.1 s.2.2) (ba1 : 1 ≤ a1 ∧ a1 ≤ 2208) (kp0 : wk_E (s.1 98) (s.1 95 12) (s.1 95 13)) (kp1 : s.1 98 (s.1 95 12) < 24) (kp2 : a1 = s.1 95 12 + 1 + 4 * s.1 98 (s.1 95 12)) (kp3 : (s.1 95 9 = 0 ∨ s.1 95 8 < s.1 95 7) ∧ s.1 95 13 ≤ s.1 95 8) (hQ : ∀ (r : Int) (s' : lf_Z), iv_A s'.1 s'.2.2 → lf_fq [95, 98, 100, 101, 102, 103] 1000000 true s.1 s.2.2 s'.1 s'.2.2 → (r = 0 → pz_D 0 (a1) (s.1 98) (s'.1 98) (s.1 95 12) (s'.1 95 12) (s'.1 95 13)) → (r = 0 → ((s'.1 95 9 = 0 ∨ s'.1 95 8 < s'.1 95 7) ∧ s'.1 95 13 ≤ s'.1 95 8 ∧ s.1 95 8 ≤ s'.1 95 8)) → (0 ≤ r ∧ r ≤ 5) → Q r s') : fm_215 a1 Q s := by
  unfold fm_215
  have b1 : 0 ≤ s.1 95 12 ∧ s.1 95 12 ≤ 2115 := iv_r95_12 hI
  have b2 : 0 ≤ (s.1 98) ((s.1 95 12)) ∧ ((s.1 95 12) = 0 ∨ (s.1 95 12) = 705 ∨ (s.1 95 12) = 1410 ∨ (s.1 95 12) = 2115) := ⟨kp0.2.2.1, kp0.1⟩
  have b3 : 0 ≤ s.1 95 13 ∧ s.1 95 13 ≤ 304 := iv_r95_13 hI
  have b4 : wk_T (lf_up s.1 98 (a1 + 1) (s.1 95 13) 98) := wk_Tx (wk_TA hI) kp0 (by omega) (wk_hr hI) (by omega)
  refine ⟨(show (0 : Int) ≤ a1 + 1 ∧ a1 + 1 < (2820 : Int) from by omega), ?_⟩
  have hI5 : iv_A (lf_up s.1 98 (a1 + 1) (s.1 95 13)) s.2.2 := iv_w98c hI kp0.1 (by omega) (by omega) (by first | with_reducible assumption | assumption)
  have fr6 : lf_fq [95, 98, 100, 101, 102, 103] 1000000 true s.1 s.2.2 (lf_up s.1 98 (a1 + 1) (s.1 95 13)) s.2.2 := lf_fq_up (lf_fq_rf) rfl (fun h => absurd h (by decide))
  have b7 : 0 ≤ s.1 95 8 ∧ s.1 95 8 ≤ 300 := (show 0 ≤ (lf_up s.1 98 (a1 + 1) (s.1 95 13)) 95 8 ∧ (lf_up s.1 98 (a1 + 1) (s.1 95 13)) 95 8 ≤ 300 from iv_r95_8 hI5)
  have b8 : pz_Y ((s.1 100)) (((lf_up s.1 98 (a1 + 1) (s.1 95 13)) 98)) ((s.1 95 12)) ((s.1 95 13)) 0 0 0 0 ((s.1 95 8)) (((lf_up s.1 98 (a1 + 1) (s.1 95 13)) 98) ((s.1 95 12))) 0 0 := pz_Y0 kp0 (by omega) (by omega) kp2 _
  have b9 : ((lf_up s.1 98 (a1 + 1) (s.1 95 13)) 98) ((s.1 95 12)) = s.1 98 (s.1 95 12) := lf_up_i (by omega)
  have b12 : (-2147483648) ≤ s.1 95 9 ∧ s.1 95 9 ≤ 2147483647 := (show (-2147483648) ≤ (lf_up s.1 98 (a1 + 1) (s.1 95 13)) 95 9 ∧ (lf_up s.1 98 (a1 + 1) (s.1 95 13)) 95 9 ≤ 2147483647 from iv_full hI5)
  have b13 : 0 ≤ s.1 95 7 ∧ s.1 95 7 ≤ 300 := (show 0 ≤ (lf_up s.1 98 (a1 + 1) (s.1 95 13)) 95 7 ∧ (lf_up s.1 98 (a1 + 1) (s.1 95 13)) 95 7 ≤ 300 from iv_r95_7 hI5)
  refine sm_216 hI5 (show pz_Y ((s.1 100)) (((lf_up s.1 98 (a1 + 1) (s.1 95 13)) 98)) ((s.1 95 12)) ((s.1 95 13)) 0 0 0 0 ((s.1 95 8)) (((lf_up s.1 98 (a1 + 1) (s.1 95 13)) 98) ((s.1 95 12))) 0 0 from by first | with_reducible assumption | assumption) (show (s.1 95 9) = 0 ∨ (s.1 95 8) < (s.1 95 7) from by omega) (fun r23 s22 hI11 fr10 ps15 ps16 ps17 ps18 q14 => ?_)
  replace ps15 : r23 = 0 → pz_Y (s22.1 100) (s22.1 98) (s22.1 95 12) (s22.1 95 13) (s22.1 95 19) (s22.1 95 20) (s22.1 95 21) (s22.1 95 22) (s22.1 95 8) (((lf_up s.1 98 (a1 + 1) (s.1 95 13)) 98) ((s.1 95 12))) (1) (0) := ps15
  replace ps16 : r23 = 0 → ((s.1 95 8) ≤ s22.1 95 8 ∧ (s22.1 95 9 = 0 ∨ s22.1 95 8 < s22.1 95 7)) := ps16
  replace ps17 : pz_H (s22.1 98) (s22.1 95 12) (((lf_up s.1 98 (a1 + 1) (s.1 95 13)) 98) ((s.1 95 12))) := ps17
  replace ps18 : s22.1 95 12 = (s.1 95 12) := ps18
  have fr19 : lf_fq [95, 98, 100, 101, 102, 103] 1000000 true s.1 s.2.2 s22.1 s22.2.2 := lf_fq_tr fr6 (lf_fq_wk fr10 rfl (by decide) (by decide))
  have b20 : 0 ≤ s22.1 95 12 ∧ s22.1 95 12 ≤ 2115 := iv_r95_12 hI11
  have b21 : (s22.1 98) ((s22.1 95 12)) = (lf_up s.1 98 (a1 + 1) (s.1 95 13)) 98 (s.1 95 12) ∧ 0 ≤ (lf_up s.1 98 (a1 + 1) (s.1 95 13)) 98 (s.1 95 12) ∧ (lf_up s.1 98 (a1 + 1) (s.1 95 13)) 98 (s.1 95 12) < 24 ∧ ((s22.1 95 12) = 0 ∨ (s22.1 95 12) = 705 ∨ (s22.1 95 12) = 1410 ∨ (s22.1 95 12) = 2115) := pz_Hn ps17
  have b22 : 0 ≤ s22.1 95 8 ∧ s22.1 95 8 ≤ 300 := iv_r95_8 hI11
  have b23 : 0 ≤ s22.1 95 13 ∧ s22.1 95 13 ≤ 304 := iv_r95_13 hI11
  have b24 : (s22.1 95 8) ≤ 300 ∧ (s22.1 95 13) ≤ 304 := ⟨(iv_r95_8 hI11).2, (iv_r95_13 hI11).2⟩
  have b25 : wk_T (lf_up s22.1 98 (a1 + 2) (s22.1 95 13) 98) := wk_Tx (wk_TA hI11) ps17.2.2.2 (by omega) (wk_hr hI11) (by omega)
  refine ⟨(show (0 : Int) ≤ a1 + 2 ∧ a1 + 2 < (2820 : Int) from by omega), ?_⟩
  have hI26 : iv_A (lf_up s22.1 98 (a1 + 2) (s22.1 95 13)) s22.2.2 := iv_w98c hI11 ps17.2.2.2.1 (by omega) (by omega) (by first | with_reducible assumption | assumption)
  have fr27 : lf_fq [95, 98, 100, 101, 102, 103] 1000000 true s.1 s.2.2 (lf_up s22.1 98 (a1 + 2) (s22.1 95 13)) s22.2.2 := lf_fq_up fr19 rfl (fun h => absurd h (by decide))
  have b28 : r23 = 0 → (s22.1 95 13) ≤ (s22.1 95 8) := fun h9 => by have h8 := pz_Yn (ps15 h9); omega
  have b29 : r23 = 0 → pz_D 0 (a1) (s.1 98) (((lf_up s22.1 98 (a1 + 2) (s22.1 95 13)) 98)) (s.1 95 12) ((s22.1 95 12)) ((s22.1 95 13)) := fun h9 => ⟨by omega, wk_Ex (pz_YE (ps15 h9)) (by omega), (lf_up_i (by omega)).trans (by omega), fun h => absurd h (by decide), fun _ => ⟨pz_Yd (ps15 h9) (by omega) (by omega), Int.le_of_eq lf_up_s⟩⟩
  exact hQ r23 (lf_up s22.1 98 (a1 + 2) (s22.1 95 13), s22.2.1, s22.2.2) hI26 fr27 (show r23 = 0 → pz_D 0 (a1) (s.1 98) (((lf_up s22.1 98 (a1 + 2) (s22.1 95 13)) 98)) (s.1 95 12) ((s22.1 95 12)) ((s22.1 95 13)) from by first | with_reducible assumption | omega) (show r23 = 0 → (((s22.1 95 9) = 0 ∨ (s22.1 95 8) < (s22.1 95 7)) ∧ (s22.1 95 13) ≤ (s22.1 95 8) ∧ s.1 95 8 ≤ (s22.1 95 8)) from by first | with_reducible assumption | omega) (show (0 : Int) ≤ r23 ∧ r23 ≤ (5 : Int) from by omega)
-- fm_213 Model.figure 95 i i i
theorem sm_213 {a1 : Int} {a2 : Int} {a3 : Int} {Q : Int → lf_Z → Prop} {s : lf_Z} (hI : iv_A s.1 s.2.2) (ba1 : 2 ≤ a1 ∧ a1 ≤ 2210) (ba2 : 0 ≤ a2 ∧ a2 ≤ 1) (ba3 : 3 ≤ a3 ∧ a3 ≤ 99) (kp0 : wk_E (s.1 98) (s.1 95 12) (s.1 95 13)) (kp1 : s.1 98 (s.1 95 12) < 24) (kp2 : s.1 95 12 + 1 + 4 * s.1 98 (s.1 95 12) + 1 ≤ a1 ∧ a1 ≤ s.1 95 12 + 1 + 4 * s.1 98 (s.1 95 12) + 2) (kp3 : (s.1 95 9 = 0 ∨ s.1 95 8 < s.1 95 7) ∧ s.1 95 13 ≤ s.1 95 8) (hQ : ∀ (r : Int) (s' : lf_Z), iv_A s'.1 s'.2.2 → lf_fq [95, 98] 1000000 true s.1 s.2.2 s'.1 s'.2.2 → (r = 0 → pz_V (s.1 98) (s'.1 98) (s.1 95 12) (s'.1 95 12) (s'.1 95 13) (a1)) → (r = 0 → ((s'.1 95 9 = 0 ∨ s'.1 95 8 < s'.1 95 7) ∧ s'.1 95 13 ≤ s'.1 95 8 ∧ s.1 95 8 ≤ s'.1 95 8)) → (0 ≤ r ∧ r ≤ 2) → Q r s') : fm_213 a1 a2 a3 Q s := by
  unfold fm_213
  have b1 : 0 ≤ s.1 95 12 ∧ s.1 95 12 ≤ 2115 := iv_r95_12 hI
  have b2 : 0 ≤ (s.1 98) ((s.1 95 12)) ∧ ((s.1 95 12) = 0 ∨ (s.1 95 12) = 705 ∨ (s.1 95 12) = 1410 ∨ (s.1 95 12) = 2115) := ⟨kp0.2.2.1, kp0.1⟩
  have b3 : (-2147483648) ≤ s.1 95 9 ∧ s.1 95 9 ≤ 2147483647 := iv_full hI
  refine ⟨(show lf_R (s.1 95 9) from lf_Rof (by omega)), ?_⟩
  refine ⟨fun c4 => ?_, fun c4 => ?_⟩
  · skip
    replace c4 : s.1 95 9 = 1 := c4
    have b5 : (-2147483648) ≤ s.1 95 10 ∧ s.1 95 10 ≤ 2147483647 := iv_full hI
    refine sm_183 hI (show (-2147483648 : Int) ≤ s.1 95 10 ∧ s.1 95 10 ≤ (2147483647 : Int) from by omega) (show (-1 : Int) ≤ a2 ∧ a2 ≤ (97 : Int) from by omega) (show (-1 : Int) ≤ a3 ∧ a3 ≤ (9999 : Int) from by omega) (fun z23 q6 => ?_)
    refine ⟨fun c7 => ?_, fun c7 => ?_⟩
    · skip
      have dc7 := q6.1 c7
      have b8 : wk_T (lf_up s.1 98 a1 (s.1 95 10) 98) := wk_Tx (wk_TA hI) kp0 (by omega) (wk_hr hI) (by omega)
      refine ⟨(show (0 : Int) ≤ a1 ∧ a1 < (2820 : Int) from by omega), ?_⟩
      have hI9 : iv_A (lf_up s.1 98 a1 (s.1 95 10)) s.2.2 := iv_w98c hI kp0.1 (by omega) (by omega) (by first | with_reducible assumption | assumption)
      have fr10 : lf_fq [95, 98] 1000000 true s.1 s.2.2 (lf_up s.1 98 a1 (s.1 95 10)) s.2.2 := lf_fq_up (lf_fq_rf) rfl (fun h => absurd h (by decide))
      have b11 : 0 ≤ s.1 95 13 ∧ s.1 95 13 ≤ 304 := (show 0 ≤ (lf_up s.1 98 a1 (s.1 95 10)) 95 13 ∧ (lf_up s.1 98 a1 (s.1 95 10)) 95 13 ≤ 304 from iv_r95_13 hI9)
      have b12 : wk_E (((lf_up s.1 98 a1 (s.1 95 10)) 98)) ((s.1 95 12)) ((s.1 95 13)) := wk_Ex kp0 (by omega)
      refine sm_197 hI9 (fun s25 hI14 fr13 ps16 ps17 => ?_)
      replace ps16 : (s.1 95 7) ≤ s25.1 95 8 ∧ (s25.1 95 9 = 0 ∨ s25.1 95 8 < s25.1 95 7) := ps16
      replace ps17 : s25.1 95 12 = (s.1 95 12) ∧ s25.1 95 13 = (s.1 95 13) ∧ s25.1 95 19 = (s.1 95 19) ∧ s25.1 95 20 = (s.1 95 20) ∧ s25.1 95 21 = (s.1 95 21) ∧ s25.1 95 22 = (s.1 95 22) ∧ s25.1 95 23 = (s.1 95 23) := ps17
      have fr18 : lf_fq [95, 98] 1000000 true s.1 s.2.2 s25.1 s25.2.2 := lf_fq_tr fr10 (lf_fq_wk fr13 rfl (by decide) (by decide))
      have b19 : 0 ≤ s25.1 95 12 ∧ s25.1 95 12 ≤ 2115 := iv_r95_12 hI14
      have b20 : 0 ≤ s25.1 95 13 ∧ s25.1 95 13 ≤ 304 := iv_r95_13 hI14
      have b21 : pz_V (s.1 98) ((s25.1 98)) (s.1 95 12) ((s25.1 95 12)) ((s25.1 95 13)) a1 := ⟨by omega, wk_cE (fr13.1 98 rfl) (by first | with_reducible assumption | assumption) (by omega) (by omega), fun j hj => (congrFun (fr13.1 98 rfl) j).trans (show (lf_up s.1 98 a1 (s.1 95 10)) 98 j = s.1 98 j from lf_up_i (by omega))⟩
      exact hQ 0 s25 hI14 fr18 (show 0 = 0 → pz_V (s.1 98) ((s25.1 98)) (s.1 95 12) ((s25.1 95 12)) ((s25.1 95 13)) (a1) from fun _ => by first | with_reducible assumption | assumption) (show 0 = 0 → (((s25.1 95 9) = 0 ∨ (s25.1 95 8) < (s25.1 95 7)) ∧ (s25.1 95 13) ≤ (s25.1 95 8) ∧ s.1 95 8 ≤ (s25.1 95 8)) from fun _ => by omega) (show (0 : Int) ≤ 0 ∧ 0 ≤ (2 : Int) from by omega)
    · skip
      have dc7 := q6.2 c7
      exact hQ 2 s hI (lf_fq_rf) (show 2 = 0 → pz_V (s.1 98) ((s.1 98)) (s.1 95 12) ((s.1 95 12)) ((s.1 95 13)) (a1) from fun h => absurd h (by decide)) (show 2 = 0 → (((s.1 95 9) = 0 ∨ (s.1 95 8) < (s.1 95 7)) ∧ (s.1 95 13) ≤ (s.1 95 8) ∧ s.1 95 8 ≤ (s.1 95 8)) from fun h => absurd h (by decide)) (show (0 : Int) ≤ 2 ∧ 2 ≤ (2 : Int) from by omega)
  · skip
    replace c4 : ¬ (s.1 95 9 = 1) := c4
    exact hQ 1 s hI (lf_fq_rf) (show 1 = 0 → pz_V (s.1 98) ((s.1 98)) (s.1 95 12) ((s.1 95 12)) ((s.1 95 13)) (a1) from fun h => absurd h (by decide)) (show 1 = 0 → (((s.1 95 9) = 0 ∨ (s.1 95 8) < (s.1 95 7)) ∧ (s.1 95 13) ≤ (s.1 95 8) ∧ s.1 95 8 ≤ (s.1 95 8)) from fun h => absurd h (by decide)) (show (0 : Int) ≤ 1 ∧ 1 ≤ (2 : Int) from by omega)
-- fm_214 Model.worded 95 l i i i
theorem sm_214 {a1 : Int} {a2 : Int} {a3 : Int} {a4 : Int} {Q : Int → lf_Z → Prop} {s : lf_Z} (hI : iv_A s.1 s.2.2) (ba2 : 3 ≤ a2 ∧ a2 ≤ 2210) (ba3 : 0 ≤ a3 ∧ a3 ≤ 1) (ba4 : 11 ≤ a4 ∧ a4 ≤ 99) (kp0 : wk_E (s.1 98) (s.1 95 12) (s.1 95 13)) (kp1 : s.1 98 (s.1 95 12) < 24) (kp2 : s.1 95 12 + 1 + 4 * s.1 98 (s.1 95 12) + 1 ≤ a2 ∧ a2 ≤ s.1 95 12 + 1 + 4 * s.1 98 (s.1 95 12) + 2) (kp3 : (s.1 95 9 = 0 ∨ s.1 95 8 < s.1 95 7) ∧ s.1 95 13 ≤ s.1 95 8) (hQ : ∀ (r : Int) (s' : lf_Z), iv_A s'.1 s'.2.2 → lf_fq [95, 98] 1000000 true s.1 s.2.2 s'.1 s'.2.2 → (r = 0 → pz_V (s.1 98) (s'.1 98) (s.1 95 12) (s'.1 95 12) (s'.1 95 13) (a2)) → (r = 0 → ((s'.1 95 9 = 0 ∨ s'.1 95 8 < s'.1 95 7) ∧ s'.1 95 13 ≤ s'.1 95 8 ∧ s.1 95 8 ≤ s'.1 95 8)) → (0 ≤ r ∧ r ≤ 2) → Q r s') : fm_214 a1 a2 a3 a4 Q s := by
  unfold fm_214
  have b1 : 0 ≤ s.1 95 12 ∧ s.1 95 12 ≤ 2115 := iv_r95_12 hI
  have b2 : 0 ≤ (s.1 98) ((s.1 95 12)) ∧ ((s.1 95 12) = 0 ∨ (s.1 95 12) = 705 ∨ (s.1 95 12) = 1410 ∨ (s.1 95 12) = 2115) := ⟨kp0.2.2.1, kp0.1⟩
  refine sm_207 hI (fun z22 q3 => ?_)
  have b4 : (-2147483648) ≤ s.1 95 9 ∧ s.1 95 9 ≤ 2147483647 := iv_full hI
  refine ⟨fun c5 => ?_, fun c5 => ?_⟩
  · skip
    have dc5 := q3.1 c5
    refine sm_197 hI (fun s23 hI7 fr6 ps9 ps10 => ?_)
    replace ps9 : (s.1 95 7) ≤ s23.1 95 8 ∧ (s23.1 95 9 = 0 ∨ s23.1 95 8 < s23.1 95 7) := ps9
    replace ps10 : s23.1 95 12 = (s.1 95 12) ∧ s23.1 95 13 = (s.1 95 13) ∧ s23.1 95 19 = (s.1 95 19) ∧ s23.1 95 20 = (s.1 95 20) ∧ s23.1 95 21 = (s.1 95 21) ∧ s23.1 95 22 = (s.1 95 22) ∧ s23.1 95 23 = (s.1 95 23) := ps10
    have fr11 : lf_fq [95, 98] 1000000 true s.1 s.2.2 s23.1 s23.2.2 := lf_fq_tr (lf_fq_rf) (lf_fq_wk fr6 rfl (by decide) (by decide))
    have b12 : 0 ≤ s23.1 95 12 ∧ s23.1 95 12 ≤ 2115 := iv_r95_12 hI7
    have b13 : 0 ≤ s23.1 95 13 ∧ s23.1 95 13 ≤ 304 := iv_r95_13 hI7
    have b14 : wk_E ((s23.1 98)) ((s23.1 95 12)) ((s23.1 95 13)) := wk_cE (fr6.1 98 rfl) kp0 (by omega) (by omega)
    have b15 : (s23.1 98) ((s23.1 95 12)) = s.1 98 (s.1 95 12) := lf_ap (fr6.1 98 rfl) (by omega)
    have b16 : pz_V (s.1 98) ((s23.1 98)) (s.1 95 12) ((s23.1 95 12)) ((s23.1 95 13)) a2 := ⟨by omega, wk_cE (fr6.1 98 rfl) kp0 (by omega) (by omega), fun j hj => congrFun (fr6.1 98 rfl) j⟩
    have b19 : (-2147483648) ≤ s23.1 95 9 ∧ s23.1 95 9 ≤ 2147483647 := iv_full hI7
    have b20 : 0 ≤ s23.1 95 8 ∧ s23.1 95 8 ≤ 300 := iv_r95_8 hI7
    have b21 : 0 ≤ s23.1 95 7 ∧ s23.1 95 7 ≤ 300 := iv_r95_7 hI7
    refine sm_213 hI7 (show (2 : Int) ≤ a2 ∧ a2 ≤ (2210 : Int) from by omega) (show (0 : Int) ≤ a3 ∧ a3 ≤ (1 : Int) from by omega) (show (3 : Int) ≤ a4 ∧ a4 ≤ (99 : Int) from by omega) (show wk_E ((s23.1 98)) ((s23.1 95 12)) ((s23.1 95 13)) from by first | with_reducible assumption | assumption) (show (s23.1 98) ((s23.1 95 12)) < 24 from by omega) (show (s23.1 95 12) + 1 + 4 * (s23.1 98) ((s23.1 95 12)) + 1 ≤ a2 ∧ a2 ≤ (s23.1 95 12) + 1 + 4 * (s23.1 98) ((s23.1 95 12)) + 2 from by omega) (show ((s23.1 95 9) = 0 ∨ (s23.1 95 8) < (s23.1 95 7)) ∧ (s23.1 95 13) ≤ (s23.1 95 8) from by omega) (fun r25 s24 hI18 fr17 ps23 ps24 q22 => ?_)
    replace ps23 : r25 = 0 → pz_V ((s23.1 98)) (s24.1 98) ((s23.1 95 12)) (s24.1 95 12) (s24.1 95 13) (a2) := ps23
    replace ps24 : r25 = 0 → ((s24.1 95 9 = 0 ∨ s24.1 95 8 < s24.1 95 7) ∧ s24.1 95 13 ≤ s24.1 95 8 ∧ (s23.1 95 8) ≤ s24.1 95 8) := ps24
    have fr25 : lf_fq [95, 98] 1000000 true s.1 s.2.2 s24.1 s24.2.2 := lf_fq_tr fr11 (lf_fq_wk fr17 rfl (by decide) (by decide))
    have b26 : 0 ≤ s24.1 95 12 ∧ s24.1 95 12 ≤ 2115 := iv_r95_12 hI18
    have b27 : 0 ≤ s24.1 95 13 ∧ s24.1 95 13 ≤ 304 := iv_r95_13 hI18
    have b28 : r25 = 0 → pz_V (s.1 98) ((s24.1 98)) (s.1 95 12) ((s24.1 95 12)) ((s24.1 95 13)) (a2) := by first | exact fun h => absurd h (by decide) | exact fun h9 => pz_Vt (by first | with_reducible assumption | assumption) (ps23 h9) (Int.le_refl _)
    exact hQ r25 s24 hI18 fr25 (show r25 = 0 → pz_V (s.1 98) ((s24.1 98)) (s.1 95 12) ((s24.1 95 12)) ((s24.1 95 13)) (a2) from by first | with_reducible assumption | omega) (show r25 = 0 → (((s24.1 95 9) = 0 ∨ (s24.1 95 8) < (s24.1 95 7)) ∧ (s24.1 95 13) ≤ (s24.1 95 8) ∧ s.1 95 8 ≤ (s24.1 95 8)) from by first | with_reducible assumption | omega) (show (0 : Int) ≤ r25 ∧ r25 ≤ (2 : Int) from by omega)
  · skip
    have dc5 := q3.2 c5
    have b29 : 0 ≤ s.1 95 13 ∧ s.1 95 13 ≤ 304 := iv_r95_13 hI
    have b30 : 1 = 0 → pz_V (s.1 98) ((s.1 98)) (s.1 95 12) ((s.1 95 12)) ((s.1 95 13)) (a2) := by first | exact fun h => absurd h (by decide) | exact fun h9 => pz_Vt (by first | with_reducible assumption | assumption) (hI h9) (Int.le_refl _)
    exact hQ 1 s hI (lf_fq_rf) (show 1 = 0 → pz_V (s.1 98) ((s.1 98)) (s.1 95 12) ((s.1 95 12)) ((s.1 95 13)) (a2) from fun h => absurd h (by decide)) (show 1 = 0 → (((s.1 95 9) = 0 ∨ (s.1 95 8) < (s.1 95 7)) ∧ (s.1 95 13) ≤ (s.1 95 8) ∧ s.1 95 8 ≤ (s.1 95 8)) from fun h => absurd h (by decide)) (show (0 : Int) ≤ 1 ∧ 1 ≤ (2 : Int) from by omega)
-- fm_212 Model.pair 95 i i i l i i
theorem sm_212 {a1 : Int} {a2 : Int} {a3 : Int} {a4 : Int} {a5 : Int} {a6 : Int} {Q : Int → lf_Z → Prop} {s : lf_Z} (hI : iv_A s.1 s.2.2) (ba1 : 1 ≤ a1 ∧ a1 ≤ 2208) (ba2 : 0 ≤ a2 ∧ a2 ≤ 1) (ba3 : 3 ≤ a3 ∧ a3 ≤ 24) (ba5 : 0 ≤ a5 ∧ a5 ≤ 1) (ba6 : 11 ≤ a6 ∧ a6 ≤ 99) (kp0 : wk_E (s.1 98) (s.1 95 12) (s.1 95 13)) (kp1 : s.1 98 (s.1 95 12) < 24) (kp2 : a1 = s.1 95 12 + 1 + 4 * s.1 98 (s.1 95 12)) (kp3 : (s.1 95 9 = 0 ∨ s.1 95 8 < s.1 95 7) ∧ s.1 95 13 ≤ s.1 95 8) (hQ : ∀ (r : Int) (s' : lf_Z), iv_A s'.1 s'.2.2 → lf_fq [95, 98] 1000000 true s.1 s.2.2 s'.1 s'.2.2 → (r = 0 → pz_V (s.1 98) (s'.1 98) (s.1 95 12) (s'.1 95 12) (s'.1 95 13) (a1 + 1)) → (r = 0 → ((s'.1 95 9 = 0 ∨ s'.1 95 8 < s'.1 95 7) ∧ s'.1 95 13 ≤ s'.1 95 8 ∧ s.1 95 8 ≤ s'.1 95 8)) → (0 ≤ r ∧ r ≤ 2) → Q r s') : fm_212 a1 a2 a3 a4 a5 a6 Q s := by
  unfold fm_212
  have b1 : 0 ≤ s.1 95 12 ∧ s.1 95 12 ≤ 2115 := iv_r95_12 hI
  have b2 : 0 ≤ (s.1 98) ((s.1 95 12)) ∧ ((s.1 95 12) = 0 ∨ (s.1 95 12) = 705 ∨ (s.1 95 12) = 1410 ∨ (s.1 95 12) = 2115) := ⟨kp0.2.2.1, kp0.1⟩
  have b5 : 0 ≤ s.1 95 13 ∧ s.1 95 13 ≤ 304 := iv_r95_13 hI
  have b6 : (-2147483648) ≤ s.1 95 9 ∧ s.1 95 9 ≤ 2147483647 := iv_full hI
  have b7 : 0 ≤ s.1 95 8 ∧ s.1 95 8 ≤ 300 := iv_r95_8 hI
  have b8 : 0 ≤ s.1 95 7 ∧ s.1 95 7 ≤ 300 := iv_r95_7 hI
  refine sm_213 hI (show (2 : Int) ≤ a1 + 1 ∧ a1 + 1 ≤ (2210 : Int) from by omega) (show (0 : Int) ≤ a2 ∧ a2 ≤ (1 : Int) from by omega) (show (3 : Int) ≤ a3 ∧ a3 ≤ (99 : Int) from by omega) (show wk_E ((s.1 98)) ((s.1 95 12)) ((s.1 95 13)) from by first | with_reducible assumption | assumption) (show (s.1 98) ((s.1 95 12)) < 24 from by omega) (show (s.1 95 12) + 1 + 4 * (s.1 98) ((s.1 95 12)) + 1 ≤ (a1 + 1) ∧ (a1 + 1) ≤ (s.1 95 12) + 1 + 4 * (s.1 98) ((s.1 95 12)) + 2 from by omega) (show ((s.1 95 9) = 0 ∨ (s.1 95 8) < (s.1 95 7)) ∧ (s.1 95 13) ≤ (s.1 95 8) from by omega) (fun r22 s21 hI4 fr3 ps10 ps11 q9 => ?_)
  replace ps10 : r22 = 0 → pz_V ((s.1 98)) (s21.1 98) ((s.1 95 12)) (s21.1 95 12) (s21.1 95 13) ((a1 + 1)) := ps10
  replace ps11 : r22 = 0 → ((s21.1 95 9 = 0 ∨ s21.1 95 8 < s21.1 95 7) ∧ s21.1 95 13 ≤ s21.1 95 8 ∧ (s.1 95 8) ≤ s21.1 95 8) := ps11
  have fr12 : lf_fq [95, 98] 1000000 true s.1 s.2.2 s21.1 s21.2.2 := lf_fq_tr (lf_fq_rf) (lf_fq_wk fr3 rfl (by decide) (by decide))
  refine ⟨(show lf_R r22 from lf_Rof (by omega)), ?_⟩
  refine ⟨fun c13 => ?_, fun c13 => ?_⟩
  · skip
    replace c13 : r22 = 0 := c13
    have dps10 := ps10 c13
    have dps11 := ps11 c13
    have b14 : 0 ≤ s21.1 95 12 ∧ s21.1 95 12 ≤ 2115 := iv_r95_12 hI4
    have b15 : 0 ≤ s21.1 95 13 ∧ s21.1 95 13 ≤ 304 := iv_r95_13 hI4
    have b16 : wk_E ((s21.1 98)) ((s21.1 95 12)) ((s21.1 95 13)) := pz_VE (show pz_V (s.1 98) ((s21.1 98)) (s.1 95 12) ((s21.1 95 12)) ((s21.1 95 13)) (a1 + 1) from by first | with_reducible assumption | assumption)
    have b17 : (s21.1 95 12) = s.1 95 12 ∧ (s21.1 98) ((s21.1 95 12)) = s.1 98 (s.1 95 12) := pz_Vc (show pz_V (s.1 98) ((s21.1 98)) (s.1 95 12) ((s21.1 95 12)) ((s21.1 95 13)) (a1 + 1) from by first | with_reducible assumption | assumption) (by omega)
    have b20 : (-2147483648) ≤ s21.1 95 9 ∧ s21.1 95 9 ≤ 2147483647 := iv_full hI4
    have b21 : 0 ≤ s21.1 95 8 ∧ s21.1 95 8 ≤ 300 := iv_r95_8 hI4
    have b22 : 0 ≤ s21.1 95 7 ∧ s21.1 95 7 ≤ 300 := iv_r95_7 hI4
    refine sm_214 hI4 (show (3 : Int) ≤ a1 + 2 ∧ a1 + 2 ≤ (2210 : Int) from by omega) (show (0 : Int) ≤ a5 ∧ a5 ≤ (1 : Int) from by omega) (show (11 : Int) ≤ a6 ∧ a6 ≤ (99 : Int) from by omega) (show wk_E ((s21.1 98)) ((s21.1 95 12)) ((s21.1 95 13)) from by first | with_reducible assumption | assumption) (show (s21.1 98) ((s21.1 95 12)) < 24 from by omega) (show (s21.1 95 12) + 1 + 4 * (s21.1 98) ((s21.1 95 12)) + 1 ≤ (a1 + 2) ∧ (a1 + 2) ≤ (s21.1 95 12) + 1 + 4 * (s21.1 98) ((s21.1 95 12)) + 2 from by omega) (show ((s21.1 95 9) = 0 ∨ (s21.1 95 8) < (s21.1 95 7)) ∧ (s21.1 95 13) ≤ (s21.1 95 8) from by omega) (fun r25 s24 hI19 fr18 ps24 ps25 q23 => ?_)
    replace ps24 : r25 = 0 → pz_V ((s21.1 98)) (s24.1 98) ((s21.1 95 12)) (s24.1 95 12) (s24.1 95 13) ((a1 + 2)) := ps24
    replace ps25 : r25 = 0 → ((s24.1 95 9 = 0 ∨ s24.1 95 8 < s24.1 95 7) ∧ s24.1 95 13 ≤ s24.1 95 8 ∧ (s21.1 95 8) ≤ s24.1 95 8) := ps25
    have fr26 : lf_fq [95, 98] 1000000 true s.1 s.2.2 s24.1 s24.2.2 := lf_fq_tr fr12 (lf_fq_wk fr18 rfl (by decide) (by decide))
    have b27 : 0 ≤ s24.1 95 12 ∧ s24.1 95 12 ≤ 2115 := iv_r95_12 hI19
    have b28 : 0 ≤ s24.1 95 13 ∧ s24.1 95 13 ≤ 304 := iv_r95_13 hI19
    have b29 : r25 = 0 → pz_V (s.1 98) ((s24.1 98)) (s.1 95 12) ((s24.1 95 12)) ((s24.1 95 13)) (a1 + 1) := by first | with_reducible assumption | exact fun h9 => pz_Vt (by first | with_reducible assumption | assumption) (ps24 h9) (by omega)
    exact hQ r25 s24 hI19 fr26 (show r25 = 0 → pz_V (s.1 98) ((s24.1 98)) (s.1 95 12) ((s24.1 95 12)) ((s24.1 95 13)) (a1 + 1) from by first | with_reducible assumption | omega) (show r25 = 0 → (((s24.1 95 9) = 0 ∨ (s24.1 95 8) < (s24.1 95 7)) ∧ (s24.1 95 13) ≤ (s24.1 95 8) ∧ s.1 95 8 ≤ (s24.1 95 8)) from by first | with_reducible assumption | omega) (show (0 : Int) ≤ r25 ∧ r25 ≤ (2 : Int) from by omega)
  · skip
    replace c13 : ¬ (r22 = 0) := c13
    have b30 : 0 ≤ s21.1 95 12 ∧ s21.1 95 12 ≤ 2115 := iv_r95_12 hI4
    have b31 : 0 ≤ s21.1 95 13 ∧ s21.1 95 13 ≤ 304 := iv_r95_13 hI4
    have b32 : r22 = 0 → pz_V (s.1 98) ((s21.1 98)) (s.1 95 12) ((s21.1 95 12)) ((s21.1 95 13)) (a1 + 1) := by first | with_reducible assumption | exact fun h9 => pz_Vt (by first | with_reducible assumption | assumption) (ps10 h9) (by omega)
    exact hQ r22 s21 hI4 fr12 (show r22 = 0 → pz_V (s.1 98) ((s21.1 98)) (s.1 95 12) ((s21.1 95 12)) ((s21.1 95 13)) (a1 + 1) from by first | with_reducible assumption | omega) (show r22 = 0 → (((s21.1 95 9) = 0 ∨ (s21.1 95 8) < (s21.1 95 7)) ∧ (s21.1 95 13) ≤ (s21.1 95 8) ∧ s.1 95 8 ≤ (s21.1 95 8)) from by first | with_reducible assumption | omega) (show (0 : Int) ≤ r22 ∧ r22 ≤ (2 : Int) from by omega)
-- fm_211 Model.body 95 i i
theorem sm_211 {a1 : Int} {a2 : Int} {Q : Int → lf_Z → Prop} {s : lf_Z} (hI : iv_A s.1 s.2.2) (ba1 : 0 ≤ a1 ∧ a1 ≤ 12) (ba2 : 1 ≤ a2 ∧ a2 ≤ 2208) (kp0 : wk_E (s.1 98) (s.1 95 12) (s.1 95 13)) (kp1 : s.1 98 (s.1 95 12) < 24) (kp2 : a2 = s.1 95 12 + 1 + 4 * s.1 98 (s.1 95 12)) (kp3 : (s.1 95 9 = 0 ∨ s.1 95 8 < s.1 95 7) ∧ s.1 95 13 ≤ s.1 95 8) (hQ : ∀ (r : Int) (s' : lf_Z), iv_A s'.1 s'.2.2 → lf_fq [95, 98, 100, 101, 102, 103] 1000000 true s.1 s.2.2 s'.1 s'.2.2 → (r = 0 → pz_D (a1) (a2) (s.1 98) (s'.1 98) (s.1 95 12) (s'.1 95 12) (s'.1 95 13)) → (r = 0 → ((s'.1 95 9 = 0 ∨ s'.1 95 8 < s'.1 95 7) ∧ s'.1 95 13 ≤ s'.1 95 8 ∧ s.1 95 8 ≤ s'.1 95 8)) → (0 ≤ r ∧ r ≤ 5) → Q r s') : fm_211 a1 a2 Q s := by
  unfold fm_211
  have b1 : 0 ≤ s.1 95 12 ∧ s.1 95 12 ≤ 2115 := iv_r95_12 hI
  have b2 : 0 ≤ (s.1 98) ((s.1 95 12)) ∧ ((s.1 95 12) = 0 ∨ (s.1 95 12) = 705 ∨ (s.1 95 12) = 1410 ∨ (s.1 95 12) = 2115) := ⟨kp0.2.2.1, kp0.1⟩
  refine ⟨(show lf_R a1 from lf_Rof (by omega)), ?_⟩
  refine ⟨fun c3 => ?_, fun c3 => ?_, fun c3 => ?_, fun c3 => ?_, fun c3 => ?_, fun c3 => ?_, fun c3 => ?_, fun c3 => ?_, fun c3 => ?_, fun c3 => ?_, fun c3 => ?_⟩
  · replace c3 : a1 < 3 ∨ 12 < a1 := c3
    have b6 : 0 ≤ s.1 95 13 ∧ s.1 95 13 ≤ 304 := iv_r95_13 hI
    have b7 : (-2147483648) ≤ s.1 95 9 ∧ s.1 95 9 ≤ 2147483647 := iv_full hI
    have b8 : 0 ≤ s.1 95 8 ∧ s.1 95 8 ≤ 300 := iv_r95_8 hI
    have b9 : 0 ≤ s.1 95 7 ∧ s.1 95 7 ≤ 300 := iv_r95_7 hI
    refine sm_215 hI (show (1 : Int) ≤ a2 ∧ a2 ≤ (2208 : Int) from by omega) (show wk_E ((s.1 98)) ((s.1 95 12)) ((s.1 95 13)) from by first | with_reducible assumption | assumption) (show (s.1 98) ((s.1 95 12)) < 24 from by omega) (show a2 = (s.1 95 12) + 1 + 4 * (s.1 98) ((s.1 95 12)) from by omega) (show ((s.1 95 9) = 0 ∨ (s.1 95 8) < (s.1 95 7)) ∧ (s.1 95 13) ≤ (s.1 95 8) from by omega) (fun r23 s22 hI5 fr4 ps11 ps12 q10 => ?_)
    replace ps11 : r23 = 0 → pz_D 0 (a2) ((s.1 98)) (s22.1 98) ((s.1 95 12)) (s22.1 95 12) (s22.1 95 13) := ps11
    replace ps12 : r23 = 0 → ((s22.1 95 9 = 0 ∨ s22.1 95 8 < s22.1 95 7) ∧ s22.1 95 13 ≤ s22.1 95 8 ∧ (s.1 95 8) ≤ s22.1 95 8) := ps12
    have fr13 : lf_fq [95, 98, 100, 101, 102, 103] 1000000 true s.1 s.2.2 s22.1 s22.2.2 := lf_fq_tr (lf_fq_rf) (lf_fq_wk fr4 rfl (by decide) (by decide))
    have b14 : 0 ≤ s22.1 95 12 ∧ s22.1 95 12 ≤ 2115 := iv_r95_12 hI5
    have b15 : 0 ≤ s22.1 95 13 ∧ s22.1 95 13 ≤ 304 := iv_r95_13 hI5
    have b16 : r23 = 0 → pz_D (a1) (a2) (s.1 98) ((s22.1 98)) (s.1 95 12) ((s22.1 95 12)) ((s22.1 95 13)) := by first | exact fun h9 => pz_DV (ps11 h9) (by omega) (by omega) (by omega) | exact fun h9 => pz_Dm (ps11 h9) (by omega)
    exact hQ r23 s22 hI5 fr13 (show r23 = 0 → pz_D (a1) (a2) (s.1 98) ((s22.1 98)) (s.1 95 12) ((s22.1 95 12)) ((s22.1 95 13)) from by first | with_reducible assumption | omega) (show r23 = 0 → (((s22.1 95 9) = 0 ∨ (s22.1 95 8) < (s22.1 95 7)) ∧ (s22.1 95 13) ≤ (s22.1 95 8) ∧ s.1 95 8 ≤ (s22.1 95 8)) from by first | with_reducible assumption | omega) (show (0 : Int) ≤ r23 ∧ r23 ≤ (5 : Int) from by omega)
  · replace c3 : a1 = 3 := c3
    refine sm_204 hI (show (97 : Int) ≤ 104 ∧ 104 ≤ (116 : Int) from by omega) (show (97 : Int) ≤ 97 ∧ 97 ≤ (117 : Int) from by omega) (show (97 : Int) ≤ 114 ∧ 114 ≤ (122 : Int) from by omega) (show (97 : Int) ≤ 109 ∧ 109 ≤ (117 : Int) from by omega) (fun r25 => ?_)
    have b20 : 0 ≤ s.1 95 13 ∧ s.1 95 13 ≤ 304 := iv_r95_13 hI
    have b21 : (-2147483648) ≤ s.1 95 9 ∧ s.1 95 9 ≤ 2147483647 := iv_full hI
    have b22 : 0 ≤ s.1 95 8 ∧ s.1 95 8 ≤ 300 := iv_r95_8 hI
    have b23 : 0 ≤ s.1 95 7 ∧ s.1 95 7 ≤ 300 := iv_r95_7 hI
    refine sm_212 hI (show (1 : Int) ≤ a2 ∧ a2 ≤ (2208 : Int) from by omega) (show (0 : Int) ≤ 0 ∧ 0 ≤ (1 : Int) from by omega) (show (3 : Int) ≤ 3 ∧ 3 ≤ (24 : Int) from by omega) (show (0 : Int) ≤ 0 ∧ 0 ≤ (1 : Int) from by omega) (show (11 : Int) ≤ 99 ∧ 99 ≤ (99 : Int) from by omega) (show wk_E ((s.1 98)) ((s.1 95 12)) ((s.1 95 13)) from by first | with_reducible assumption | assumption) (show (s.1 98) ((s.1 95 12)) < 24 from by omega) (show a2 = (s.1 95 12) + 1 + 4 * (s.1 98) ((s.1 95 12)) from by omega) (show ((s.1 95 9) = 0 ∨ (s.1 95 8) < (s.1 95 7)) ∧ (s.1 95 13) ≤ (s.1 95 8) from by omega) (fun r27 s26 hI19 fr18 ps25 ps26 q24 => ?_)
    replace ps25 : r27 = 0 → pz_V ((s.1 98)) (s26.1 98) ((s.1 95 12)) (s26.1 95 12) (s26.1 95 13) (a2 + 1) := ps25
    replace ps26 : r27 = 0 → ((s26.1 95 9 = 0 ∨ s26.1 95 8 < s26.1 95 7) ∧ s26.1 95 13 ≤ s26.1 95 8 ∧ (s.1 95 8) ≤ s26.1 95 8) := ps26
    have fr27 : lf_fq [95, 98, 100, 101, 102, 103] 1000000 true s.1 s.2.2 s26.1 s26.2.2 := lf_fq_tr (lf_fq_rf) (lf_fq_wk fr18 rfl (by decide) (by decide))
    have b28 : 0 ≤ s26.1 95 12 ∧ s26.1 95 12 ≤ 2115 := iv_r95_12 hI19
    have b29 : 0 ≤ s26.1 95 13 ∧ s26.1 95 13 ≤ 304 := iv_r95_13 hI19
    have b30 : r27 = 0 → pz_D (a1) (a2) (s.1 98) ((s26.1 98)) (s.1 95 12) ((s26.1 95 12)) ((s26.1 95 13)) := by first | exact fun h9 => pz_DV (ps25 h9) (by omega) (by omega) (by omega) | exact fun h9 => pz_Dm (ps25 h9) (by omega)
    exact hQ r27 s26 hI19 fr27 (show r27 = 0 → pz_D (a1) (a2) (s.1 98) ((s26.1 98)) (s.1 95 12) ((s26.1 95 12)) ((s26.1 95 13)) from by first | with_reducible assumption | omega) (show r27 = 0 → (((s26.1 95 9) = 0 ∨ (s26.1 95 8) < (s26.1 95 7)) ∧ (s26.1 95 13) ≤ (s26.1 95 8) ∧ s.1 95 8 ≤ (s26.1 95 8)) from by first | with_reducible assumption | omega) (show (0 : Int) ≤ r27 ∧ r27 ≤ (5 : Int) from by omega)
  · replace c3 : a1 = 4 := c3
    refine sm_206 hI (show (97 : Int) ≤ 116 ∧ 116 ≤ (119 : Int) from by omega) (show (97 : Int) ≤ 111 ∧ 111 ≤ (121 : Int) from by omega) (fun r29 => ?_)
    have b34 : 0 ≤ s.1 95 13 ∧ s.1 95 13 ≤ 304 := iv_r95_13 hI
    have b35 : (-2147483648) ≤ s.1 95 9 ∧ s.1 95 9 ≤ 2147483647 := iv_full hI
    have b36 : 0 ≤ s.1 95 8 ∧ s.1 95 8 ≤ 300 := iv_r95_8 hI
    have b37 : 0 ≤ s.1 95 7 ∧ s.1 95 7 ≤ 300 := iv_r95_7 hI
    refine sm_212 hI (show (1 : Int) ≤ a2 ∧ a2 ≤ (2208 : Int) from by omega) (show (0 : Int) ≤ 0 ∧ 0 ≤ (1 : Int) from by omega) (show (3 : Int) ≤ 11 ∧ 11 ≤ (24 : Int) from by omega) (show (0 : Int) ≤ 0 ∧ 0 ≤ (1 : Int) from by omega) (show (11 : Int) ≤ 11 ∧ 11 ≤ (99 : Int) from by omega) (show wk_E ((s.1 98)) ((s.1 95 12)) ((s.1 95 13)) from by first | with_reducible assumption | assumption) (show (s.1 98) ((s.1 95 12)) < 24 from by omega) (show a2 = (s.1 95 12) + 1 + 4 * (s.1 98) ((s.1 95 12)) from by omega) (show ((s.1 95 9) = 0 ∨ (s.1 95 8) < (s.1 95 7)) ∧ (s.1 95 13) ≤ (s.1 95 8) from by omega) (fun r31 s30 hI33 fr32 ps39 ps40 q38 => ?_)
    replace ps39 : r31 = 0 → pz_V ((s.1 98)) (s30.1 98) ((s.1 95 12)) (s30.1 95 12) (s30.1 95 13) (a2 + 1) := ps39
    replace ps40 : r31 = 0 → ((s30.1 95 9 = 0 ∨ s30.1 95 8 < s30.1 95 7) ∧ s30.1 95 13 ≤ s30.1 95 8 ∧ (s.1 95 8) ≤ s30.1 95 8) := ps40
    have fr41 : lf_fq [95, 98, 100, 101, 102, 103] 1000000 true s.1 s.2.2 s30.1 s30.2.2 := lf_fq_tr (lf_fq_rf) (lf_fq_wk fr32 rfl (by decide) (by decide))
    have b42 : 0 ≤ s30.1 95 12 ∧ s30.1 95 12 ≤ 2115 := iv_r95_12 hI33
    have b43 : 0 ≤ s30.1 95 13 ∧ s30.1 95 13 ≤ 304 := iv_r95_13 hI33
    have b44 : r31 = 0 → pz_D (a1) (a2) (s.1 98) ((s30.1 98)) (s.1 95 12) ((s30.1 95 12)) ((s30.1 95 13)) := by first | exact fun h9 => pz_DV (ps39 h9) (by omega) (by omega) (by omega) | exact fun h9 => pz_Dm (ps39 h9) (by omega)
    exact hQ r31 s30 hI33 fr41 (show r31 = 0 → pz_D (a1) (a2) (s.1 98) ((s30.1 98)) (s.1 95 12) ((s30.1 95 12)) ((s30.1 95 13)) from by first | with_reducible assumption | omega) (show r31 = 0 → (((s30.1 95 9) = 0 ∨ (s30.1 95 8) < (s30.1 95 7)) ∧ (s30.1 95 13) ≤ (s30.1 95 8) ∧ s.1 95 8 ≤ (s30.1 95 8)) from by first | with_reducible assumption | omega) (show (0 : Int) ≤ r31 ∧ r31 ≤ (5 : Int) from by omega)
  · replace c3 : a1 = 5 := c3
    refine sm_206 hI (show (97 : Int) ≤ 116 ∧ 116 ≤ (119 : Int) from by omega) (show (97 : Int) ≤ 111 ∧ 111 ≤ (121 : Int) from by omega) (fun r33 => ?_)
    have b48 : 0 ≤ s.1 95 13 ∧ s.1 95 13 ≤ 304 := iv_r95_13 hI
    have b49 : (-2147483648) ≤ s.1 95 9 ∧ s.1 95 9 ≤ 2147483647 := iv_full hI
    have b50 : 0 ≤ s.1 95 8 ∧ s.1 95 8 ≤ 300 := iv_r95_8 hI
    have b51 : 0 ≤ s.1 95 7 ∧ s.1 95 7 ≤ 300 := iv_r95_7 hI
    refine sm_212 hI (show (1 : Int) ≤ a2 ∧ a2 ≤ (2208 : Int) from by omega) (show (0 : Int) ≤ 0 ∧ 0 ≤ (1 : Int) from by omega) (show (3 : Int) ≤ 11 ∧ 11 ≤ (24 : Int) from by omega) (show (0 : Int) ≤ 0 ∧ 0 ≤ (1 : Int) from by omega) (show (11 : Int) ≤ 11 ∧ 11 ≤ (99 : Int) from by omega) (show wk_E ((s.1 98)) ((s.1 95 12)) ((s.1 95 13)) from by first | with_reducible assumption | assumption) (show (s.1 98) ((s.1 95 12)) < 24 from by omega) (show a2 = (s.1 95 12) + 1 + 4 * (s.1 98) ((s.1 95 12)) from by omega) (show ((s.1 95 9) = 0 ∨ (s.1 95 8) < (s.1 95 7)) ∧ (s.1 95 13) ≤ (s.1 95 8) from by omega) (fun r35 s34 hI47 fr46 ps53 ps54 q52 => ?_)
    replace ps53 : r35 = 0 → pz_V ((s.1 98)) (s34.1 98) ((s.1 95 12)) (s34.1 95 12) (s34.1 95 13) (a2 + 1) := ps53
    replace ps54 : r35 = 0 → ((s34.1 95 9 = 0 ∨ s34.1 95 8 < s34.1 95 7) ∧ s34.1 95 13 ≤ s34.1 95 8 ∧ (s.1 95 8) ≤ s34.1 95 8) := ps54
    have fr55 : lf_fq [95, 98, 100, 101, 102, 103] 1000000 true s.1 s.2.2 s34.1 s34.2.2 := lf_fq_tr (lf_fq_rf) (lf_fq_wk fr46 rfl (by decide) (by decide))
    have b56 : 0 ≤ s34.1 95 12 ∧ s34.1 95 12 ≤ 2115 := iv_r95_12 hI47
    have b57 : 0 ≤ s34.1 95 13 ∧ s34.1 95 13 ≤ 304 := iv_r95_13 hI47
    have b58 : r35 = 0 → pz_D (a1) (a2) (s.1 98) ((s34.1 98)) (s.1 95 12) ((s34.1 95 12)) ((s34.1 95 13)) := by first | exact fun h9 => pz_DV (ps53 h9) (by omega) (by omega) (by omega) | exact fun h9 => pz_Dm (ps53 h9) (by omega)
    exact hQ r35 s34 hI47 fr55 (show r35 = 0 → pz_D (a1) (a2) (s.1 98) ((s34.1 98)) (s.1 95 12) ((s34.1 95 12)) ((s34.1 95 13)) from by first | with_reducible assumption | omega) (show r35 = 0 → (((s34.1 95 9) = 0 ∨ (s34.1 95 8) < (s34.1 95 7)) ∧ (s34.1 95 13) ≤ (s34.1 95 8) ∧ s.1 95 8 ≤ (s34.1 95 8)) from by first | with_reducible assumption | omega) (show (0 : Int) ≤ r35 ∧ r35 ≤ (5 : Int) from by omega)
  · replace c3 : a1 = 6 := c3
    refine sm_206 hI (show (97 : Int) ≤ 97 ∧ 97 ≤ (119 : Int) from by omega) (show (97 : Int) ≤ 116 ∧ 116 ≤ (121 : Int) from by omega) (fun r37 => ?_)
    have b62 : 0 ≤ s.1 95 13 ∧ s.1 95 13 ≤ 304 := iv_r95_13 hI
    have b63 : (-2147483648) ≤ s.1 95 9 ∧ s.1 95 9 ≤ 2147483647 := iv_full hI
    have b64 : 0 ≤ s.1 95 8 ∧ s.1 95 8 ≤ 300 := iv_r95_8 hI
    have b65 : 0 ≤ s.1 95 7 ∧ s.1 95 7 ≤ 300 := iv_r95_7 hI
    refine sm_212 hI (show (1 : Int) ≤ a2 ∧ a2 ≤ (2208 : Int) from by omega) (show (0 : Int) ≤ 0 ∧ 0 ≤ (1 : Int) from by omega) (show (3 : Int) ≤ 9 ∧ 9 ≤ (24 : Int) from by omega) (show (0 : Int) ≤ 0 ∧ 0 ≤ (1 : Int) from by omega) (show (11 : Int) ≤ 11 ∧ 11 ≤ (99 : Int) from by omega) (show wk_E ((s.1 98)) ((s.1 95 12)) ((s.1 95 13)) from by first | with_reducible assumption | assumption) (show (s.1 98) ((s.1 95 12)) < 24 from by omega) (show a2 = (s.1 95 12) + 1 + 4 * (s.1 98) ((s.1 95 12)) from by omega) (show ((s.1 95 9) = 0 ∨ (s.1 95 8) < (s.1 95 7)) ∧ (s.1 95 13) ≤ (s.1 95 8) from by omega) (fun r39 s38 hI61 fr60 ps67 ps68 q66 => ?_)
    replace ps67 : r39 = 0 → pz_V ((s.1 98)) (s38.1 98) ((s.1 95 12)) (s38.1 95 12) (s38.1 95 13) (a2 + 1) := ps67
    replace ps68 : r39 = 0 → ((s38.1 95 9 = 0 ∨ s38.1 95 8 < s38.1 95 7) ∧ s38.1 95 13 ≤ s38.1 95 8 ∧ (s.1 95 8) ≤ s38.1 95 8) := ps68
    have fr69 : lf_fq [95, 98, 100, 101, 102, 103] 1000000 true s.1 s.2.2 s38.1 s38.2.2 := lf_fq_tr (lf_fq_rf) (lf_fq_wk fr60 rfl (by decide) (by decide))
    have b70 : 0 ≤ s38.1 95 12 ∧ s38.1 95 12 ≤ 2115 := iv_r95_12 hI61
    have b71 : 0 ≤ s38.1 95 13 ∧ s38.1 95 13 ≤ 304 := iv_r95_13 hI61
    have b72 : r39 = 0 → pz_D (a1) (a2) (s.1 98) ((s38.1 98)) (s.1 95 12) ((s38.1 95 12)) ((s38.1 95 13)) := by first | exact fun h9 => pz_DV (ps67 h9) (by omega) (by omega) (by omega) | exact fun h9 => pz_Dm (ps67 h9) (by omega)
    exact hQ r39 s38 hI61 fr69 (show r39 = 0 → pz_D (a1) (a2) (s.1 98) ((s38.1 98)) (s.1 95 12) ((s38.1 95 12)) ((s38.1 95 13)) from by first | with_reducible assumption | omega) (show r39 = 0 → (((s38.1 95 9) = 0 ∨ (s38.1 95 8) < (s38.1 95 7)) ∧ (s38.1 95 13) ≤ (s38.1 95 8) ∧ s.1 95 8 ≤ (s38.1 95 8)) from by first | with_reducible assumption | omega) (show (0 : Int) ≤ r39 ∧ r39 ≤ (5 : Int) from by omega)
  · replace c3 : a1 = 7 := c3
    refine sm_206 hI (show (97 : Int) ≤ 97 ∧ 97 ≤ (119 : Int) from by omega) (show (97 : Int) ≤ 116 ∧ 116 ≤ (121 : Int) from by omega) (fun r41 => ?_)
    have b76 : 0 ≤ s.1 95 13 ∧ s.1 95 13 ≤ 304 := iv_r95_13 hI
    have b77 : (-2147483648) ≤ s.1 95 9 ∧ s.1 95 9 ≤ 2147483647 := iv_full hI
    have b78 : 0 ≤ s.1 95 8 ∧ s.1 95 8 ≤ 300 := iv_r95_8 hI
    have b79 : 0 ≤ s.1 95 7 ∧ s.1 95 7 ≤ 300 := iv_r95_7 hI
    refine sm_212 hI (show (1 : Int) ≤ a2 ∧ a2 ≤ (2208 : Int) from by omega) (show (0 : Int) ≤ 1 ∧ 1 ≤ (1 : Int) from by omega) (show (3 : Int) ≤ 24 ∧ 24 ≤ (24 : Int) from by omega) (show (0 : Int) ≤ 0 ∧ 0 ≤ (1 : Int) from by omega) (show (11 : Int) ≤ 11 ∧ 11 ≤ (99 : Int) from by omega) (show wk_E ((s.1 98)) ((s.1 95 12)) ((s.1 95 13)) from by first | with_reducible assumption | assumption) (show (s.1 98) ((s.1 95 12)) < 24 from by omega) (show a2 = (s.1 95 12) + 1 + 4 * (s.1 98) ((s.1 95 12)) from by omega) (show ((s.1 95 9) = 0 ∨ (s.1 95 8) < (s.1 95 7)) ∧ (s.1 95 13) ≤ (s.1 95 8) from by omega) (fun r43 s42 hI75 fr74 ps81 ps82 q80 => ?_)
    replace ps81 : r43 = 0 → pz_V ((s.1 98)) (s42.1 98) ((s.1 95 12)) (s42.1 95 12) (s42.1 95 13) (a2 + 1) := ps81
    replace ps82 : r43 = 0 → ((s42.1 95 9 = 0 ∨ s42.1 95 8 < s42.1 95 7) ∧ s42.1 95 13 ≤ s42.1 95 8 ∧ (s.1 95 8) ≤ s42.1 95 8) := ps82
    have fr83 : lf_fq [95, 98, 100, 101, 102, 103] 1000000 true s.1 s.2.2 s42.1 s42.2.2 := lf_fq_tr (lf_fq_rf) (lf_fq_wk fr74 rfl (by decide) (by decide))
    have b84 : 0 ≤ s42.1 95 12 ∧ s42.1 95 12 ≤ 2115 := iv_r95_12 hI75
    have b85 : 0 ≤ s42.1 95 13 ∧ s42.1 95 13 ≤ 304 := iv_r95_13 hI75
    have b86 : r43 = 0 → pz_D (a1) (a2) (s.1 98) ((s42.1 98)) (s.1 95 12) ((s42.1 95 12)) ((s42.1 95 13)) := by first | exact fun h9 => pz_DV (ps81 h9) (by omega) (by omega) (by omega) | exact fun h9 => pz_Dm (ps81 h9) (by omega)
    exact hQ r43 s42 hI75 fr83 (show r43 = 0 → pz_D (a1) (a2) (s.1 98) ((s42.1 98)) (s.1 95 12) ((s42.1 95 12)) ((s42.1 95 13)) from by first | with_reducible assumption | omega) (show r43 = 0 → (((s42.1 95 9) = 0 ∨ (s42.1 95 8) < (s42.1 95 7)) ∧ (s42.1 95 13) ≤ (s42.1 95 8) ∧ s.1 95 8 ≤ (s42.1 95 8)) from by first | with_reducible assumption | omega) (show (0 : Int) ≤ r43 ∧ r43 ≤ (5 : Int) from by omega)
  · replace c3 : a1 = 8 := c3
    refine sm_206 hI (show (97 : Int) ≤ 116 ∧ 116 ≤ (119 : Int) from by omega) (show (97 : Int) ≤ 111 ∧ 111 ≤ (121 : Int) from by omega) (fun r45 => ?_)
    have b90 : 0 ≤ s.1 95 13 ∧ s.1 95 13 ≤ 304 := iv_r95_13 hI
    have b91 : (-2147483648) ≤ s.1 95 9 ∧ s.1 95 9 ≤ 2147483647 := iv_full hI
    have b92 : 0 ≤ s.1 95 8 ∧ s.1 95 8 ≤ 300 := iv_r95_8 hI
    have b93 : 0 ≤ s.1 95 7 ∧ s.1 95 7 ≤ 300 := iv_r95_7 hI
    refine sm_212 hI (show (1 : Int) ≤ a2 ∧ a2 ≤ (2208 : Int) from by omega) (show (0 : Int) ≤ 0 ∧ 0 ≤ (1 : Int) from by omega) (show (3 : Int) ≤ 5 ∧ 5 ≤ (24 : Int) from by omega) (show (0 : Int) ≤ 0 ∧ 0 ≤ (1 : Int) from by omega) (show (11 : Int) ≤ 11 ∧ 11 ≤ (99 : Int) from by omega) (show wk_E ((s.1 98)) ((s.1 95 12)) ((s.1 95 13)) from by first | with_reducible assumption | assumption) (show (s.1 98) ((s.1 95 12)) < 24 from by omega) (show a2 = (s.1 95 12) + 1 + 4 * (s.1 98) ((s.1 95 12)) from by omega) (show ((s.1 95 9) = 0 ∨ (s.1 95 8) < (s.1 95 7)) ∧ (s.1 95 13) ≤ (s.1 95 8) from by omega) (fun r47 s46 hI89 fr88 ps95 ps96 q94 => ?_)
    replace ps95 : r47 = 0 → pz_V ((s.1 98)) (s46.1 98) ((s.1 95 12)) (s46.1 95 12) (s46.1 95 13) (a2 + 1) := ps95
    replace ps96 : r47 = 0 → ((s46.1 95 9 = 0 ∨ s46.1 95 8 < s46.1 95 7) ∧ s46.1 95 13 ≤ s46.1 95 8 ∧ (s.1 95 8) ≤ s46.1 95 8) := ps96
    have fr97 : lf_fq [95, 98, 100, 101, 102, 103] 1000000 true s.1 s.2.2 s46.1 s46.2.2 := lf_fq_tr (lf_fq_rf) (lf_fq_wk fr88 rfl (by decide) (by decide))
    have b98 : 0 ≤ s46.1 95 12 ∧ s46.1 95 12 ≤ 2115 := iv_r95_12 hI89
    have b99 : 0 ≤ s46.1 95 13 ∧ s46.1 95 13 ≤ 304 := iv_r95_13 hI89
    have b100 : r47 = 0 → pz_D (a1) (a2) (s.1 98) ((s46.1 98)) (s.1 95 12) ((s46.1 95 12)) ((s46.1 95 13)) := by first | exact fun h9 => pz_DV (ps95 h9) (by omega) (by omega) (by omega) | exact fun h9 => pz_Dm (ps95 h9) (by omega)
    exact hQ r47 s46 hI89 fr97 (show r47 = 0 → pz_D (a1) (a2) (s.1 98) ((s46.1 98)) (s.1 95 12) ((s46.1 95 12)) ((s46.1 95 13)) from by first | with_reducible assumption | omega) (show r47 = 0 → (((s46.1 95 9) = 0 ∨ (s46.1 95 8) < (s46.1 95 7)) ∧ (s46.1 95 13) ≤ (s46.1 95 8) ∧ s.1 95 8 ≤ (s46.1 95 8)) from by first | with_reducible assumption | omega) (show (0 : Int) ≤ r47 ∧ r47 ≤ (5 : Int) from by omega)
  · replace c3 : a1 = 9 := c3
    have b103 : 0 ≤ s.1 95 13 ∧ s.1 95 13 ≤ 304 := iv_r95_13 hI
    have b104 : (-2147483648) ≤ s.1 95 9 ∧ s.1 95 9 ≤ 2147483647 := iv_full hI
    have b105 : 0 ≤ s.1 95 8 ∧ s.1 95 8 ≤ 300 := iv_r95_8 hI
    have b106 : 0 ≤ s.1 95 7 ∧ s.1 95 7 ≤ 300 := iv_r95_7 hI
    refine sm_213 hI (show (2 : Int) ≤ a2 + 1 ∧ a2 + 1 ≤ (2210 : Int) from by omega) (show (0 : Int) ≤ 0 ∧ 0 ≤ (1 : Int) from by omega) (show (3 : Int) ≤ 15 ∧ 15 ≤ (99 : Int) from by omega) (show wk_E ((s.1 98)) ((s.1 95 12)) ((s.1 95 13)) from by first | with_reducible assumption | assumption) (show (s.1 98) ((s.1 95 12)) < 24 from by omega) (show (s.1 95 12) + 1 + 4 * (s.1 98) ((s.1 95 12)) + 1 ≤ (a2 + 1) ∧ (a2 + 1) ≤ (s.1 95 12) + 1 + 4 * (s.1 98) ((s.1 95 12)) + 2 from by omega) (show ((s.1 95 9) = 0 ∨ (s.1 95 8) < (s.1 95 7)) ∧ (s.1 95 13) ≤ (s.1 95 8) from by omega) (fun r49 s48 hI102 fr101 ps108 ps109 q107 => ?_)
    replace ps108 : r49 = 0 → pz_V ((s.1 98)) (s48.1 98) ((s.1 95 12)) (s48.1 95 12) (s48.1 95 13) ((a2 + 1)) := ps108
    replace ps109 : r49 = 0 → ((s48.1 95 9 = 0 ∨ s48.1 95 8 < s48.1 95 7) ∧ s48.1 95 13 ≤ s48.1 95 8 ∧ (s.1 95 8) ≤ s48.1 95 8) := ps109
    have fr110 : lf_fq [95, 98, 100, 101, 102, 103] 1000000 true s.1 s.2.2 s48.1 s48.2.2 := lf_fq_tr (lf_fq_rf) (lf_fq_wk fr101 rfl (by decide) (by decide))
    have b111 : 0 ≤ s48.1 95 12 ∧ s48.1 95 12 ≤ 2115 := iv_r95_12 hI102
    have b112 : 0 ≤ s48.1 95 13 ∧ s48.1 95 13 ≤ 304 := iv_r95_13 hI102
    have b113 : r49 = 0 → pz_D (a1) (a2) (s.1 98) ((s48.1 98)) (s.1 95 12) ((s48.1 95 12)) ((s48.1 95 13)) := by first | exact fun h9 => pz_DV (ps108 h9) (by omega) (by omega) (by omega) | exact fun h9 => pz_Dm (ps108 h9) (by omega)
    exact hQ r49 s48 hI102 fr110 (show r49 = 0 → pz_D (a1) (a2) (s.1 98) ((s48.1 98)) (s.1 95 12) ((s48.1 95 12)) ((s48.1 95 13)) from by first | with_reducible assumption | omega) (show r49 = 0 → (((s48.1 95 9) = 0 ∨ (s48.1 95 8) < (s48.1 95 7)) ∧ (s48.1 95 13) ≤ (s48.1 95 8) ∧ s.1 95 8 ≤ (s48.1 95 8)) from by first | with_reducible assumption | omega) (show (0 : Int) ≤ r49 ∧ r49 ≤ (5 : Int) from by omega)
  · replace c3 : a1 = 10 := c3
    have b116 : 0 ≤ s.1 95 13 ∧ s.1 95 13 ≤ 304 := iv_r95_13 hI
    have b117 : (-2147483648) ≤ s.1 95 9 ∧ s.1 95 9 ≤ 2147483647 := iv_full hI
    have b118 : 0 ≤ s.1 95 8 ∧ s.1 95 8 ≤ 300 := iv_r95_8 hI
    have b119 : 0 ≤ s.1 95 7 ∧ s.1 95 7 ≤ 300 := iv_r95_7 hI
    refine sm_213 hI (show (2 : Int) ≤ a2 + 1 ∧ a2 + 1 ≤ (2210 : Int) from by omega) (show (0 : Int) ≤ 0 ∧ 0 ≤ (1 : Int) from by omega) (show (3 : Int) ≤ 15 ∧ 15 ≤ (99 : Int) from by omega) (show wk_E ((s.1 98)) ((s.1 95 12)) ((s.1 95 13)) from by first | with_reducible assumption | assumption) (show (s.1 98) ((s.1 95 12)) < 24 from by omega) (show (s.1 95 12) + 1 + 4 * (s.1 98) ((s.1 95 12)) + 1 ≤ (a2 + 1) ∧ (a2 + 1) ≤ (s.1 95 12) + 1 + 4 * (s.1 98) ((s.1 95 12)) + 2 from by omega) (show ((s.1 95 9) = 0 ∨ (s.1 95 8) < (s.1 95 7)) ∧ (s.1 95 13) ≤ (s.1 95 8) from by omega) (fun r51 s50 hI115 fr114 ps121 ps122 q120 => ?_)
    replace ps121 : r51 = 0 → pz_V ((s.1 98)) (s50.1 98) ((s.1 95 12)) (s50.1 95 12) (s50.1 95 13) ((a2 + 1)) := ps121
    replace ps122 : r51 = 0 → ((s50.1 95 9 = 0 ∨ s50.1 95 8 < s50.1 95 7) ∧ s50.1 95 13 ≤ s50.1 95 8 ∧ (s.1 95 8) ≤ s50.1 95 8) := ps122
    have fr123 : lf_fq [95, 98, 100, 101, 102, 103] 1000000 true s.1 s.2.2 s50.1 s50.2.2 := lf_fq_tr (lf_fq_rf) (lf_fq_wk fr114 rfl (by decide) (by decide))
    have b124 : 0 ≤ s50.1 95 12 ∧ s50.1 95 12 ≤ 2115 := iv_r95_12 hI115
    have b125 : 0 ≤ s50.1 95 13 ∧ s50.1 95 13 ≤ 304 := iv_r95_13 hI115
    have b126 : r51 = 0 → pz_D (a1) (a2) (s.1 98) ((s50.1 98)) (s.1 95 12) ((s50.1 95 12)) ((s50.1 95 13)) := by first | exact fun h9 => pz_DV (ps121 h9) (by omega) (by omega) (by omega) | exact fun h9 => pz_Dm (ps121 h9) (by omega)
    exact hQ r51 s50 hI115 fr123 (show r51 = 0 → pz_D (a1) (a2) (s.1 98) ((s50.1 98)) (s.1 95 12) ((s50.1 95 12)) ((s50.1 95 13)) from by first | with_reducible assumption | omega) (show r51 = 0 → (((s50.1 95 9) = 0 ∨ (s50.1 95 8) < (s50.1 95 7)) ∧ (s50.1 95 13) ≤ (s50.1 95 8) ∧ s.1 95 8 ≤ (s50.1 95 8)) from by first | with_reducible assumption | omega) (show (0 : Int) ≤ r51 ∧ r51 ≤ (5 : Int) from by omega)
  · replace c3 : a1 = 11 := c3
    refine sm_206 hI (show (97 : Int) ≤ 98 ∧ 98 ≤ (119 : Int) from by omega) (show (97 : Int) ≤ 121 ∧ 121 ≤ (121 : Int) from by omega) (fun r53 => ?_)
    have b130 : 0 ≤ s.1 95 13 ∧ s.1 95 13 ≤ 304 := iv_r95_13 hI
    have b131 : (-2147483648) ≤ s.1 95 9 ∧ s.1 95 9 ≤ 2147483647 := iv_full hI
    have b132 : 0 ≤ s.1 95 8 ∧ s.1 95 8 ≤ 300 := iv_r95_8 hI
    have b133 : 0 ≤ s.1 95 7 ∧ s.1 95 7 ≤ 300 := iv_r95_7 hI
    refine sm_212 hI (show (1 : Int) ≤ a2 ∧ a2 ≤ (2208 : Int) from by omega) (show (0 : Int) ≤ 0 ∧ 0 ≤ (1 : Int) from by omega) (show (3 : Int) ≤ 3 ∧ 3 ≤ (24 : Int) from by omega) (show (0 : Int) ≤ 1 ∧ 1 ≤ (1 : Int) from by omega) (show (11 : Int) ≤ 24 ∧ 24 ≤ (99 : Int) from by omega) (show wk_E ((s.1 98)) ((s.1 95 12)) ((s.1 95 13)) from by first | with_reducible assumption | assumption) (show (s.1 98) ((s.1 95 12)) < 24 from by omega) (show a2 = (s.1 95 12) + 1 + 4 * (s.1 98) ((s.1 95 12)) from by omega) (show ((s.1 95 9) = 0 ∨ (s.1 95 8) < (s.1 95 7)) ∧ (s.1 95 13) ≤ (s.1 95 8) from by omega) (fun r55 s54 hI129 fr128 ps135 ps136 q134 => ?_)
    replace ps135 : r55 = 0 → pz_V ((s.1 98)) (s54.1 98) ((s.1 95 12)) (s54.1 95 12) (s54.1 95 13) (a2 + 1) := ps135
    replace ps136 : r55 = 0 → ((s54.1 95 9 = 0 ∨ s54.1 95 8 < s54.1 95 7) ∧ s54.1 95 13 ≤ s54.1 95 8 ∧ (s.1 95 8) ≤ s54.1 95 8) := ps136
    have fr137 : lf_fq [95, 98, 100, 101, 102, 103] 1000000 true s.1 s.2.2 s54.1 s54.2.2 := lf_fq_tr (lf_fq_rf) (lf_fq_wk fr128 rfl (by decide) (by decide))
    have b138 : 0 ≤ s54.1 95 12 ∧ s54.1 95 12 ≤ 2115 := iv_r95_12 hI129
    have b139 : 0 ≤ s54.1 95 13 ∧ s54.1 95 13 ≤ 304 := iv_r95_13 hI129
    have b140 : r55 = 0 → pz_D (a1) (a2) (s.1 98) ((s54.1 98)) (s.1 95 12) ((s54.1 95 12)) ((s54.1 95 13)) := by first | exact fun h9 => pz_DV (ps135 h9) (by omega) (by omega) (by omega) | exact fun h9 => pz_Dm (ps135 h9) (by omega)
    exact hQ r55 s54 hI129 fr137 (show r55 = 0 → pz_D (a1) (a2) (s.1 98) ((s54.1 98)) (s.1 95 12) ((s54.1 95 12)) ((s54.1 95 13)) from by first | with_reducible assumption | omega) (show r55 = 0 → (((s54.1 95 9) = 0 ∨ (s54.1 95 8) < (s54.1 95 7)) ∧ (s54.1 95 13) ≤ (s54.1 95 8) ∧ s.1 95 8 ≤ (s54.1 95 8)) from by first | with_reducible assumption | omega) (show (0 : Int) ≤ r55 ∧ r55 ≤ (5 : Int) from by omega)
  · replace c3 : a1 = 12 := c3
    have b143 : 0 ≤ s.1 95 13 ∧ s.1 95 13 ≤ 304 := iv_r95_13 hI
    have b144 : (-2147483648) ≤ s.1 95 9 ∧ s.1 95 9 ≤ 2147483647 := iv_full hI
    have b145 : 0 ≤ s.1 95 8 ∧ s.1 95 8 ≤ 300 := iv_r95_8 hI
    have b146 : 0 ≤ s.1 95 7 ∧ s.1 95 7 ≤ 300 := iv_r95_7 hI
    refine sm_213 hI (show (2 : Int) ≤ a2 + 1 ∧ a2 + 1 ≤ (2210 : Int) from by omega) (show (0 : Int) ≤ 1 ∧ 1 ≤ (1 : Int) from by omega) (show (3 : Int) ≤ 60 ∧ 60 ≤ (99 : Int) from by omega) (show wk_E ((s.1 98)) ((s.1 95 12)) ((s.1 95 13)) from by first | with_reducible assumption | assumption) (show (s.1 98) ((s.1 95 12)) < 24 from by omega) (show (s.1 95 12) + 1 + 4 * (s.1 98) ((s.1 95 12)) + 1 ≤ (a2 + 1) ∧ (a2 + 1) ≤ (s.1 95 12) + 1 + 4 * (s.1 98) ((s.1 95 12)) + 2 from by omega) (show ((s.1 95 9) = 0 ∨ (s.1 95 8) < (s.1 95 7)) ∧ (s.1 95 13) ≤ (s.1 95 8) from by omega) (fun r57 s56 hI142 fr141 ps148 ps149 q147 => ?_)
    replace ps148 : r57 = 0 → pz_V ((s.1 98)) (s56.1 98) ((s.1 95 12)) (s56.1 95 12) (s56.1 95 13) ((a2 + 1)) := ps148
    replace ps149 : r57 = 0 → ((s56.1 95 9 = 0 ∨ s56.1 95 8 < s56.1 95 7) ∧ s56.1 95 13 ≤ s56.1 95 8 ∧ (s.1 95 8) ≤ s56.1 95 8) := ps149
    have fr150 : lf_fq [95, 98, 100, 101, 102, 103] 1000000 true s.1 s.2.2 s56.1 s56.2.2 := lf_fq_tr (lf_fq_rf) (lf_fq_wk fr141 rfl (by decide) (by decide))
    have b151 : 0 ≤ s56.1 95 12 ∧ s56.1 95 12 ≤ 2115 := iv_r95_12 hI142
    have b152 : 0 ≤ s56.1 95 13 ∧ s56.1 95 13 ≤ 304 := iv_r95_13 hI142
    have b153 : r57 = 0 → pz_D (a1) (a2) (s.1 98) ((s56.1 98)) (s.1 95 12) ((s56.1 95 12)) ((s56.1 95 13)) := by first | exact fun h9 => pz_DV (ps148 h9) (by omega) (by omega) (by omega) | exact fun h9 => pz_Dm (ps148 h9) (by omega)
    exact hQ r57 s56 hI142 fr150 (show r57 = 0 → pz_D (a1) (a2) (s.1 98) ((s56.1 98)) (s.1 95 12) ((s56.1 95 12)) ((s56.1 95 13)) from by first | with_reducible assumption | omega) (show r57 = 0 → (((s56.1 95 9) = 0 ∨ (s56.1 95 8) < (s56.1 95 7)) ∧ (s56.1 95 13) ≤ (s56.1 95 8) ∧ s.1 95 8 ≤ (s56.1 95 8)) from by first | with_reducible assumption | omega) (show (0 : Int) ≤ r57 ∧ r57 ≤ (5 : Int) from by omega)
