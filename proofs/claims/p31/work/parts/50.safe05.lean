-- fm_219 Model.openNow 95
theorem sm_219 {Q : Int → lf_Z → Prop} {s : lf_Z} (hI : iv_A s.1 s.2.2) (hQ : ∀ (r : Int), (((-1) ≤ r ∧ r ≤ 45) ∧ (r = pz_op (s.1 100) (s.1 95 19))) → Q r s) : fm_219 Q s := by
  unfold fm_219
  refine sm_220 hI (fun r22 ps2 q1 => ?_)
  have ps2 : ((r22 < 0 ∧ pz_op ((s.1 100)) ((s.1 95 19)) = -1) ∨ (0 ≤ r22 ∧ r22 < (s.1 95 19) ∧ pz_op ((s.1 100)) ((s.1 95 19)) = (s.1 100) (r22) ∧ 40 ≤ (s.1 100) (r22))) ∧ ((s.1 95 19) ≤ 0 ∨ (s.1 100) ((s.1 95 19) - 1) < 40 ∨ r22 = (s.1 95 19) - 1) := ps2
  refine ⟨(show lf_R r22 from lf_Rof (by omega)), ?_⟩
  refine ⟨fun c3 => ?_, fun c3 => ?_⟩
  · skip
    have c3 : 0 ≤ r22 := c3
    refine sm_220 hI (fun r25 ps5 q4 => ?_)
    have ps5 : ((r25 < 0 ∧ pz_op ((s.1 100)) ((s.1 95 19)) = -1) ∨ (0 ≤ r25 ∧ r25 < (s.1 95 19) ∧ pz_op ((s.1 100)) ((s.1 95 19)) = (s.1 100) (r25) ∧ 40 ≤ (s.1 100) (r25))) ∧ ((s.1 95 19) ≤ 0 ∨ (s.1 100) ((s.1 95 19) - 1) < 40 ∨ r25 = (s.1 95 19) - 1) := ps5
    refine ⟨(show (0 : Int) ≤ r25 ∧ r25 < (160 : Int) from by omega), ?_⟩
    have b6 : 0 ≤ s.1 100 r25 ∧ s.1 100 r25 ≤ 45 := iv_r100 hI _
    exact hQ (s.1 100 r25) ⟨(show (-1 : Int) ≤ s.1 100 r25 ∧ s.1 100 r25 ≤ (45 : Int) from by omega), (show s.1 100 r25 = pz_op (s.1 100) (s.1 95 19) from by omega)⟩
  · skip
    have c3 : ¬ (0 ≤ r22) := c3
    exact hQ (-1) ⟨(show (-1 : Int) ≤ (-1) ∧ (-1) ≤ (45 : Int) from by omega), (show (-1) = pz_op (s.1 100) (s.1 95 19) from by omega)⟩
-- fm_235 Model.isAskAhead 95
theorem sm_235 {Q : Bool → lf_Z → Prop} {s : lf_Z} (hI : iv_A s.1 s.2.2) (hQ : ∀ (z : Bool), ((z = true → (0 < s.1 95 19 ∧ (s.1 100 (s.1 95 19 - 1) = 41 ∨ 20 ≤ s.1 100 (s.1 95 19 - 1) ∧ s.1 100 (s.1 95 19 - 1) ≤ 22) ∧ 0 < 1)) ∧ (z = false → True)) → Q z s) : fm_235 Q s := by
  unfold fm_235
  refine sm_219 hI (fun r22 q1 => ?_)
  obtain ⟨q1, q1x⟩ := q1
  have b2 : 0 ≤ s.1 95 19 ∧ s.1 95 19 ≤ 160 := iv_r95_19 hI
  have q1x : r22 = pz_op (s.1 100) (s.1 95 19) := q1x
  refine ⟨(show lf_R r22 from lf_Rof (by omega)), ?_⟩
  refine ⟨fun c3 => ?_, fun c3 => ?_⟩
  · skip
    have c3 : r22 ≠ 41 := c3
    exact hQ false ⟨fun h => (by cases h), fun _ => trivial⟩
  · skip
    have c3 : ¬ (r22 ≠ 41) := c3
    have b4 : 0 ≤ s.1 95 19 ∧ s.1 95 19 ≤ 160 := iv_r95_19 hI
    have b5 : pz_op ((s.1 100)) ((s.1 95 19)) = -1 ∨ 0 < (s.1 95 19) := pz_opP
    refine ⟨(show (0 : Int) ≤ (s.1 95 19) - 1 ∧ (s.1 95 19) - 1 < (160 : Int) from by omega), ?_⟩
    have b6 : 0 ≤ s.1 100 ((s.1 95 19) - 1) ∧ s.1 100 ((s.1 95 19) - 1) ≤ 45 := iv_r100 hI _
    refine ⟨(show lf_R (s.1 100 ((s.1 95 19) - 1)) from lf_Rof (by omega)), ?_⟩
    refine ⟨fun c7 => ?_, fun c7 => ?_⟩
    · skip
      have c7 : s.1 100 ((s.1 95 19) - 1) = 41 := c7
      exact hQ true ⟨fun _ => by omega, fun _ => trivial⟩
    · skip
      have c7 : ¬ (s.1 100 ((s.1 95 19) - 1) = 41) := c7
      refine sm_222 hI (show (0 : Int) ≤ s.1 100 ((s.1 95 19) - 1) ∧ s.1 100 ((s.1 95 19) - 1) ≤ (45 : Int) from by omega) (fun r27 q8 => ?_)
      obtain ⟨q8, q8x⟩ := q8
      have q8x : r27 = pz_rk (s.1 100 ((s.1 95 19) - 1)) ∧ ((40 ≤ (s.1 100 ((s.1 95 19) - 1)) ∧ r27 = 0) ∨ ((s.1 100 ((s.1 95 19) - 1)) = 22 ∧ r27 = 1) ∨ ((s.1 100 ((s.1 95 19) - 1)) = 21 ∧ r27 = 2) ∨ ((s.1 100 ((s.1 95 19) - 1)) = 20 ∧ r27 = 3) ∨ (10 ≤ (s.1 100 ((s.1 95 19) - 1)) ∧ (s.1 100 ((s.1 95 19) - 1)) < 40 ∧ (s.1 100 ((s.1 95 19) - 1)) ≠ 20 ∧ (s.1 100 ((s.1 95 19) - 1)) ≠ 21 ∧ (s.1 100 ((s.1 95 19) - 1)) ≠ 22 ∧ r27 = 4) ∨ ((s.1 100 ((s.1 95 19) - 1)) = 3 ∧ r27 = 7) ∨ (6 ≤ (s.1 100 ((s.1 95 19) - 1)) ∧ (s.1 100 ((s.1 95 19) - 1)) < 10 ∧ r27 = 6) ∨ ((s.1 100 ((s.1 95 19) - 1)) < 6 ∧ (s.1 100 ((s.1 95 19) - 1)) ≠ 3 ∧ r27 = 5)) := q8x
      refine sm_183 hI (show (-2147483648 : Int) ≤ r27 ∧ r27 ≤ (2147483647 : Int) from by omega) (show (-1 : Int) ≤ 1 ∧ 1 ≤ (97 : Int) from by omega) (show (-1 : Int) ≤ 3 ∧ 3 ≤ (9999 : Int) from by omega) (fun z29 q9 => ?_)
      refine ⟨fun c10 => ?_, fun c10 => ?_⟩
      · skip
        have dc10 := q9.2 c10
        exact hQ false ⟨fun h => (by cases h), fun _ => trivial⟩
      · skip
        have dc10 := q9.1 c10
        exact hQ true ⟨fun _ => by omega, fun _ => trivial⟩
-- fm_234 Model.opened 95 i
theorem sm_234 {a1 : Int} {Q : Int → lf_Z → Prop} {s : lf_Z} (hI : iv_A s.1 s.2.2) (ba1 : 3 ≤ a1 ∧ a1 ≤ 44) (kp0 : pz_Y (s.1 100) (s.1 98) (s.1 95 12) (s.1 95 13) (s.1 95 19) (s.1 95 20) (s.1 95 21) (s.1 95 22) (s.1 95 8) (s.1 98 (s.1 95 12)) (0) (0)) (kp1 : s.1 95 9 ≠ 0 ∧ s.1 95 8 < s.1 95 7 ∧ s.1 95 23 = 0) (kp2 : a1 = 40 ∨ a1 = 3 ∨ a1 = 41 ∨ a1 = 44 ∨ (a1 = 20 ∧ 0 < s.1 95 19 ∧ (s.1 100 (s.1 95 19 - 1) = 41 ∨ (20 ≤ s.1 100 (s.1 95 19 - 1) ∧ s.1 100 (s.1 95 19 - 1) ≤ 22)))) (hQ : ∀ (r : Int) (s' : lf_Z), iv_A s'.1 s'.2.2 → lf_fq [95, 100, 101] 1000000 true s.1 s.2.2 s'.1 s'.2.2 → (r = 0 → pz_Y (s'.1 100) (s'.1 98) (s'.1 95 12) (s'.1 95 13) (s'.1 95 19) (s'.1 95 20) (s'.1 95 21) (s'.1 95 22) (s'.1 95 8) (s.1 98 (s.1 95 12)) (s'.1 95 23) (0)) → (r = 0 → (s.1 95 8 < s'.1 95 8 ∧ (s'.1 95 9 = 0 ∨ s'.1 95 8 < s'.1 95 7))) → (pz_H (s'.1 98) (s'.1 95 12) (s.1 98 (s.1 95 12))) → (s'.1 95 12 = s.1 95 12) → (0 ≤ r ∧ r ≤ 3) → Q r s') : fm_234 a1 Q s := by
  unfold fm_234
  have b1 : 0 ≤ s.1 95 19 ∧ s.1 95 19 ≤ 160 := iv_r95_19 hI
  have b2 : 0 ≤ s.1 95 20 ∧ s.1 95 20 ≤ 8 := iv_r95_20 hI
  have b3 : 0 ≤ s.1 95 21 ∧ s.1 95 21 ≤ 8 := iv_r95_21 hI
  have b4 : 0 ≤ s.1 95 13 ∧ s.1 95 13 ≤ 304 := iv_r95_13 hI
  have b5 : 0 ≤ s.1 95 8 ∧ s.1 95 8 ≤ 300 := iv_r95_8 hI
  have b6 : 0 ≤ s.1 95 22 ∧ s.1 95 22 ≤ 80 := iv_r95_22 hI
  have b7 : 0 ≤ s.1 95 12 ∧ s.1 95 12 ≤ 2115 := iv_r95_12 hI
  have b8 : 0 ≤ (s.1 95 19) ∧ (s.1 95 19) ≤ 6 * (s.1 95 20) + 5 ∧ 0 ≤ (s.1 95 20) ∧ 0 ≤ (s.1 95 21) ∧ (s.1 95 21) ≤ (s.1 95 20) ∧ 0 ≤ (s.1 95 13) ∧ (s.1 95 13) + (s.1 95 19) ≤ (s.1 95 8) ∧ 4 * (s.1 95 22) + 3 * pz_4 ((s.1 100)) ((s.1 95 19)) ≤ (s.1 95 8) ∧ 0 ≤ pz_4 ((s.1 100)) ((s.1 95 19)) ∧ (s.1 98) ((s.1 95 12)) = (s.1 98) ((s.1 95 12)) ∧ 0 ≤ (s.1 98) ((s.1 95 12)) ∧ (s.1 98) ((s.1 95 12)) < 24 ∧ ((s.1 95 12) = 0 ∨ (s.1 95 12) = 705 ∨ (s.1 95 12) = 1410 ∨ (s.1 95 12) = 2115) := pz_Yn kp0
  refine ⟨(show lf_R (s.1 95 20) from lf_Rof (by omega)), ?_⟩
  refine ⟨fun c9 => ?_, fun c9 => ?_⟩
  · skip
    have c9 : s.1 95 20 ≠ 8 := c9
    have b10 : (pz_vo a1 = 1 ∧ (a1 = 3 ∨ a1 = 20 ∨ 40 ≤ a1) ∨ pz_vo a1 = 0 ∧ a1 ≠ 3 ∧ a1 ≠ 20 ∧ a1 < 40) ∧ (pz_vl a1 = 1 ∧ (a1 = 44 ∨ a1 = 45) ∨ pz_vl a1 = 0 ∧ a1 ≠ 44 ∧ a1 ≠ 45) ∧ (pz_v4 a1 = 1 ∧ a1 = 44 ∨ pz_v4 a1 = 0 ∧ a1 ≠ 44) := pz_vE _
    have hI11 : iv_A (lf_up s.1 95 20 ((s.1 95 20) + 1)) s.2.2 := iv_w95_20 hI (by omega)
    have fr12 : lf_fq [95, 100, 101] 1000000 true s.1 s.2.2 (lf_up s.1 95 20 ((s.1 95 20) + 1)) s.2.2 := lf_fq_up (lf_fq_rf) rfl (fun h => absurd h (by decide))
    have b13 : (lf_up s.1 95 20 ((s.1 95 20) + 1)) 95 19 = s.1 95 19 := lf_up_i (by omega)
    refine ⟨(show (0 : Int) ≤ s.1 95 19 ∧ s.1 95 19 < (160 : Int) from by omega), ?_⟩
    have hI14 : iv_A (lf_up (lf_up s.1 95 20 ((s.1 95 20) + 1)) 100 (s.1 95 19) a1) s.2.2 := iv_w100 hI11 (by omega)
    have fr15 : lf_fq [95, 100, 101] 1000000 true s.1 s.2.2 (lf_up (lf_up s.1 95 20 ((s.1 95 20) + 1)) 100 (s.1 95 19) a1) s.2.2 := lf_fq_up fr12 rfl (fun h => absurd h (by decide))
    have hI16 : iv_A (lf_up (lf_up (lf_up s.1 95 20 ((s.1 95 20) + 1)) 100 (s.1 95 19) a1) 95 19 ((s.1 95 19) + 1)) s.2.2 := iv_w95_19 hI14 (by omega)
    have fr17 : lf_fq [95, 100, 101] 1000000 true s.1 s.2.2 (lf_up (lf_up (lf_up s.1 95 20 ((s.1 95 20) + 1)) 100 (s.1 95 19) a1) 95 19 ((s.1 95 19) + 1)) s.2.2 := lf_fq_up fr15 rfl (fun h => absurd h (by decide))
    have b18 : (lf_up (lf_up (lf_up s.1 95 20 ((s.1 95 20) + 1)) 100 (s.1 95 19) a1) 95 19 ((s.1 95 19) + 1)) 95 12 = (lf_up (lf_up s.1 95 20 ((s.1 95 20) + 1)) 100 (s.1 95 19) a1) 95 12 := lf_up_i (by omega)
    have b19 : (lf_up s.1 95 20 ((s.1 95 20) + 1)) 95 12 = s.1 95 12 := lf_up_i (by omega)
    have b20 : (lf_up (lf_up (lf_up s.1 95 20 ((s.1 95 20) + 1)) 100 (s.1 95 19) a1) 95 19 ((s.1 95 19) + 1)) 95 13 = (lf_up (lf_up s.1 95 20 ((s.1 95 20) + 1)) 100 (s.1 95 19) a1) 95 13 := lf_up_i (by omega)
    have b21 : (lf_up s.1 95 20 ((s.1 95 20) + 1)) 95 13 = s.1 95 13 := lf_up_i (by omega)
    have b22 : (lf_up (lf_up (lf_up s.1 95 20 ((s.1 95 20) + 1)) 100 (s.1 95 19) a1) 95 19 ((s.1 95 19) + 1)) 95 22 = (lf_up (lf_up s.1 95 20 ((s.1 95 20) + 1)) 100 (s.1 95 19) a1) 95 22 := lf_up_i (by omega)
    have b23 : (lf_up s.1 95 20 ((s.1 95 20) + 1)) 95 22 = s.1 95 22 := lf_up_i (by omega)
    have b24 : pz_Y (((lf_up (lf_up s.1 95 20 ((s.1 95 20) + 1)) 100 (s.1 95 19) a1) 100)) ((s.1 98)) ((s.1 95 12)) ((s.1 95 13)) (((s.1 95 19) + 1)) (((s.1 95 20) + 1)) (s.1 95 21 + pz_vl a1) ((s.1 95 22)) (s.1 95 8 + 1 + 2 * pz_v4 a1) (s.1 98 (s.1 95 12)) (0) (0) := pz_cg (p := (((lf_up (lf_up s.1 95 20 ((s.1 95 20) + 1)) 100 (s.1 95 19) a1) 100))) rfl rfl (pz_Yu (p := (s.1 100)) (p' := (((lf_up (lf_up s.1 95 20 ((s.1 95 20) + 1)) 100 (s.1 95 19) a1) 100))) (e := a1) kp0 lf_up_s (fun j hj => lf_up_i hj) (pz_adjo kp2) (pz_vn0o kp2) (pz_vt0o kp2) (Int.le_refl _)) rfl rfl (by omega) (by omega) rfl rfl (Int.le_refl _) rfl rfl rfl
    refine sm_197 hI16 (fun s23 hI26 fr25 ps28 ps29 => ?_)
    have ps28 : (s.1 95 7) ≤ s23.1 95 8 ∧ (s23.1 95 9 = 0 ∨ s23.1 95 8 < s23.1 95 7) := ps28
    have ps29 : s23.1 95 12 = (s.1 95 12) ∧ s23.1 95 13 = (s.1 95 13) ∧ s23.1 95 19 = ((s.1 95 19) + 1) ∧ s23.1 95 20 = ((s.1 95 20) + 1) ∧ s23.1 95 21 = (s.1 95 21) ∧ s23.1 95 22 = (s.1 95 22) ∧ s23.1 95 23 = (s.1 95 23) := ps29
    have fr30 : lf_fq [95, 100, 101] 1000000 true s.1 s.2.2 s23.1 s23.2.2 := lf_fq_tr fr17 (lf_fq_wk fr25 rfl (by decide) (by decide))
    have b31 : 0 ≤ s23.1 95 12 ∧ s23.1 95 12 ≤ 2115 := iv_r95_12 hI26
    have b32 : 0 ≤ s23.1 95 13 ∧ s23.1 95 13 ≤ 304 := iv_r95_13 hI26
    have b33 : 0 ≤ s23.1 95 19 ∧ s23.1 95 19 ≤ 160 := iv_r95_19 hI26
    have b34 : 0 ≤ s23.1 95 20 ∧ s23.1 95 20 ≤ 8 := iv_r95_20 hI26
    have b35 : 0 ≤ s23.1 95 22 ∧ s23.1 95 22 ≤ 80 := iv_r95_22 hI26
    have b36 : pz_Y ((s23.1 100)) ((s23.1 98)) ((s23.1 95 12)) ((s23.1 95 13)) ((s23.1 95 19)) ((s23.1 95 20)) (s.1 95 21 + pz_vl a1) ((s23.1 95 22)) (s.1 95 8 + 1 + 2 * pz_v4 a1) (s.1 98 (s.1 95 12)) (0) (0) := pz_cg (fr25.1 100 rfl) (fr25.1 98 rfl) (by assumption) (by omega) (by omega) (by omega) (by omega) (by omega) (by omega) (by omega) (by omega) rfl rfl
    refine ⟨(show lf_R a1 from lf_Rof (by omega)), ?_⟩
    refine ⟨fun c37 => ?_, fun c37 => ?_⟩
    · skip
      have c37 : a1 = 44 := c37
      refine sm_232 hI26 (fun r26 q38 => ?_)
      obtain ⟨q38, q38x⟩ := q38
      have b39 : (-2147483648) ≤ s23.1 95 9 ∧ s23.1 95 9 ≤ 2147483647 := iv_full hI26
      have b40 : 0 ≤ s23.1 95 7 ∧ s23.1 95 7 ≤ 300 := iv_r95_7 hI26
      have b41 : 0 ≤ s23.1 95 8 ∧ s23.1 95 8 ≤ 300 := iv_r95_8 hI26
      have b42 : 0 ≤ s23.1 95 4 ∧ s23.1 95 4 ≤ 300 := iv_r95_4 hI26
      have q38x : (r26 = -1 ∧ ¬ (s23.1 95 9 = 2 ∧ s23.1 95 7 - s23.1 95 8 = 1 ∧ s23.1 95 8 < s23.1 95 4 ∧ 97 ≤ s23.1 99 (s23.1 95 8) ∧ s23.1 99 (s23.1 95 8) ≤ 122)) ∨ (r26 = s23.1 99 (s23.1 95 8) - 97 ∧ s23.1 95 9 = 2 ∧ s23.1 95 7 - s23.1 95 8 = 1 ∧ s23.1 95 8 < s23.1 95 4 ∧ 97 ≤ s23.1 99 (s23.1 95 8) ∧ s23.1 99 (s23.1 95 8) ≤ 122) := q38x
      refine ⟨(show lf_R r26 from lf_Rof (by omega)), ?_⟩
      refine ⟨fun c43 => ?_, fun c43 => ?_⟩
      · skip
        have c43 : 0 ≤ r26 := c43
        have b44 : 0 ≤ s23.1 95 21 ∧ s23.1 95 21 ≤ 8 := iv_r95_21 hI26
        refine sm_232 hI26 (fun r29 q45 => ?_)
        obtain ⟨q45, q45x⟩ := q45
        have b46 : (-2147483648) ≤ s23.1 95 9 ∧ s23.1 95 9 ≤ 2147483647 := iv_full hI26
        have b47 : 0 ≤ s23.1 95 7 ∧ s23.1 95 7 ≤ 300 := iv_r95_7 hI26
        have b48 : 0 ≤ s23.1 95 8 ∧ s23.1 95 8 ≤ 300 := iv_r95_8 hI26
        have b49 : 0 ≤ s23.1 95 4 ∧ s23.1 95 4 ≤ 300 := iv_r95_4 hI26
        have q45x : (r29 = -1 ∧ ¬ (s23.1 95 9 = 2 ∧ s23.1 95 7 - s23.1 95 8 = 1 ∧ s23.1 95 8 < s23.1 95 4 ∧ 97 ≤ s23.1 99 (s23.1 95 8) ∧ s23.1 99 (s23.1 95 8) ≤ 122)) ∨ (r29 = s23.1 99 (s23.1 95 8) - 97 ∧ s23.1 95 9 = 2 ∧ s23.1 95 7 - s23.1 95 8 = 1 ∧ s23.1 95 8 < s23.1 95 4 ∧ 97 ≤ s23.1 99 (s23.1 95 8) ∧ s23.1 99 (s23.1 95 8) ≤ 122) := q45x
        refine ⟨(show (0 : Int) ≤ s23.1 95 21 ∧ s23.1 95 21 < (10 : Int) from by omega), ?_⟩
        have hI50 : iv_A (lf_up s23.1 101 (s23.1 95 21) r29) s23.2.2 := iv_w101 hI26 (by omega)
        have fr51 : lf_fq [95, 100, 101] 1000000 true s.1 s.2.2 (lf_up s23.1 101 (s23.1 95 21) r29) s23.2.2 := lf_fq_up fr30 rfl (fun h => absurd h (by decide))
        have hI52 : iv_A (lf_up (lf_up s23.1 101 (s23.1 95 21) r29) 95 21 ((s23.1 95 21) + 1)) s23.2.2 := iv_w95_21 hI50 (by omega)
        have fr53 : lf_fq [95, 100, 101] 1000000 true s.1 s.2.2 (lf_up (lf_up s23.1 101 (s23.1 95 21) r29) 95 21 ((s23.1 95 21) + 1)) s23.2.2 := lf_fq_up fr51 rfl (fun h => absurd h (by decide))
        refine sm_197 hI52 (fun s31 hI55 fr54 ps57 ps58 => ?_)
        have ps57 : (s23.1 95 7) ≤ s31.1 95 8 ∧ (s31.1 95 9 = 0 ∨ s31.1 95 8 < s31.1 95 7) := ps57
        have ps58 : s31.1 95 12 = (s23.1 95 12) ∧ s31.1 95 13 = (s23.1 95 13) ∧ s31.1 95 19 = (s23.1 95 19) ∧ s31.1 95 20 = (s23.1 95 20) ∧ s31.1 95 21 = ((s23.1 95 21) + 1) ∧ s31.1 95 22 = (s23.1 95 22) ∧ s31.1 95 23 = (s23.1 95 23) := ps58
        have fr59 : lf_fq [95, 100, 101] 1000000 true s.1 s.2.2 s31.1 s31.2.2 := lf_fq_tr fr53 (lf_fq_wk fr54 rfl (by decide) (by decide))
        have b60 : 0 ≤ s31.1 95 12 ∧ s31.1 95 12 ≤ 2115 := iv_r95_12 hI55
        have b61 : 0 ≤ s31.1 95 13 ∧ s31.1 95 13 ≤ 304 := iv_r95_13 hI55
        have b62 : 0 ≤ s31.1 95 19 ∧ s31.1 95 19 ≤ 160 := iv_r95_19 hI55
        have b63 : 0 ≤ s31.1 95 20 ∧ s31.1 95 20 ≤ 8 := iv_r95_20 hI55
        have b64 : 0 ≤ s31.1 95 22 ∧ s31.1 95 22 ≤ 80 := iv_r95_22 hI55
        have b65 : pz_Y ((s31.1 100)) ((s31.1 98)) ((s31.1 95 12)) ((s31.1 95 13)) ((s31.1 95 19)) ((s31.1 95 20)) (s.1 95 21 + pz_vl a1) ((s31.1 95 22)) (s.1 95 8 + 1 + 2 * pz_v4 a1) (s.1 98 (s.1 95 12)) (0) (0) := pz_cg (fr54.1 100 rfl) (fr54.1 98 rfl) (by assumption) (by omega) (by omega) (by omega) (by omega) (by omega) (by omega) (by omega) (by omega) rfl rfl
        refine sm_206 hI55 (show (97 : Int) ≤ 98 ∧ 98 ≤ (119 : Int) from by omega) (show (97 : Int) ≤ 101 ∧ 101 ≤ (121 : Int) from by omega) (fun r33 => ?_)
        refine sm_207 hI55 (fun z35 q67 => ?_)
        have b68 : (-2147483648) ≤ s31.1 95 9 ∧ s31.1 95 9 ≤ 2147483647 := iv_full hI55
        refine ⟨fun c69 => ?_, fun c69 => ?_⟩
        · skip
          have dc69 := q67.1 c69
          refine sm_197 hI55 (fun s36 hI71 fr70 ps73 ps74 => ?_)
          have ps73 : (s31.1 95 7) ≤ s36.1 95 8 ∧ (s36.1 95 9 = 0 ∨ s36.1 95 8 < s36.1 95 7) := ps73
          have ps74 : s36.1 95 12 = (s31.1 95 12) ∧ s36.1 95 13 = (s31.1 95 13) ∧ s36.1 95 19 = (s31.1 95 19) ∧ s36.1 95 20 = (s31.1 95 20) ∧ s36.1 95 21 = (s31.1 95 21) ∧ s36.1 95 22 = (s31.1 95 22) ∧ s36.1 95 23 = (s31.1 95 23) := ps74
          have fr75 : lf_fq [95, 100, 101] 1000000 true s.1 s.2.2 s36.1 s36.2.2 := lf_fq_tr fr59 (lf_fq_wk fr70 rfl (by decide) (by decide))
          have b76 : 0 ≤ s36.1 95 12 ∧ s36.1 95 12 ≤ 2115 := iv_r95_12 hI71
          have b77 : 0 ≤ s36.1 95 13 ∧ s36.1 95 13 ≤ 304 := iv_r95_13 hI71
          have b78 : 0 ≤ s36.1 95 19 ∧ s36.1 95 19 ≤ 160 := iv_r95_19 hI71
          have b79 : 0 ≤ s36.1 95 20 ∧ s36.1 95 20 ≤ 8 := iv_r95_20 hI71
          have b80 : 0 ≤ s36.1 95 22 ∧ s36.1 95 22 ≤ 80 := iv_r95_22 hI71
          have b81 : pz_Y ((s36.1 100)) ((s36.1 98)) ((s36.1 95 12)) ((s36.1 95 13)) ((s36.1 95 19)) ((s36.1 95 20)) (s.1 95 21 + pz_vl a1) ((s36.1 95 22)) (s.1 95 8 + 1 + 2 * pz_v4 a1) (s.1 98 (s.1 95 12)) (0) (0) := pz_cg (fr70.1 100 rfl) (fr70.1 98 rfl) (by assumption) (by omega) (by omega) (by omega) (by omega) (by omega) (by omega) (by omega) (by omega) rfl rfl
          have b82 : 0 ≤ s36.1 95 21 ∧ s36.1 95 21 ≤ 8 := iv_r95_21 hI71
          have b83 : 0 ≤ s36.1 95 8 ∧ s36.1 95 8 ≤ 300 := iv_r95_8 hI71
          have b84 : 0 ≤ s36.1 95 23 ∧ s36.1 95 23 ≤ 1 := iv_r95_23 hI71
          have b85 : pz_Y ((s36.1 100)) ((s36.1 98)) ((s36.1 95 12)) ((s36.1 95 13)) ((s36.1 95 19)) ((s36.1 95 20)) ((s36.1 95 21)) ((s36.1 95 22)) ((s36.1 95 8)) (s.1 98 (s.1 95 12)) ((s36.1 95 23)) (0) := pz_cg rfl rfl (by assumption : pz_Y ((s36.1 100)) ((s36.1 98)) ((s36.1 95 12)) ((s36.1 95 13)) ((s36.1 95 19)) ((s36.1 95 20)) (s.1 95 21 + pz_vl a1) ((s36.1 95 22)) (s.1 95 8 + 1 + 2 * pz_v4 a1) (s.1 98 (s.1 95 12)) (0) (0)) rfl rfl rfl rfl (by omega) rfl (by omega) rfl (by omega) rfl
          have b86 : pz_H ((s36.1 98)) ((s36.1 95 12)) (s.1 98 (s.1 95 12)) := by first | exact pz_YH kp0 | exact pz_YH (by assumption : pz_Y ((s36.1 100)) ((s36.1 98)) ((s36.1 95 12)) ((s36.1 95 13)) ((s36.1 95 19)) ((s36.1 95 20)) (s.1 95 21 + pz_vl a1) ((s36.1 95 22)) (s.1 95 8 + 1 + 2 * pz_v4 a1) (s.1 98 (s.1 95 12)) (0) (0))
          exact hQ 0 s36 hI71 fr75 (show 0 = 0 → pz_Y ((s36.1 100)) ((s36.1 98)) ((s36.1 95 12)) ((s36.1 95 13)) ((s36.1 95 19)) ((s36.1 95 20)) ((s36.1 95 21)) ((s36.1 95 22)) ((s36.1 95 8)) (s.1 98 (s.1 95 12)) ((s36.1 95 23)) (0) from fun _ => by assumption) (show 0 = 0 → (s.1 95 8 < (s36.1 95 8) ∧ ((s36.1 95 9) = 0 ∨ (s36.1 95 8) < (s36.1 95 7))) from fun _ => by omega) (show pz_H ((s36.1 98)) ((s36.1 95 12)) (s.1 98 (s.1 95 12)) from by assumption) (show (s36.1 95 12) = s.1 95 12 from by omega) (show (0 : Int) ≤ 0 ∧ 0 ≤ (3 : Int) from by omega)
        · skip
          have dc69 := q67.2 c69
          have b87 : pz_H ((s31.1 98)) ((s31.1 95 12)) (s.1 98 (s.1 95 12)) := by first | exact pz_YH kp0 | exact pz_YH (by assumption : pz_Y ((s31.1 100)) ((s31.1 98)) ((s31.1 95 12)) ((s31.1 95 13)) ((s31.1 95 19)) ((s31.1 95 20)) (s.1 95 21 + pz_vl a1) ((s31.1 95 22)) (s.1 95 8 + 1 + 2 * pz_v4 a1) (s.1 98 (s.1 95 12)) (0) (0))
          exact hQ 1 s31 hI55 fr59 (show 1 = 0 → pz_Y ((s31.1 100)) ((s31.1 98)) ((s31.1 95 12)) ((s31.1 95 13)) ((s31.1 95 19)) ((s31.1 95 20)) ((s31.1 95 21)) ((s31.1 95 22)) ((s31.1 95 8)) (s.1 98 (s.1 95 12)) ((s31.1 95 23)) (0) from fun h => absurd h (by decide)) (show 1 = 0 → (s.1 95 8 < (s31.1 95 8) ∧ ((s31.1 95 9) = 0 ∨ (s31.1 95 8) < (s31.1 95 7))) from fun h => absurd h (by decide)) (show pz_H ((s31.1 98)) ((s31.1 95 12)) (s.1 98 (s.1 95 12)) from by assumption) (show (s31.1 95 12) = s.1 95 12 from by omega) (show (0 : Int) ≤ 1 ∧ 1 ≤ (3 : Int) from by omega)
      · skip
        have c43 : ¬ (0 ≤ r26) := c43
        have b88 : pz_H ((s23.1 98)) ((s23.1 95 12)) (s.1 98 (s.1 95 12)) := by first | exact pz_YH kp0 | exact pz_YH (by assumption : pz_Y ((s23.1 100)) ((s23.1 98)) ((s23.1 95 12)) ((s23.1 95 13)) ((s23.1 95 19)) ((s23.1 95 20)) (s.1 95 21 + pz_vl a1) ((s23.1 95 22)) (s.1 95 8 + 1 + 2 * pz_v4 a1) (s.1 98 (s.1 95 12)) (0) (0))
        exact hQ 1 s23 hI26 fr30 (show 1 = 0 → pz_Y ((s23.1 100)) ((s23.1 98)) ((s23.1 95 12)) ((s23.1 95 13)) ((s23.1 95 19)) ((s23.1 95 20)) ((s23.1 95 21)) ((s23.1 95 22)) ((s23.1 95 8)) (s.1 98 (s.1 95 12)) ((s23.1 95 23)) (0) from fun h => absurd h (by decide)) (show 1 = 0 → (s.1 95 8 < (s23.1 95 8) ∧ ((s23.1 95 9) = 0 ∨ (s23.1 95 8) < (s23.1 95 7))) from fun h => absurd h (by decide)) (show pz_H ((s23.1 98)) ((s23.1 95 12)) (s.1 98 (s.1 95 12)) from by assumption) (show (s23.1 95 12) = s.1 95 12 from by omega) (show (0 : Int) ≤ 1 ∧ 1 ≤ (3 : Int) from by omega)
    · skip
      have c37 : ¬ (a1 = 44) := c37
      have b89 : 0 ≤ s23.1 95 21 ∧ s23.1 95 21 ≤ 8 := iv_r95_21 hI26
      have b90 : 0 ≤ s23.1 95 8 ∧ s23.1 95 8 ≤ 300 := iv_r95_8 hI26
      have b91 : 0 ≤ s23.1 95 23 ∧ s23.1 95 23 ≤ 1 := iv_r95_23 hI26
      have b92 : pz_Y ((s23.1 100)) ((s23.1 98)) ((s23.1 95 12)) ((s23.1 95 13)) ((s23.1 95 19)) ((s23.1 95 20)) ((s23.1 95 21)) ((s23.1 95 22)) ((s23.1 95 8)) (s.1 98 (s.1 95 12)) ((s23.1 95 23)) (0) := pz_cg rfl rfl (by assumption : pz_Y ((s23.1 100)) ((s23.1 98)) ((s23.1 95 12)) ((s23.1 95 13)) ((s23.1 95 19)) ((s23.1 95 20)) (s.1 95 21 + pz_vl a1) ((s23.1 95 22)) (s.1 95 8 + 1 + 2 * pz_v4 a1) (s.1 98 (s.1 95 12)) (0) (0)) rfl rfl rfl rfl (by omega) rfl (by omega) rfl (by omega) rfl
      have b93 : pz_H ((s23.1 98)) ((s23.1 95 12)) (s.1 98 (s.1 95 12)) := by first | exact pz_YH kp0 | exact pz_YH (by assumption : pz_Y ((s23.1 100)) ((s23.1 98)) ((s23.1 95 12)) ((s23.1 95 13)) ((s23.1 95 19)) ((s23.1 95 20)) (s.1 95 21 + pz_vl a1) ((s23.1 95 22)) (s.1 95 8 + 1 + 2 * pz_v4 a1) (s.1 98 (s.1 95 12)) (0) (0))
      exact hQ 0 s23 hI26 fr30 (show 0 = 0 → pz_Y ((s23.1 100)) ((s23.1 98)) ((s23.1 95 12)) ((s23.1 95 13)) ((s23.1 95 19)) ((s23.1 95 20)) ((s23.1 95 21)) ((s23.1 95 22)) ((s23.1 95 8)) (s.1 98 (s.1 95 12)) ((s23.1 95 23)) (0) from fun _ => by assumption) (show 0 = 0 → (s.1 95 8 < (s23.1 95 8) ∧ ((s23.1 95 9) = 0 ∨ (s23.1 95 8) < (s23.1 95 7))) from fun _ => by omega) (show pz_H ((s23.1 98)) ((s23.1 95 12)) (s.1 98 (s.1 95 12)) from by assumption) (show (s23.1 95 12) = s.1 95 12 from by omega) (show (0 : Int) ≤ 0 ∧ 0 ≤ (3 : Int) from by omega)
  · skip
    have c9 : ¬ (s.1 95 20 ≠ 8) := c9
    have b94 : pz_H ((s.1 98)) ((s.1 95 12)) (s.1 98 (s.1 95 12)) := by first | exact pz_YH kp0 | exact pz_YH (by assumption : pz_Y ((s.1 100)) ((s.1 98)) ((s.1 95 12)) ((s.1 95 13)) ((s.1 95 19)) ((s.1 95 20)) (s.1 95 21 + pz_vl a1) ((s.1 95 22)) (s.1 95 8 + 1 + 2 * pz_v4 a1) (s.1 98 (s.1 95 12)) (0) (0))
    exact hQ 3 s hI (lf_fq_rf) (show 3 = 0 → pz_Y ((s.1 100)) ((s.1 98)) ((s.1 95 12)) ((s.1 95 13)) ((s.1 95 19)) ((s.1 95 20)) ((s.1 95 21)) ((s.1 95 22)) ((s.1 95 8)) (s.1 98 (s.1 95 12)) ((s.1 95 23)) (0) from fun h => absurd h (by decide)) (show 3 = 0 → (s.1 95 8 < (s.1 95 8) ∧ ((s.1 95 9) = 0 ∨ (s.1 95 8) < (s.1 95 7))) from fun h => absurd h (by decide)) (show pz_H ((s.1 98)) ((s.1 95 12)) (s.1 98 (s.1 95 12)) from by assumption) (show (s.1 95 12) = s.1 95 12 from by omega) (show (0 : Int) ≤ 3 ∧ 3 ≤ (3 : Int) from by omega)
-- fm_231 Model.isOf 95 i
theorem sm_231 {a1 : Int} {Q : Bool → lf_Z → Prop} {s : lf_Z} (hI : iv_A s.1 s.2.2) (ba1 : 0 ≤ a1 ∧ a1 ≤ 10) (hQ : ∀ (z : Bool), Q z s) : fm_231 a1 Q s := by
  unfold fm_231
  refine ⟨(show lf_R a1 from lf_Rof (by omega)), ?_⟩
  refine ⟨fun c1 => ?_, fun c1 => ?_⟩
  · skip
    have c1 : a1 < 4 := c1
    exact hQ true
  · skip
    have c1 : ¬ (a1 < 4) := c1
    refine ⟨fun c2 => ?_, fun c2 => ?_⟩
    · skip
      have c2 : a1 ≠ 4 := c2
      refine ⟨fun c3 => ?_, fun c3 => ?_⟩
      · skip
        have c3 : a1 ≠ 10 := c3
        have b4 : 0 ≤ s.1 95 14 ∧ s.1 95 14 ≤ 12 := iv_r95_14 hI
        refine ⟨(show lf_R (s.1 95 14) from lf_Rof (by omega)), ?_⟩
        refine ⟨fun c5 => ?_, fun c5 => ?_⟩
        · skip
          have c5 : s.1 95 14 ≠ 1 := c5
          exact hQ false
        · skip
          have c5 : ¬ (s.1 95 14 ≠ 1) := c5
          exact hQ true
      · skip
        have c3 : ¬ (a1 ≠ 10) := c3
        have b6 : 0 ≤ s.1 95 14 ∧ s.1 95 14 ≤ 12 := iv_r95_14 hI
        refine ⟨(show lf_R (s.1 95 14) from lf_Rof (by omega)), ?_⟩
        refine ⟨fun c7 => ?_, fun c7 => ?_⟩
        · skip
          have c7 : s.1 95 14 ≠ 2 := c7
          exact hQ false
        · skip
          have c7 : ¬ (s.1 95 14 ≠ 2) := c7
          exact hQ true
    · skip
      have c2 : ¬ (a1 ≠ 4) := c2
      have b8 : 0 ≤ s.1 95 14 ∧ s.1 95 14 ≤ 12 := iv_r95_14 hI
      refine ⟨(show lf_R (s.1 95 14) from lf_Rof (by omega)), ?_⟩
      refine ⟨fun c9 => ?_, fun c9 => ?_⟩
      · skip
        have c9 : s.1 95 14 ≠ 0 := c9
        exact hQ false
      · skip
        have c9 : ¬ (s.1 95 14 ≠ 0) := c9
        exact hQ true
-- fm_229 Model.beginOne 95
theorem sm_229_p79 {Q : Int → lf_Z → Prop} {x1 : Int} {s : lf_Z} {s0 : lf_Z} (hQ : ∀ (r : Int) (s' : lf_Z), iv_A s'.1 s'.2.2 → lf_fq [95, 98, 100, 101] 1000000 true s.1 s.2.2 s'.1 s'.2.2 → (r = 0 → pz_Y (s'.1 100) (s'.1 98) (s'.1 95 12) (s'.1 95 13) (s'.1 95 19) (s'.1 95 20) (s'.1 95 21) (s'.1 95 22) (s'.1 95 8) (s0.1 98 (s0.1 95 12)) (s'.1 95 23) (0)) → (r = 0 → (s0.1 95 8 < s'.1 95 8 ∧ (s'.1 95 9 = 0 ∨ s'.1 95 8 < s'.1 95 7))) → (pz_H (s'.1 98) (s'.1 95 12) (s0.1 98 (s0.1 95 12))) → (s'.1 95 12 = s0.1 95 12) → (0 ≤ r ∧ r ≤ 5) → Q r s') (hI : iv_A s.1 s.2.2) (bx1 : (-1) ≤ x1 ∧ x1 ≤ 10) (kv0 : pz_Y (s.1 100) (s.1 98) (s.1 95 12) (s.1 95 13) (s.1 95 19) (s.1 95 20) (s.1 95 21) (s.1 95 22) (s.1 95 8) (s0.1 98 (s0.1 95 12)) (0) (0)) (kv1 : s.1 95 9 = 0 ∨ s.1 95 8 < s.1 95 7) (kv2 : s.1 95 23 = 0) (kv3 : s.1 95 8 = s0.1 95 8 ∧ s.1 98 (s.1 95 12) = s0.1 98 (s0.1 95 12)) (kv4 : x1 = -1 ∨ s.1 95 9 = 2) (kv5 : s.1 95 9 ≠ 2 ∨ s.1 95 7 - s.1 95 8 ≠ 1 ∨ s.1 95 4 ≤ s.1 95 8 ∨ s.1 99 (s.1 95 8) < 97 ∨ 122 < s.1 99 (s.1 95 8) ∨ 0 ≤ s.1 103 (s.1 99 (s.1 95 8) - 97)) (kv6 : s.1 95 9 = 1 ∨ 0 ≤ x1 ∨ ¬ (s.1 95 9 ≠ 2 ∨ s.1 95 7 - s.1 95 8 ≠ 1 ∨ s.1 95 4 ≤ s.1 95 8 ∨ s.1 99 (s.1 95 8) < 97 ∨ 122 < s.1 99 (s.1 95 8))) (kv7 : s.1 95 12 = s0.1 95 12) : fm_229_p79 Q x1 s := by
  unfold fm_229_p79
  have b55 : 0 ≤ s.1 95 12 ∧ s.1 95 12 ≤ 2115 := iv_r95_12 hI
  have b56 : 0 ≤ s.1 95 13 ∧ s.1 95 13 ≤ 304 := iv_r95_13 hI
  have b57 : 0 ≤ s.1 95 19 ∧ s.1 95 19 ≤ 160 := iv_r95_19 hI
  have b58 : 0 ≤ s.1 95 20 ∧ s.1 95 20 ≤ 8 := iv_r95_20 hI
  have b59 : 0 ≤ s.1 95 21 ∧ s.1 95 21 ≤ 8 := iv_r95_21 hI
  have b60 : 0 ≤ s.1 95 22 ∧ s.1 95 22 ≤ 80 := iv_r95_22 hI
  have b61 : 0 ≤ s.1 95 8 ∧ s.1 95 8 ≤ 300 := iv_r95_8 hI
  have b62 : pz_Y ((s.1 100)) ((s.1 98)) ((s.1 95 12)) ((s.1 95 13)) ((s.1 95 19)) ((s.1 95 20)) ((s.1 95 21)) ((s.1 95 22)) ((s.1 95 8)) ((s.1 98) ((s.1 95 12))) (0) (0) := pz_Ym kv0
  have b63 : (-2147483648) ≤ s.1 95 9 ∧ s.1 95 9 ≤ 2147483647 := iv_full hI
  refine ⟨(show lf_R (s.1 95 9) from lf_Rof (by omega)), ?_⟩
  refine ⟨fun c64 => ?_, fun c64 => ?_⟩
  · skip
    have c64 : s.1 95 9 ≠ 1 := c64
    refine ⟨(show lf_R x1 from lf_Rof (by omega)), ?_⟩
    refine ⟨fun c65 => ?_, fun c65 => ?_⟩
    · skip
      have c65 : x1 < 0 := c65
      refine sm_232 hI (fun r32 q66 => ?_)
      obtain ⟨q66, q66x⟩ := q66
      have b67 : 0 ≤ s.1 95 7 ∧ s.1 95 7 ≤ 300 := iv_r95_7 hI
      have b68 : 0 ≤ s.1 95 4 ∧ s.1 95 4 ≤ 300 := iv_r95_4 hI
      have q66x : (r32 = -1 ∧ ¬ (s.1 95 9 = 2 ∧ s.1 95 7 - s.1 95 8 = 1 ∧ s.1 95 8 < s.1 95 4 ∧ 97 ≤ s.1 99 (s.1 95 8) ∧ s.1 99 (s.1 95 8) ≤ 122)) ∨ (r32 = s.1 99 (s.1 95 8) - 97 ∧ s.1 95 9 = 2 ∧ s.1 95 7 - s.1 95 8 = 1 ∧ s.1 95 8 < s.1 95 4 ∧ 97 ≤ s.1 99 (s.1 95 8) ∧ s.1 99 (s.1 95 8) ≤ 122) := q66x
      refine ⟨(show (0 : Int) ≤ r32 ∧ r32 < (26 : Int) from by omega), ?_⟩
      have b69 : (-1) ≤ s.1 103 r32 ∧ s.1 103 r32 ≤ 79 := iv_r103 hI _
      have b70 : (s.1 103 r32) = (s.1 103) ((s.1 99) ((s.1 95 8)) - 97) := congrArg ((s.1 103)) (by omega)
      have b73 : 0 ≤ s.1 95 7 ∧ s.1 95 7 ≤ 300 := iv_r95_7 hI
      refine sm_233 hI (show (0 : Int) ≤ 31 ∧ 31 ≤ (31 : Int) from by omega) (show (-2147483648 : Int) ≤ s.1 103 r32 ∧ s.1 103 r32 ≤ (2147483647 : Int) from by omega) (show pz_Y ((s.1 100)) ((s.1 98)) ((s.1 95 12)) ((s.1 95 13)) ((s.1 95 19)) ((s.1 95 20)) ((s.1 95 21)) ((s.1 95 22)) ((s.1 95 8)) ((s.1 98) ((s.1 95 12))) (0) (0) from by assumption) (show (s.1 95 9) ≠ 0 ∧ (s.1 95 8) < (s.1 95 7) from by omega) (show 31 = 0 ∨ (31 = 1 ∧ 0 ≤ (s.1 103 r32) ∧ (s.1 103 r32) < 11) ∨ (31 = 31 ∧ 0 ≤ (s.1 103 r32) ∧ (s.1 103 r32) < 80) from by omega) (fun s34 hI72 fr71 ps75 ps76 ps77 => ?_)
      have ps75 : pz_Y (s34.1 100) (s34.1 98) (s34.1 95 12) (s34.1 95 13) (s34.1 95 19) (s34.1 95 20) (s34.1 95 21) (s34.1 95 22) (s34.1 95 8) ((s.1 98) ((s.1 95 12))) (1) (0) := ps75
      have ps76 : (s.1 95 8) < s34.1 95 8 ∧ (s34.1 95 9 = 0 ∨ s34.1 95 8 < s34.1 95 7) ∧ s34.1 95 23 = 1 := ps76
      have ps77 : s34.1 95 12 = (s.1 95 12) := ps77
      have fr78 : lf_fq [95, 98, 100, 101] 1000000 true s.1 s.2.2 s34.1 s34.2.2 := lf_fq_tr (lf_fq_rf) (lf_fq_wk fr71 rfl (by decide) (by decide))
      have b79 : 0 ≤ s34.1 95 12 ∧ s34.1 95 12 ≤ 2115 := iv_r95_12 hI72
      have b80 : 0 ≤ s34.1 95 13 ∧ s34.1 95 13 ≤ 304 := iv_r95_13 hI72
      have b81 : 0 ≤ s34.1 95 19 ∧ s34.1 95 19 ≤ 160 := iv_r95_19 hI72
      have b82 : 0 ≤ s34.1 95 20 ∧ s34.1 95 20 ≤ 8 := iv_r95_20 hI72
      have b83 : 0 ≤ s34.1 95 21 ∧ s34.1 95 21 ≤ 8 := iv_r95_21 hI72
      have b84 : 0 ≤ s34.1 95 22 ∧ s34.1 95 22 ≤ 80 := iv_r95_22 hI72
      have b85 : 0 ≤ s34.1 95 8 ∧ s34.1 95 8 ≤ 300 := iv_r95_8 hI72
      have b86 : 0 ≤ s34.1 95 23 ∧ s34.1 95 23 ≤ 1 := iv_r95_23 hI72
      have b87 : pz_Y ((s34.1 100)) ((s34.1 98)) ((s34.1 95 12)) ((s34.1 95 13)) ((s34.1 95 19)) ((s34.1 95 20)) ((s34.1 95 21)) ((s34.1 95 22)) ((s34.1 95 8)) (s0.1 98 (s0.1 95 12)) ((s34.1 95 23)) (0) := pz_cg rfl rfl ps75 rfl rfl rfl rfl rfl rfl (Int.le_refl _) (by omega) (by omega) rfl
      have b88 : pz_H ((s34.1 98)) ((s34.1 95 12)) (s0.1 98 (s0.1 95 12)) := by first | assumption | exact pz_YH (by assumption : pz_Y ((s34.1 100)) ((s34.1 98)) ((s34.1 95 12)) ((s34.1 95 13)) ((s34.1 95 19)) ((s34.1 95 20)) ((s34.1 95 21)) ((s34.1 95 22)) ((s34.1 95 8)) (s0.1 98 (s0.1 95 12)) ((s34.1 95 23)) (0)) | exact pz_YH (by assumption : pz_Y ((s34.1 100)) ((s34.1 98)) ((s34.1 95 12)) ((s34.1 95 13)) ((s34.1 95 19)) ((s34.1 95 20)) ((s34.1 95 21)) ((s34.1 95 22)) ((s34.1 95 8)) (s0.1 98 (s0.1 95 12)) (0) (0)) | exact pz_YH kp0
      exact hQ 0 s34 hI72 fr78 (show 0 = 0 → pz_Y ((s34.1 100)) ((s34.1 98)) ((s34.1 95 12)) ((s34.1 95 13)) ((s34.1 95 19)) ((s34.1 95 20)) ((s34.1 95 21)) ((s34.1 95 22)) ((s34.1 95 8)) (s0.1 98 (s0.1 95 12)) ((s34.1 95 23)) (0) from fun _ => by assumption) (show 0 = 0 → (s0.1 95 8 < (s34.1 95 8) ∧ ((s34.1 95 9) = 0 ∨ (s34.1 95 8) < (s34.1 95 7))) from fun _ => by omega) (show pz_H ((s34.1 98)) ((s34.1 95 12)) (s0.1 98 (s0.1 95 12)) from by assumption) (show (s34.1 95 12) = s0.1 95 12 from by omega) (show (0 : Int) ≤ 0 ∧ 0 ≤ (5 : Int) from by omega)
    · skip
      have c65 : ¬ (x1 < 0) := c65
      have b91 : 0 ≤ s.1 95 7 ∧ s.1 95 7 ≤ 300 := iv_r95_7 hI
      refine sm_233 hI (show (0 : Int) ≤ 1 ∧ 1 ≤ (31 : Int) from by omega) (show (-2147483648 : Int) ≤ x1 ∧ x1 ≤ (2147483647 : Int) from by omega) (show pz_Y ((s.1 100)) ((s.1 98)) ((s.1 95 12)) ((s.1 95 13)) ((s.1 95 19)) ((s.1 95 20)) ((s.1 95 21)) ((s.1 95 22)) ((s.1 95 8)) ((s.1 98) ((s.1 95 12))) (0) (0) from by assumption) (show (s.1 95 9) ≠ 0 ∧ (s.1 95 8) < (s.1 95 7) from by omega) (show 1 = 0 ∨ (1 = 1 ∧ 0 ≤ x1 ∧ x1 < 11) ∨ (1 = 31 ∧ 0 ≤ x1 ∧ x1 < 80) from by omega) (fun s35 hI90 fr89 ps93 ps94 ps95 => ?_)
      have ps93 : pz_Y (s35.1 100) (s35.1 98) (s35.1 95 12) (s35.1 95 13) (s35.1 95 19) (s35.1 95 20) (s35.1 95 21) (s35.1 95 22) (s35.1 95 8) ((s.1 98) ((s.1 95 12))) (1) (0) := ps93
      have ps94 : (s.1 95 8) < s35.1 95 8 ∧ (s35.1 95 9 = 0 ∨ s35.1 95 8 < s35.1 95 7) ∧ s35.1 95 23 = 1 := ps94
      have ps95 : s35.1 95 12 = (s.1 95 12) := ps95
      have fr96 : lf_fq [95, 98, 100, 101] 1000000 true s.1 s.2.2 s35.1 s35.2.2 := lf_fq_tr (lf_fq_rf) (lf_fq_wk fr89 rfl (by decide) (by decide))
      have b97 : 0 ≤ s35.1 95 12 ∧ s35.1 95 12 ≤ 2115 := iv_r95_12 hI90
      have b98 : 0 ≤ s35.1 95 13 ∧ s35.1 95 13 ≤ 304 := iv_r95_13 hI90
      have b99 : 0 ≤ s35.1 95 19 ∧ s35.1 95 19 ≤ 160 := iv_r95_19 hI90
      have b100 : 0 ≤ s35.1 95 20 ∧ s35.1 95 20 ≤ 8 := iv_r95_20 hI90
      have b101 : 0 ≤ s35.1 95 21 ∧ s35.1 95 21 ≤ 8 := iv_r95_21 hI90
      have b102 : 0 ≤ s35.1 95 22 ∧ s35.1 95 22 ≤ 80 := iv_r95_22 hI90
      have b103 : 0 ≤ s35.1 95 8 ∧ s35.1 95 8 ≤ 300 := iv_r95_8 hI90
      have b104 : 0 ≤ s35.1 95 23 ∧ s35.1 95 23 ≤ 1 := iv_r95_23 hI90
      have b105 : pz_Y ((s35.1 100)) ((s35.1 98)) ((s35.1 95 12)) ((s35.1 95 13)) ((s35.1 95 19)) ((s35.1 95 20)) ((s35.1 95 21)) ((s35.1 95 22)) ((s35.1 95 8)) (s0.1 98 (s0.1 95 12)) ((s35.1 95 23)) (0) := pz_cg rfl rfl ps93 rfl rfl rfl rfl rfl rfl (Int.le_refl _) (by omega) (by omega) rfl
      have b106 : pz_H ((s35.1 98)) ((s35.1 95 12)) (s0.1 98 (s0.1 95 12)) := by first | assumption | exact pz_YH (by assumption : pz_Y ((s35.1 100)) ((s35.1 98)) ((s35.1 95 12)) ((s35.1 95 13)) ((s35.1 95 19)) ((s35.1 95 20)) ((s35.1 95 21)) ((s35.1 95 22)) ((s35.1 95 8)) (s0.1 98 (s0.1 95 12)) ((s35.1 95 23)) (0)) | exact pz_YH (by assumption : pz_Y ((s35.1 100)) ((s35.1 98)) ((s35.1 95 12)) ((s35.1 95 13)) ((s35.1 95 19)) ((s35.1 95 20)) ((s35.1 95 21)) ((s35.1 95 22)) ((s35.1 95 8)) (s0.1 98 (s0.1 95 12)) (0) (0)) | exact pz_YH kp0
      exact hQ 0 s35 hI90 fr96 (show 0 = 0 → pz_Y ((s35.1 100)) ((s35.1 98)) ((s35.1 95 12)) ((s35.1 95 13)) ((s35.1 95 19)) ((s35.1 95 20)) ((s35.1 95 21)) ((s35.1 95 22)) ((s35.1 95 8)) (s0.1 98 (s0.1 95 12)) ((s35.1 95 23)) (0) from fun _ => by assumption) (show 0 = 0 → (s0.1 95 8 < (s35.1 95 8) ∧ ((s35.1 95 9) = 0 ∨ (s35.1 95 8) < (s35.1 95 7))) from fun _ => by omega) (show pz_H ((s35.1 98)) ((s35.1 95 12)) (s0.1 98 (s0.1 95 12)) from by assumption) (show (s35.1 95 12) = s0.1 95 12 from by omega) (show (0 : Int) ≤ 0 ∧ 0 ≤ (5 : Int) from by omega)
  · skip
    have c64 : ¬ (s.1 95 9 ≠ 1) := c64
    have b107 : (-2147483648) ≤ s.1 95 10 ∧ s.1 95 10 ≤ 2147483647 := iv_full hI
    have b110 : 0 ≤ s.1 95 7 ∧ s.1 95 7 ≤ 300 := iv_r95_7 hI
    refine sm_233 hI (show (0 : Int) ≤ 0 ∧ 0 ≤ (31 : Int) from by omega) (show (-2147483648 : Int) ≤ s.1 95 10 ∧ s.1 95 10 ≤ (2147483647 : Int) from by omega) (show pz_Y ((s.1 100)) ((s.1 98)) ((s.1 95 12)) ((s.1 95 13)) ((s.1 95 19)) ((s.1 95 20)) ((s.1 95 21)) ((s.1 95 22)) ((s.1 95 8)) ((s.1 98) ((s.1 95 12))) (0) (0) from by assumption) (show (s.1 95 9) ≠ 0 ∧ (s.1 95 8) < (s.1 95 7) from by omega) (show 0 = 0 ∨ (0 = 1 ∧ 0 ≤ (s.1 95 10) ∧ (s.1 95 10) < 11) ∨ (0 = 31 ∧ 0 ≤ (s.1 95 10) ∧ (s.1 95 10) < 80) from by omega) (fun s36 hI109 fr108 ps112 ps113 ps114 => ?_)
    have ps112 : pz_Y (s36.1 100) (s36.1 98) (s36.1 95 12) (s36.1 95 13) (s36.1 95 19) (s36.1 95 20) (s36.1 95 21) (s36.1 95 22) (s36.1 95 8) ((s.1 98) ((s.1 95 12))) (1) (0) := ps112
    have ps113 : (s.1 95 8) < s36.1 95 8 ∧ (s36.1 95 9 = 0 ∨ s36.1 95 8 < s36.1 95 7) ∧ s36.1 95 23 = 1 := ps113
    have ps114 : s36.1 95 12 = (s.1 95 12) := ps114
    have fr115 : lf_fq [95, 98, 100, 101] 1000000 true s.1 s.2.2 s36.1 s36.2.2 := lf_fq_tr (lf_fq_rf) (lf_fq_wk fr108 rfl (by decide) (by decide))
    have b116 : 0 ≤ s36.1 95 12 ∧ s36.1 95 12 ≤ 2115 := iv_r95_12 hI109
    have b117 : 0 ≤ s36.1 95 13 ∧ s36.1 95 13 ≤ 304 := iv_r95_13 hI109
    have b118 : 0 ≤ s36.1 95 19 ∧ s36.1 95 19 ≤ 160 := iv_r95_19 hI109
    have b119 : 0 ≤ s36.1 95 20 ∧ s36.1 95 20 ≤ 8 := iv_r95_20 hI109
    have b120 : 0 ≤ s36.1 95 21 ∧ s36.1 95 21 ≤ 8 := iv_r95_21 hI109
    have b121 : 0 ≤ s36.1 95 22 ∧ s36.1 95 22 ≤ 80 := iv_r95_22 hI109
    have b122 : 0 ≤ s36.1 95 8 ∧ s36.1 95 8 ≤ 300 := iv_r95_8 hI109
    have b123 : 0 ≤ s36.1 95 23 ∧ s36.1 95 23 ≤ 1 := iv_r95_23 hI109
    have b124 : pz_Y ((s36.1 100)) ((s36.1 98)) ((s36.1 95 12)) ((s36.1 95 13)) ((s36.1 95 19)) ((s36.1 95 20)) ((s36.1 95 21)) ((s36.1 95 22)) ((s36.1 95 8)) (s0.1 98 (s0.1 95 12)) ((s36.1 95 23)) (0) := pz_cg rfl rfl ps112 rfl rfl rfl rfl rfl rfl (Int.le_refl _) (by omega) (by omega) rfl
    have b125 : pz_H ((s36.1 98)) ((s36.1 95 12)) (s0.1 98 (s0.1 95 12)) := by first | assumption | exact pz_YH (by assumption : pz_Y ((s36.1 100)) ((s36.1 98)) ((s36.1 95 12)) ((s36.1 95 13)) ((s36.1 95 19)) ((s36.1 95 20)) ((s36.1 95 21)) ((s36.1 95 22)) ((s36.1 95 8)) (s0.1 98 (s0.1 95 12)) ((s36.1 95 23)) (0)) | exact pz_YH (by assumption : pz_Y ((s36.1 100)) ((s36.1 98)) ((s36.1 95 12)) ((s36.1 95 13)) ((s36.1 95 19)) ((s36.1 95 20)) ((s36.1 95 21)) ((s36.1 95 22)) ((s36.1 95 8)) (s0.1 98 (s0.1 95 12)) (0) (0)) | exact pz_YH kp0
    exact hQ 0 s36 hI109 fr115 (show 0 = 0 → pz_Y ((s36.1 100)) ((s36.1 98)) ((s36.1 95 12)) ((s36.1 95 13)) ((s36.1 95 19)) ((s36.1 95 20)) ((s36.1 95 21)) ((s36.1 95 22)) ((s36.1 95 8)) (s0.1 98 (s0.1 95 12)) ((s36.1 95 23)) (0) from fun _ => by assumption) (show 0 = 0 → (s0.1 95 8 < (s36.1 95 8) ∧ ((s36.1 95 9) = 0 ∨ (s36.1 95 8) < (s36.1 95 7))) from fun _ => by omega) (show pz_H ((s36.1 98)) ((s36.1 95 12)) (s0.1 98 (s0.1 95 12)) from by assumption) (show (s36.1 95 12) = s0.1 95 12 from by omega) (show (0 : Int) ≤ 0 ∧ 0 ≤ (5 : Int) from by omega)
theorem sm_229_p60 {Q : Int → lf_Z → Prop} {x1 : Int} {s : lf_Z} {s0 : lf_Z} (hQ : ∀ (r : Int) (s' : lf_Z), iv_A s'.1 s'.2.2 → lf_fq [95, 98, 100, 101] 1000000 true s.1 s.2.2 s'.1 s'.2.2 → (r = 0 → pz_Y (s'.1 100) (s'.1 98) (s'.1 95 12) (s'.1 95 13) (s'.1 95 19) (s'.1 95 20) (s'.1 95 21) (s'.1 95 22) (s'.1 95 8) (s0.1 98 (s0.1 95 12)) (s'.1 95 23) (0)) → (r = 0 → (s0.1 95 8 < s'.1 95 8 ∧ (s'.1 95 9 = 0 ∨ s'.1 95 8 < s'.1 95 7))) → (pz_H (s'.1 98) (s'.1 95 12) (s0.1 98 (s0.1 95 12))) → (s'.1 95 12 = s0.1 95 12) → (0 ≤ r ∧ r ≤ 5) → Q r s') (hI : iv_A s.1 s.2.2) (bx1 : (-1) ≤ x1 ∧ x1 ≤ 10) (kv0 : pz_Y (s.1 100) (s.1 98) (s.1 95 12) (s.1 95 13) (s.1 95 19) (s.1 95 20) (s.1 95 21) (s.1 95 22) (s.1 95 8) (s0.1 98 (s0.1 95 12)) (0) (0)) (kv1 : s.1 95 9 = 0 ∨ s.1 95 8 < s.1 95 7) (kv2 : s.1 95 23 = 0) (kv3 : s.1 95 8 = s0.1 95 8 ∧ s.1 98 (s.1 95 12) = s0.1 98 (s0.1 95 12)) (kv4 : x1 = -1 ∨ s.1 95 9 = 2) (kv5 : s.1 95 9 ≠ 2 ∨ s.1 95 7 - s.1 95 8 ≠ 1 ∨ s.1 95 4 ≤ s.1 95 8 ∨ s.1 99 (s.1 95 8) < 97 ∨ 122 < s.1 99 (s.1 95 8) ∨ 0 ≤ s.1 103 (s.1 99 (s.1 95 8) - 97)) (kv6 : s.1 95 12 = s0.1 95 12) : fm_229_p60 Q x1 s := sorry
theorem sm_229_p39 {Q : Int → lf_Z → Prop} {x1 : Int} {s : lf_Z} {s0 : lf_Z} (hQ : ∀ (r : Int) (s' : lf_Z), iv_A s'.1 s'.2.2 → lf_fq [95, 98, 100, 101] 1000000 true s.1 s.2.2 s'.1 s'.2.2 → (r = 0 → pz_Y (s'.1 100) (s'.1 98) (s'.1 95 12) (s'.1 95 13) (s'.1 95 19) (s'.1 95 20) (s'.1 95 21) (s'.1 95 22) (s'.1 95 8) (s0.1 98 (s0.1 95 12)) (s'.1 95 23) (0)) → (r = 0 → (s0.1 95 8 < s'.1 95 8 ∧ (s'.1 95 9 = 0 ∨ s'.1 95 8 < s'.1 95 7))) → (pz_H (s'.1 98) (s'.1 95 12) (s0.1 98 (s0.1 95 12))) → (s'.1 95 12 = s0.1 95 12) → (0 ≤ r ∧ r ≤ 5) → Q r s') (hI : iv_A s.1 s.2.2) (bx1 : (-1) ≤ x1 ∧ x1 ≤ 10) (kv0 : pz_Y (s.1 100) (s.1 98) (s.1 95 12) (s.1 95 13) (s.1 95 19) (s.1 95 20) (s.1 95 21) (s.1 95 22) (s.1 95 8) (s0.1 98 (s0.1 95 12)) (0) (0)) (kv1 : s.1 95 9 = 0 ∨ s.1 95 8 < s.1 95 7) (kv2 : s.1 95 23 = 0) (kv3 : s.1 95 8 = s0.1 95 8 ∧ s.1 98 (s.1 95 12) = s0.1 98 (s0.1 95 12)) (kv4 : x1 = -1 ∨ s.1 95 9 = 2) (kv5 : s.1 95 12 = s0.1 95 12) : fm_229_p39 Q x1 s := by
  unfold fm_229_p39
  refine sm_232 hI (fun r26 q26 => ?_)
  obtain ⟨q26, q26x⟩ := q26
  have b27 : (-2147483648) ≤ s.1 95 9 ∧ s.1 95 9 ≤ 2147483647 := iv_full hI
  have b28 : 0 ≤ s.1 95 7 ∧ s.1 95 7 ≤ 300 := iv_r95_7 hI
  have b29 : 0 ≤ s.1 95 8 ∧ s.1 95 8 ≤ 300 := iv_r95_8 hI
  have b30 : 0 ≤ s.1 95 4 ∧ s.1 95 4 ≤ 300 := iv_r95_4 hI
  have q26x : (r26 = -1 ∧ ¬ (s.1 95 9 = 2 ∧ s.1 95 7 - s.1 95 8 = 1 ∧ s.1 95 8 < s.1 95 4 ∧ 97 ≤ s.1 99 (s.1 95 8) ∧ s.1 99 (s.1 95 8) ≤ 122)) ∨ (r26 = s.1 99 (s.1 95 8) - 97 ∧ s.1 95 9 = 2 ∧ s.1 95 7 - s.1 95 8 = 1 ∧ s.1 95 8 < s.1 95 4 ∧ 97 ≤ s.1 99 (s.1 95 8) ∧ s.1 99 (s.1 95 8) ≤ 122) := q26x
  refine ⟨(show lf_R r26 from lf_Rof (by omega)), ?_⟩
  refine ⟨fun c31 => ?_, fun c31 => ?_⟩
  · skip
    have c31 : r26 < 0 := c31
    have b32 : 0 ≤ s.1 95 12 ∧ s.1 95 12 ≤ 2115 := iv_r95_12 hI
    have b33 : 0 ≤ s.1 95 13 ∧ s.1 95 13 ≤ 304 := iv_r95_13 hI
    have b34 : 0 ≤ s.1 95 19 ∧ s.1 95 19 ≤ 160 := iv_r95_19 hI
    have b35 : 0 ≤ s.1 95 20 ∧ s.1 95 20 ≤ 8 := iv_r95_20 hI
    have b36 : 0 ≤ s.1 95 21 ∧ s.1 95 21 ≤ 8 := iv_r95_21 hI
    have b37 : 0 ≤ s.1 95 22 ∧ s.1 95 22 ≤ 80 := iv_r95_22 hI
    have b38 : 0 ≤ s.1 95 8 ∧ s.1 95 8 ≤ 300 := iv_r95_8 hI
    have b39 : (-2147483648) ≤ s.1 95 9 ∧ s.1 95 9 ≤ 2147483647 := iv_full hI
    have b40 : 0 ≤ s.1 95 7 ∧ s.1 95 7 ≤ 300 := iv_r95_7 hI
    have b41 : 0 ≤ s.1 95 23 ∧ s.1 95 23 ≤ 1 := iv_r95_23 hI
    have b42 : 0 ≤ s.1 95 4 ∧ s.1 95 4 ≤ 300 := iv_r95_4 hI
    exact sm_229_p60 (s0 := s0) hQ hI (show (-1 : Int) ≤ x1 ∧ x1 ≤ (10 : Int) from by omega) (show pz_Y ((s.1 100)) ((s.1 98)) ((s.1 95 12)) ((s.1 95 13)) ((s.1 95 19)) ((s.1 95 20)) ((s.1 95 21)) ((s.1 95 22)) ((s.1 95 8)) (s0.1 98 (s0.1 95 12)) (0) (0) from by assumption) (show (s.1 95 9) = 0 ∨ (s.1 95 8) < (s.1 95 7) from by omega) (show (s.1 95 23) = 0 from by omega) (show (s.1 95 8) = s0.1 95 8 ∧ (s.1 98) ((s.1 95 12)) = s0.1 98 (s0.1 95 12) from by omega) (show x1 = -1 ∨ (s.1 95 9) = 2 from by omega) (show (s.1 95 9) ≠ 2 ∨ (s.1 95 7) - (s.1 95 8) ≠ 1 ∨ (s.1 95 4) ≤ (s.1 95 8) ∨ (s.1 99) ((s.1 95 8)) < 97 ∨ 122 < (s.1 99) ((s.1 95 8)) ∨ 0 ≤ (s.1 103) ((s.1 99) ((s.1 95 8)) - 97) from by omega) (show (s.1 95 12) = s0.1 95 12 from by omega)
  · skip
    have c31 : ¬ (r26 < 0) := c31
    refine sm_232 hI (fun r67 q235 => ?_)
    obtain ⟨q235, q235x⟩ := q235
    have b236 : (-2147483648) ≤ s.1 95 9 ∧ s.1 95 9 ≤ 2147483647 := iv_full hI
    have b237 : 0 ≤ s.1 95 7 ∧ s.1 95 7 ≤ 300 := iv_r95_7 hI
    have b238 : 0 ≤ s.1 95 8 ∧ s.1 95 8 ≤ 300 := iv_r95_8 hI
    have b239 : 0 ≤ s.1 95 4 ∧ s.1 95 4 ≤ 300 := iv_r95_4 hI
    have q235x : (r67 = -1 ∧ ¬ (s.1 95 9 = 2 ∧ s.1 95 7 - s.1 95 8 = 1 ∧ s.1 95 8 < s.1 95 4 ∧ 97 ≤ s.1 99 (s.1 95 8) ∧ s.1 99 (s.1 95 8) ≤ 122)) ∨ (r67 = s.1 99 (s.1 95 8) - 97 ∧ s.1 95 9 = 2 ∧ s.1 95 7 - s.1 95 8 = 1 ∧ s.1 95 8 < s.1 95 4 ∧ 97 ≤ s.1 99 (s.1 95 8) ∧ s.1 99 (s.1 95 8) ≤ 122) := q235x
    refine ⟨(show (0 : Int) ≤ r67 ∧ r67 < (26 : Int) from by omega), ?_⟩
    have b240 : (-1) ≤ s.1 103 r67 ∧ s.1 103 r67 ≤ 79 := iv_r103 hI _
    have b241 : 0 ≤ s.1 95 8 ∧ s.1 95 8 ≤ 300 := iv_r95_8 hI
    have b242 : (s.1 103 r67) = (s.1 103) ((s.1 99) ((s.1 95 8)) - 97) := congrArg ((s.1 103)) (by omega)
    refine ⟨(show lf_R (s.1 103 r67) from lf_Rof (by omega)), ?_⟩
    refine ⟨fun c243 => ?_, fun c243 => ?_⟩
    · skip
      have c243 : 0 ≤ s.1 103 r67 := c243
      have b244 : 0 ≤ s.1 95 12 ∧ s.1 95 12 ≤ 2115 := iv_r95_12 hI
      have b245 : 0 ≤ s.1 95 13 ∧ s.1 95 13 ≤ 304 := iv_r95_13 hI
      have b246 : 0 ≤ s.1 95 19 ∧ s.1 95 19 ≤ 160 := iv_r95_19 hI
      have b247 : 0 ≤ s.1 95 20 ∧ s.1 95 20 ≤ 8 := iv_r95_20 hI
      have b248 : 0 ≤ s.1 95 21 ∧ s.1 95 21 ≤ 8 := iv_r95_21 hI
      have b249 : 0 ≤ s.1 95 22 ∧ s.1 95 22 ≤ 80 := iv_r95_22 hI
      have b250 : (-2147483648) ≤ s.1 95 9 ∧ s.1 95 9 ≤ 2147483647 := iv_full hI
      have b251 : 0 ≤ s.1 95 7 ∧ s.1 95 7 ≤ 300 := iv_r95_7 hI
      have b252 : 0 ≤ s.1 95 23 ∧ s.1 95 23 ≤ 1 := iv_r95_23 hI
      have b253 : 0 ≤ s.1 95 4 ∧ s.1 95 4 ≤ 300 := iv_r95_4 hI
      exact sm_229_p60 (s0 := s0) hQ hI (show (-1 : Int) ≤ x1 ∧ x1 ≤ (10 : Int) from by omega) (show pz_Y ((s.1 100)) ((s.1 98)) ((s.1 95 12)) ((s.1 95 13)) ((s.1 95 19)) ((s.1 95 20)) ((s.1 95 21)) ((s.1 95 22)) ((s.1 95 8)) (s0.1 98 (s0.1 95 12)) (0) (0) from by assumption) (show (s.1 95 9) = 0 ∨ (s.1 95 8) < (s.1 95 7) from by omega) (show (s.1 95 23) = 0 from by omega) (show (s.1 95 8) = s0.1 95 8 ∧ (s.1 98) ((s.1 95 12)) = s0.1 98 (s0.1 95 12) from by omega) (show x1 = -1 ∨ (s.1 95 9) = 2 from by omega) (show (s.1 95 9) ≠ 2 ∨ (s.1 95 7) - (s.1 95 8) ≠ 1 ∨ (s.1 95 4) ≤ (s.1 95 8) ∨ (s.1 99) ((s.1 95 8)) < 97 ∨ 122 < (s.1 99) ((s.1 95 8)) ∨ 0 ≤ (s.1 103) ((s.1 99) ((s.1 95 8)) - 97) from by omega) (show (s.1 95 12) = s0.1 95 12 from by omega)
    · skip
      have c243 : ¬ (0 ≤ s.1 103 r67) := c243
      have b254 : 0 ≤ s.1 95 12 ∧ s.1 95 12 ≤ 2115 := iv_r95_12 hI
      have b255 : pz_H ((s.1 98)) ((s.1 95 12)) (s0.1 98 (s0.1 95 12)) := by first | assumption | exact pz_YH (by assumption : pz_Y ((s.1 100)) ((s.1 98)) ((s.1 95 12)) ((s.1 95 13)) ((s.1 95 19)) ((s.1 95 20)) ((s.1 95 21)) ((s.1 95 22)) ((s.1 95 8)) (s0.1 98 (s0.1 95 12)) ((s.1 95 23)) (0)) | exact pz_YH (by assumption : pz_Y ((s.1 100)) ((s.1 98)) ((s.1 95 12)) ((s.1 95 13)) ((s.1 95 19)) ((s.1 95 20)) ((s.1 95 21)) ((s.1 95 22)) ((s.1 95 8)) (s0.1 98 (s0.1 95 12)) (0) (0)) | exact pz_YH kp0
      exact hQ 5 s hI (lf_fq_rf) (show 5 = 0 → pz_Y ((s.1 100)) ((s.1 98)) ((s.1 95 12)) ((s.1 95 13)) ((s.1 95 19)) ((s.1 95 20)) ((s.1 95 21)) ((s.1 95 22)) ((s.1 95 8)) (s0.1 98 (s0.1 95 12)) ((s.1 95 23)) (0) from fun h => absurd h (by decide)) (show 5 = 0 → (s0.1 95 8 < (s.1 95 8) ∧ ((s.1 95 9) = 0 ∨ (s.1 95 8) < (s.1 95 7))) from fun h => absurd h (by decide)) (show pz_H ((s.1 98)) ((s.1 95 12)) (s0.1 98 (s0.1 95 12)) from by assumption) (show (s.1 95 12) = s0.1 95 12 from by omega) (show (0 : Int) ≤ 5 ∧ 5 ≤ (5 : Int) from by omega)
theorem sm_229_p20 {Q : Int → lf_Z → Prop} {s : lf_Z} {s0 : lf_Z} (hQ : ∀ (r : Int) (s' : lf_Z), iv_A s'.1 s'.2.2 → lf_fq [95, 98, 100, 101] 1000000 true s.1 s.2.2 s'.1 s'.2.2 → (r = 0 → pz_Y (s'.1 100) (s'.1 98) (s'.1 95 12) (s'.1 95 13) (s'.1 95 19) (s'.1 95 20) (s'.1 95 21) (s'.1 95 22) (s'.1 95 8) (s0.1 98 (s0.1 95 12)) (s'.1 95 23) (0)) → (r = 0 → (s0.1 95 8 < s'.1 95 8 ∧ (s'.1 95 9 = 0 ∨ s'.1 95 8 < s'.1 95 7))) → (pz_H (s'.1 98) (s'.1 95 12) (s0.1 98 (s0.1 95 12))) → (s'.1 95 12 = s0.1 95 12) → (0 ≤ r ∧ r ≤ 5) → Q r s') (hI : iv_A s.1 s.2.2) (kv0 : pz_Y (s.1 100) (s.1 98) (s.1 95 12) (s.1 95 13) (s.1 95 19) (s.1 95 20) (s.1 95 21) (s.1 95 22) (s.1 95 8) (s0.1 98 (s0.1 95 12)) (0) (0)) (kv1 : s.1 95 9 = 0 ∨ s.1 95 8 < s.1 95 7) (kv2 : s.1 95 23 = 0) (kv3 : s.1 95 8 = s0.1 95 8 ∧ s.1 98 (s.1 95 12) = s0.1 98 (s0.1 95 12)) (kv4 : s.1 95 12 = s0.1 95 12) : fm_229_p20 Q s := by
  unfold fm_229_p20
  refine sm_230 hI (fun r23 q13 => ?_)
  obtain ⟨q13, q13x⟩ := q13
  have b14 : (-2147483648) ≤ s.1 95 9 ∧ s.1 95 9 ≤ 2147483647 := iv_full hI
  have q13x : r23 = -1 ∨ s.1 95 9 = 2 := q13x
  refine ⟨(show lf_R r23 from lf_Rof (by omega)), ?_⟩
  refine ⟨fun c15 => ?_, fun c15 => ?_⟩
  · skip
    have c15 : r23 < 0 := c15
    have b16 : 0 ≤ s.1 95 12 ∧ s.1 95 12 ≤ 2115 := iv_r95_12 hI
    have b17 : 0 ≤ s.1 95 13 ∧ s.1 95 13 ≤ 304 := iv_r95_13 hI
    have b18 : 0 ≤ s.1 95 19 ∧ s.1 95 19 ≤ 160 := iv_r95_19 hI
    have b19 : 0 ≤ s.1 95 20 ∧ s.1 95 20 ≤ 8 := iv_r95_20 hI
    have b20 : 0 ≤ s.1 95 21 ∧ s.1 95 21 ≤ 8 := iv_r95_21 hI
    have b21 : 0 ≤ s.1 95 22 ∧ s.1 95 22 ≤ 80 := iv_r95_22 hI
    have b22 : 0 ≤ s.1 95 8 ∧ s.1 95 8 ≤ 300 := iv_r95_8 hI
    have b23 : (-2147483648) ≤ s.1 95 9 ∧ s.1 95 9 ≤ 2147483647 := iv_full hI
    have b24 : 0 ≤ s.1 95 7 ∧ s.1 95 7 ≤ 300 := iv_r95_7 hI
    have b25 : 0 ≤ s.1 95 23 ∧ s.1 95 23 ≤ 1 := iv_r95_23 hI
    exact sm_229_p39 (s0 := s0) hQ hI (show (-1 : Int) ≤ r23 ∧ r23 ≤ (10 : Int) from by omega) (show pz_Y ((s.1 100)) ((s.1 98)) ((s.1 95 12)) ((s.1 95 13)) ((s.1 95 19)) ((s.1 95 20)) ((s.1 95 21)) ((s.1 95 22)) ((s.1 95 8)) (s0.1 98 (s0.1 95 12)) (0) (0) from by assumption) (show (s.1 95 9) = 0 ∨ (s.1 95 8) < (s.1 95 7) from by omega) (show (s.1 95 23) = 0 from by omega) (show (s.1 95 8) = s0.1 95 8 ∧ (s.1 98) ((s.1 95 12)) = s0.1 98 (s0.1 95 12) from by omega) (show r23 = -1 ∨ (s.1 95 9) = 2 from by omega) (show (s.1 95 12) = s0.1 95 12 from by omega)
  · skip
    have c15 : ¬ (r23 < 0) := c15
    refine sm_231 hI (show (0 : Int) ≤ r23 ∧ r23 ≤ (10 : Int) from by omega) (fun z71 => ?_)
    refine ⟨fun c257 => ?_, fun c257 => ?_⟩
    · skip
      have b258 : 0 ≤ s.1 95 12 ∧ s.1 95 12 ≤ 2115 := iv_r95_12 hI
      have b259 : 0 ≤ s.1 95 13 ∧ s.1 95 13 ≤ 304 := iv_r95_13 hI
      have b260 : 0 ≤ s.1 95 19 ∧ s.1 95 19 ≤ 160 := iv_r95_19 hI
      have b261 : 0 ≤ s.1 95 20 ∧ s.1 95 20 ≤ 8 := iv_r95_20 hI
      have b262 : 0 ≤ s.1 95 21 ∧ s.1 95 21 ≤ 8 := iv_r95_21 hI
      have b263 : 0 ≤ s.1 95 22 ∧ s.1 95 22 ≤ 80 := iv_r95_22 hI
      have b264 : 0 ≤ s.1 95 8 ∧ s.1 95 8 ≤ 300 := iv_r95_8 hI
      have b265 : (-2147483648) ≤ s.1 95 9 ∧ s.1 95 9 ≤ 2147483647 := iv_full hI
      have b266 : 0 ≤ s.1 95 7 ∧ s.1 95 7 ≤ 300 := iv_r95_7 hI
      have b267 : 0 ≤ s.1 95 23 ∧ s.1 95 23 ≤ 1 := iv_r95_23 hI
      exact sm_229_p39 (s0 := s0) hQ hI (show (-1 : Int) ≤ r23 ∧ r23 ≤ (10 : Int) from by omega) (show pz_Y ((s.1 100)) ((s.1 98)) ((s.1 95 12)) ((s.1 95 13)) ((s.1 95 19)) ((s.1 95 20)) ((s.1 95 21)) ((s.1 95 22)) ((s.1 95 8)) (s0.1 98 (s0.1 95 12)) (0) (0) from by assumption) (show (s.1 95 9) = 0 ∨ (s.1 95 8) < (s.1 95 7) from by omega) (show (s.1 95 23) = 0 from by omega) (show (s.1 95 8) = s0.1 95 8 ∧ (s.1 98) ((s.1 95 12)) = s0.1 98 (s0.1 95 12) from by omega) (show r23 = -1 ∨ (s.1 95 9) = 2 from by omega) (show (s.1 95 12) = s0.1 95 12 from by omega)
    · skip
      have b268 : 0 ≤ s.1 95 12 ∧ s.1 95 12 ≤ 2115 := iv_r95_12 hI
      have b269 : pz_H ((s.1 98)) ((s.1 95 12)) (s0.1 98 (s0.1 95 12)) := by first | assumption | exact pz_YH (by assumption : pz_Y ((s.1 100)) ((s.1 98)) ((s.1 95 12)) ((s.1 95 13)) ((s.1 95 19)) ((s.1 95 20)) ((s.1 95 21)) ((s.1 95 22)) ((s.1 95 8)) (s0.1 98 (s0.1 95 12)) ((s.1 95 23)) (0)) | exact pz_YH (by assumption : pz_Y ((s.1 100)) ((s.1 98)) ((s.1 95 12)) ((s.1 95 13)) ((s.1 95 19)) ((s.1 95 20)) ((s.1 95 21)) ((s.1 95 22)) ((s.1 95 8)) (s0.1 98 (s0.1 95 12)) (0) (0)) | exact pz_YH kp0
      exact hQ 5 s hI (lf_fq_rf) (show 5 = 0 → pz_Y ((s.1 100)) ((s.1 98)) ((s.1 95 12)) ((s.1 95 13)) ((s.1 95 19)) ((s.1 95 20)) ((s.1 95 21)) ((s.1 95 22)) ((s.1 95 8)) (s0.1 98 (s0.1 95 12)) ((s.1 95 23)) (0) from fun h => absurd h (by decide)) (show 5 = 0 → (s0.1 95 8 < (s.1 95 8) ∧ ((s.1 95 9) = 0 ∨ (s.1 95 8) < (s.1 95 7))) from fun h => absurd h (by decide)) (show pz_H ((s.1 98)) ((s.1 95 12)) (s0.1 98 (s0.1 95 12)) from by assumption) (show (s.1 95 12) = s0.1 95 12 from by omega) (show (0 : Int) ≤ 5 ∧ 5 ≤ (5 : Int) from by omega)
theorem sm_229 {Q : Int → lf_Z → Prop} {s : lf_Z} (hI : iv_A s.1 s.2.2) (kp0 : pz_Y (s.1 100) (s.1 98) (s.1 95 12) (s.1 95 13) (s.1 95 19) (s.1 95 20) (s.1 95 21) (s.1 95 22) (s.1 95 8) (s.1 98 (s.1 95 12)) (0) (0)) (kp1 : s.1 95 9 = 0 ∨ s.1 95 8 < s.1 95 7) (kp2 : s.1 95 23 = 0) (hQ : ∀ (r : Int) (s' : lf_Z), iv_A s'.1 s'.2.2 → lf_fq [95, 98, 100, 101] 1000000 true s.1 s.2.2 s'.1 s'.2.2 → (r = 0 → pz_Y (s'.1 100) (s'.1 98) (s'.1 95 12) (s'.1 95 13) (s'.1 95 19) (s'.1 95 20) (s'.1 95 21) (s'.1 95 22) (s'.1 95 8) (s.1 98 (s.1 95 12)) (s'.1 95 23) (0)) → (r = 0 → (s.1 95 8 < s'.1 95 8 ∧ (s'.1 95 9 = 0 ∨ s'.1 95 8 < s'.1 95 7))) → (pz_H (s'.1 98) (s'.1 95 12) (s.1 98 (s.1 95 12))) → (s'.1 95 12 = s.1 95 12) → (0 ≤ r ∧ r ≤ 5) → Q r s') : fm_229 Q s := by
  unfold fm_229
  have b1 : 0 ≤ s.1 95 12 ∧ s.1 95 12 ≤ 2115 := iv_r95_12 hI
  have b2 : 0 ≤ s.1 95 13 ∧ s.1 95 13 ≤ 304 := iv_r95_13 hI
  have b3 : 0 ≤ s.1 95 19 ∧ s.1 95 19 ≤ 160 := iv_r95_19 hI
  have b4 : 0 ≤ s.1 95 20 ∧ s.1 95 20 ≤ 8 := iv_r95_20 hI
  have b5 : 0 ≤ s.1 95 21 ∧ s.1 95 21 ≤ 8 := iv_r95_21 hI
  have b6 : 0 ≤ s.1 95 22 ∧ s.1 95 22 ≤ 80 := iv_r95_22 hI
  have b7 : 0 ≤ s.1 95 8 ∧ s.1 95 8 ≤ 300 := iv_r95_8 hI
  have b8 : pz_Y ((s.1 100)) ((s.1 98)) ((s.1 95 12)) ((s.1 95 13)) ((s.1 95 19)) ((s.1 95 20)) ((s.1 95 21)) ((s.1 95 22)) ((s.1 95 8)) (s.1 98 (s.1 95 12)) (0) (0) := kp0
  have b9 : (-2147483648) ≤ s.1 95 9 ∧ s.1 95 9 ≤ 2147483647 := iv_full hI
  refine ⟨(show lf_R (s.1 95 9) from lf_Rof (by omega)), ?_⟩
  refine ⟨fun c10 => ?_, fun c10 => ?_⟩
  · skip
    have c10 : s.1 95 9 ≠ 1 := c10
    have b11 : 0 ≤ s.1 95 7 ∧ s.1 95 7 ≤ 300 := iv_r95_7 hI
    have b12 : 0 ≤ s.1 95 23 ∧ s.1 95 23 ≤ 1 := iv_r95_23 hI
    exact sm_229_p20 (s0 := s) hQ hI (show pz_Y ((s.1 100)) ((s.1 98)) ((s.1 95 12)) ((s.1 95 13)) ((s.1 95 19)) ((s.1 95 20)) ((s.1 95 21)) ((s.1 95 22)) ((s.1 95 8)) (s.1 98 (s.1 95 12)) (0) (0) from by assumption) (show (s.1 95 9) = 0 ∨ (s.1 95 8) < (s.1 95 7) from by omega) (show (s.1 95 23) = 0 from by omega) (show (s.1 95 8) = s.1 95 8 ∧ (s.1 98) ((s.1 95 12)) = s.1 98 (s.1 95 12) from by omega) (show (s.1 95 12) = s.1 95 12 from by omega)
  · skip
    have c10 : ¬ (s.1 95 9 ≠ 1) := c10
    have b270 : (-2147483648) ≤ s.1 95 10 ∧ s.1 95 10 ≤ 2147483647 := iv_full hI
    refine ⟨(show lf_R (s.1 95 10) from lf_Rof (by omega)), ?_⟩
    refine ⟨fun c271 => ?_, fun c271 => ?_⟩
    · skip
      have c271 : s.1 95 10 ≤ 9999 := c271
      have b272 : 0 ≤ s.1 95 7 ∧ s.1 95 7 ≤ 300 := iv_r95_7 hI
      have b273 : 0 ≤ s.1 95 23 ∧ s.1 95 23 ≤ 1 := iv_r95_23 hI
      exact sm_229_p20 (s0 := s) hQ hI (show pz_Y ((s.1 100)) ((s.1 98)) ((s.1 95 12)) ((s.1 95 13)) ((s.1 95 19)) ((s.1 95 20)) ((s.1 95 21)) ((s.1 95 22)) ((s.1 95 8)) (s.1 98 (s.1 95 12)) (0) (0) from by assumption) (show (s.1 95 9) = 0 ∨ (s.1 95 8) < (s.1 95 7) from by omega) (show (s.1 95 23) = 0 from by omega) (show (s.1 95 8) = s.1 95 8 ∧ (s.1 98) ((s.1 95 12)) = s.1 98 (s.1 95 12) from by omega) (show (s.1 95 12) = s.1 95 12 from by omega)
    · skip
      have c271 : ¬ (s.1 95 10 ≤ 9999) := c271
      have b274 : pz_H ((s.1 98)) ((s.1 95 12)) (s.1 98 (s.1 95 12)) := by first | assumption | exact pz_YH (by assumption : pz_Y ((s.1 100)) ((s.1 98)) ((s.1 95 12)) ((s.1 95 13)) ((s.1 95 19)) ((s.1 95 20)) ((s.1 95 21)) ((s.1 95 22)) ((s.1 95 8)) (s.1 98 (s.1 95 12)) ((s.1 95 23)) (0)) | exact pz_YH (by assumption : pz_Y ((s.1 100)) ((s.1 98)) ((s.1 95 12)) ((s.1 95 13)) ((s.1 95 19)) ((s.1 95 20)) ((s.1 95 21)) ((s.1 95 22)) ((s.1 95 8)) (s.1 98 (s.1 95 12)) (0) (0)) | exact pz_YH kp0
      exact hQ 2 s hI (lf_fq_rf) (show 2 = 0 → pz_Y ((s.1 100)) ((s.1 98)) ((s.1 95 12)) ((s.1 95 13)) ((s.1 95 19)) ((s.1 95 20)) ((s.1 95 21)) ((s.1 95 22)) ((s.1 95 8)) (s.1 98 (s.1 95 12)) ((s.1 95 23)) (0) from fun h => absurd h (by decide)) (show 2 = 0 → (s.1 95 8 < (s.1 95 8) ∧ ((s.1 95 9) = 0 ∨ (s.1 95 8) < (s.1 95 7))) from fun h => absurd h (by decide)) (show pz_H ((s.1 98)) ((s.1 95 12)) (s.1 98 (s.1 95 12)) from by assumption) (show (s.1 95 12) = s.1 95 12 from by omega) (show (0 : Int) ≤ 2 ∧ 2 ≤ (5 : Int) from by omega)
-- fm_221 Model.isCompared 95
theorem sm_221_p30 {Q : Bool → lf_Z → Prop} {x1 : Int} {s : lf_Z} (hQ : ∀ (z : Bool), ((z = true → (pz_cm (s.1 100) (s.1 95 19) = 1)) ∧ (z = false → ¬ (pz_cm (s.1 100) (s.1 95 19) = 1))) → Q z s) (hI : iv_A s.1 s.2.2) (bx1 : (-1) ≤ x1 ∧ x1 ≤ 159) (kv0 : pz_cm (s.1 100) (s.1 95 19) = pz_cq (s.1 100) (x1)) (kv1 : x1 < 0 ∨ 10 ≤ s.1 100 x1) : fm_221_p30 Q x1 s := by
  unfold fm_221_p30
  have b7 : (x1 < 0 → pz_cq ((s.1 100)) x1 = 0) ∧ (0 ≤ x1 → ((s.1 100 x1) < 10 → pz_cq ((s.1 100)) x1 = pz_cq ((s.1 100)) (x1 + -1)) ∧ (10 ≤ (s.1 100 x1) ∧ (s.1 100 x1) < 40 ∧ (s.1 100 x1) ≠ 20 ∧ (s.1 100 x1) ≠ 21 ∧ (s.1 100 x1) ≠ 22 → pz_cq ((s.1 100)) x1 = 1) ∧ (40 ≤ (s.1 100 x1) ∨ (s.1 100 x1) = 20 ∨ (s.1 100 x1) = 21 ∨ (s.1 100 x1) = 22 → pz_cq ((s.1 100)) x1 = 0)) := pz_cqA _ _
  refine ⟨(show lf_R x1 from lf_Rof (by omega)), ?_⟩
  refine ⟨fun c8 => ?_, fun c8 => ?_⟩
  · skip
    have c8 : x1 < 0 := c8
    exact hQ false (lf_pf (by omega))
  · skip
    have c8 : ¬ (x1 < 0) := c8
    refine ⟨(show (0 : Int) ≤ x1 ∧ x1 < (160 : Int) from by omega), ?_⟩
    have b9 : 0 ≤ s.1 100 x1 ∧ s.1 100 x1 ≤ 45 := iv_r100 hI _
    refine sm_222 hI (show (0 : Int) ≤ s.1 100 x1 ∧ s.1 100 x1 ≤ (45 : Int) from by omega) (fun r25 q10 => ?_)
    obtain ⟨q10, q10x⟩ := q10
    have q10x : r25 = pz_rk (s.1 100 x1) ∧ ((40 ≤ (s.1 100 x1) ∧ r25 = 0) ∨ ((s.1 100 x1) = 22 ∧ r25 = 1) ∨ ((s.1 100 x1) = 21 ∧ r25 = 2) ∨ ((s.1 100 x1) = 20 ∧ r25 = 3) ∨ (10 ≤ (s.1 100 x1) ∧ (s.1 100 x1) < 40 ∧ (s.1 100 x1) ≠ 20 ∧ (s.1 100 x1) ≠ 21 ∧ (s.1 100 x1) ≠ 22 ∧ r25 = 4) ∨ ((s.1 100 x1) = 3 ∧ r25 = 7) ∨ (6 ≤ (s.1 100 x1) ∧ (s.1 100 x1) < 10 ∧ r25 = 6) ∨ ((s.1 100 x1) < 6 ∧ (s.1 100 x1) ≠ 3 ∧ r25 = 5)) := q10x
    refine ⟨(show lf_R r25 from lf_Rof (by omega)), ?_⟩
    refine ⟨fun c11 => ?_, fun c11 => ?_⟩
    · skip
      have c11 : r25 ≠ 4 := c11
      exact hQ false (lf_pf (by omega))
    · skip
      have c11 : ¬ (r25 ≠ 4) := c11
      exact hQ true (lf_pt (by omega))
theorem sm_221_p7 {X7 : Int → lf_Z → Prop} {Q : Bool → lf_Z → Prop} {x1 : Int} {s : lf_Z} (hQ : ∀ (z : Bool), ((z = true → (pz_cm (s.1 100) (s.1 95 19) = 1)) ∧ (z = false → ¬ (pz_cm (s.1 100) (s.1 95 19) = 1))) → Q z s) {M7 : Nat} (hX7 : ∀ (x1 : Int), (-1) ≤ x1 ∧ x1 ≤ 159 → (pz_cm (s.1 100) (s.1 95 19) = pz_cq (s.1 100) (x1)) → (x1 - (-1)).toNat < M7 → X7 x1 s) (hM7 : (x1 - (-1)).toNat ≤ M7) (hI : iv_A s.1 s.2.2) (bx1 : (-1) ≤ x1 ∧ x1 ≤ 159) (kv0 : pz_cm (s.1 100) (s.1 95 19) = pz_cq (s.1 100) (x1)) : fm_221_p7 Q X7 x1 s := by
  unfold fm_221_p7
  have b3 : (x1 < 0 → pz_cq ((s.1 100)) x1 = 0) ∧ (0 ≤ x1 → ((s.1 100 x1) < 10 → pz_cq ((s.1 100)) x1 = pz_cq ((s.1 100)) (x1 + -1)) ∧ (10 ≤ (s.1 100 x1) ∧ (s.1 100 x1) < 40 ∧ (s.1 100 x1) ≠ 20 ∧ (s.1 100 x1) ≠ 21 ∧ (s.1 100 x1) ≠ 22 → pz_cq ((s.1 100)) x1 = 1) ∧ (40 ≤ (s.1 100 x1) ∨ (s.1 100 x1) = 20 ∨ (s.1 100 x1) = 21 ∨ (s.1 100 x1) = 22 → pz_cq ((s.1 100)) x1 = 0)) := pz_cqA _ _
  refine ⟨(show lf_R x1 from lf_Rof (by omega)), ?_⟩
  refine ⟨fun c4 => ?_, fun c4 => ?_⟩
  · skip
    have c4 : x1 < 0 := c4
    have b5 : 0 ≤ s.1 95 19 ∧ s.1 95 19 ≤ 160 := iv_r95_19 hI
    have b6 : 0 ≤ s.1 100 x1 ∧ s.1 100 x1 ≤ 45 := iv_r100 hI _
    exact sm_221_p30 hQ hI (show (-1 : Int) ≤ x1 ∧ x1 ≤ (159 : Int) from by omega) (show pz_cm ((s.1 100)) ((s.1 95 19)) = pz_cq ((s.1 100)) (x1) from by omega) (show x1 < 0 ∨ 10 ≤ (s.1 100 x1) from by omega)
  · skip
    have c4 : ¬ (x1 < 0) := c4
    refine ⟨(show (0 : Int) ≤ x1 ∧ x1 < (160 : Int) from by omega), ?_⟩
    have b12 : 0 ≤ s.1 100 x1 ∧ s.1 100 x1 ≤ 45 := iv_r100 hI _
    refine sm_222 hI (show (0 : Int) ≤ s.1 100 x1 ∧ s.1 100 x1 ≤ (45 : Int) from by omega) (fun r29 q13 => ?_)
    obtain ⟨q13, q13x⟩ := q13
    have q13x : r29 = pz_rk (s.1 100 x1) ∧ ((40 ≤ (s.1 100 x1) ∧ r29 = 0) ∨ ((s.1 100 x1) = 22 ∧ r29 = 1) ∨ ((s.1 100 x1) = 21 ∧ r29 = 2) ∨ ((s.1 100 x1) = 20 ∧ r29 = 3) ∨ (10 ≤ (s.1 100 x1) ∧ (s.1 100 x1) < 40 ∧ (s.1 100 x1) ≠ 20 ∧ (s.1 100 x1) ≠ 21 ∧ (s.1 100 x1) ≠ 22 ∧ r29 = 4) ∨ ((s.1 100 x1) = 3 ∧ r29 = 7) ∨ (6 ≤ (s.1 100 x1) ∧ (s.1 100 x1) < 10 ∧ r29 = 6) ∨ ((s.1 100 x1) < 6 ∧ (s.1 100 x1) ≠ 3 ∧ r29 = 5)) := q13x
    refine ⟨(show lf_R r29 from lf_Rof (by omega)), ?_⟩
    refine ⟨fun c14 => ?_, fun c14 => ?_⟩
    · skip
      have c14 : r29 ≤ 4 := c14
      have b15 : 0 ≤ s.1 95 19 ∧ s.1 95 19 ≤ 160 := iv_r95_19 hI
      exact sm_221_p30 hQ hI (show (-1 : Int) ≤ x1 ∧ x1 ≤ (159 : Int) from by omega) (show pz_cm ((s.1 100)) ((s.1 95 19)) = pz_cq ((s.1 100)) (x1) from by omega) (show x1 < 0 ∨ 10 ≤ (s.1 100 x1) from by omega)
    · skip
      have c14 : ¬ (r29 ≤ 4) := c14
      have b16 : 0 ≤ s.1 95 19 ∧ s.1 95 19 ≤ 160 := iv_r95_19 hI
      have b17 : pz_cm ((s.1 100)) ((s.1 95 19)) = pz_cq ((s.1 100)) ((s.1 95 19) - 1) := pz_cqE
      exact hX7 (x1 + (-1)) (show (-1 : Int) ≤ x1 + (-1) ∧ x1 + (-1) ≤ (159 : Int) from by omega) (show pz_cm ((s.1 100)) ((s.1 95 19)) = pz_cq ((s.1 100)) ((x1 + (-1))) from by omega) (show ((x1 + (-1)) - (-1)).toNat < M7 from by omega)
theorem sm_221_p7L {Q : Bool → lf_Z → Prop} {x1 : Int} {s : lf_Z} (hQ : ∀ (z : Bool), ((z = true → (pz_cm (s.1 100) (s.1 95 19) = 1)) ∧ (z = false → ¬ (pz_cm (s.1 100) (s.1 95 19) = 1))) → Q z s) (hI : iv_A s.1 s.2.2) (bx1 : (-1) ≤ x1 ∧ x1 ≤ 159) (kv0 : pz_cm (s.1 100) (s.1 95 19) = pz_cq (s.1 100) (x1)) : fm_221_p7L Q x1 s := by
  intro X7 hX
  have key : ∀ (m9 : Nat) (x1 : Int), (-1) ≤ x1 ∧ x1 ≤ 159 → (pz_cm (s.1 100) (s.1 95 19) = pz_cq (s.1 100) (x1)) → (x1 - (-1)).toNat < m9 → X7 x1 s := by
    intro m9
    induction m9 with
    | zero => intro x1 bx1 kv0 h9; exact absurd h9 (Nat.not_lt_zero _)
    | succ m9 ih => intro x1 bx1 kv0 h9; exact hX _ _ (sm_221_p7 hQ   (fun x1' bx1' kv0' h8 => ih x1' bx1' kv0' (by omega)) (Nat.le_refl _)  hI  bx1  kv0)
  exact key _ _ bx1  kv0 (Nat.lt_succ_self _)
theorem sm_221 {Q : Bool → lf_Z → Prop} {s : lf_Z} (hI : iv_A s.1 s.2.2) (hQ : ∀ (z : Bool), ((z = true → (pz_cm (s.1 100) (s.1 95 19) = 1)) ∧ (z = false → ¬ (pz_cm (s.1 100) (s.1 95 19) = 1))) → Q z s) : fm_221 Q s := by
  unfold fm_221
  have b1 : 0 ≤ s.1 95 19 ∧ s.1 95 19 ≤ 160 := iv_r95_19 hI
  have b2 : pz_cm ((s.1 100)) ((s.1 95 19)) = pz_cq ((s.1 100)) ((s.1 95 19) - 1) := pz_cqE
  exact sm_221_p7L hQ hI (show (-1 : Int) ≤ (s.1 95 19) - 1 ∧ (s.1 95 19) - 1 ≤ (159 : Int) from by omega) (show pz_cm ((s.1 100)) ((s.1 95 19)) = pz_cq ((s.1 100)) (((s.1 95 19) - 1)) from by omega)
-- fm_223 Model.compareOf 95
theorem sm_223 {Q : Int → lf_Z → Prop} {s : lf_Z} (hI : iv_A s.1 s.2.2) (hQ : ∀ (r : Int), (((-1) ≤ r ∧ r ≤ 15) ∧ (r = -1 ∨ (10 ≤ r ∧ r ≤ 15 ∧ s.1 95 9 ≠ 0))) → Q r s) : fm_223 Q s := by
  unfold fm_223
  have b1 : (-2147483648) ≤ s.1 95 9 ∧ s.1 95 9 ≤ 2147483647 := iv_full hI
  refine ⟨(show lf_R (s.1 95 9) from lf_Rof (by omega)), ?_⟩
  refine ⟨fun c2 => ?_, fun c2 => ?_⟩
  · skip
    have c2 : s.1 95 9 ≠ 60 := c2
    refine ⟨fun c3 => ?_, fun c3 => ?_⟩
    · skip
      have c3 : s.1 95 9 ≠ 4 := c3
      refine ⟨fun c4 => ?_, fun c4 => ?_⟩
      · skip
        have c4 : s.1 95 9 ≠ 62 := c4
        refine ⟨fun c5 => ?_, fun c5 => ?_⟩
        · skip
          have c5 : s.1 95 9 ≠ 5 := c5
          refine ⟨fun c6 => ?_, fun c6 => ?_⟩
          · skip
            have c6 : s.1 95 9 ≠ 61 := c6
            refine ⟨fun c7 => ?_, fun c7 => ?_⟩
            · skip
              have c7 : s.1 95 9 ≠ 35 := c7
              exact hQ (-1) ⟨(show (-1 : Int) ≤ (-1) ∧ (-1) ≤ (15 : Int) from by omega), (show (-1) = -1 ∨ (10 ≤ (-1) ∧ (-1) ≤ 15 ∧ s.1 95 9 ≠ 0) from by omega)⟩
            · skip
              have c7 : ¬ (s.1 95 9 ≠ 35) := c7
              exact hQ 15 ⟨(show (-1 : Int) ≤ 15 ∧ 15 ≤ (15 : Int) from by omega), (show 15 = -1 ∨ (10 ≤ 15 ∧ 15 ≤ 15 ∧ s.1 95 9 ≠ 0) from by omega)⟩
          · skip
            have c6 : ¬ (s.1 95 9 ≠ 61) := c6
            exact hQ 14 ⟨(show (-1 : Int) ≤ 14 ∧ 14 ≤ (15 : Int) from by omega), (show 14 = -1 ∨ (10 ≤ 14 ∧ 14 ≤ 15 ∧ s.1 95 9 ≠ 0) from by omega)⟩
        · skip
          have c5 : ¬ (s.1 95 9 ≠ 5) := c5
          exact hQ 13 ⟨(show (-1 : Int) ≤ 13 ∧ 13 ≤ (15 : Int) from by omega), (show 13 = -1 ∨ (10 ≤ 13 ∧ 13 ≤ 15 ∧ s.1 95 9 ≠ 0) from by omega)⟩
      · skip
        have c4 : ¬ (s.1 95 9 ≠ 62) := c4
        exact hQ 12 ⟨(show (-1 : Int) ≤ 12 ∧ 12 ≤ (15 : Int) from by omega), (show 12 = -1 ∨ (10 ≤ 12 ∧ 12 ≤ 15 ∧ s.1 95 9 ≠ 0) from by omega)⟩
    · skip
      have c3 : ¬ (s.1 95 9 ≠ 4) := c3
      exact hQ 11 ⟨(show (-1 : Int) ≤ 11 ∧ 11 ≤ (15 : Int) from by omega), (show 11 = -1 ∨ (10 ≤ 11 ∧ 11 ≤ 15 ∧ s.1 95 9 ≠ 0) from by omega)⟩
  · skip
    have c2 : ¬ (s.1 95 9 ≠ 60) := c2
    exact hQ 10 ⟨(show (-1 : Int) ≤ 10 ∧ 10 ≤ (15 : Int) from by omega), (show 10 = -1 ∨ (10 ≤ 10 ∧ 10 ≤ 15 ∧ s.1 95 9 ≠ 0) from by omega)⟩
-- fm_218 Model.betweenOf 95
theorem sm_218 {Q : Int → lf_Z → Prop} {s : lf_Z} (hI : iv_A s.1 s.2.2) (hQ : ∀ (r : Int), (((-1) ≤ r ∧ r ≤ 22) ∧ (r = -1 ∨ (s.1 95 9 ≠ 0 ∧ ((4 ≤ r ∧ r ≤ 7) ∨ (10 ≤ r ∧ r ≤ 15 ∧ pz_op (s.1 100) (s.1 95 19) = 41 ∧ pz_cm (s.1 100) (s.1 95 19) ≠ 1) ∨ ((r = 21 ∨ r = 22) ∧ pz_op (s.1 100) (s.1 95 19) = 41 ∧ pz_cm (s.1 100) (s.1 95 19) = 1))))) → Q r s) : fm_218 Q s := by
  unfold fm_218
  have b1 : (-2147483648) ≤ s.1 95 9 ∧ s.1 95 9 ≤ 2147483647 := iv_full hI
  refine ⟨(show lf_R (s.1 95 9) from lf_Rof (by omega)), ?_⟩
  refine ⟨fun c2 => ?_, fun c2 => ?_⟩
  · skip
    have c2 : s.1 95 9 ≠ 43 := c2
    refine ⟨fun c3 => ?_, fun c3 => ?_⟩
    · skip
      have c3 : s.1 95 9 ≠ 45 := c3
      refine ⟨fun c4 => ?_, fun c4 => ?_⟩
      · skip
        have c4 : s.1 95 9 ≠ 42 := c4
        refine ⟨fun c5 => ?_, fun c5 => ?_⟩
        · skip
          have c5 : s.1 95 9 ≠ 47 := c5
          refine sm_219 hI (fun r23 q6 => ?_)
          obtain ⟨q6, q6x⟩ := q6
          have b7 : 0 ≤ s.1 95 19 ∧ s.1 95 19 ≤ 160 := iv_r95_19 hI
          have q6x : r23 = pz_op (s.1 100) (s.1 95 19) := q6x
          refine ⟨(show lf_R r23 from lf_Rof (by omega)), ?_⟩
          refine ⟨fun c8 => ?_, fun c8 => ?_⟩
          · skip
            have c8 : r23 = 41 := c8
            refine sm_221 hI (fun z26 q9 => ?_)
            have b10 : 0 ≤ s.1 95 19 ∧ s.1 95 19 ≤ 160 := iv_r95_19 hI
            refine ⟨fun c11 => ?_, fun c11 => ?_⟩
            · skip
              have dc11 := q9.1 c11
              refine sm_205 hI (show (97 : Int) ≤ 97 ∧ 97 ≤ (119 : Int) from by omega) (show (97 : Int) ≤ 110 ∧ 110 ≤ (117 : Int) from by omega) (show (97 : Int) ≤ 100 ∧ 100 ≤ (122 : Int) from by omega) (fun r28 => ?_)
              refine sm_207 hI (fun z30 q13 => ?_)
              refine ⟨fun c14 => ?_, fun c14 => ?_⟩
              · skip
                have dc14 := q13.2 c14
                refine sm_206 hI (show (97 : Int) ≤ 111 ∧ 111 ≤ (119 : Int) from by omega) (show (97 : Int) ≤ 114 ∧ 114 ≤ (121 : Int) from by omega) (fun r32 => ?_)
                refine sm_207 hI (fun z34 q16 => ?_)
                refine ⟨fun c17 => ?_, fun c17 => ?_⟩
                · skip
                  have dc17 := q16.2 c17
                  exact hQ (-1) ⟨(show (-1 : Int) ≤ (-1) ∧ (-1) ≤ (22 : Int) from by omega), (show (-1) = -1 ∨ (s.1 95 9 ≠ 0 ∧ ((4 ≤ (-1) ∧ (-1) ≤ 7) ∨ (10 ≤ (-1) ∧ (-1) ≤ 15 ∧ pz_op (s.1 100) (s.1 95 19) = 41 ∧ pz_cm (s.1 100) (s.1 95 19) ≠ 1) ∨ (((-1) = 21 ∨ (-1) = 22) ∧ pz_op (s.1 100) (s.1 95 19) = 41 ∧ pz_cm (s.1 100) (s.1 95 19) = 1))) from by omega)⟩
                · skip
                  have dc17 := q16.1 c17
                  exact hQ 22 ⟨(show (-1 : Int) ≤ 22 ∧ 22 ≤ (22 : Int) from by omega), (show 22 = -1 ∨ (s.1 95 9 ≠ 0 ∧ ((4 ≤ 22 ∧ 22 ≤ 7) ∨ (10 ≤ 22 ∧ 22 ≤ 15 ∧ pz_op (s.1 100) (s.1 95 19) = 41 ∧ pz_cm (s.1 100) (s.1 95 19) ≠ 1) ∨ ((22 = 21 ∨ 22 = 22) ∧ pz_op (s.1 100) (s.1 95 19) = 41 ∧ pz_cm (s.1 100) (s.1 95 19) = 1))) from by omega)⟩
              · skip
                have dc14 := q13.1 c14
                exact hQ 21 ⟨(show (-1 : Int) ≤ 21 ∧ 21 ≤ (22 : Int) from by omega), (show 21 = -1 ∨ (s.1 95 9 ≠ 0 ∧ ((4 ≤ 21 ∧ 21 ≤ 7) ∨ (10 ≤ 21 ∧ 21 ≤ 15 ∧ pz_op (s.1 100) (s.1 95 19) = 41 ∧ pz_cm (s.1 100) (s.1 95 19) ≠ 1) ∨ ((21 = 21 ∨ 21 = 22) ∧ pz_op (s.1 100) (s.1 95 19) = 41 ∧ pz_cm (s.1 100) (s.1 95 19) = 1))) from by omega)⟩
            · skip
              have dc11 := q9.2 c11
              refine sm_223 hI (fun r36 q18 => ?_)
              obtain ⟨q18, q18x⟩ := q18
              have q18x : r36 = -1 ∨ (10 ≤ r36 ∧ r36 ≤ 15 ∧ s.1 95 9 ≠ 0) := q18x
              exact hQ r36 ⟨(show (-1 : Int) ≤ r36 ∧ r36 ≤ (22 : Int) from by omega), (show r36 = -1 ∨ (s.1 95 9 ≠ 0 ∧ ((4 ≤ r36 ∧ r36 ≤ 7) ∨ (10 ≤ r36 ∧ r36 ≤ 15 ∧ pz_op (s.1 100) (s.1 95 19) = 41 ∧ pz_cm (s.1 100) (s.1 95 19) ≠ 1) ∨ ((r36 = 21 ∨ r36 = 22) ∧ pz_op (s.1 100) (s.1 95 19) = 41 ∧ pz_cm (s.1 100) (s.1 95 19) = 1))) from by omega)⟩
          · skip
            have c8 : ¬ (r23 = 41) := c8
            exact hQ (-1) ⟨(show (-1 : Int) ≤ (-1) ∧ (-1) ≤ (22 : Int) from by omega), (show (-1) = -1 ∨ (s.1 95 9 ≠ 0 ∧ ((4 ≤ (-1) ∧ (-1) ≤ 7) ∨ (10 ≤ (-1) ∧ (-1) ≤ 15 ∧ pz_op (s.1 100) (s.1 95 19) = 41 ∧ pz_cm (s.1 100) (s.1 95 19) ≠ 1) ∨ (((-1) = 21 ∨ (-1) = 22) ∧ pz_op (s.1 100) (s.1 95 19) = 41 ∧ pz_cm (s.1 100) (s.1 95 19) = 1))) from by omega)⟩
        · skip
          have c5 : ¬ (s.1 95 9 ≠ 47) := c5
          exact hQ 7 ⟨(show (-1 : Int) ≤ 7 ∧ 7 ≤ (22 : Int) from by omega), (show 7 = -1 ∨ (s.1 95 9 ≠ 0 ∧ ((4 ≤ 7 ∧ 7 ≤ 7) ∨ (10 ≤ 7 ∧ 7 ≤ 15 ∧ pz_op (s.1 100) (s.1 95 19) = 41 ∧ pz_cm (s.1 100) (s.1 95 19) ≠ 1) ∨ ((7 = 21 ∨ 7 = 22) ∧ pz_op (s.1 100) (s.1 95 19) = 41 ∧ pz_cm (s.1 100) (s.1 95 19) = 1))) from by omega)⟩
      · skip
        have c4 : ¬ (s.1 95 9 ≠ 42) := c4
        exact hQ 6 ⟨(show (-1 : Int) ≤ 6 ∧ 6 ≤ (22 : Int) from by omega), (show 6 = -1 ∨ (s.1 95 9 ≠ 0 ∧ ((4 ≤ 6 ∧ 6 ≤ 7) ∨ (10 ≤ 6 ∧ 6 ≤ 15 ∧ pz_op (s.1 100) (s.1 95 19) = 41 ∧ pz_cm (s.1 100) (s.1 95 19) ≠ 1) ∨ ((6 = 21 ∨ 6 = 22) ∧ pz_op (s.1 100) (s.1 95 19) = 41 ∧ pz_cm (s.1 100) (s.1 95 19) = 1))) from by omega)⟩
    · skip
      have c3 : ¬ (s.1 95 9 ≠ 45) := c3
      exact hQ 5 ⟨(show (-1 : Int) ≤ 5 ∧ 5 ≤ (22 : Int) from by omega), (show 5 = -1 ∨ (s.1 95 9 ≠ 0 ∧ ((4 ≤ 5 ∧ 5 ≤ 7) ∨ (10 ≤ 5 ∧ 5 ≤ 15 ∧ pz_op (s.1 100) (s.1 95 19) = 41 ∧ pz_cm (s.1 100) (s.1 95 19) ≠ 1) ∨ ((5 = 21 ∨ 5 = 22) ∧ pz_op (s.1 100) (s.1 95 19) = 41 ∧ pz_cm (s.1 100) (s.1 95 19) = 1))) from by omega)⟩
  · skip
    have c2 : ¬ (s.1 95 9 ≠ 43) := c2
    exact hQ 4 ⟨(show (-1 : Int) ≤ 4 ∧ 4 ≤ (22 : Int) from by omega), (show 4 = -1 ∨ (s.1 95 9 ≠ 0 ∧ ((4 ≤ 4 ∧ 4 ≤ 7) ∨ (10 ≤ 4 ∧ 4 ≤ 15 ∧ pz_op (s.1 100) (s.1 95 19) = 41 ∧ pz_cm (s.1 100) (s.1 95 19) ≠ 1) ∨ ((4 = 21 ∨ 4 = 22) ∧ pz_op (s.1 100) (s.1 95 19) = 41 ∧ pz_cm (s.1 100) (s.1 95 19) = 1))) from by omega)⟩
-- fm_226 Model.partOf 95 i
theorem sm_226 {a1 : Int} {Q : Int → lf_Z → Prop} {s : lf_Z} (hI : iv_A s.1 s.2.2) (ba1 : (-1) ≤ a1 ∧ a1 ≤ 45) (hQ : ∀ (r : Int), (((-1) ≤ r ∧ r ≤ 45) ∧ (r = -1 ∨ (s.1 95 9 ≠ 0 ∧ ((a1 = 40 ∧ r = 0) ∨ (a1 = 41 ∧ r = 42 ∧ pz_cm (s.1 100) (s.1 95 19) = 1) ∨ (a1 = 42 ∧ r = 43) ∨ (a1 = 44 ∧ r = 45) ∨ (a1 ≠ -1 ∧ a1 ≠ 40 ∧ a1 ≠ 41 ∧ a1 ≠ 42 ∧ a1 ≠ 44 ∧ r = 0))))) → Q r s) : fm_226 a1 Q s := by
  unfold fm_226
  refine ⟨(show lf_R a1 from lf_Rof (by omega)), ?_⟩
  refine ⟨fun c1 => ?_, fun c1 => ?_, fun c1 => ?_, fun c1 => ?_, fun c1 => ?_, fun c1 => ?_⟩
  · have c1 : a1 ≠ (-1) ∧ a1 ≠ 40 ∧ a1 ≠ 41 ∧ a1 ≠ 42 ∧ a1 ≠ 44 := c1
    refine sm_205 hI (show (97 : Int) ≤ 101 ∧ 101 ≤ (119 : Int) from by omega) (show (97 : Int) ≤ 110 ∧ 110 ≤ (117 : Int) from by omega) (show (97 : Int) ≤ 100 ∧ 100 ≤ (122 : Int) from by omega) (fun r23 => ?_)
    refine sm_207 hI (fun z25 q3 => ?_)
    have b4 : (-2147483648) ≤ s.1 95 9 ∧ s.1 95 9 ≤ 2147483647 := iv_full hI
    refine ⟨fun c5 => ?_, fun c5 => ?_⟩
    · skip
      have dc5 := q3.2 c5
      exact hQ (-1) ⟨(show (-1 : Int) ≤ (-1) ∧ (-1) ≤ (45 : Int) from by omega), (show (-1) = -1 ∨ (s.1 95 9 ≠ 0 ∧ ((a1 = 40 ∧ (-1) = 0) ∨ (a1 = 41 ∧ (-1) = 42 ∧ pz_cm (s.1 100) (s.1 95 19) = 1) ∨ (a1 = 42 ∧ (-1) = 43) ∨ (a1 = 44 ∧ (-1) = 45) ∨ (a1 ≠ -1 ∧ a1 ≠ 40 ∧ a1 ≠ 41 ∧ a1 ≠ 42 ∧ a1 ≠ 44 ∧ (-1) = 0))) from by omega)⟩
    · skip
      have dc5 := q3.1 c5
      exact hQ 0 ⟨(show (-1 : Int) ≤ 0 ∧ 0 ≤ (45 : Int) from by omega), (show 0 = -1 ∨ (s.1 95 9 ≠ 0 ∧ ((a1 = 40 ∧ 0 = 0) ∨ (a1 = 41 ∧ 0 = 42 ∧ pz_cm (s.1 100) (s.1 95 19) = 1) ∨ (a1 = 42 ∧ 0 = 43) ∨ (a1 = 44 ∧ 0 = 45) ∨ (a1 ≠ -1 ∧ a1 ≠ 40 ∧ a1 ≠ 41 ∧ a1 ≠ 42 ∧ a1 ≠ 44 ∧ 0 = 0))) from by omega)⟩
  · have c1 : a1 = (-1) := c1
    exact hQ (-1) ⟨(show (-1 : Int) ≤ (-1) ∧ (-1) ≤ (45 : Int) from by omega), (show (-1) = -1 ∨ (s.1 95 9 ≠ 0 ∧ ((a1 = 40 ∧ (-1) = 0) ∨ (a1 = 41 ∧ (-1) = 42 ∧ pz_cm (s.1 100) (s.1 95 19) = 1) ∨ (a1 = 42 ∧ (-1) = 43) ∨ (a1 = 44 ∧ (-1) = 45) ∨ (a1 ≠ -1 ∧ a1 ≠ 40 ∧ a1 ≠ 41 ∧ a1 ≠ 42 ∧ a1 ≠ 44 ∧ (-1) = 0))) from by omega)⟩
  · have c1 : a1 = 40 := c1
    have b6 : (-2147483648) ≤ s.1 95 9 ∧ s.1 95 9 ≤ 2147483647 := iv_full hI
    refine ⟨(show lf_R (s.1 95 9) from lf_Rof (by omega)), ?_⟩
    refine ⟨fun c7 => ?_, fun c7 => ?_⟩
    · skip
      have c7 : s.1 95 9 ≠ 41 := c7
      exact hQ (-1) ⟨(show (-1 : Int) ≤ (-1) ∧ (-1) ≤ (45 : Int) from by omega), (show (-1) = -1 ∨ (s.1 95 9 ≠ 0 ∧ ((a1 = 40 ∧ (-1) = 0) ∨ (a1 = 41 ∧ (-1) = 42 ∧ pz_cm (s.1 100) (s.1 95 19) = 1) ∨ (a1 = 42 ∧ (-1) = 43) ∨ (a1 = 44 ∧ (-1) = 45) ∨ (a1 ≠ -1 ∧ a1 ≠ 40 ∧ a1 ≠ 41 ∧ a1 ≠ 42 ∧ a1 ≠ 44 ∧ (-1) = 0))) from by omega)⟩
    · skip
      have c7 : ¬ (s.1 95 9 ≠ 41) := c7
      exact hQ 0 ⟨(show (-1 : Int) ≤ 0 ∧ 0 ≤ (45 : Int) from by omega), (show 0 = -1 ∨ (s.1 95 9 ≠ 0 ∧ ((a1 = 40 ∧ 0 = 0) ∨ (a1 = 41 ∧ 0 = 42 ∧ pz_cm (s.1 100) (s.1 95 19) = 1) ∨ (a1 = 42 ∧ 0 = 43) ∨ (a1 = 44 ∧ 0 = 45) ∨ (a1 ≠ -1 ∧ a1 ≠ 40 ∧ a1 ≠ 41 ∧ a1 ≠ 42 ∧ a1 ≠ 44 ∧ 0 = 0))) from by omega)⟩
  · have c1 : a1 = 41 := c1
    refine sm_204 hI (show (97 : Int) ≤ 116 ∧ 116 ≤ (116 : Int) from by omega) (show (97 : Int) ≤ 104 ∧ 104 ≤ (117 : Int) from by omega) (show (97 : Int) ≤ 101 ∧ 101 ≤ (122 : Int) from by omega) (show (97 : Int) ≤ 110 ∧ 110 ≤ (117 : Int) from by omega) (fun r28 => ?_)
    refine sm_207 hI (fun z30 q9 => ?_)
    have b10 : (-2147483648) ≤ s.1 95 9 ∧ s.1 95 9 ≤ 2147483647 := iv_full hI
    refine ⟨fun c11 => ?_, fun c11 => ?_⟩
    · skip
      have dc11 := q9.2 c11
      exact hQ (-1) ⟨(show (-1 : Int) ≤ (-1) ∧ (-1) ≤ (45 : Int) from by omega), (show (-1) = -1 ∨ (s.1 95 9 ≠ 0 ∧ ((a1 = 40 ∧ (-1) = 0) ∨ (a1 = 41 ∧ (-1) = 42 ∧ pz_cm (s.1 100) (s.1 95 19) = 1) ∨ (a1 = 42 ∧ (-1) = 43) ∨ (a1 = 44 ∧ (-1) = 45) ∨ (a1 ≠ -1 ∧ a1 ≠ 40 ∧ a1 ≠ 41 ∧ a1 ≠ 42 ∧ a1 ≠ 44 ∧ (-1) = 0))) from by omega)⟩
    · skip
      have dc11 := q9.1 c11
      refine sm_221 hI (fun z32 q12 => ?_)
      have b13 : 0 ≤ s.1 95 19 ∧ s.1 95 19 ≤ 160 := iv_r95_19 hI
      refine ⟨fun c14 => ?_, fun c14 => ?_⟩
      · skip
        have dc14 := q12.2 c14
        exact hQ (-1) ⟨(show (-1 : Int) ≤ (-1) ∧ (-1) ≤ (45 : Int) from by omega), (show (-1) = -1 ∨ (s.1 95 9 ≠ 0 ∧ ((a1 = 40 ∧ (-1) = 0) ∨ (a1 = 41 ∧ (-1) = 42 ∧ pz_cm (s.1 100) (s.1 95 19) = 1) ∨ (a1 = 42 ∧ (-1) = 43) ∨ (a1 = 44 ∧ (-1) = 45) ∨ (a1 ≠ -1 ∧ a1 ≠ 40 ∧ a1 ≠ 41 ∧ a1 ≠ 42 ∧ a1 ≠ 44 ∧ (-1) = 0))) from by omega)⟩
      · skip
        have dc14 := q12.1 c14
        exact hQ 42 ⟨(show (-1 : Int) ≤ 42 ∧ 42 ≤ (45 : Int) from by omega), (show 42 = -1 ∨ (s.1 95 9 ≠ 0 ∧ ((a1 = 40 ∧ 42 = 0) ∨ (a1 = 41 ∧ 42 = 42 ∧ pz_cm (s.1 100) (s.1 95 19) = 1) ∨ (a1 = 42 ∧ 42 = 43) ∨ (a1 = 44 ∧ 42 = 45) ∨ (a1 ≠ -1 ∧ a1 ≠ 40 ∧ a1 ≠ 41 ∧ a1 ≠ 42 ∧ a1 ≠ 44 ∧ 42 = 0))) from by omega)⟩
  · have c1 : a1 = 42 := c1
    refine sm_204 hI (show (97 : Int) ≤ 101 ∧ 101 ≤ (116 : Int) from by omega) (show (97 : Int) ≤ 108 ∧ 108 ≤ (117 : Int) from by omega) (show (97 : Int) ≤ 115 ∧ 115 ≤ (122 : Int) from by omega) (show (97 : Int) ≤ 101 ∧ 101 ≤ (117 : Int) from by omega) (fun r34 => ?_)
    refine sm_207 hI (fun z36 q16 => ?_)
    have b17 : (-2147483648) ≤ s.1 95 9 ∧ s.1 95 9 ≤ 2147483647 := iv_full hI
    refine ⟨fun c18 => ?_, fun c18 => ?_⟩
    · skip
      have dc18 := q16.2 c18
      exact hQ (-1) ⟨(show (-1 : Int) ≤ (-1) ∧ (-1) ≤ (45 : Int) from by omega), (show (-1) = -1 ∨ (s.1 95 9 ≠ 0 ∧ ((a1 = 40 ∧ (-1) = 0) ∨ (a1 = 41 ∧ (-1) = 42 ∧ pz_cm (s.1 100) (s.1 95 19) = 1) ∨ (a1 = 42 ∧ (-1) = 43) ∨ (a1 = 44 ∧ (-1) = 45) ∨ (a1 ≠ -1 ∧ a1 ≠ 40 ∧ a1 ≠ 41 ∧ a1 ≠ 42 ∧ a1 ≠ 44 ∧ (-1) = 0))) from by omega)⟩
    · skip
      have dc18 := q16.1 c18
      exact hQ 43 ⟨(show (-1 : Int) ≤ 43 ∧ 43 ≤ (45 : Int) from by omega), (show 43 = -1 ∨ (s.1 95 9 ≠ 0 ∧ ((a1 = 40 ∧ 43 = 0) ∨ (a1 = 41 ∧ 43 = 42 ∧ pz_cm (s.1 100) (s.1 95 19) = 1) ∨ (a1 = 42 ∧ 43 = 43) ∨ (a1 = 44 ∧ 43 = 45) ∨ (a1 ≠ -1 ∧ a1 ≠ 40 ∧ a1 ≠ 41 ∧ a1 ≠ 42 ∧ a1 ≠ 44 ∧ 43 = 0))) from by omega)⟩
  · have c1 : a1 = 44 := c1
    refine sm_206 hI (show (97 : Int) ≤ 105 ∧ 105 ≤ (119 : Int) from by omega) (show (97 : Int) ≤ 110 ∧ 110 ≤ (121 : Int) from by omega) (fun r38 => ?_)
    refine sm_207 hI (fun z40 q20 => ?_)
    have b21 : (-2147483648) ≤ s.1 95 9 ∧ s.1 95 9 ≤ 2147483647 := iv_full hI
    refine ⟨fun c22 => ?_, fun c22 => ?_⟩
    · skip
      have dc22 := q20.2 c22
      exact hQ (-1) ⟨(show (-1 : Int) ≤ (-1) ∧ (-1) ≤ (45 : Int) from by omega), (show (-1) = -1 ∨ (s.1 95 9 ≠ 0 ∧ ((a1 = 40 ∧ (-1) = 0) ∨ (a1 = 41 ∧ (-1) = 42 ∧ pz_cm (s.1 100) (s.1 95 19) = 1) ∨ (a1 = 42 ∧ (-1) = 43) ∨ (a1 = 44 ∧ (-1) = 45) ∨ (a1 ≠ -1 ∧ a1 ≠ 40 ∧ a1 ≠ 41 ∧ a1 ≠ 42 ∧ a1 ≠ 44 ∧ (-1) = 0))) from by omega)⟩
    · skip
      have dc22 := q20.1 c22
      exact hQ 45 ⟨(show (-1 : Int) ≤ 45 ∧ 45 ≤ (45 : Int) from by omega), (show 45 = -1 ∨ (s.1 95 9 ≠ 0 ∧ ((a1 = 40 ∧ 45 = 0) ∨ (a1 = 41 ∧ 45 = 42 ∧ pz_cm (s.1 100) (s.1 95 19) = 1) ∨ (a1 = 42 ∧ 45 = 43) ∨ (a1 = 44 ∧ 45 = 45) ∨ (a1 ≠ -1 ∧ a1 ≠ 40 ∧ a1 ≠ 41 ∧ a1 ≠ 42 ∧ a1 ≠ 44 ∧ 45 = 0))) from by omega)⟩
