-- fm_216 Model.summed 95
set_option maxHeartbeats 8000000 in
theorem sm_216_p46 {X46 : lf_Z → Prop} {Q : Int → lf_Z → Prop} {s : lf_Z} {s0 : lf_Z} (hQ : ∀ (r : Int) (s' : lf_Z), iv_A s'.1 s'.2.2 → lf_fq [95, 98, 100, 101, 102, 103] 1000000 true s.1 s.2.2 s'.1 s'.2.2 → (r = 0 → pz_Y (s'.1 100) (s'.1 98) (s'.1 95 12) (s'.1 95 13) (s'.1 95 19) (s'.1 95 20) (s'.1 95 21) (s'.1 95 22) (s'.1 95 8) (s0.1 98 (s0.1 95 12)) (1) (0)) → (r = 0 → (s0.1 95 8 ≤ s'.1 95 8 ∧ (s'.1 95 9 = 0 ∨ s'.1 95 8 < s'.1 95 7))) → (pz_H (s'.1 98) (s'.1 95 12) (s0.1 98 (s0.1 95 12))) → (s'.1 95 12 = s0.1 95 12) → (0 ≤ r ∧ r ≤ 5) → Q r s') {M46 : Nat} (hX46 : ∀ (s' : lf_Z), iv_A s'.1 s'.2.2 → lf_fq [95, 98, 100, 101, 102, 103] 1000000 true s.1 s.2.2 s'.1 s'.2.2 → (pz_Y (s'.1 100) (s'.1 98) (s'.1 95 12) (s'.1 95 13) (s'.1 95 19) (s'.1 95 20) (s'.1 95 21) (s'.1 95 22) (s'.1 95 8) (s0.1 98 (s0.1 95 12)) (s'.1 95 23) (0)) → (s'.1 95 9 = 0 ∨ s'.1 95 8 < s'.1 95 7) → (s'.1 95 12 = s0.1 95 12 ∧ s0.1 95 8 ≤ s'.1 95 8) → (301 - s'.1 95 8).toNat < M46 → X46 s') (hM46 : (301 - s.1 95 8).toNat ≤ M46) (hI : iv_A s.1 s.2.2) (kv0 : pz_Y (s.1 100) (s.1 98) (s.1 95 12) (s.1 95 13) (s.1 95 19) (s.1 95 20) (s.1 95 21) (s.1 95 22) (s.1 95 8) (s0.1 98 (s0.1 95 12)) (s.1 95 23) (0)) (kv1 : s.1 95 9 = 0 ∨ s.1 95 8 < s.1 95 7) (kv2 : s.1 95 12 = s0.1 95 12 ∧ s0.1 95 8 ≤ s.1 95 8) : fm_216_p46 Q X46 s := by
  unfold fm_216_p46
  have b55 : 0 ≤ s.1 95 12 ∧ s.1 95 12 ≤ 2115 := iv_r95_12 hI
  have b56 : (s.1 98) ((s.1 95 12)) = s0.1 98 (s0.1 95 12) := kv0.2.2.2
  have b57 : 0 ≤ s.1 95 8 ∧ s.1 95 8 ≤ 300 := iv_r95_8 hI
  have b58 : (s.1 95 8) ≤ 300 := (iv_r95_8 hI).2
  have b59 : 0 ≤ s.1 95 23 ∧ s.1 95 23 ≤ 1 := iv_r95_23 hI
  refine ⟨(show lf_R (s.1 95 23) from lf_Rof (by omega)), ?_⟩
  refine ⟨fun c60 => ?_, fun c60 => ?_⟩
  · skip
    replace c60 : s.1 95 23 = 0 := c60
    have b61 : 0 ≤ s.1 95 13 ∧ s.1 95 13 ≤ 304 := iv_r95_13 hI
    have b62 : 0 ≤ s.1 95 19 ∧ s.1 95 19 ≤ 160 := iv_r95_19 hI
    have b63 : 0 ≤ s.1 95 20 ∧ s.1 95 20 ≤ 8 := iv_r95_20 hI
    have b64 : 0 ≤ s.1 95 21 ∧ s.1 95 21 ≤ 8 := iv_r95_21 hI
    have b65 : 0 ≤ s.1 95 22 ∧ s.1 95 22 ≤ 80 := iv_r95_22 hI
    have b66 : pz_Y ((s.1 100)) ((s.1 98)) ((s.1 95 12)) ((s.1 95 13)) ((s.1 95 19)) ((s.1 95 20)) ((s.1 95 21)) ((s.1 95 22)) ((s.1 95 8)) ((s.1 98) ((s.1 95 12))) (0) (0) := pz_Ym (pz_cg rfl rfl kv0 rfl rfl rfl rfl rfl rfl (Int.le_refl _) rfl (by omega) rfl)
    have b69 : (-2147483648) ≤ s.1 95 9 ∧ s.1 95 9 ≤ 2147483647 := iv_full hI
    have b70 : 0 ≤ s.1 95 7 ∧ s.1 95 7 ≤ 300 := iv_r95_7 hI
    refine sm_229 hI (show pz_Y ((s.1 100)) ((s.1 98)) ((s.1 95 12)) ((s.1 95 13)) ((s.1 95 19)) ((s.1 95 20)) ((s.1 95 21)) ((s.1 95 22)) ((s.1 95 8)) ((s.1 98) ((s.1 95 12))) (0) (0) from by first | with_reducible assumption | assumption) (show (s.1 95 9) = 0 ∨ (s.1 95 8) < (s.1 95 7) from by omega) (show (s.1 95 23) = 0 from by omega) (fun r24 s23 hI68 fr67 ps72 ps73 ps74 ps75 q71 => ?_)
    replace ps72 : r24 = 0 → pz_Y (s23.1 100) (s23.1 98) (s23.1 95 12) (s23.1 95 13) (s23.1 95 19) (s23.1 95 20) (s23.1 95 21) (s23.1 95 22) (s23.1 95 8) ((s.1 98) ((s.1 95 12))) (s23.1 95 23) (0) := ps72
    replace ps73 : r24 = 0 → ((s.1 95 8) < s23.1 95 8 ∧ (s23.1 95 9 = 0 ∨ s23.1 95 8 < s23.1 95 7)) := ps73
    replace ps74 : pz_H (s23.1 98) (s23.1 95 12) ((s.1 98) ((s.1 95 12))) := ps74
    replace ps75 : s23.1 95 12 = (s.1 95 12) := ps75
    have fr76 : lf_fq [95, 98, 100, 101, 102, 103] 1000000 true s.1 s.2.2 s23.1 s23.2.2 := lf_fq_tr (lf_fq_rf) (lf_fq_wk fr67 rfl (by decide) (by decide))
    refine ⟨(show lf_R r24 from lf_Rof (by omega)), ?_⟩
    refine ⟨fun c77 => ?_, fun c77 => ?_⟩
    · skip
      replace c77 : r24 = 0 := c77
      have dps72 := ps72 c77
      have dps73 := ps73 c77
      have b78 : 0 ≤ s23.1 95 12 ∧ s23.1 95 12 ≤ 2115 := iv_r95_12 hI68
      have b79 : 0 ≤ s23.1 95 13 ∧ s23.1 95 13 ≤ 304 := iv_r95_13 hI68
      have b80 : 0 ≤ s23.1 95 19 ∧ s23.1 95 19 ≤ 160 := iv_r95_19 hI68
      have b81 : 0 ≤ s23.1 95 20 ∧ s23.1 95 20 ≤ 8 := iv_r95_20 hI68
      have b82 : 0 ≤ s23.1 95 21 ∧ s23.1 95 21 ≤ 8 := iv_r95_21 hI68
      have b83 : 0 ≤ s23.1 95 22 ∧ s23.1 95 22 ≤ 80 := iv_r95_22 hI68
      have b84 : 0 ≤ s23.1 95 8 ∧ s23.1 95 8 ≤ 300 := iv_r95_8 hI68
      have b85 : 0 ≤ s23.1 95 23 ∧ s23.1 95 23 ≤ 1 := iv_r95_23 hI68
      have b86 : pz_Y ((s23.1 100)) ((s23.1 98)) ((s23.1 95 12)) ((s23.1 95 13)) ((s23.1 95 19)) ((s23.1 95 20)) ((s23.1 95 21)) ((s23.1 95 22)) ((s23.1 95 8)) (s0.1 98 (s0.1 95 12)) ((s23.1 95 23)) (0) := pz_Yk (by first | with_reducible assumption | assumption) (by omega)
      have b87 : (s23.1 95 8) ≤ 300 := (iv_r95_8 hI68).2
      have b88 : (-2147483648) ≤ s23.1 95 9 ∧ s23.1 95 9 ≤ 2147483647 := iv_full hI68
      have b89 : 0 ≤ s23.1 95 7 ∧ s23.1 95 7 ≤ 300 := iv_r95_7 hI68
      exact hX46  s23 hI68 fr76 (show pz_Y ((s23.1 100)) ((s23.1 98)) ((s23.1 95 12)) ((s23.1 95 13)) ((s23.1 95 19)) ((s23.1 95 20)) ((s23.1 95 21)) ((s23.1 95 22)) ((s23.1 95 8)) (s0.1 98 (s0.1 95 12)) ((s23.1 95 23)) (0) from by first | with_reducible assumption | assumption) (show (s23.1 95 9) = 0 ∨ (s23.1 95 8) < (s23.1 95 7) from by omega) (show (s23.1 95 12) = s0.1 95 12 ∧ s0.1 95 8 ≤ (s23.1 95 8) from by omega) (show (301 - (s23.1 95 8)).toNat < M46 from by omega)
    · skip
      replace c77 : ¬ (r24 = 0) := c77
      have b90 : 0 ≤ s23.1 95 12 ∧ s23.1 95 12 ≤ 2115 := iv_r95_12 hI68
      have b91 : pz_H ((s23.1 98)) ((s23.1 95 12)) (s0.1 98 (s0.1 95 12)) := by first | exact pz_YH (show pz_Y ((s23.1 100)) ((s23.1 98)) ((s23.1 95 12)) ((s23.1 95 13)) ((s23.1 95 19)) ((s23.1 95 20)) ((s23.1 95 21)) ((s23.1 95 22)) ((s23.1 95 8)) (s0.1 98 (s0.1 95 12)) (1) (0) from by first | with_reducible assumption | assumption) | exact pz_cH rfl ps74 rfl (by omega)
      exact hQ r24 s23 hI68 fr76 (show r24 = 0 → pz_Y ((s23.1 100)) ((s23.1 98)) ((s23.1 95 12)) ((s23.1 95 13)) ((s23.1 95 19)) ((s23.1 95 20)) ((s23.1 95 21)) ((s23.1 95 22)) ((s23.1 95 8)) (s0.1 98 (s0.1 95 12)) (1) (0) from by first | with_reducible assumption | omega) (show r24 = 0 → (s0.1 95 8 ≤ (s23.1 95 8) ∧ ((s23.1 95 9) = 0 ∨ (s23.1 95 8) < (s23.1 95 7))) from by first | with_reducible assumption | omega) (show pz_H ((s23.1 98)) ((s23.1 95 12)) (s0.1 98 (s0.1 95 12)) from by first | with_reducible assumption | assumption) (show (s23.1 95 12) = s0.1 95 12 from by omega) (show (0 : Int) ≤ r24 ∧ r24 ≤ (5 : Int) from by omega)
  · skip
    replace c60 : ¬ (s.1 95 23 = 0) := c60
    have b92 : 0 ≤ s.1 95 13 ∧ s.1 95 13 ≤ 304 := iv_r95_13 hI
    have b93 : 0 ≤ s.1 95 19 ∧ s.1 95 19 ≤ 160 := iv_r95_19 hI
    have b94 : 0 ≤ s.1 95 20 ∧ s.1 95 20 ≤ 8 := iv_r95_20 hI
    have b95 : 0 ≤ s.1 95 21 ∧ s.1 95 21 ≤ 8 := iv_r95_21 hI
    have b96 : 0 ≤ s.1 95 22 ∧ s.1 95 22 ≤ 80 := iv_r95_22 hI
    have b97 : pz_Y ((s.1 100)) ((s.1 98)) ((s.1 95 12)) ((s.1 95 13)) ((s.1 95 19)) ((s.1 95 20)) ((s.1 95 21)) ((s.1 95 22)) ((s.1 95 8)) ((s.1 98) ((s.1 95 12))) (1) (0) := pz_Ym (pz_cg rfl rfl kv0 rfl rfl rfl rfl rfl rfl (Int.le_refl _) rfl (by omega) rfl)
    have b100 : (-2147483648) ≤ s.1 95 9 ∧ s.1 95 9 ≤ 2147483647 := iv_full hI
    have b101 : 0 ≤ s.1 95 7 ∧ s.1 95 7 ≤ 300 := iv_r95_7 hI
    refine sm_217 hI (show pz_Y ((s.1 100)) ((s.1 98)) ((s.1 95 12)) ((s.1 95 13)) ((s.1 95 19)) ((s.1 95 20)) ((s.1 95 21)) ((s.1 95 22)) ((s.1 95 8)) ((s.1 98) ((s.1 95 12))) (1) (0) from by first | with_reducible assumption | assumption) (show (s.1 95 9) = 0 ∨ (s.1 95 8) < (s.1 95 7) from by omega) (show (s.1 95 23) = 1 from by omega) (fun z27 s26 hI99 fr98 ps103 ps104 ps105 ps106 ps107 => ?_)
    replace ps103 : z27 = true → pz_Y (s26.1 100) (s26.1 98) (s26.1 95 12) (s26.1 95 13) (s26.1 95 19) (s26.1 95 20) (s26.1 95 21) (s26.1 95 22) (s26.1 95 8) ((s.1 98) ((s.1 95 12))) (s26.1 95 23) (0) := ps103
    replace ps104 : z27 = true → ((s.1 95 8) < s26.1 95 8 ∧ (s26.1 95 9 = 0 ∨ s26.1 95 8 < s26.1 95 7)) := ps104
    replace ps105 : z27 = false → pz_Y (s26.1 100) (s26.1 98) (s26.1 95 12) (s26.1 95 13) (s26.1 95 19) (s26.1 95 20) (s26.1 95 21) (s26.1 95 22) (s26.1 95 8) ((s.1 98) ((s.1 95 12))) (1) (0) := ps105
    replace ps106 : s26.1 95 12 = (s.1 95 12) := ps106
    replace ps107 : z27 = false → (s26.1 95 8 = (s.1 95 8) ∧ s26.1 95 7 = (s.1 95 7) ∧ s26.1 95 9 = (s.1 95 9)) := ps107
    have fr108 : lf_fq [95, 98, 100, 101, 102, 103] 1000000 true s.1 s.2.2 s26.1 s26.2.2 := lf_fq_tr (lf_fq_rf) (lf_fq_wk fr98 rfl (by decide) (by decide))
    refine ⟨fun c109 => ?_, fun c109 => ?_⟩
    · skip
      have dps105 := ps105 c109
      have dps107 := ps107 c109
      have b110 : 0 ≤ s26.1 95 12 ∧ s26.1 95 12 ≤ 2115 := iv_r95_12 hI99
      have b111 : 0 ≤ s26.1 95 13 ∧ s26.1 95 13 ≤ 304 := iv_r95_13 hI99
      have b112 : 0 ≤ s26.1 95 19 ∧ s26.1 95 19 ≤ 160 := iv_r95_19 hI99
      have b113 : 0 ≤ s26.1 95 20 ∧ s26.1 95 20 ≤ 8 := iv_r95_20 hI99
      have b114 : 0 ≤ s26.1 95 21 ∧ s26.1 95 21 ≤ 8 := iv_r95_21 hI99
      have b115 : 0 ≤ s26.1 95 22 ∧ s26.1 95 22 ≤ 80 := iv_r95_22 hI99
      have b116 : 0 ≤ s26.1 95 8 ∧ s26.1 95 8 ≤ 300 := iv_r95_8 hI99
      have b117 : pz_Y ((s26.1 100)) ((s26.1 98)) ((s26.1 95 12)) ((s26.1 95 13)) ((s26.1 95 19)) ((s26.1 95 20)) ((s26.1 95 21)) ((s26.1 95 22)) ((s26.1 95 8)) (s0.1 98 (s0.1 95 12)) (1) (0) := pz_Yk (by first | with_reducible assumption | assumption) (by omega)
      refine sm_219 hI99 (fun r29 q118 => ?_)
      obtain ⟨q118, q118x⟩ := q118
      replace q118x : r29 = pz_op (s26.1 100) (s26.1 95 19) := q118x
      refine ⟨(show lf_R r29 from lf_Rof (by omega)), ?_⟩
      refine ⟨fun c119 => ?_, fun c119 => ?_⟩
      · skip
        replace c119 : r29 < 0 := c119
        have b120 : (s26.1 98) ((s26.1 95 12)) = s0.1 98 (s0.1 95 12) := (show pz_Y ((s26.1 100)) ((s26.1 98)) ((s26.1 95 12)) ((s26.1 95 13)) ((s26.1 95 19)) ((s26.1 95 20)) ((s26.1 95 21)) ((s26.1 95 22)) ((s26.1 95 8)) (s0.1 98 (s0.1 95 12)) (1) (0) from by first | with_reducible assumption | assumption).2.2.2
        have b121 : pz_W ((s26.1 100)) ((s26.1 98)) ((s26.1 95 12)) ((s26.1 95 13)) ((s26.1 95 19)) ((s26.1 95 20)) ((s26.1 95 21)) ((s26.1 95 22)) ((s26.1 95 8)) ((s26.1 98) ((s26.1 95 12))) (1) := pz_Wi (pz_Ym (show pz_Y ((s26.1 100)) ((s26.1 98)) ((s26.1 95 12)) ((s26.1 95 13)) ((s26.1 95 19)) ((s26.1 95 20)) ((s26.1 95 21)) ((s26.1 95 22)) ((s26.1 95 8)) (s0.1 98 (s0.1 95 12)) (1) (0) from by first | with_reducible assumption | assumption)) (by omega)
        have b122 : (s26.1 95 8) ≤ 300 := (iv_r95_8 hI99).2
        refine sm_224 hI99 (show (0 : Int) ≤ 1 ∧ 1 ≤ (7 : Int) from by omega) (show 1 ≤ 1 from by omega) (show pz_W ((s26.1 100)) ((s26.1 98)) ((s26.1 95 12)) ((s26.1 95 13)) ((s26.1 95 19)) ((s26.1 95 20)) ((s26.1 95 21)) ((s26.1 95 22)) ((s26.1 95 8)) ((s26.1 98) ((s26.1 95 12))) (1) from by first | with_reducible assumption | assumption) (show (s26.1 95 8) ≤ 300 from by omega) (fun s31 hI124 fr123 ps126 ps127 ps128 ps129 => ?_)
        replace ps126 : pz_R (s31.1 100) (s31.1 98) (s31.1 95 12) (s31.1 95 13) (s31.1 95 19) (s31.1 95 20) (s31.1 95 21) (s31.1 95 22) (s31.1 95 8) ((s26.1 98) ((s26.1 95 12))) (1) (pz_op ((s26.1 100)) ((s26.1 95 19))) := ps126
        replace ps127 : s31.1 95 13 + s31.1 95 19 = (s26.1 95 13) + (s26.1 95 19) ∧ s31.1 95 19 ≤ (s26.1 95 19) ∧ s31.1 95 7 = (s26.1 95 7) ∧ s31.1 95 8 = (s26.1 95 8) ∧ s31.1 95 9 = (s26.1 95 9) ∧ s31.1 95 12 = (s26.1 95 12) ∧ s31.1 95 21 = (s26.1 95 21) ∧ s31.1 95 22 = (s26.1 95 22) ∧ s31.1 95 23 = (s26.1 95 23) := ps127
        replace ps128 : pz_op (s31.1 100) (s31.1 95 19) = pz_op ((s26.1 100)) ((s26.1 95 19)) := ps128
        replace ps129 : s31.1 95 19 ≤ 0 ∨ pz_rk (s31.1 100 (s31.1 95 19 - 1)) < 1 := ps129
        have fr130 : lf_fq [95, 98, 100, 101, 102, 103] 1000000 true s.1 s.2.2 s31.1 s31.2.2 := lf_fq_tr fr108 (lf_fq_wk fr123 rfl (by decide) (by decide))
        have b131 : 0 ≤ s31.1 95 12 ∧ s31.1 95 12 ≤ 2115 := iv_r95_12 hI124
        have b132 : 0 ≤ s31.1 95 13 ∧ s31.1 95 13 ≤ 304 := iv_r95_13 hI124
        have b133 : 0 ≤ s31.1 95 19 ∧ s31.1 95 19 ≤ 160 := iv_r95_19 hI124
        have b134 : 0 ≤ s31.1 95 20 ∧ s31.1 95 20 ≤ 8 := iv_r95_20 hI124
        have b135 : 0 ≤ s31.1 95 21 ∧ s31.1 95 21 ≤ 8 := iv_r95_21 hI124
        have b136 : 0 ≤ s31.1 95 22 ∧ s31.1 95 22 ≤ 80 := iv_r95_22 hI124
        have b137 : 0 ≤ s31.1 95 8 ∧ s31.1 95 8 ≤ 300 := iv_r95_8 hI124
        have b138 : pz_Y ((s31.1 100)) ((s31.1 98)) ((s31.1 95 12)) ((s31.1 95 13)) ((s31.1 95 19)) ((s31.1 95 20)) ((s31.1 95 21)) ((s31.1 95 22)) ((s31.1 95 8)) (s0.1 98 (s0.1 95 12)) (1) (0) := pz_Yk (pz_R1 ps126 (by omega)) (by omega)
        have b139 : pz_H ((s31.1 98)) ((s31.1 95 12)) (s0.1 98 (s0.1 95 12)) := by first | exact pz_YH (show pz_Y ((s31.1 100)) ((s31.1 98)) ((s31.1 95 12)) ((s31.1 95 13)) ((s31.1 95 19)) ((s31.1 95 20)) ((s31.1 95 21)) ((s31.1 95 22)) ((s31.1 95 8)) (s0.1 98 (s0.1 95 12)) (1) (0) from by first | with_reducible assumption | assumption) | exact pz_cH rfl ps128 rfl (by omega)
        exact hQ 0 s31 hI124 fr130 (show 0 = 0 → pz_Y ((s31.1 100)) ((s31.1 98)) ((s31.1 95 12)) ((s31.1 95 13)) ((s31.1 95 19)) ((s31.1 95 20)) ((s31.1 95 21)) ((s31.1 95 22)) ((s31.1 95 8)) (s0.1 98 (s0.1 95 12)) (1) (0) from fun _ => by first | with_reducible assumption | assumption) (show 0 = 0 → (s0.1 95 8 ≤ (s31.1 95 8) ∧ ((s31.1 95 9) = 0 ∨ (s31.1 95 8) < (s31.1 95 7))) from fun _ => by omega) (show pz_H ((s31.1 98)) ((s31.1 95 12)) (s0.1 98 (s0.1 95 12)) from by first | with_reducible assumption | assumption) (show (s31.1 95 12) = s0.1 95 12 from by omega) (show (0 : Int) ≤ 0 ∧ 0 ≤ (5 : Int) from by omega)
      · skip
        replace c119 : ¬ (r29 < 0) := c119
        have b140 : pz_H ((s26.1 98)) ((s26.1 95 12)) (s0.1 98 (s0.1 95 12)) := by first | exact pz_YH (show pz_Y ((s26.1 100)) ((s26.1 98)) ((s26.1 95 12)) ((s26.1 95 13)) ((s26.1 95 19)) ((s26.1 95 20)) ((s26.1 95 21)) ((s26.1 95 22)) ((s26.1 95 8)) (s0.1 98 (s0.1 95 12)) (1) (0) from by first | with_reducible assumption | assumption) | exact pz_cH rfl ps105 rfl (by omega)
        exact hQ 1 s26 hI99 fr108 (show 1 = 0 → pz_Y ((s26.1 100)) ((s26.1 98)) ((s26.1 95 12)) ((s26.1 95 13)) ((s26.1 95 19)) ((s26.1 95 20)) ((s26.1 95 21)) ((s26.1 95 22)) ((s26.1 95 8)) (s0.1 98 (s0.1 95 12)) (1) (0) from fun h => absurd h (by decide)) (show 1 = 0 → (s0.1 95 8 ≤ (s26.1 95 8) ∧ ((s26.1 95 9) = 0 ∨ (s26.1 95 8) < (s26.1 95 7))) from fun h => absurd h (by decide)) (show pz_H ((s26.1 98)) ((s26.1 95 12)) (s0.1 98 (s0.1 95 12)) from by first | with_reducible assumption | assumption) (show (s26.1 95 12) = s0.1 95 12 from by omega) (show (0 : Int) ≤ 1 ∧ 1 ≤ (5 : Int) from by omega)
    · skip
      have dps103 := ps103 c109
      have dps104 := ps104 c109
      have b141 : 0 ≤ s26.1 95 12 ∧ s26.1 95 12 ≤ 2115 := iv_r95_12 hI99
      have b142 : 0 ≤ s26.1 95 13 ∧ s26.1 95 13 ≤ 304 := iv_r95_13 hI99
      have b143 : 0 ≤ s26.1 95 19 ∧ s26.1 95 19 ≤ 160 := iv_r95_19 hI99
      have b144 : 0 ≤ s26.1 95 20 ∧ s26.1 95 20 ≤ 8 := iv_r95_20 hI99
      have b145 : 0 ≤ s26.1 95 21 ∧ s26.1 95 21 ≤ 8 := iv_r95_21 hI99
      have b146 : 0 ≤ s26.1 95 22 ∧ s26.1 95 22 ≤ 80 := iv_r95_22 hI99
      have b147 : 0 ≤ s26.1 95 8 ∧ s26.1 95 8 ≤ 300 := iv_r95_8 hI99
      have b148 : 0 ≤ s26.1 95 23 ∧ s26.1 95 23 ≤ 1 := iv_r95_23 hI99
      have b149 : pz_Y ((s26.1 100)) ((s26.1 98)) ((s26.1 95 12)) ((s26.1 95 13)) ((s26.1 95 19)) ((s26.1 95 20)) ((s26.1 95 21)) ((s26.1 95 22)) ((s26.1 95 8)) (s0.1 98 (s0.1 95 12)) ((s26.1 95 23)) (0) := pz_Yk (by first | with_reducible assumption | assumption) (by omega)
      have b150 : (s26.1 95 8) ≤ 300 := (iv_r95_8 hI99).2
      have b151 : (-2147483648) ≤ s26.1 95 9 ∧ s26.1 95 9 ≤ 2147483647 := iv_full hI99
      have b152 : 0 ≤ s26.1 95 7 ∧ s26.1 95 7 ≤ 300 := iv_r95_7 hI99
      exact hX46  s26 hI99 fr108 (show pz_Y ((s26.1 100)) ((s26.1 98)) ((s26.1 95 12)) ((s26.1 95 13)) ((s26.1 95 19)) ((s26.1 95 20)) ((s26.1 95 21)) ((s26.1 95 22)) ((s26.1 95 8)) (s0.1 98 (s0.1 95 12)) ((s26.1 95 23)) (0) from by first | with_reducible assumption | assumption) (show (s26.1 95 9) = 0 ∨ (s26.1 95 8) < (s26.1 95 7) from by omega) (show (s26.1 95 12) = s0.1 95 12 ∧ s0.1 95 8 ≤ (s26.1 95 8) from by omega) (show (301 - (s26.1 95 8)).toNat < M46 from by omega)
theorem sm_216_p46L {Q : Int → lf_Z → Prop} {s : lf_Z} {s0 : lf_Z} (hQ : ∀ (r : Int) (s' : lf_Z), iv_A s'.1 s'.2.2 → lf_fq [95, 98, 100, 101, 102, 103] 1000000 true s.1 s.2.2 s'.1 s'.2.2 → (r = 0 → pz_Y (s'.1 100) (s'.1 98) (s'.1 95 12) (s'.1 95 13) (s'.1 95 19) (s'.1 95 20) (s'.1 95 21) (s'.1 95 22) (s'.1 95 8) (s0.1 98 (s0.1 95 12)) (1) (0)) → (r = 0 → (s0.1 95 8 ≤ s'.1 95 8 ∧ (s'.1 95 9 = 0 ∨ s'.1 95 8 < s'.1 95 7))) → (pz_H (s'.1 98) (s'.1 95 12) (s0.1 98 (s0.1 95 12))) → (s'.1 95 12 = s0.1 95 12) → (0 ≤ r ∧ r ≤ 5) → Q r s') (hI : iv_A s.1 s.2.2) (kv0 : pz_Y (s.1 100) (s.1 98) (s.1 95 12) (s.1 95 13) (s.1 95 19) (s.1 95 20) (s.1 95 21) (s.1 95 22) (s.1 95 8) (s0.1 98 (s0.1 95 12)) (s.1 95 23) (0)) (kv1 : s.1 95 9 = 0 ∨ s.1 95 8 < s.1 95 7) (kv2 : s.1 95 12 = s0.1 95 12 ∧ s0.1 95 8 ≤ s.1 95 8) : fm_216_p46L Q s := by
  intro X46 hX
  have key : ∀ (m9 : Nat) (s' : lf_Z), iv_A s'.1 s'.2.2 → lf_fq [95, 98, 100, 101, 102, 103] 1000000 true s.1 s.2.2 s'.1 s'.2.2 → (pz_Y (s'.1 100) (s'.1 98) (s'.1 95 12) (s'.1 95 13) (s'.1 95 19) (s'.1 95 20) (s'.1 95 21) (s'.1 95 22) (s'.1 95 8) (s0.1 98 (s0.1 95 12)) (s'.1 95 23) (0)) → (s'.1 95 9 = 0 ∨ s'.1 95 8 < s'.1 95 7) → (s'.1 95 12 = s0.1 95 12 ∧ s0.1 95 8 ≤ s'.1 95 8) → (301 - s'.1 95 8).toNat < m9 → X46 s' := by
    intro m9
    induction m9 with
    | zero => intro  s' _ _ kv0 kv1 kv2 h9; exact absurd h9 (Nat.not_lt_zero _)
    | succ m9 ih => intro  s' i7 f7 kv0 kv1 kv2 h9; exact hX  _ (sm_216_p46 (s0 := s0) (fun r9 t9 i9 f9 => hQ r9 t9 i9 (lf_fq_tr f7 f9))   (fun  t8 i8 f8 kv0' kv1' kv2' h8 => ih  t8 i8 (lf_fq_tr f7 f8) kv0' kv1' kv2' (by omega)) (Nat.le_refl _)  i7    kv0 kv1 kv2)
  exact key _  s hI lf_fq_rf kv0 kv1 kv2 (Nat.lt_succ_self _)
theorem sm_216_p22 {X22 : Int → lf_Z → Prop} {Q : Int → lf_Z → Prop} {x1 : Int} {s : lf_Z} {s0 : lf_Z} (hQ : ∀ (r : Int) (s' : lf_Z), iv_A s'.1 s'.2.2 → lf_fq [95, 98, 100, 101, 102, 103] 1000000 true s.1 s.2.2 s'.1 s'.2.2 → (r = 0 → pz_Y (s'.1 100) (s'.1 98) (s'.1 95 12) (s'.1 95 13) (s'.1 95 19) (s'.1 95 20) (s'.1 95 21) (s'.1 95 22) (s'.1 95 8) (s0.1 98 (s0.1 95 12)) (1) (0)) → (r = 0 → (s0.1 95 8 ≤ s'.1 95 8 ∧ (s'.1 95 9 = 0 ∨ s'.1 95 8 < s'.1 95 7))) → (pz_H (s'.1 98) (s'.1 95 12) (s0.1 98 (s0.1 95 12))) → (s'.1 95 12 = s0.1 95 12) → (0 ≤ r ∧ r ≤ 5) → Q r s') {M22 : Nat} (hX22 : ∀ (x1 : Int) (s' : lf_Z), iv_A s'.1 s'.2.2 → lf_fq [95, 98, 100, 101, 102, 103] 1000000 true s.1 s.2.2 s'.1 s'.2.2 → 0 ≤ x1 ∧ x1 ≤ 26 → (pz_Y (s'.1 100) (s'.1 98) (s'.1 95 12) (s'.1 95 13) (s'.1 95 19) (s'.1 95 20) (s'.1 95 21) (s'.1 95 22) (s'.1 95 8) (s0.1 98 (s0.1 95 12)) (0) (0)) → (s'.1 95 9 = 0 ∨ s'.1 95 8 < s'.1 95 7) → (s'.1 95 12 = s0.1 95 12 ∧ s0.1 95 8 ≤ s'.1 95 8) → (26 - x1).toNat < M22 → X22 x1 s') (hM22 : (26 - x1).toNat ≤ M22) (hI : iv_A s.1 s.2.2) (bx1 : 0 ≤ x1 ∧ x1 ≤ 26) (kv0 : pz_Y (s.1 100) (s.1 98) (s.1 95 12) (s.1 95 13) (s.1 95 19) (s.1 95 20) (s.1 95 21) (s.1 95 22) (s.1 95 8) (s0.1 98 (s0.1 95 12)) (0) (0)) (kv1 : s.1 95 9 = 0 ∨ s.1 95 8 < s.1 95 7) (kv2 : s.1 95 12 = s0.1 95 12 ∧ s0.1 95 8 ≤ s.1 95 8) : fm_216_p22 Q X22 x1 s := by
  unfold fm_216_p22
  refine ⟨(show lf_R x1 from lf_Rof (by omega)), ?_⟩
  refine ⟨fun c34 => ?_, fun c34 => ?_⟩
  · skip
    replace c34 : 26 ≤ x1 := c34
    have hI35 : iv_A (lf_up s.1 95 23 0) s.2.2 := iv_w95_23 hI (by omega)
    have fr36 : lf_fq [95, 98, 100, 101, 102, 103] 1000000 true s.1 s.2.2 (lf_up s.1 95 23 0) s.2.2 := lf_fq_up (lf_fq_rf) rfl (fun h => absurd h (by decide))
    have b37 : 0 ≤ s.1 95 12 ∧ s.1 95 12 ≤ 2115 := (show 0 ≤ (lf_up s.1 95 23 0) 95 12 ∧ (lf_up s.1 95 23 0) 95 12 ≤ 2115 from iv_r95_12 hI35)
    have b38 : (lf_up s.1 95 23 0) 95 12 = s.1 95 12 := lf_up_i (by omega)
    have b39 : 0 ≤ s.1 95 13 ∧ s.1 95 13 ≤ 304 := (show 0 ≤ (lf_up s.1 95 23 0) 95 13 ∧ (lf_up s.1 95 23 0) 95 13 ≤ 304 from iv_r95_13 hI35)
    have b40 : (lf_up s.1 95 23 0) 95 13 = s.1 95 13 := lf_up_i (by omega)
    have b41 : 0 ≤ s.1 95 19 ∧ s.1 95 19 ≤ 160 := (show 0 ≤ (lf_up s.1 95 23 0) 95 19 ∧ (lf_up s.1 95 23 0) 95 19 ≤ 160 from iv_r95_19 hI35)
    have b42 : (lf_up s.1 95 23 0) 95 19 = s.1 95 19 := lf_up_i (by omega)
    have b43 : 0 ≤ s.1 95 20 ∧ s.1 95 20 ≤ 8 := (show 0 ≤ (lf_up s.1 95 23 0) 95 20 ∧ (lf_up s.1 95 23 0) 95 20 ≤ 8 from iv_r95_20 hI35)
    have b44 : (lf_up s.1 95 23 0) 95 20 = s.1 95 20 := lf_up_i (by omega)
    have b45 : 0 ≤ s.1 95 21 ∧ s.1 95 21 ≤ 8 := (show 0 ≤ (lf_up s.1 95 23 0) 95 21 ∧ (lf_up s.1 95 23 0) 95 21 ≤ 8 from iv_r95_21 hI35)
    have b46 : (lf_up s.1 95 23 0) 95 21 = s.1 95 21 := lf_up_i (by omega)
    have b47 : 0 ≤ s.1 95 22 ∧ s.1 95 22 ≤ 80 := (show 0 ≤ (lf_up s.1 95 23 0) 95 22 ∧ (lf_up s.1 95 23 0) 95 22 ≤ 80 from iv_r95_22 hI35)
    have b48 : (lf_up s.1 95 23 0) 95 22 = s.1 95 22 := lf_up_i (by omega)
    have b49 : 0 ≤ s.1 95 8 ∧ s.1 95 8 ≤ 300 := (show 0 ≤ (lf_up s.1 95 23 0) 95 8 ∧ (lf_up s.1 95 23 0) 95 8 ≤ 300 from iv_r95_8 hI35)
    have b50 : (lf_up s.1 95 23 0) 95 8 = s.1 95 8 := lf_up_i (by omega)
    have b51 : (-2147483648) ≤ s.1 95 9 ∧ s.1 95 9 ≤ 2147483647 := (show (-2147483648) ≤ (lf_up s.1 95 23 0) 95 9 ∧ (lf_up s.1 95 23 0) 95 9 ≤ 2147483647 from iv_full hI35)
    have b52 : (lf_up s.1 95 23 0) 95 9 = s.1 95 9 := lf_up_i (by omega)
    have b53 : 0 ≤ s.1 95 7 ∧ s.1 95 7 ≤ 300 := (show 0 ≤ (lf_up s.1 95 23 0) 95 7 ∧ (lf_up s.1 95 23 0) 95 7 ≤ 300 from iv_r95_7 hI35)
    have b54 : (lf_up s.1 95 23 0) 95 7 = s.1 95 7 := lf_up_i (by omega)
    exact sm_216_p46L (s0 := s0) (fun r9 t9 i9 f9 => hQ r9 t9 i9 (lf_fq_tr fr36 f9)) hI35 (show pz_Y ((s.1 100)) ((s.1 98)) ((s.1 95 12)) ((s.1 95 13)) ((s.1 95 19)) ((s.1 95 20)) ((s.1 95 21)) ((s.1 95 22)) ((s.1 95 8)) (s0.1 98 (s0.1 95 12)) (0) (0) from by first | with_reducible assumption | assumption) (show (s.1 95 9) = 0 ∨ (s.1 95 8) < (s.1 95 7) from by omega) (show (s.1 95 12) = s0.1 95 12 ∧ s0.1 95 8 ≤ (s.1 95 8) from by omega)
  · skip
    replace c34 : ¬ (26 ≤ x1) := c34
    refine ⟨(show (0 : Int) ≤ x1 ∧ x1 < (26 : Int) from by omega), ?_⟩
    have hI153 : iv_A (lf_up s.1 103 x1 (-1)) s.2.2 := iv_w103 hI (by omega)
    have fr154 : lf_fq [95, 98, 100, 101, 102, 103] 1000000 true s.1 s.2.2 (lf_up s.1 103 x1 (-1)) s.2.2 := lf_fq_up (lf_fq_rf) rfl (fun h => absurd h (by decide))
    have b155 : 0 ≤ s.1 95 12 ∧ s.1 95 12 ≤ 2115 := (show 0 ≤ (lf_up s.1 103 x1 (-1)) 95 12 ∧ (lf_up s.1 103 x1 (-1)) 95 12 ≤ 2115 from iv_r95_12 hI153)
    have b156 : 0 ≤ s.1 95 13 ∧ s.1 95 13 ≤ 304 := (show 0 ≤ (lf_up s.1 103 x1 (-1)) 95 13 ∧ (lf_up s.1 103 x1 (-1)) 95 13 ≤ 304 from iv_r95_13 hI153)
    have b157 : 0 ≤ s.1 95 19 ∧ s.1 95 19 ≤ 160 := (show 0 ≤ (lf_up s.1 103 x1 (-1)) 95 19 ∧ (lf_up s.1 103 x1 (-1)) 95 19 ≤ 160 from iv_r95_19 hI153)
    have b158 : 0 ≤ s.1 95 20 ∧ s.1 95 20 ≤ 8 := (show 0 ≤ (lf_up s.1 103 x1 (-1)) 95 20 ∧ (lf_up s.1 103 x1 (-1)) 95 20 ≤ 8 from iv_r95_20 hI153)
    have b159 : 0 ≤ s.1 95 21 ∧ s.1 95 21 ≤ 8 := (show 0 ≤ (lf_up s.1 103 x1 (-1)) 95 21 ∧ (lf_up s.1 103 x1 (-1)) 95 21 ≤ 8 from iv_r95_21 hI153)
    have b160 : 0 ≤ s.1 95 22 ∧ s.1 95 22 ≤ 80 := (show 0 ≤ (lf_up s.1 103 x1 (-1)) 95 22 ∧ (lf_up s.1 103 x1 (-1)) 95 22 ≤ 80 from iv_r95_22 hI153)
    have b161 : 0 ≤ s.1 95 8 ∧ s.1 95 8 ≤ 300 := (show 0 ≤ (lf_up s.1 103 x1 (-1)) 95 8 ∧ (lf_up s.1 103 x1 (-1)) 95 8 ≤ 300 from iv_r95_8 hI153)
    have b162 : (-2147483648) ≤ s.1 95 9 ∧ s.1 95 9 ≤ 2147483647 := (show (-2147483648) ≤ (lf_up s.1 103 x1 (-1)) 95 9 ∧ (lf_up s.1 103 x1 (-1)) 95 9 ≤ 2147483647 from iv_full hI153)
    have b163 : 0 ≤ s.1 95 7 ∧ s.1 95 7 ≤ 300 := (show 0 ≤ (lf_up s.1 103 x1 (-1)) 95 7 ∧ (lf_up s.1 103 x1 (-1)) 95 7 ≤ 300 from iv_r95_7 hI153)
    exact hX22 (x1 + 1) (lf_up s.1 103 x1 (-1), s.2.1, s.2.2) hI153 fr154 (show (0 : Int) ≤ x1 + 1 ∧ x1 + 1 ≤ (26 : Int) from by omega) (show pz_Y ((s.1 100)) ((s.1 98)) ((s.1 95 12)) ((s.1 95 13)) ((s.1 95 19)) ((s.1 95 20)) ((s.1 95 21)) ((s.1 95 22)) ((s.1 95 8)) (s0.1 98 (s0.1 95 12)) (0) (0) from by first | with_reducible assumption | assumption) (show (s.1 95 9) = 0 ∨ (s.1 95 8) < (s.1 95 7) from by omega) (show (s.1 95 12) = s0.1 95 12 ∧ s0.1 95 8 ≤ (s.1 95 8) from by omega) (show (26 - (x1 + 1)).toNat < M22 from by omega)
theorem sm_216_p22L {Q : Int → lf_Z → Prop} {x1 : Int} {s : lf_Z} {s0 : lf_Z} (hQ : ∀ (r : Int) (s' : lf_Z), iv_A s'.1 s'.2.2 → lf_fq [95, 98, 100, 101, 102, 103] 1000000 true s.1 s.2.2 s'.1 s'.2.2 → (r = 0 → pz_Y (s'.1 100) (s'.1 98) (s'.1 95 12) (s'.1 95 13) (s'.1 95 19) (s'.1 95 20) (s'.1 95 21) (s'.1 95 22) (s'.1 95 8) (s0.1 98 (s0.1 95 12)) (1) (0)) → (r = 0 → (s0.1 95 8 ≤ s'.1 95 8 ∧ (s'.1 95 9 = 0 ∨ s'.1 95 8 < s'.1 95 7))) → (pz_H (s'.1 98) (s'.1 95 12) (s0.1 98 (s0.1 95 12))) → (s'.1 95 12 = s0.1 95 12) → (0 ≤ r ∧ r ≤ 5) → Q r s') (hI : iv_A s.1 s.2.2) (bx1 : 0 ≤ x1 ∧ x1 ≤ 26) (kv0 : pz_Y (s.1 100) (s.1 98) (s.1 95 12) (s.1 95 13) (s.1 95 19) (s.1 95 20) (s.1 95 21) (s.1 95 22) (s.1 95 8) (s0.1 98 (s0.1 95 12)) (0) (0)) (kv1 : s.1 95 9 = 0 ∨ s.1 95 8 < s.1 95 7) (kv2 : s.1 95 12 = s0.1 95 12 ∧ s0.1 95 8 ≤ s.1 95 8) : fm_216_p22L Q x1 s := by
  intro X22 hX
  have key : ∀ (m9 : Nat) (x1 : Int) (s' : lf_Z), iv_A s'.1 s'.2.2 → lf_fq [95, 98, 100, 101, 102, 103] 1000000 true s.1 s.2.2 s'.1 s'.2.2 → 0 ≤ x1 ∧ x1 ≤ 26 → (pz_Y (s'.1 100) (s'.1 98) (s'.1 95 12) (s'.1 95 13) (s'.1 95 19) (s'.1 95 20) (s'.1 95 21) (s'.1 95 22) (s'.1 95 8) (s0.1 98 (s0.1 95 12)) (0) (0)) → (s'.1 95 9 = 0 ∨ s'.1 95 8 < s'.1 95 7) → (s'.1 95 12 = s0.1 95 12 ∧ s0.1 95 8 ≤ s'.1 95 8) → (26 - x1).toNat < m9 → X22 x1 s' := by
    intro m9
    induction m9 with
    | zero => intro x1 s' _ _ bx1 kv0 kv1 kv2 h9; exact absurd h9 (Nat.not_lt_zero _)
    | succ m9 ih => intro x1 s' i7 f7 bx1 kv0 kv1 kv2 h9; exact hX _ _ (sm_216_p22 (s0 := s0) (fun r9 t9 i9 f9 => hQ r9 t9 i9 (lf_fq_tr f7 f9))   (fun x1' t8 i8 f8 bx1' kv0' kv1' kv2' h8 => ih x1' t8 i8 (lf_fq_tr f7 f8) bx1' kv0' kv1' kv2' (by omega)) (Nat.le_refl _)  i7  bx1  kv0 kv1 kv2)
  exact key _ _ s hI lf_fq_rf bx1 kv0 kv1 kv2 (Nat.lt_succ_self _)
theorem sm_216 {Q : Int → lf_Z → Prop} {s : lf_Z} (hI : iv_A s.1 s.2.2) (kp0 : pz_Y (s.1 100) (s.1 98) (s.1 95 12) (s.1 95 13) 0 0 0 0 (s.1 95 8) (s.1 98 (s.1 95 12)) 0 0) (kp1 : s.1 95 9 = 0 ∨ s.1 95 8 < s.1 95 7) (hQ : ∀ (r : Int) (s' : lf_Z), iv_A s'.1 s'.2.2 → lf_fq [95, 98, 100, 101, 102, 103] 1000000 true s.1 s.2.2 s'.1 s'.2.2 → (r = 0 → pz_Y (s'.1 100) (s'.1 98) (s'.1 95 12) (s'.1 95 13) (s'.1 95 19) (s'.1 95 20) (s'.1 95 21) (s'.1 95 22) (s'.1 95 8) (s.1 98 (s.1 95 12)) (1) (0)) → (r = 0 → (s.1 95 8 ≤ s'.1 95 8 ∧ (s'.1 95 9 = 0 ∨ s'.1 95 8 < s'.1 95 7))) → (pz_H (s'.1 98) (s'.1 95 12) (s.1 98 (s.1 95 12))) → (s'.1 95 12 = s.1 95 12) → (0 ≤ r ∧ r ≤ 5) → Q r s') : fm_216 Q s := by
  unfold fm_216
  have hI1 : iv_A (lf_up s.1 95 19 0) s.2.2 := iv_w95_19 hI (by omega)
  have fr2 : lf_fq [95, 98, 100, 101, 102, 103] 1000000 true s.1 s.2.2 (lf_up s.1 95 19 0) s.2.2 := lf_fq_up (lf_fq_rf) rfl (fun h => absurd h (by decide))
  have hI3 : iv_A (lf_up (lf_up s.1 95 19 0) 95 20 0) s.2.2 := iv_w95_20 hI1 (by omega)
  have fr4 : lf_fq [95, 98, 100, 101, 102, 103] 1000000 true s.1 s.2.2 (lf_up (lf_up s.1 95 19 0) 95 20 0) s.2.2 := lf_fq_up fr2 rfl (fun h => absurd h (by decide))
  have hI5 : iv_A (lf_up (lf_up (lf_up s.1 95 19 0) 95 20 0) 95 21 0) s.2.2 := iv_w95_21 hI3 (by omega)
  have fr6 : lf_fq [95, 98, 100, 101, 102, 103] 1000000 true s.1 s.2.2 (lf_up (lf_up (lf_up s.1 95 19 0) 95 20 0) 95 21 0) s.2.2 := lf_fq_up fr4 rfl (fun h => absurd h (by decide))
  have hI7 : iv_A (lf_up (lf_up (lf_up (lf_up s.1 95 19 0) 95 20 0) 95 21 0) 95 22 0) s.2.2 := iv_w95_22 hI5 (by omega)
  have fr8 : lf_fq [95, 98, 100, 101, 102, 103] 1000000 true s.1 s.2.2 (lf_up (lf_up (lf_up (lf_up s.1 95 19 0) 95 20 0) 95 21 0) 95 22 0) s.2.2 := lf_fq_up fr6 rfl (fun h => absurd h (by decide))
  have b9 : 0 ≤ s.1 95 12 ∧ s.1 95 12 ≤ 2115 := (show 0 ≤ (lf_up (lf_up (lf_up (lf_up s.1 95 19 0) 95 20 0) 95 21 0) 95 22 0) 95 12 ∧ (lf_up (lf_up (lf_up (lf_up s.1 95 19 0) 95 20 0) 95 21 0) 95 22 0) 95 12 ≤ 2115 from iv_r95_12 hI7)
  have b10 : (lf_up (lf_up (lf_up (lf_up s.1 95 19 0) 95 20 0) 95 21 0) 95 22 0) 95 12 = (lf_up (lf_up (lf_up s.1 95 19 0) 95 20 0) 95 21 0) 95 12 := lf_up_i (by omega)
  have b11 : (lf_up (lf_up (lf_up s.1 95 19 0) 95 20 0) 95 21 0) 95 12 = (lf_up (lf_up s.1 95 19 0) 95 20 0) 95 12 := lf_up_i (by omega)
  have b12 : (lf_up (lf_up s.1 95 19 0) 95 20 0) 95 12 = (lf_up s.1 95 19 0) 95 12 := lf_up_i (by omega)
  have b13 : (lf_up s.1 95 19 0) 95 12 = s.1 95 12 := lf_up_i (by omega)
  have b14 : 0 ≤ s.1 95 13 ∧ s.1 95 13 ≤ 304 := (show 0 ≤ (lf_up (lf_up (lf_up (lf_up s.1 95 19 0) 95 20 0) 95 21 0) 95 22 0) 95 13 ∧ (lf_up (lf_up (lf_up (lf_up s.1 95 19 0) 95 20 0) 95 21 0) 95 22 0) 95 13 ≤ 304 from iv_r95_13 hI7)
  have b15 : (lf_up (lf_up (lf_up (lf_up s.1 95 19 0) 95 20 0) 95 21 0) 95 22 0) 95 13 = (lf_up (lf_up (lf_up s.1 95 19 0) 95 20 0) 95 21 0) 95 13 := lf_up_i (by omega)
  have b16 : (lf_up (lf_up (lf_up s.1 95 19 0) 95 20 0) 95 21 0) 95 13 = (lf_up (lf_up s.1 95 19 0) 95 20 0) 95 13 := lf_up_i (by omega)
  have b17 : (lf_up (lf_up s.1 95 19 0) 95 20 0) 95 13 = (lf_up s.1 95 19 0) 95 13 := lf_up_i (by omega)
  have b18 : (lf_up s.1 95 19 0) 95 13 = s.1 95 13 := lf_up_i (by omega)
  have b19 : 0 ≤ s.1 95 8 ∧ s.1 95 8 ≤ 300 := (show 0 ≤ (lf_up (lf_up (lf_up (lf_up s.1 95 19 0) 95 20 0) 95 21 0) 95 22 0) 95 8 ∧ (lf_up (lf_up (lf_up (lf_up s.1 95 19 0) 95 20 0) 95 21 0) 95 22 0) 95 8 ≤ 300 from iv_r95_8 hI7)
  have b20 : (lf_up (lf_up (lf_up (lf_up s.1 95 19 0) 95 20 0) 95 21 0) 95 22 0) 95 8 = (lf_up (lf_up (lf_up s.1 95 19 0) 95 20 0) 95 21 0) 95 8 := lf_up_i (by omega)
  have b21 : (lf_up (lf_up (lf_up s.1 95 19 0) 95 20 0) 95 21 0) 95 8 = (lf_up (lf_up s.1 95 19 0) 95 20 0) 95 8 := lf_up_i (by omega)
  have b22 : (lf_up (lf_up s.1 95 19 0) 95 20 0) 95 8 = (lf_up s.1 95 19 0) 95 8 := lf_up_i (by omega)
  have b23 : (lf_up s.1 95 19 0) 95 8 = s.1 95 8 := lf_up_i (by omega)
  have b24 : (-2147483648) ≤ s.1 95 9 ∧ s.1 95 9 ≤ 2147483647 := (show (-2147483648) ≤ (lf_up (lf_up (lf_up (lf_up s.1 95 19 0) 95 20 0) 95 21 0) 95 22 0) 95 9 ∧ (lf_up (lf_up (lf_up (lf_up s.1 95 19 0) 95 20 0) 95 21 0) 95 22 0) 95 9 ≤ 2147483647 from iv_full hI7)
  have b25 : (lf_up (lf_up (lf_up (lf_up s.1 95 19 0) 95 20 0) 95 21 0) 95 22 0) 95 9 = (lf_up (lf_up (lf_up s.1 95 19 0) 95 20 0) 95 21 0) 95 9 := lf_up_i (by omega)
  have b26 : (lf_up (lf_up (lf_up s.1 95 19 0) 95 20 0) 95 21 0) 95 9 = (lf_up (lf_up s.1 95 19 0) 95 20 0) 95 9 := lf_up_i (by omega)
  have b27 : (lf_up (lf_up s.1 95 19 0) 95 20 0) 95 9 = (lf_up s.1 95 19 0) 95 9 := lf_up_i (by omega)
  have b28 : (lf_up s.1 95 19 0) 95 9 = s.1 95 9 := lf_up_i (by omega)
  have b29 : 0 ≤ s.1 95 7 ∧ s.1 95 7 ≤ 300 := (show 0 ≤ (lf_up (lf_up (lf_up (lf_up s.1 95 19 0) 95 20 0) 95 21 0) 95 22 0) 95 7 ∧ (lf_up (lf_up (lf_up (lf_up s.1 95 19 0) 95 20 0) 95 21 0) 95 22 0) 95 7 ≤ 300 from iv_r95_7 hI7)
  have b30 : (lf_up (lf_up (lf_up (lf_up s.1 95 19 0) 95 20 0) 95 21 0) 95 22 0) 95 7 = (lf_up (lf_up (lf_up s.1 95 19 0) 95 20 0) 95 21 0) 95 7 := lf_up_i (by omega)
  have b31 : (lf_up (lf_up (lf_up s.1 95 19 0) 95 20 0) 95 21 0) 95 7 = (lf_up (lf_up s.1 95 19 0) 95 20 0) 95 7 := lf_up_i (by omega)
  have b32 : (lf_up (lf_up s.1 95 19 0) 95 20 0) 95 7 = (lf_up s.1 95 19 0) 95 7 := lf_up_i (by omega)
  have b33 : (lf_up s.1 95 19 0) 95 7 = s.1 95 7 := lf_up_i (by omega)
  exact sm_216_p22L (s0 := s) (fun r9 t9 i9 f9 => hQ r9 t9 i9 (lf_fq_tr fr8 f9)) hI7 (show (0 : Int) ≤ 0 ∧ 0 ≤ (26 : Int) from by omega) (show pz_Y ((s.1 100)) ((s.1 98)) ((s.1 95 12)) ((s.1 95 13)) (0) (0) (0) (0) ((s.1 95 8)) (s.1 98 (s.1 95 12)) (0) (0) from by first | with_reducible assumption | assumption) (show (s.1 95 9) = 0 ∨ (s.1 95 8) < (s.1 95 7) from by omega) (show (s.1 95 12) = s.1 95 12 ∧ s.1 95 8 ≤ (s.1 95 8) from by omega)
-- fm_215 Model.lawClause 95 i
theorem sm_215 {a1 : Int} {Q : Int → lf_Z → Prop} {s : lf_Z} (hI : iv_A s.1 s.2.2) (ba1 : 1 ≤ a1 ∧ a1 ≤ 2208) (kp0 : wk_E (s.1 98) (s.1 95 12) (s.1 95 13)) (kp1 : s.1 98 (s.1 95 12) < 24) (kp2 : a1 = s.1 95 12 + 1 + 4 * s.1 98 (s.1 95 12)) (kp3 : (s.1 95 9 = 0 ∨ s.1 95 8 < s.1 95 7) ∧ s.1 95 13 ≤ s.1 95 8) (hQ : ∀ (r : Int) (s' : lf_Z), iv_A s'.1 s'.2.2 → lf_fq [95, 98, 100, 101, 102, 103] 1000000 true s.1 s.2.2 s'.1 s'.2.2 → (r = 0 → pz_D 0 (a1) (s.1 98) (s'.1 98) (s.1 95 12) (s'.1 95 12) (s'.1 95 13)) → (r = 0 → ((s'.1 95 9 = 0 ∨ s'.1 95 8 < s'.1 95 7) ∧ s'.1 95 13 ≤ s'.1 95 8 ∧ s.1 95 8 ≤ s'.1 95 8)) → (0 ≤ r ∧ r ≤ 5) → Q r s') : fm_215 a1 Q s := by
  unfold fm_215
  have b1 : 0 ≤ s.1 95 12 ∧ s.1 95 12 ≤ 2115 := iv_r95_12 hI
  have b2 : 0 ≤ (s.1 98) ((s.1 95 12)) ∧ ((s.1 95 12) = 0 ∨ (s.1 95 12) = 705 ∨ (s.1 95 12) = 1410 ∨ (s.1 95 12) = 2115) := ⟨kp0.2.2.1, kp0.1⟩
  have b3 : 0 ≤ s.1 95 13 ∧ s.1 95 13 ≤ 304 := iv_r95_13 hI
  have b4 : wk_T (lf_up s.1 98 (a1 + 1) (s.1 95 13) 98) := wk_Tx (wk_TA hI) kp0 (by omega) (wk_hr hI) (by omega)
  refine ⟨(show (0 : Int) ≤ a1 + 1 ∧ a1 + 1 < (2820 : Int) from by omega), ?_⟩
  have hI5 : iv_A (lf_up s.1 98 (a1 + 1) (s.1 95 13)) s.2.2 := iv_w98c hI kp0.1 (by omega) (by omega) (by first | with_reducible assumption | assumption)
  have fr6 : lf_fq [95, 98, 100, 101, 102, 103] 1000000 true s.1 s.2.2 (lf_up s.1 98 (a1 + 1) (s.1 95 13)) s.2.2 := lf_fq_up (lf_fq_rf) rfl (fun h => absurd h (by decide))
  have b7 : 0 ≤ s.1 95 8 ∧ s.1 95 8 ≤ 300 := (show 0 ≤ (lf_up s.1 98 (a1 + 1) (s.1 95 13)) 95 8 ∧ (lf_up s.1 98 (a1 + 1) (s.1 95 13)) 95 8 ≤ 300 from iv_r95_8 hI5)
  have b8 : pz_Y ((s.1 100)) (((lf_up s.1 98 (a1 + 1) (s.1 95 13)) 98)) ((s.1 95 12)) ((s.1 95 13)) 0 0 0 0 ((s.1 95 8)) (((lf_up s.1 98 (a1 + 1) (s.1 95 13)) 98) ((s.1 95 12))) 0 0 := pz_Y0 kp0 (by omega) (by omega) kp2 _
  have b9 : ((lf_up s.1 98 (a1 + 1) (s.1 95 13)) 98) ((s.1 95 12)) = s.1 98 (s.1 95 12) := lf_up_i (by omega)
  have b12 : (-2147483648) ≤ s.1 95 9 ∧ s.1 95 9 ≤ 2147483647 := (show (-2147483648) ≤ (lf_up s.1 98 (a1 + 1) (s.1 95 13)) 95 9 ∧ (lf_up s.1 98 (a1 + 1) (s.1 95 13)) 95 9 ≤ 2147483647 from iv_full hI5)
  have b13 : 0 ≤ s.1 95 7 ∧ s.1 95 7 ≤ 300 := (show 0 ≤ (lf_up s.1 98 (a1 + 1) (s.1 95 13)) 95 7 ∧ (lf_up s.1 98 (a1 + 1) (s.1 95 13)) 95 7 ≤ 300 from iv_r95_7 hI5)
  refine sm_216 hI5 (show pz_Y ((s.1 100)) (((lf_up s.1 98 (a1 + 1) (s.1 95 13)) 98)) ((s.1 95 12)) ((s.1 95 13)) 0 0 0 0 ((s.1 95 8)) (((lf_up s.1 98 (a1 + 1) (s.1 95 13)) 98) ((s.1 95 12))) 0 0 from by first | with_reducible assumption | assumption) (show (s.1 95 9) = 0 ∨ (s.1 95 8) < (s.1 95 7) from by omega) (fun r23 s22 hI11 fr10 ps15 ps16 ps17 ps18 q14 => ?_)
  replace ps15 : r23 = 0 → pz_Y (s22.1 100) (s22.1 98) (s22.1 95 12) (s22.1 95 13) (s22.1 95 19) (s22.1 95 20) (s22.1 95 21) (s22.1 95 22) (s22.1 95 8) (((lf_up s.1 98 (a1 + 1) (s.1 95 13)) 98) ((s.1 95 12))) (1) (0) := ps15
  replace ps16 : r23 = 0 → ((s.1 95 8) ≤ s22.1 95 8 ∧ (s22.1 95 9 = 0 ∨ s22.1 95 8 < s22.1 95 7)) := ps16
  replace ps17 : pz_H (s22.1 98) (s22.1 95 12) (((lf_up s.1 98 (a1 + 1) (s.1 95 13)) 98) ((s.1 95 12))) := ps17
  replace ps18 : s22.1 95 12 = (s.1 95 12) := ps18
  have fr19 : lf_fq [95, 98, 100, 101, 102, 103] 1000000 true s.1 s.2.2 s22.1 s22.2.2 := lf_fq_tr fr6 (lf_fq_wk fr10 rfl (by decide) (by decide))
  have b20 : 0 ≤ s22.1 95 12 ∧ s22.1 95 12 ≤ 2115 := iv_r95_12 hI11
  have b21 : (s22.1 98) ((s22.1 95 12)) = (lf_up s.1 98 (a1 + 1) (s.1 95 13)) 98 (s.1 95 12) ∧ 0 ≤ (lf_up s.1 98 (a1 + 1) (s.1 95 13)) 98 (s.1 95 12) ∧ (lf_up s.1 98 (a1 + 1) (s.1 95 13)) 98 (s.1 95 12) < 24 ∧ ((s22.1 95 12) = 0 ∨ (s22.1 95 12) = 705 ∨ (s22.1 95 12) = 1410 ∨ (s22.1 95 12) = 2115) := pz_Hn ps17
  have b22 : 0 ≤ s22.1 95 8 ∧ s22.1 95 8 ≤ 300 := iv_r95_8 hI11
  have b23 : 0 ≤ s22.1 95 13 ∧ s22.1 95 13 ≤ 304 := iv_r95_13 hI11
  have b24 : (s22.1 95 8) ≤ 300 ∧ (s22.1 95 13) ≤ 304 := ⟨(iv_r95_8 hI11).2, (iv_r95_13 hI11).2⟩
  have b25 : wk_T (lf_up s22.1 98 (a1 + 2) (s22.1 95 13) 98) := wk_Tx (wk_TA hI11) ps17.2.2.2 (by omega) (wk_hr hI11) (by omega)
  refine ⟨(show (0 : Int) ≤ a1 + 2 ∧ a1 + 2 < (2820 : Int) from by omega), ?_⟩
  have hI26 : iv_A (lf_up s22.1 98 (a1 + 2) (s22.1 95 13)) s22.2.2 := iv_w98c hI11 ps17.2.2.2.1 (by omega) (by omega) (by first | with_reducible assumption | assumption)
  have fr27 : lf_fq [95, 98, 100, 101, 102, 103] 1000000 true s.1 s.2.2 (lf_up s22.1 98 (a1 + 2) (s22.1 95 13)) s22.2.2 := lf_fq_up fr19 rfl (fun h => absurd h (by decide))
  have b28 : r23 = 0 → (s22.1 95 13) ≤ (s22.1 95 8) := fun h9 => by have h8 := pz_Yn (ps15 h9); omega
  have b29 : r23 = 0 → pz_D 0 (a1) (s.1 98) (((lf_up s22.1 98 (a1 + 2) (s22.1 95 13)) 98)) (s.1 95 12) ((s22.1 95 12)) ((s22.1 95 13)) := fun h9 => ⟨by omega, wk_Ex (pz_YE (ps15 h9)) (by omega), (lf_up_i (by omega)).trans (by omega), fun h => absurd h (by decide), fun _ => ⟨pz_Yd (ps15 h9) (by omega) (by omega), Int.le_of_eq lf_up_s⟩⟩
  exact hQ r23 (lf_up s22.1 98 (a1 + 2) (s22.1 95 13), s22.2.1, s22.2.2) hI26 fr27 (show r23 = 0 → pz_D 0 (a1) (s.1 98) (((lf_up s22.1 98 (a1 + 2) (s22.1 95 13)) 98)) (s.1 95 12) ((s22.1 95 12)) ((s22.1 95 13)) from by first | with_reducible assumption | omega) (show r23 = 0 → (((s22.1 95 9) = 0 ∨ (s22.1 95 8) < (s22.1 95 7)) ∧ (s22.1 95 13) ≤ (s22.1 95 8) ∧ s.1 95 8 ≤ (s22.1 95 8)) from by first | with_reducible assumption | omega) (show (0 : Int) ≤ r23 ∧ r23 ≤ (5 : Int) from by omega)
-- fm_213 Model.figure 95 i i i
theorem sm_213 {a1 : Int} {a2 : Int} {a3 : Int} {Q : Int → lf_Z → Prop} {s : lf_Z} (hI : iv_A s.1 s.2.2) (ba1 : 2 ≤ a1 ∧ a1 ≤ 2210) (ba2 : 0 ≤ a2 ∧ a2 ≤ 1) (ba3 : 3 ≤ a3 ∧ a3 ≤ 99) (kp0 : wk_E (s.1 98) (s.1 95 12) (s.1 95 13)) (kp1 : s.1 98 (s.1 95 12) < 24) (kp2 : s.1 95 12 + 1 + 4 * s.1 98 (s.1 95 12) + 1 ≤ a1 ∧ a1 ≤ s.1 95 12 + 1 + 4 * s.1 98 (s.1 95 12) + 2) (kp3 : (s.1 95 9 = 0 ∨ s.1 95 8 < s.1 95 7) ∧ s.1 95 13 ≤ s.1 95 8) (hQ : ∀ (r : Int) (s' : lf_Z), iv_A s'.1 s'.2.2 → lf_fq [95, 98] 1000000 true s.1 s.2.2 s'.1 s'.2.2 → (r = 0 → pz_V (s.1 98) (s'.1 98) (s.1 95 12) (s'.1 95 12) (s'.1 95 13) (a1)) → (r = 0 → ((s'.1 95 9 = 0 ∨ s'.1 95 8 < s'.1 95 7) ∧ s'.1 95 13 ≤ s'.1 95 8 ∧ s.1 95 8 ≤ s'.1 95 8)) → (0 ≤ r ∧ r ≤ 2) → Q r s') : fm_213 a1 a2 a3 Q s := by
  unfold fm_213
  have b1 : 0 ≤ s.1 95 12 ∧ s.1 95 12 ≤ 2115 := iv_r95_12 hI
  have b2 : 0 ≤ (s.1 98) ((s.1 95 12)) ∧ ((s.1 95 12) = 0 ∨ (s.1 95 12) = 705 ∨ (s.1 95 12) = 1410 ∨ (s.1 95 12) = 2115) := ⟨kp0.2.2.1, kp0.1⟩
  have b3 : (-2147483648) ≤ s.1 95 9 ∧ s.1 95 9 ≤ 2147483647 := iv_full hI
  refine ⟨(show lf_R (s.1 95 9) from lf_Rof (by omega)), ?_⟩
  refine ⟨fun c4 => ?_, fun c4 => ?_⟩
  · skip
    replace c4 : s.1 95 9 = 1 := c4
    have b5 : (-2147483648) ≤ s.1 95 10 ∧ s.1 95 10 ≤ 2147483647 := iv_full hI
    refine sm_183 hI (show (-2147483648 : Int) ≤ s.1 95 10 ∧ s.1 95 10 ≤ (2147483647 : Int) from by omega) (show (-1 : Int) ≤ a2 ∧ a2 ≤ (97 : Int) from by omega) (show (-1 : Int) ≤ a3 ∧ a3 ≤ (9999 : Int) from by omega) (fun z23 q6 => ?_)
    refine ⟨fun c7 => ?_, fun c7 => ?_⟩
    · skip
      have dc7 := q6.1 c7
      have b8 : wk_T (lf_up s.1 98 a1 (s.1 95 10) 98) := wk_Tx (wk_TA hI) kp0 (by omega) (wk_hr hI) (by omega)
      refine ⟨(show (0 : Int) ≤ a1 ∧ a1 < (2820 : Int) from by omega), ?_⟩
      have hI9 : iv_A (lf_up s.1 98 a1 (s.1 95 10)) s.2.2 := iv_w98c hI kp0.1 (by omega) (by omega) (by first | with_reducible assumption | assumption)
      have fr10 : lf_fq [95, 98] 1000000 true s.1 s.2.2 (lf_up s.1 98 a1 (s.1 95 10)) s.2.2 := lf_fq_up (lf_fq_rf) rfl (fun h => absurd h (by decide))
      have b11 : 0 ≤ s.1 95 13 ∧ s.1 95 13 ≤ 304 := (show 0 ≤ (lf_up s.1 98 a1 (s.1 95 10)) 95 13 ∧ (lf_up s.1 98 a1 (s.1 95 10)) 95 13 ≤ 304 from iv_r95_13 hI9)
      have b12 : wk_E (((lf_up s.1 98 a1 (s.1 95 10)) 98)) ((s.1 95 12)) ((s.1 95 13)) := wk_Ex kp0 (by omega)
      refine sm_197 hI9 (fun s25 hI14 fr13 ps16 ps17 => ?_)
      replace ps16 : (s.1 95 7) ≤ s25.1 95 8 ∧ (s25.1 95 9 = 0 ∨ s25.1 95 8 < s25.1 95 7) := ps16
      replace ps17 : s25.1 95 12 = (s.1 95 12) ∧ s25.1 95 13 = (s.1 95 13) ∧ s25.1 95 19 = (s.1 95 19) ∧ s25.1 95 20 = (s.1 95 20) ∧ s25.1 95 21 = (s.1 95 21) ∧ s25.1 95 22 = (s.1 95 22) ∧ s25.1 95 23 = (s.1 95 23) := ps17
      have fr18 : lf_fq [95, 98] 1000000 true s.1 s.2.2 s25.1 s25.2.2 := lf_fq_tr fr10 (lf_fq_wk fr13 rfl (by decide) (by decide))
      have b19 : 0 ≤ s25.1 95 12 ∧ s25.1 95 12 ≤ 2115 := iv_r95_12 hI14
      have b20 : 0 ≤ s25.1 95 13 ∧ s25.1 95 13 ≤ 304 := iv_r95_13 hI14
      have b21 : pz_V (s.1 98) ((s25.1 98)) (s.1 95 12) ((s25.1 95 12)) ((s25.1 95 13)) a1 := ⟨by omega, wk_cE (fr13.1 98 rfl) (by first | with_reducible assumption | assumption) (by omega) (by omega), fun j hj => (congrFun (fr13.1 98 rfl) j).trans (show (lf_up s.1 98 a1 (s.1 95 10)) 98 j = s.1 98 j from lf_up_i (by omega))⟩
      exact hQ 0 s25 hI14 fr18 (show 0 = 0 → pz_V (s.1 98) ((s25.1 98)) (s.1 95 12) ((s25.1 95 12)) ((s25.1 95 13)) (a1) from fun _ => by first | with_reducible assumption | assumption) (show 0 = 0 → (((s25.1 95 9) = 0 ∨ (s25.1 95 8) < (s25.1 95 7)) ∧ (s25.1 95 13) ≤ (s25.1 95 8) ∧ s.1 95 8 ≤ (s25.1 95 8)) from fun _ => by omega) (show (0 : Int) ≤ 0 ∧ 0 ≤ (2 : Int) from by omega)
    · skip
      have dc7 := q6.2 c7
      exact hQ 2 s hI (lf_fq_rf) (show 2 = 0 → pz_V (s.1 98) ((s.1 98)) (s.1 95 12) ((s.1 95 12)) ((s.1 95 13)) (a1) from fun h => absurd h (by decide)) (show 2 = 0 → (((s.1 95 9) = 0 ∨ (s.1 95 8) < (s.1 95 7)) ∧ (s.1 95 13) ≤ (s.1 95 8) ∧ s.1 95 8 ≤ (s.1 95 8)) from fun h => absurd h (by decide)) (show (0 : Int) ≤ 2 ∧ 2 ≤ (2 : Int) from by omega)
  · skip
    replace c4 : ¬ (s.1 95 9 = 1) := c4
    exact hQ 1 s hI (lf_fq_rf) (show 1 = 0 → pz_V (s.1 98) ((s.1 98)) (s.1 95 12) ((s.1 95 12)) ((s.1 95 13)) (a1) from fun h => absurd h (by decide)) (show 1 = 0 → (((s.1 95 9) = 0 ∨ (s.1 95 8) < (s.1 95 7)) ∧ (s.1 95 13) ≤ (s.1 95 8) ∧ s.1 95 8 ≤ (s.1 95 8)) from fun h => absurd h (by decide)) (show (0 : Int) ≤ 1 ∧ 1 ≤ (2 : Int) from by omega)
-- fm_214 Model.worded 95 l i i i
theorem sm_214 {a1 : Int} {a2 : Int} {a3 : Int} {a4 : Int} {Q : Int → lf_Z → Prop} {s : lf_Z} (hI : iv_A s.1 s.2.2) (ba2 : 3 ≤ a2 ∧ a2 ≤ 2210) (ba3 : 0 ≤ a3 ∧ a3 ≤ 1) (ba4 : 11 ≤ a4 ∧ a4 ≤ 99) (kp0 : wk_E (s.1 98) (s.1 95 12) (s.1 95 13)) (kp1 : s.1 98 (s.1 95 12) < 24) (kp2 : s.1 95 12 + 1 + 4 * s.1 98 (s.1 95 12) + 1 ≤ a2 ∧ a2 ≤ s.1 95 12 + 1 + 4 * s.1 98 (s.1 95 12) + 2) (kp3 : (s.1 95 9 = 0 ∨ s.1 95 8 < s.1 95 7) ∧ s.1 95 13 ≤ s.1 95 8) (hQ : ∀ (r : Int) (s' : lf_Z), iv_A s'.1 s'.2.2 → lf_fq [95, 98] 1000000 true s.1 s.2.2 s'.1 s'.2.2 → (r = 0 → pz_V (s.1 98) (s'.1 98) (s.1 95 12) (s'.1 95 12) (s'.1 95 13) (a2)) → (r = 0 → ((s'.1 95 9 = 0 ∨ s'.1 95 8 < s'.1 95 7) ∧ s'.1 95 13 ≤ s'.1 95 8 ∧ s.1 95 8 ≤ s'.1 95 8)) → (0 ≤ r ∧ r ≤ 2) → Q r s') : fm_214 a1 a2 a3 a4 Q s := by
  unfold fm_214
  have b1 : 0 ≤ s.1 95 12 ∧ s.1 95 12 ≤ 2115 := iv_r95_12 hI
  have b2 : 0 ≤ (s.1 98) ((s.1 95 12)) ∧ ((s.1 95 12) = 0 ∨ (s.1 95 12) = 705 ∨ (s.1 95 12) = 1410 ∨ (s.1 95 12) = 2115) := ⟨kp0.2.2.1, kp0.1⟩
  refine sm_207 hI (fun z22 q3 => ?_)
  have b4 : (-2147483648) ≤ s.1 95 9 ∧ s.1 95 9 ≤ 2147483647 := iv_full hI
  refine ⟨fun c5 => ?_, fun c5 => ?_⟩
  · skip
    have dc5 := q3.1 c5
    refine sm_197 hI (fun s23 hI7 fr6 ps9 ps10 => ?_)
    replace ps9 : (s.1 95 7) ≤ s23.1 95 8 ∧ (s23.1 95 9 = 0 ∨ s23.1 95 8 < s23.1 95 7) := ps9
    replace ps10 : s23.1 95 12 = (s.1 95 12) ∧ s23.1 95 13 = (s.1 95 13) ∧ s23.1 95 19 = (s.1 95 19) ∧ s23.1 95 20 = (s.1 95 20) ∧ s23.1 95 21 = (s.1 95 21) ∧ s23.1 95 22 = (s.1 95 22) ∧ s23.1 95 23 = (s.1 95 23) := ps10
    have fr11 : lf_fq [95, 98] 1000000 true s.1 s.2.2 s23.1 s23.2.2 := lf_fq_tr (lf_fq_rf) (lf_fq_wk fr6 rfl (by decide) (by decide))
    have b12 : 0 ≤ s23.1 95 12 ∧ s23.1 95 12 ≤ 2115 := iv_r95_12 hI7
    have b13 : 0 ≤ s23.1 95 13 ∧ s23.1 95 13 ≤ 304 := iv_r95_13 hI7
    have b14 : wk_E ((s23.1 98)) ((s23.1 95 12)) ((s23.1 95 13)) := wk_cE (fr6.1 98 rfl) kp0 (by omega) (by omega)
    have b15 : (s23.1 98) ((s23.1 95 12)) = s.1 98 (s.1 95 12) := lf_ap (fr6.1 98 rfl) (by omega)
    have b16 : pz_V (s.1 98) ((s23.1 98)) (s.1 95 12) ((s23.1 95 12)) ((s23.1 95 13)) a2 := ⟨by omega, wk_cE (fr6.1 98 rfl) kp0 (by omega) (by omega), fun j hj => congrFun (fr6.1 98 rfl) j⟩
    have b19 : (-2147483648) ≤ s23.1 95 9 ∧ s23.1 95 9 ≤ 2147483647 := iv_full hI7
    have b20 : 0 ≤ s23.1 95 8 ∧ s23.1 95 8 ≤ 300 := iv_r95_8 hI7
    have b21 : 0 ≤ s23.1 95 7 ∧ s23.1 95 7 ≤ 300 := iv_r95_7 hI7
    refine sm_213 hI7 (show (2 : Int) ≤ a2 ∧ a2 ≤ (2210 : Int) from by omega) (show (0 : Int) ≤ a3 ∧ a3 ≤ (1 : Int) from by omega) (show (3 : Int) ≤ a4 ∧ a4 ≤ (99 : Int) from by omega) (show wk_E ((s23.1 98)) ((s23.1 95 12)) ((s23.1 95 13)) from by first | with_reducible assumption | assumption) (show (s23.1 98) ((s23.1 95 12)) < 24 from by omega) (show (s23.1 95 12) + 1 + 4 * (s23.1 98) ((s23.1 95 12)) + 1 ≤ a2 ∧ a2 ≤ (s23.1 95 12) + 1 + 4 * (s23.1 98) ((s23.1 95 12)) + 2 from by omega) (show ((s23.1 95 9) = 0 ∨ (s23.1 95 8) < (s23.1 95 7)) ∧ (s23.1 95 13) ≤ (s23.1 95 8) from by omega) (fun r25 s24 hI18 fr17 ps23 ps24 q22 => ?_)
    replace ps23 : r25 = 0 → pz_V ((s23.1 98)) (s24.1 98) ((s23.1 95 12)) (s24.1 95 12) (s24.1 95 13) (a2) := ps23
    replace ps24 : r25 = 0 → ((s24.1 95 9 = 0 ∨ s24.1 95 8 < s24.1 95 7) ∧ s24.1 95 13 ≤ s24.1 95 8 ∧ (s23.1 95 8) ≤ s24.1 95 8) := ps24
    have fr25 : lf_fq [95, 98] 1000000 true s.1 s.2.2 s24.1 s24.2.2 := lf_fq_tr fr11 (lf_fq_wk fr17 rfl (by decide) (by decide))
    have b26 : 0 ≤ s24.1 95 12 ∧ s24.1 95 12 ≤ 2115 := iv_r95_12 hI18
    have b27 : 0 ≤ s24.1 95 13 ∧ s24.1 95 13 ≤ 304 := iv_r95_13 hI18
    have b28 : r25 = 0 → pz_V (s.1 98) ((s24.1 98)) (s.1 95 12) ((s24.1 95 12)) ((s24.1 95 13)) (a2) := by first | exact fun h => absurd h (by decide) | exact fun h9 => pz_Vt (by first | with_reducible assumption | assumption) (ps23 h9) (Int.le_refl _)
    exact hQ r25 s24 hI18 fr25 (show r25 = 0 → pz_V (s.1 98) ((s24.1 98)) (s.1 95 12) ((s24.1 95 12)) ((s24.1 95 13)) (a2) from by first | with_reducible assumption | omega) (show r25 = 0 → (((s24.1 95 9) = 0 ∨ (s24.1 95 8) < (s24.1 95 7)) ∧ (s24.1 95 13) ≤ (s24.1 95 8) ∧ s.1 95 8 ≤ (s24.1 95 8)) from by first | with_reducible assumption | omega) (show (0 : Int) ≤ r25 ∧ r25 ≤ (2 : Int) from by omega)
  · skip
    have dc5 := q3.2 c5
    have b29 : 0 ≤ s.1 95 13 ∧ s.1 95 13 ≤ 304 := iv_r95_13 hI
    have b30 : 1 = 0 → pz_V (s.1 98) ((s.1 98)) (s.1 95 12) ((s.1 95 12)) ((s.1 95 13)) (a2) := by first | exact fun h => absurd h (by decide) | exact fun h9 => pz_Vt (by first | with_reducible assumption | assumption) (hI h9) (Int.le_refl _)
    exact hQ 1 s hI (lf_fq_rf) (show 1 = 0 → pz_V (s.1 98) ((s.1 98)) (s.1 95 12) ((s.1 95 12)) ((s.1 95 13)) (a2) from fun h => absurd h (by decide)) (show 1 = 0 → (((s.1 95 9) = 0 ∨ (s.1 95 8) < (s.1 95 7)) ∧ (s.1 95 13) ≤ (s.1 95 8) ∧ s.1 95 8 ≤ (s.1 95 8)) from fun h => absurd h (by decide)) (show (0 : Int) ≤ 1 ∧ 1 ≤ (2 : Int) from by omega)
-- fm_212 Model.pair 95 i i i l i i
theorem sm_212 {a1 : Int} {a2 : Int} {a3 : Int} {a4 : Int} {a5 : Int} {a6 : Int} {Q : Int → lf_Z → Prop} {s : lf_Z} (hI : iv_A s.1 s.2.2) (ba1 : 1 ≤ a1 ∧ a1 ≤ 2208) (ba2 : 0 ≤ a2 ∧ a2 ≤ 1) (ba3 : 3 ≤ a3 ∧ a3 ≤ 24) (ba5 : 0 ≤ a5 ∧ a5 ≤ 1) (ba6 : 11 ≤ a6 ∧ a6 ≤ 99) (kp0 : wk_E (s.1 98) (s.1 95 12) (s.1 95 13)) (kp1 : s.1 98 (s.1 95 12) < 24) (kp2 : a1 = s.1 95 12 + 1 + 4 * s.1 98 (s.1 95 12)) (kp3 : (s.1 95 9 = 0 ∨ s.1 95 8 < s.1 95 7) ∧ s.1 95 13 ≤ s.1 95 8) (hQ : ∀ (r : Int) (s' : lf_Z), iv_A s'.1 s'.2.2 → lf_fq [95, 98] 1000000 true s.1 s.2.2 s'.1 s'.2.2 → (r = 0 → pz_V (s.1 98) (s'.1 98) (s.1 95 12) (s'.1 95 12) (s'.1 95 13) (a1 + 1)) → (r = 0 → ((s'.1 95 9 = 0 ∨ s'.1 95 8 < s'.1 95 7) ∧ s'.1 95 13 ≤ s'.1 95 8 ∧ s.1 95 8 ≤ s'.1 95 8)) → (0 ≤ r ∧ r ≤ 2) → Q r s') : fm_212 a1 a2 a3 a4 a5 a6 Q s := by
  unfold fm_212
  have b1 : 0 ≤ s.1 95 12 ∧ s.1 95 12 ≤ 2115 := iv_r95_12 hI
  have b2 : 0 ≤ (s.1 98) ((s.1 95 12)) ∧ ((s.1 95 12) = 0 ∨ (s.1 95 12) = 705 ∨ (s.1 95 12) = 1410 ∨ (s.1 95 12) = 2115) := ⟨kp0.2.2.1, kp0.1⟩
  have b5 : 0 ≤ s.1 95 13 ∧ s.1 95 13 ≤ 304 := iv_r95_13 hI
  have b6 : (-2147483648) ≤ s.1 95 9 ∧ s.1 95 9 ≤ 2147483647 := iv_full hI
  have b7 : 0 ≤ s.1 95 8 ∧ s.1 95 8 ≤ 300 := iv_r95_8 hI
  have b8 : 0 ≤ s.1 95 7 ∧ s.1 95 7 ≤ 300 := iv_r95_7 hI
  refine sm_213 hI (show (2 : Int) ≤ a1 + 1 ∧ a1 + 1 ≤ (2210 : Int) from by omega) (show (0 : Int) ≤ a2 ∧ a2 ≤ (1 : Int) from by omega) (show (3 : Int) ≤ a3 ∧ a3 ≤ (99 : Int) from by omega) (show wk_E ((s.1 98)) ((s.1 95 12)) ((s.1 95 13)) from by first | with_reducible assumption | assumption) (show (s.1 98) ((s.1 95 12)) < 24 from by omega) (show (s.1 95 12) + 1 + 4 * (s.1 98) ((s.1 95 12)) + 1 ≤ (a1 + 1) ∧ (a1 + 1) ≤ (s.1 95 12) + 1 + 4 * (s.1 98) ((s.1 95 12)) + 2 from by omega) (show ((s.1 95 9) = 0 ∨ (s.1 95 8) < (s.1 95 7)) ∧ (s.1 95 13) ≤ (s.1 95 8) from by omega) (fun r22 s21 hI4 fr3 ps10 ps11 q9 => ?_)
  replace ps10 : r22 = 0 → pz_V ((s.1 98)) (s21.1 98) ((s.1 95 12)) (s21.1 95 12) (s21.1 95 13) ((a1 + 1)) := ps10
  replace ps11 : r22 = 0 → ((s21.1 95 9 = 0 ∨ s21.1 95 8 < s21.1 95 7) ∧ s21.1 95 13 ≤ s21.1 95 8 ∧ (s.1 95 8) ≤ s21.1 95 8) := ps11
  have fr12 : lf_fq [95, 98] 1000000 true s.1 s.2.2 s21.1 s21.2.2 := lf_fq_tr (lf_fq_rf) (lf_fq_wk fr3 rfl (by decide) (by decide))
  refine ⟨(show lf_R r22 from lf_Rof (by omega)), ?_⟩
  refine ⟨fun c13 => ?_, fun c13 => ?_⟩
  · skip
    replace c13 : r22 = 0 := c13
    have dps10 := ps10 c13
    have dps11 := ps11 c13
    have b14 : 0 ≤ s21.1 95 12 ∧ s21.1 95 12 ≤ 2115 := iv_r95_12 hI4
    have b15 : 0 ≤ s21.1 95 13 ∧ s21.1 95 13 ≤ 304 := iv_r95_13 hI4
    have b16 : wk_E ((s21.1 98)) ((s21.1 95 12)) ((s21.1 95 13)) := pz_VE (show pz_V (s.1 98) ((s21.1 98)) (s.1 95 12) ((s21.1 95 12)) ((s21.1 95 13)) (a1 + 1) from by first | with_reducible assumption | assumption)
    have b17 : (s21.1 95 12) = s.1 95 12 ∧ (s21.1 98) ((s21.1 95 12)) = s.1 98 (s.1 95 12) := pz_Vc (show pz_V (s.1 98) ((s21.1 98)) (s.1 95 12) ((s21.1 95 12)) ((s21.1 95 13)) (a1 + 1) from by first | with_reducible assumption | assumption) (by omega)
    have b20 : (-2147483648) ≤ s21.1 95 9 ∧ s21.1 95 9 ≤ 2147483647 := iv_full hI4
    have b21 : 0 ≤ s21.1 95 8 ∧ s21.1 95 8 ≤ 300 := iv_r95_8 hI4
    have b22 : 0 ≤ s21.1 95 7 ∧ s21.1 95 7 ≤ 300 := iv_r95_7 hI4
    refine sm_214 hI4 (show (3 : Int) ≤ a1 + 2 ∧ a1 + 2 ≤ (2210 : Int) from by omega) (show (0 : Int) ≤ a5 ∧ a5 ≤ (1 : Int) from by omega) (show (11 : Int) ≤ a6 ∧ a6 ≤ (99 : Int) from by omega) (show wk_E ((s21.1 98)) ((s21.1 95 12)) ((s21.1 95 13)) from by first | with_reducible assumption | assumption) (show (s21.1 98) ((s21.1 95 12)) < 24 from by omega) (show (s21.1 95 12) + 1 + 4 * (s21.1 98) ((s21.1 95 12)) + 1 ≤ (a1 + 2) ∧ (a1 + 2) ≤ (s21.1 95 12) + 1 + 4 * (s21.1 98) ((s21.1 95 12)) + 2 from by omega) (show ((s21.1 95 9) = 0 ∨ (s21.1 95 8) < (s21.1 95 7)) ∧ (s21.1 95 13) ≤ (s21.1 95 8) from by omega) (fun r25 s24 hI19 fr18 ps24 ps25 q23 => ?_)
    replace ps24 : r25 = 0 → pz_V ((s21.1 98)) (s24.1 98) ((s21.1 95 12)) (s24.1 95 12) (s24.1 95 13) ((a1 + 2)) := ps24
    replace ps25 : r25 = 0 → ((s24.1 95 9 = 0 ∨ s24.1 95 8 < s24.1 95 7) ∧ s24.1 95 13 ≤ s24.1 95 8 ∧ (s21.1 95 8) ≤ s24.1 95 8) := ps25
    have fr26 : lf_fq [95, 98] 1000000 true s.1 s.2.2 s24.1 s24.2.2 := lf_fq_tr fr12 (lf_fq_wk fr18 rfl (by decide) (by decide))
    have b27 : 0 ≤ s24.1 95 12 ∧ s24.1 95 12 ≤ 2115 := iv_r95_12 hI19
    have b28 : 0 ≤ s24.1 95 13 ∧ s24.1 95 13 ≤ 304 := iv_r95_13 hI19
    have b29 : r25 = 0 → pz_V (s.1 98) ((s24.1 98)) (s.1 95 12) ((s24.1 95 12)) ((s24.1 95 13)) (a1 + 1) := by first | with_reducible assumption | exact fun h9 => pz_Vt (by first | with_reducible assumption | assumption) (ps24 h9) (by omega)
    exact hQ r25 s24 hI19 fr26 (show r25 = 0 → pz_V (s.1 98) ((s24.1 98)) (s.1 95 12) ((s24.1 95 12)) ((s24.1 95 13)) (a1 + 1) from by first | with_reducible assumption | omega) (show r25 = 0 → (((s24.1 95 9) = 0 ∨ (s24.1 95 8) < (s24.1 95 7)) ∧ (s24.1 95 13) ≤ (s24.1 95 8) ∧ s.1 95 8 ≤ (s24.1 95 8)) from by first | with_reducible assumption | omega) (show (0 : Int) ≤ r25 ∧ r25 ≤ (2 : Int) from by omega)
  · skip
    replace c13 : ¬ (r22 = 0) := c13
    have b30 : 0 ≤ s21.1 95 12 ∧ s21.1 95 12 ≤ 2115 := iv_r95_12 hI4
    have b31 : 0 ≤ s21.1 95 13 ∧ s21.1 95 13 ≤ 304 := iv_r95_13 hI4
    have b32 : r22 = 0 → pz_V (s.1 98) ((s21.1 98)) (s.1 95 12) ((s21.1 95 12)) ((s21.1 95 13)) (a1 + 1) := by first | with_reducible assumption | exact fun h9 => pz_Vt (by first | with_reducible assumption | assumption) (ps10 h9) (by omega)
    exact hQ r22 s21 hI4 fr12 (show r22 = 0 → pz_V (s.1 98) ((s21.1 98)) (s.1 95 12) ((s21.1 95 12)) ((s21.1 95 13)) (a1 + 1) from by first | with_reducible assumption | omega) (show r22 = 0 → (((s21.1 95 9) = 0 ∨ (s21.1 95 8) < (s21.1 95 7)) ∧ (s21.1 95 13) ≤ (s21.1 95 8) ∧ s.1 95 8 ≤ (s21.1 95 8)) from by first | with_reducible assumption | omega) (show (0 : Int) ≤ r22 ∧ r22 ≤ (2 : Int) from by omega)
-- fm_211 Model.body 95 i i
theorem sm_211 {a1 : Int} {a2 : Int} {Q : Int → lf_Z → Prop} {s : lf_Z} (hI : iv_A s.1 s.2.2) (ba1 : 0 ≤ a1 ∧ a1 ≤ 12) (ba2 : 1 ≤ a2 ∧ a2 ≤ 2208) (kp0 : wk_E (s.1 98) (s.1 95 12) (s.1 95 13)) (kp1 : s.1 98 (s.1 95 12) < 24) (kp2 : a2 = s.1 95 12 + 1 + 4 * s.1 98 (s.1 95 12)) (kp3 : (s.1 95 9 = 0 ∨ s.1 95 8 < s.1 95 7) ∧ s.1 95 13 ≤ s.1 95 8) (hQ : ∀ (r : Int) (s' : lf_Z), iv_A s'.1 s'.2.2 → lf_fq [95, 98, 100, 101, 102, 103] 1000000 true s.1 s.2.2 s'.1 s'.2.2 → (r = 0 → pz_D (a1) (a2) (s.1 98) (s'.1 98) (s.1 95 12) (s'.1 95 12) (s'.1 95 13)) → (r = 0 → ((s'.1 95 9 = 0 ∨ s'.1 95 8 < s'.1 95 7) ∧ s'.1 95 13 ≤ s'.1 95 8 ∧ s.1 95 8 ≤ s'.1 95 8)) → (0 ≤ r ∧ r ≤ 5) → Q r s') : fm_211 a1 a2 Q s := by
  unfold fm_211
  have b1 : 0 ≤ s.1 95 12 ∧ s.1 95 12 ≤ 2115 := iv_r95_12 hI
  have b2 : 0 ≤ (s.1 98) ((s.1 95 12)) ∧ ((s.1 95 12) = 0 ∨ (s.1 95 12) = 705 ∨ (s.1 95 12) = 1410 ∨ (s.1 95 12) = 2115) := ⟨kp0.2.2.1, kp0.1⟩
  refine ⟨(show lf_R a1 from lf_Rof (by omega)), ?_⟩
  refine ⟨fun c3 => ?_, fun c3 => ?_, fun c3 => ?_, fun c3 => ?_, fun c3 => ?_, fun c3 => ?_, fun c3 => ?_, fun c3 => ?_, fun c3 => ?_, fun c3 => ?_, fun c3 => ?_⟩
  · replace c3 : a1 < 3 ∨ 12 < a1 := c3
    have b6 : 0 ≤ s.1 95 13 ∧ s.1 95 13 ≤ 304 := iv_r95_13 hI
    have b7 : (-2147483648) ≤ s.1 95 9 ∧ s.1 95 9 ≤ 2147483647 := iv_full hI
    have b8 : 0 ≤ s.1 95 8 ∧ s.1 95 8 ≤ 300 := iv_r95_8 hI
    have b9 : 0 ≤ s.1 95 7 ∧ s.1 95 7 ≤ 300 := iv_r95_7 hI
    refine sm_215 hI (show (1 : Int) ≤ a2 ∧ a2 ≤ (2208 : Int) from by omega) (show wk_E ((s.1 98)) ((s.1 95 12)) ((s.1 95 13)) from by first | with_reducible assumption | assumption) (show (s.1 98) ((s.1 95 12)) < 24 from by omega) (show a2 = (s.1 95 12) + 1 + 4 * (s.1 98) ((s.1 95 12)) from by omega) (show ((s.1 95 9) = 0 ∨ (s.1 95 8) < (s.1 95 7)) ∧ (s.1 95 13) ≤ (s.1 95 8) from by omega) (fun r23 s22 hI5 fr4 ps11 ps12 q10 => ?_)
    replace ps11 : r23 = 0 → pz_D 0 (a2) ((s.1 98)) (s22.1 98) ((s.1 95 12)) (s22.1 95 12) (s22.1 95 13) := ps11
    replace ps12 : r23 = 0 → ((s22.1 95 9 = 0 ∨ s22.1 95 8 < s22.1 95 7) ∧ s22.1 95 13 ≤ s22.1 95 8 ∧ (s.1 95 8) ≤ s22.1 95 8) := ps12
    have fr13 : lf_fq [95, 98, 100, 101, 102, 103] 1000000 true s.1 s.2.2 s22.1 s22.2.2 := lf_fq_tr (lf_fq_rf) (lf_fq_wk fr4 rfl (by decide) (by decide))
    have b14 : 0 ≤ s22.1 95 12 ∧ s22.1 95 12 ≤ 2115 := iv_r95_12 hI5
    have b15 : 0 ≤ s22.1 95 13 ∧ s22.1 95 13 ≤ 304 := iv_r95_13 hI5
    have b16 : r23 = 0 → pz_D (a1) (a2) (s.1 98) ((s22.1 98)) (s.1 95 12) ((s22.1 95 12)) ((s22.1 95 13)) := by first | exact fun h9 => pz_DV (ps11 h9) (by omega) (by omega) (by omega) | exact fun h9 => pz_Dm (ps11 h9) (by omega)
    exact hQ r23 s22 hI5 fr13 (show r23 = 0 → pz_D (a1) (a2) (s.1 98) ((s22.1 98)) (s.1 95 12) ((s22.1 95 12)) ((s22.1 95 13)) from by first | with_reducible assumption | omega) (show r23 = 0 → (((s22.1 95 9) = 0 ∨ (s22.1 95 8) < (s22.1 95 7)) ∧ (s22.1 95 13) ≤ (s22.1 95 8) ∧ s.1 95 8 ≤ (s22.1 95 8)) from by first | with_reducible assumption | omega) (show (0 : Int) ≤ r23 ∧ r23 ≤ (5 : Int) from by omega)
  · replace c3 : a1 = 3 := c3
    refine sm_204 hI (show (97 : Int) ≤ 104 ∧ 104 ≤ (116 : Int) from by omega) (show (97 : Int) ≤ 97 ∧ 97 ≤ (117 : Int) from by omega) (show (97 : Int) ≤ 114 ∧ 114 ≤ (122 : Int) from by omega) (show (97 : Int) ≤ 109 ∧ 109 ≤ (117 : Int) from by omega) (fun r25 => ?_)
    have b20 : 0 ≤ s.1 95 13 ∧ s.1 95 13 ≤ 304 := iv_r95_13 hI
    have b21 : (-2147483648) ≤ s.1 95 9 ∧ s.1 95 9 ≤ 2147483647 := iv_full hI
    have b22 : 0 ≤ s.1 95 8 ∧ s.1 95 8 ≤ 300 := iv_r95_8 hI
    have b23 : 0 ≤ s.1 95 7 ∧ s.1 95 7 ≤ 300 := iv_r95_7 hI
    refine sm_212 hI (show (1 : Int) ≤ a2 ∧ a2 ≤ (2208 : Int) from by omega) (show (0 : Int) ≤ 0 ∧ 0 ≤ (1 : Int) from by omega) (show (3 : Int) ≤ 3 ∧ 3 ≤ (24 : Int) from by omega) (show (0 : Int) ≤ 0 ∧ 0 ≤ (1 : Int) from by omega) (show (11 : Int) ≤ 99 ∧ 99 ≤ (99 : Int) from by omega) (show wk_E ((s.1 98)) ((s.1 95 12)) ((s.1 95 13)) from by first | with_reducible assumption | assumption) (show (s.1 98) ((s.1 95 12)) < 24 from by omega) (show a2 = (s.1 95 12) + 1 + 4 * (s.1 98) ((s.1 95 12)) from by omega) (show ((s.1 95 9) = 0 ∨ (s.1 95 8) < (s.1 95 7)) ∧ (s.1 95 13) ≤ (s.1 95 8) from by omega) (fun r27 s26 hI19 fr18 ps25 ps26 q24 => ?_)
    replace ps25 : r27 = 0 → pz_V ((s.1 98)) (s26.1 98) ((s.1 95 12)) (s26.1 95 12) (s26.1 95 13) (a2 + 1) := ps25
    replace ps26 : r27 = 0 → ((s26.1 95 9 = 0 ∨ s26.1 95 8 < s26.1 95 7) ∧ s26.1 95 13 ≤ s26.1 95 8 ∧ (s.1 95 8) ≤ s26.1 95 8) := ps26
    have fr27 : lf_fq [95, 98, 100, 101, 102, 103] 1000000 true s.1 s.2.2 s26.1 s26.2.2 := lf_fq_tr (lf_fq_rf) (lf_fq_wk fr18 rfl (by decide) (by decide))
    have b28 : 0 ≤ s26.1 95 12 ∧ s26.1 95 12 ≤ 2115 := iv_r95_12 hI19
    have b29 : 0 ≤ s26.1 95 13 ∧ s26.1 95 13 ≤ 304 := iv_r95_13 hI19
    have b30 : r27 = 0 → pz_D (a1) (a2) (s.1 98) ((s26.1 98)) (s.1 95 12) ((s26.1 95 12)) ((s26.1 95 13)) := by first | exact fun h9 => pz_DV (ps25 h9) (by omega) (by omega) (by omega) | exact fun h9 => pz_Dm (ps25 h9) (by omega)
    exact hQ r27 s26 hI19 fr27 (show r27 = 0 → pz_D (a1) (a2) (s.1 98) ((s26.1 98)) (s.1 95 12) ((s26.1 95 12)) ((s26.1 95 13)) from by first | with_reducible assumption | omega) (show r27 = 0 → (((s26.1 95 9) = 0 ∨ (s26.1 95 8) < (s26.1 95 7)) ∧ (s26.1 95 13) ≤ (s26.1 95 8) ∧ s.1 95 8 ≤ (s26.1 95 8)) from by first | with_reducible assumption | omega) (show (0 : Int) ≤ r27 ∧ r27 ≤ (5 : Int) from by omega)
  · replace c3 : a1 = 4 := c3
    refine sm_206 hI (show (97 : Int) ≤ 116 ∧ 116 ≤ (119 : Int) from by omega) (show (97 : Int) ≤ 111 ∧ 111 ≤ (121 : Int) from by omega) (fun r29 => ?_)
    have b34 : 0 ≤ s.1 95 13 ∧ s.1 95 13 ≤ 304 := iv_r95_13 hI
    have b35 : (-2147483648) ≤ s.1 95 9 ∧ s.1 95 9 ≤ 2147483647 := iv_full hI
    have b36 : 0 ≤ s.1 95 8 ∧ s.1 95 8 ≤ 300 := iv_r95_8 hI
    have b37 : 0 ≤ s.1 95 7 ∧ s.1 95 7 ≤ 300 := iv_r95_7 hI
    refine sm_212 hI (show (1 : Int) ≤ a2 ∧ a2 ≤ (2208 : Int) from by omega) (show (0 : Int) ≤ 0 ∧ 0 ≤ (1 : Int) from by omega) (show (3 : Int) ≤ 11 ∧ 11 ≤ (24 : Int) from by omega) (show (0 : Int) ≤ 0 ∧ 0 ≤ (1 : Int) from by omega) (show (11 : Int) ≤ 11 ∧ 11 ≤ (99 : Int) from by omega) (show wk_E ((s.1 98)) ((s.1 95 12)) ((s.1 95 13)) from by first | with_reducible assumption | assumption) (show (s.1 98) ((s.1 95 12)) < 24 from by omega) (show a2 = (s.1 95 12) + 1 + 4 * (s.1 98) ((s.1 95 12)) from by omega) (show ((s.1 95 9) = 0 ∨ (s.1 95 8) < (s.1 95 7)) ∧ (s.1 95 13) ≤ (s.1 95 8) from by omega) (fun r31 s30 hI33 fr32 ps39 ps40 q38 => ?_)
    replace ps39 : r31 = 0 → pz_V ((s.1 98)) (s30.1 98) ((s.1 95 12)) (s30.1 95 12) (s30.1 95 13) (a2 + 1) := ps39
    replace ps40 : r31 = 0 → ((s30.1 95 9 = 0 ∨ s30.1 95 8 < s30.1 95 7) ∧ s30.1 95 13 ≤ s30.1 95 8 ∧ (s.1 95 8) ≤ s30.1 95 8) := ps40
    have fr41 : lf_fq [95, 98, 100, 101, 102, 103] 1000000 true s.1 s.2.2 s30.1 s30.2.2 := lf_fq_tr (lf_fq_rf) (lf_fq_wk fr32 rfl (by decide) (by decide))
    have b42 : 0 ≤ s30.1 95 12 ∧ s30.1 95 12 ≤ 2115 := iv_r95_12 hI33
    have b43 : 0 ≤ s30.1 95 13 ∧ s30.1 95 13 ≤ 304 := iv_r95_13 hI33
    have b44 : r31 = 0 → pz_D (a1) (a2) (s.1 98) ((s30.1 98)) (s.1 95 12) ((s30.1 95 12)) ((s30.1 95 13)) := by first | exact fun h9 => pz_DV (ps39 h9) (by omega) (by omega) (by omega) | exact fun h9 => pz_Dm (ps39 h9) (by omega)
    exact hQ r31 s30 hI33 fr41 (show r31 = 0 → pz_D (a1) (a2) (s.1 98) ((s30.1 98)) (s.1 95 12) ((s30.1 95 12)) ((s30.1 95 13)) from by first | with_reducible assumption | omega) (show r31 = 0 → (((s30.1 95 9) = 0 ∨ (s30.1 95 8) < (s30.1 95 7)) ∧ (s30.1 95 13) ≤ (s30.1 95 8) ∧ s.1 95 8 ≤ (s30.1 95 8)) from by first | with_reducible assumption | omega) (show (0 : Int) ≤ r31 ∧ r31 ≤ (5 : Int) from by omega)
  · replace c3 : a1 = 5 := c3
    refine sm_206 hI (show (97 : Int) ≤ 116 ∧ 116 ≤ (119 : Int) from by omega) (show (97 : Int) ≤ 111 ∧ 111 ≤ (121 : Int) from by omega) (fun r33 => ?_)
    have b48 : 0 ≤ s.1 95 13 ∧ s.1 95 13 ≤ 304 := iv_r95_13 hI
    have b49 : (-2147483648) ≤ s.1 95 9 ∧ s.1 95 9 ≤ 2147483647 := iv_full hI
    have b50 : 0 ≤ s.1 95 8 ∧ s.1 95 8 ≤ 300 := iv_r95_8 hI
    have b51 : 0 ≤ s.1 95 7 ∧ s.1 95 7 ≤ 300 := iv_r95_7 hI
    refine sm_212 hI (show (1 : Int) ≤ a2 ∧ a2 ≤ (2208 : Int) from by omega) (show (0 : Int) ≤ 0 ∧ 0 ≤ (1 : Int) from by omega) (show (3 : Int) ≤ 11 ∧ 11 ≤ (24 : Int) from by omega) (show (0 : Int) ≤ 0 ∧ 0 ≤ (1 : Int) from by omega) (show (11 : Int) ≤ 11 ∧ 11 ≤ (99 : Int) from by omega) (show wk_E ((s.1 98)) ((s.1 95 12)) ((s.1 95 13)) from by first | with_reducible assumption | assumption) (show (s.1 98) ((s.1 95 12)) < 24 from by omega) (show a2 = (s.1 95 12) + 1 + 4 * (s.1 98) ((s.1 95 12)) from by omega) (show ((s.1 95 9) = 0 ∨ (s.1 95 8) < (s.1 95 7)) ∧ (s.1 95 13) ≤ (s.1 95 8) from by omega) (fun r35 s34 hI47 fr46 ps53 ps54 q52 => ?_)
    replace ps53 : r35 = 0 → pz_V ((s.1 98)) (s34.1 98) ((s.1 95 12)) (s34.1 95 12) (s34.1 95 13) (a2 + 1) := ps53
    replace ps54 : r35 = 0 → ((s34.1 95 9 = 0 ∨ s34.1 95 8 < s34.1 95 7) ∧ s34.1 95 13 ≤ s34.1 95 8 ∧ (s.1 95 8) ≤ s34.1 95 8) := ps54
    have fr55 : lf_fq [95, 98, 100, 101, 102, 103] 1000000 true s.1 s.2.2 s34.1 s34.2.2 := lf_fq_tr (lf_fq_rf) (lf_fq_wk fr46 rfl (by decide) (by decide))
    have b56 : 0 ≤ s34.1 95 12 ∧ s34.1 95 12 ≤ 2115 := iv_r95_12 hI47
    have b57 : 0 ≤ s34.1 95 13 ∧ s34.1 95 13 ≤ 304 := iv_r95_13 hI47
    have b58 : r35 = 0 → pz_D (a1) (a2) (s.1 98) ((s34.1 98)) (s.1 95 12) ((s34.1 95 12)) ((s34.1 95 13)) := by first | exact fun h9 => pz_DV (ps53 h9) (by omega) (by omega) (by omega) | exact fun h9 => pz_Dm (ps53 h9) (by omega)
    exact hQ r35 s34 hI47 fr55 (show r35 = 0 → pz_D (a1) (a2) (s.1 98) ((s34.1 98)) (s.1 95 12) ((s34.1 95 12)) ((s34.1 95 13)) from by first | with_reducible assumption | omega) (show r35 = 0 → (((s34.1 95 9) = 0 ∨ (s34.1 95 8) < (s34.1 95 7)) ∧ (s34.1 95 13) ≤ (s34.1 95 8) ∧ s.1 95 8 ≤ (s34.1 95 8)) from by first | with_reducible assumption | omega) (show (0 : Int) ≤ r35 ∧ r35 ≤ (5 : Int) from by omega)
  · replace c3 : a1 = 6 := c3
    refine sm_206 hI (show (97 : Int) ≤ 97 ∧ 97 ≤ (119 : Int) from by omega) (show (97 : Int) ≤ 116 ∧ 116 ≤ (121 : Int) from by omega) (fun r37 => ?_)
    have b62 : 0 ≤ s.1 95 13 ∧ s.1 95 13 ≤ 304 := iv_r95_13 hI
    have b63 : (-2147483648) ≤ s.1 95 9 ∧ s.1 95 9 ≤ 2147483647 := iv_full hI
    have b64 : 0 ≤ s.1 95 8 ∧ s.1 95 8 ≤ 300 := iv_r95_8 hI
    have b65 : 0 ≤ s.1 95 7 ∧ s.1 95 7 ≤ 300 := iv_r95_7 hI
    refine sm_212 hI (show (1 : Int) ≤ a2 ∧ a2 ≤ (2208 : Int) from by omega) (show (0 : Int) ≤ 0 ∧ 0 ≤ (1 : Int) from by omega) (show (3 : Int) ≤ 9 ∧ 9 ≤ (24 : Int) from by omega) (show (0 : Int) ≤ 0 ∧ 0 ≤ (1 : Int) from by omega) (show (11 : Int) ≤ 11 ∧ 11 ≤ (99 : Int) from by omega) (show wk_E ((s.1 98)) ((s.1 95 12)) ((s.1 95 13)) from by first | with_reducible assumption | assumption) (show (s.1 98) ((s.1 95 12)) < 24 from by omega) (show a2 = (s.1 95 12) + 1 + 4 * (s.1 98) ((s.1 95 12)) from by omega) (show ((s.1 95 9) = 0 ∨ (s.1 95 8) < (s.1 95 7)) ∧ (s.1 95 13) ≤ (s.1 95 8) from by omega) (fun r39 s38 hI61 fr60 ps67 ps68 q66 => ?_)
    replace ps67 : r39 = 0 → pz_V ((s.1 98)) (s38.1 98) ((s.1 95 12)) (s38.1 95 12) (s38.1 95 13) (a2 + 1) := ps67
    replace ps68 : r39 = 0 → ((s38.1 95 9 = 0 ∨ s38.1 95 8 < s38.1 95 7) ∧ s38.1 95 13 ≤ s38.1 95 8 ∧ (s.1 95 8) ≤ s38.1 95 8) := ps68
    have fr69 : lf_fq [95, 98, 100, 101, 102, 103] 1000000 true s.1 s.2.2 s38.1 s38.2.2 := lf_fq_tr (lf_fq_rf) (lf_fq_wk fr60 rfl (by decide) (by decide))
    have b70 : 0 ≤ s38.1 95 12 ∧ s38.1 95 12 ≤ 2115 := iv_r95_12 hI61
    have b71 : 0 ≤ s38.1 95 13 ∧ s38.1 95 13 ≤ 304 := iv_r95_13 hI61
    have b72 : r39 = 0 → pz_D (a1) (a2) (s.1 98) ((s38.1 98)) (s.1 95 12) ((s38.1 95 12)) ((s38.1 95 13)) := by first | exact fun h9 => pz_DV (ps67 h9) (by omega) (by omega) (by omega) | exact fun h9 => pz_Dm (ps67 h9) (by omega)
    exact hQ r39 s38 hI61 fr69 (show r39 = 0 → pz_D (a1) (a2) (s.1 98) ((s38.1 98)) (s.1 95 12) ((s38.1 95 12)) ((s38.1 95 13)) from by first | with_reducible assumption | omega) (show r39 = 0 → (((s38.1 95 9) = 0 ∨ (s38.1 95 8) < (s38.1 95 7)) ∧ (s38.1 95 13) ≤ (s38.1 95 8) ∧ s.1 95 8 ≤ (s38.1 95 8)) from by first | with_reducible assumption | omega) (show (0 : Int) ≤ r39 ∧ r39 ≤ (5 : Int) from by omega)
  · replace c3 : a1 = 7 := c3
    refine sm_206 hI (show (97 : Int) ≤ 97 ∧ 97 ≤ (119 : Int) from by omega) (show (97 : Int) ≤ 116 ∧ 116 ≤ (121 : Int) from by omega) (fun r41 => ?_)
    have b76 : 0 ≤ s.1 95 13 ∧ s.1 95 13 ≤ 304 := iv_r95_13 hI
    have b77 : (-2147483648) ≤ s.1 95 9 ∧ s.1 95 9 ≤ 2147483647 := iv_full hI
    have b78 : 0 ≤ s.1 95 8 ∧ s.1 95 8 ≤ 300 := iv_r95_8 hI
    have b79 : 0 ≤ s.1 95 7 ∧ s.1 95 7 ≤ 300 := iv_r95_7 hI
    refine sm_212 hI (show (1 : Int) ≤ a2 ∧ a2 ≤ (2208 : Int) from by omega) (show (0 : Int) ≤ 1 ∧ 1 ≤ (1 : Int) from by omega) (show (3 : Int) ≤ 24 ∧ 24 ≤ (24 : Int) from by omega) (show (0 : Int) ≤ 0 ∧ 0 ≤ (1 : Int) from by omega) (show (11 : Int) ≤ 11 ∧ 11 ≤ (99 : Int) from by omega) (show wk_E ((s.1 98)) ((s.1 95 12)) ((s.1 95 13)) from by first | with_reducible assumption | assumption) (show (s.1 98) ((s.1 95 12)) < 24 from by omega) (show a2 = (s.1 95 12) + 1 + 4 * (s.1 98) ((s.1 95 12)) from by omega) (show ((s.1 95 9) = 0 ∨ (s.1 95 8) < (s.1 95 7)) ∧ (s.1 95 13) ≤ (s.1 95 8) from by omega) (fun r43 s42 hI75 fr74 ps81 ps82 q80 => ?_)
    replace ps81 : r43 = 0 → pz_V ((s.1 98)) (s42.1 98) ((s.1 95 12)) (s42.1 95 12) (s42.1 95 13) (a2 + 1) := ps81
    replace ps82 : r43 = 0 → ((s42.1 95 9 = 0 ∨ s42.1 95 8 < s42.1 95 7) ∧ s42.1 95 13 ≤ s42.1 95 8 ∧ (s.1 95 8) ≤ s42.1 95 8) := ps82
    have fr83 : lf_fq [95, 98, 100, 101, 102, 103] 1000000 true s.1 s.2.2 s42.1 s42.2.2 := lf_fq_tr (lf_fq_rf) (lf_fq_wk fr74 rfl (by decide) (by decide))
    have b84 : 0 ≤ s42.1 95 12 ∧ s42.1 95 12 ≤ 2115 := iv_r95_12 hI75
    have b85 : 0 ≤ s42.1 95 13 ∧ s42.1 95 13 ≤ 304 := iv_r95_13 hI75
    have b86 : r43 = 0 → pz_D (a1) (a2) (s.1 98) ((s42.1 98)) (s.1 95 12) ((s42.1 95 12)) ((s42.1 95 13)) := by first | exact fun h9 => pz_DV (ps81 h9) (by omega) (by omega) (by omega) | exact fun h9 => pz_Dm (ps81 h9) (by omega)
    exact hQ r43 s42 hI75 fr83 (show r43 = 0 → pz_D (a1) (a2) (s.1 98) ((s42.1 98)) (s.1 95 12) ((s42.1 95 12)) ((s42.1 95 13)) from by first | with_reducible assumption | omega) (show r43 = 0 → (((s42.1 95 9) = 0 ∨ (s42.1 95 8) < (s42.1 95 7)) ∧ (s42.1 95 13) ≤ (s42.1 95 8) ∧ s.1 95 8 ≤ (s42.1 95 8)) from by first | with_reducible assumption | omega) (show (0 : Int) ≤ r43 ∧ r43 ≤ (5 : Int) from by omega)
  · replace c3 : a1 = 8 := c3
    refine sm_206 hI (show (97 : Int) ≤ 116 ∧ 116 ≤ (119 : Int) from by omega) (show (97 : Int) ≤ 111 ∧ 111 ≤ (121 : Int) from by omega) (fun r45 => ?_)
    have b90 : 0 ≤ s.1 95 13 ∧ s.1 95 13 ≤ 304 := iv_r95_13 hI
    have b91 : (-2147483648) ≤ s.1 95 9 ∧ s.1 95 9 ≤ 2147483647 := iv_full hI
    have b92 : 0 ≤ s.1 95 8 ∧ s.1 95 8 ≤ 300 := iv_r95_8 hI
    have b93 : 0 ≤ s.1 95 7 ∧ s.1 95 7 ≤ 300 := iv_r95_7 hI
    refine sm_212 hI (show (1 : Int) ≤ a2 ∧ a2 ≤ (2208 : Int) from by omega) (show (0 : Int) ≤ 0 ∧ 0 ≤ (1 : Int) from by omega) (show (3 : Int) ≤ 5 ∧ 5 ≤ (24 : Int) from by omega) (show (0 : Int) ≤ 0 ∧ 0 ≤ (1 : Int) from by omega) (show (11 : Int) ≤ 11 ∧ 11 ≤ (99 : Int) from by omega) (show wk_E ((s.1 98)) ((s.1 95 12)) ((s.1 95 13)) from by first | with_reducible assumption | assumption) (show (s.1 98) ((s.1 95 12)) < 24 from by omega) (show a2 = (s.1 95 12) + 1 + 4 * (s.1 98) ((s.1 95 12)) from by omega) (show ((s.1 95 9) = 0 ∨ (s.1 95 8) < (s.1 95 7)) ∧ (s.1 95 13) ≤ (s.1 95 8) from by omega) (fun r47 s46 hI89 fr88 ps95 ps96 q94 => ?_)
    replace ps95 : r47 = 0 → pz_V ((s.1 98)) (s46.1 98) ((s.1 95 12)) (s46.1 95 12) (s46.1 95 13) (a2 + 1) := ps95
    replace ps96 : r47 = 0 → ((s46.1 95 9 = 0 ∨ s46.1 95 8 < s46.1 95 7) ∧ s46.1 95 13 ≤ s46.1 95 8 ∧ (s.1 95 8) ≤ s46.1 95 8) := ps96
    have fr97 : lf_fq [95, 98, 100, 101, 102, 103] 1000000 true s.1 s.2.2 s46.1 s46.2.2 := lf_fq_tr (lf_fq_rf) (lf_fq_wk fr88 rfl (by decide) (by decide))
    have b98 : 0 ≤ s46.1 95 12 ∧ s46.1 95 12 ≤ 2115 := iv_r95_12 hI89
    have b99 : 0 ≤ s46.1 95 13 ∧ s46.1 95 13 ≤ 304 := iv_r95_13 hI89
    have b100 : r47 = 0 → pz_D (a1) (a2) (s.1 98) ((s46.1 98)) (s.1 95 12) ((s46.1 95 12)) ((s46.1 95 13)) := by first | exact fun h9 => pz_DV (ps95 h9) (by omega) (by omega) (by omega) | exact fun h9 => pz_Dm (ps95 h9) (by omega)
    exact hQ r47 s46 hI89 fr97 (show r47 = 0 → pz_D (a1) (a2) (s.1 98) ((s46.1 98)) (s.1 95 12) ((s46.1 95 12)) ((s46.1 95 13)) from by first | with_reducible assumption | omega) (show r47 = 0 → (((s46.1 95 9) = 0 ∨ (s46.1 95 8) < (s46.1 95 7)) ∧ (s46.1 95 13) ≤ (s46.1 95 8) ∧ s.1 95 8 ≤ (s46.1 95 8)) from by first | with_reducible assumption | omega) (show (0 : Int) ≤ r47 ∧ r47 ≤ (5 : Int) from by omega)
  · replace c3 : a1 = 9 := c3
    have b103 : 0 ≤ s.1 95 13 ∧ s.1 95 13 ≤ 304 := iv_r95_13 hI
    have b104 : (-2147483648) ≤ s.1 95 9 ∧ s.1 95 9 ≤ 2147483647 := iv_full hI
    have b105 : 0 ≤ s.1 95 8 ∧ s.1 95 8 ≤ 300 := iv_r95_8 hI
    have b106 : 0 ≤ s.1 95 7 ∧ s.1 95 7 ≤ 300 := iv_r95_7 hI
    refine sm_213 hI (show (2 : Int) ≤ a2 + 1 ∧ a2 + 1 ≤ (2210 : Int) from by omega) (show (0 : Int) ≤ 0 ∧ 0 ≤ (1 : Int) from by omega) (show (3 : Int) ≤ 15 ∧ 15 ≤ (99 : Int) from by omega) (show wk_E ((s.1 98)) ((s.1 95 12)) ((s.1 95 13)) from by first | with_reducible assumption | assumption) (show (s.1 98) ((s.1 95 12)) < 24 from by omega) (show (s.1 95 12) + 1 + 4 * (s.1 98) ((s.1 95 12)) + 1 ≤ (a2 + 1) ∧ (a2 + 1) ≤ (s.1 95 12) + 1 + 4 * (s.1 98) ((s.1 95 12)) + 2 from by omega) (show ((s.1 95 9) = 0 ∨ (s.1 95 8) < (s.1 95 7)) ∧ (s.1 95 13) ≤ (s.1 95 8) from by omega) (fun r49 s48 hI102 fr101 ps108 ps109 q107 => ?_)
    replace ps108 : r49 = 0 → pz_V ((s.1 98)) (s48.1 98) ((s.1 95 12)) (s48.1 95 12) (s48.1 95 13) ((a2 + 1)) := ps108
    replace ps109 : r49 = 0 → ((s48.1 95 9 = 0 ∨ s48.1 95 8 < s48.1 95 7) ∧ s48.1 95 13 ≤ s48.1 95 8 ∧ (s.1 95 8) ≤ s48.1 95 8) := ps109
    have fr110 : lf_fq [95, 98, 100, 101, 102, 103] 1000000 true s.1 s.2.2 s48.1 s48.2.2 := lf_fq_tr (lf_fq_rf) (lf_fq_wk fr101 rfl (by decide) (by decide))
    have b111 : 0 ≤ s48.1 95 12 ∧ s48.1 95 12 ≤ 2115 := iv_r95_12 hI102
    have b112 : 0 ≤ s48.1 95 13 ∧ s48.1 95 13 ≤ 304 := iv_r95_13 hI102
    have b113 : r49 = 0 → pz_D (a1) (a2) (s.1 98) ((s48.1 98)) (s.1 95 12) ((s48.1 95 12)) ((s48.1 95 13)) := by first | exact fun h9 => pz_DV (ps108 h9) (by omega) (by omega) (by omega) | exact fun h9 => pz_Dm (ps108 h9) (by omega)
    exact hQ r49 s48 hI102 fr110 (show r49 = 0 → pz_D (a1) (a2) (s.1 98) ((s48.1 98)) (s.1 95 12) ((s48.1 95 12)) ((s48.1 95 13)) from by first | with_reducible assumption | omega) (show r49 = 0 → (((s48.1 95 9) = 0 ∨ (s48.1 95 8) < (s48.1 95 7)) ∧ (s48.1 95 13) ≤ (s48.1 95 8) ∧ s.1 95 8 ≤ (s48.1 95 8)) from by first | with_reducible assumption | omega) (show (0 : Int) ≤ r49 ∧ r49 ≤ (5 : Int) from by omega)
  · replace c3 : a1 = 10 := c3
    have b116 : 0 ≤ s.1 95 13 ∧ s.1 95 13 ≤ 304 := iv_r95_13 hI
    have b117 : (-2147483648) ≤ s.1 95 9 ∧ s.1 95 9 ≤ 2147483647 := iv_full hI
    have b118 : 0 ≤ s.1 95 8 ∧ s.1 95 8 ≤ 300 := iv_r95_8 hI
    have b119 : 0 ≤ s.1 95 7 ∧ s.1 95 7 ≤ 300 := iv_r95_7 hI
    refine sm_213 hI (show (2 : Int) ≤ a2 + 1 ∧ a2 + 1 ≤ (2210 : Int) from by omega) (show (0 : Int) ≤ 0 ∧ 0 ≤ (1 : Int) from by omega) (show (3 : Int) ≤ 15 ∧ 15 ≤ (99 : Int) from by omega) (show wk_E ((s.1 98)) ((s.1 95 12)) ((s.1 95 13)) from by first | with_reducible assumption | assumption) (show (s.1 98) ((s.1 95 12)) < 24 from by omega) (show (s.1 95 12) + 1 + 4 * (s.1 98) ((s.1 95 12)) + 1 ≤ (a2 + 1) ∧ (a2 + 1) ≤ (s.1 95 12) + 1 + 4 * (s.1 98) ((s.1 95 12)) + 2 from by omega) (show ((s.1 95 9) = 0 ∨ (s.1 95 8) < (s.1 95 7)) ∧ (s.1 95 13) ≤ (s.1 95 8) from by omega) (fun r51 s50 hI115 fr114 ps121 ps122 q120 => ?_)
    replace ps121 : r51 = 0 → pz_V ((s.1 98)) (s50.1 98) ((s.1 95 12)) (s50.1 95 12) (s50.1 95 13) ((a2 + 1)) := ps121
    replace ps122 : r51 = 0 → ((s50.1 95 9 = 0 ∨ s50.1 95 8 < s50.1 95 7) ∧ s50.1 95 13 ≤ s50.1 95 8 ∧ (s.1 95 8) ≤ s50.1 95 8) := ps122
    have fr123 : lf_fq [95, 98, 100, 101, 102, 103] 1000000 true s.1 s.2.2 s50.1 s50.2.2 := lf_fq_tr (lf_fq_rf) (lf_fq_wk fr114 rfl (by decide) (by decide))
    have b124 : 0 ≤ s50.1 95 12 ∧ s50.1 95 12 ≤ 2115 := iv_r95_12 hI115
    have b125 : 0 ≤ s50.1 95 13 ∧ s50.1 95 13 ≤ 304 := iv_r95_13 hI115
    have b126 : r51 = 0 → pz_D (a1) (a2) (s.1 98) ((s50.1 98)) (s.1 95 12) ((s50.1 95 12)) ((s50.1 95 13)) := by first | exact fun h9 => pz_DV (ps121 h9) (by omega) (by omega) (by omega) | exact fun h9 => pz_Dm (ps121 h9) (by omega)
    exact hQ r51 s50 hI115 fr123 (show r51 = 0 → pz_D (a1) (a2) (s.1 98) ((s50.1 98)) (s.1 95 12) ((s50.1 95 12)) ((s50.1 95 13)) from by first | with_reducible assumption | omega) (show r51 = 0 → (((s50.1 95 9) = 0 ∨ (s50.1 95 8) < (s50.1 95 7)) ∧ (s50.1 95 13) ≤ (s50.1 95 8) ∧ s.1 95 8 ≤ (s50.1 95 8)) from by first | with_reducible assumption | omega) (show (0 : Int) ≤ r51 ∧ r51 ≤ (5 : Int) from by omega)
  · replace c3 : a1 = 11 := c3
    refine sm_206 hI (show (97 : Int) ≤ 98 ∧ 98 ≤ (119 : Int) from by omega) (show (97 : Int) ≤ 121 ∧ 121 ≤ (121 : Int) from by omega) (fun r53 => ?_)
    have b130 : 0 ≤ s.1 95 13 ∧ s.1 95 13 ≤ 304 := iv_r95_13 hI
    have b131 : (-2147483648) ≤ s.1 95 9 ∧ s.1 95 9 ≤ 2147483647 := iv_full hI
    have b132 : 0 ≤ s.1 95 8 ∧ s.1 95 8 ≤ 300 := iv_r95_8 hI
    have b133 : 0 ≤ s.1 95 7 ∧ s.1 95 7 ≤ 300 := iv_r95_7 hI
    refine sm_212 hI (show (1 : Int) ≤ a2 ∧ a2 ≤ (2208 : Int) from by omega) (show (0 : Int) ≤ 0 ∧ 0 ≤ (1 : Int) from by omega) (show (3 : Int) ≤ 3 ∧ 3 ≤ (24 : Int) from by omega) (show (0 : Int) ≤ 1 ∧ 1 ≤ (1 : Int) from by omega) (show (11 : Int) ≤ 24 ∧ 24 ≤ (99 : Int) from by omega) (show wk_E ((s.1 98)) ((s.1 95 12)) ((s.1 95 13)) from by first | with_reducible assumption | assumption) (show (s.1 98) ((s.1 95 12)) < 24 from by omega) (show a2 = (s.1 95 12) + 1 + 4 * (s.1 98) ((s.1 95 12)) from by omega) (show ((s.1 95 9) = 0 ∨ (s.1 95 8) < (s.1 95 7)) ∧ (s.1 95 13) ≤ (s.1 95 8) from by omega) (fun r55 s54 hI129 fr128 ps135 ps136 q134 => ?_)
    replace ps135 : r55 = 0 → pz_V ((s.1 98)) (s54.1 98) ((s.1 95 12)) (s54.1 95 12) (s54.1 95 13) (a2 + 1) := ps135
    replace ps136 : r55 = 0 → ((s54.1 95 9 = 0 ∨ s54.1 95 8 < s54.1 95 7) ∧ s54.1 95 13 ≤ s54.1 95 8 ∧ (s.1 95 8) ≤ s54.1 95 8) := ps136
    have fr137 : lf_fq [95, 98, 100, 101, 102, 103] 1000000 true s.1 s.2.2 s54.1 s54.2.2 := lf_fq_tr (lf_fq_rf) (lf_fq_wk fr128 rfl (by decide) (by decide))
    have b138 : 0 ≤ s54.1 95 12 ∧ s54.1 95 12 ≤ 2115 := iv_r95_12 hI129
    have b139 : 0 ≤ s54.1 95 13 ∧ s54.1 95 13 ≤ 304 := iv_r95_13 hI129
    have b140 : r55 = 0 → pz_D (a1) (a2) (s.1 98) ((s54.1 98)) (s.1 95 12) ((s54.1 95 12)) ((s54.1 95 13)) := by first | exact fun h9 => pz_DV (ps135 h9) (by omega) (by omega) (by omega) | exact fun h9 => pz_Dm (ps135 h9) (by omega)
    exact hQ r55 s54 hI129 fr137 (show r55 = 0 → pz_D (a1) (a2) (s.1 98) ((s54.1 98)) (s.1 95 12) ((s54.1 95 12)) ((s54.1 95 13)) from by first | with_reducible assumption | omega) (show r55 = 0 → (((s54.1 95 9) = 0 ∨ (s54.1 95 8) < (s54.1 95 7)) ∧ (s54.1 95 13) ≤ (s54.1 95 8) ∧ s.1 95 8 ≤ (s54.1 95 8)) from by first | with_reducible assumption | omega) (show (0 : Int) ≤ r55 ∧ r55 ≤ (5 : Int) from by omega)
  · replace c3 : a1 = 12 := c3
    have b143 : 0 ≤ s.1 95 13 ∧ s.1 95 13 ≤ 304 := iv_r95_13 hI
    have b144 : (-2147483648) ≤ s.1 95 9 ∧ s.1 95 9 ≤ 2147483647 := iv_full hI
    have b145 : 0 ≤ s.1 95 8 ∧ s.1 95 8 ≤ 300 := iv_r95_8 hI
    have b146 : 0 ≤ s.1 95 7 ∧ s.1 95 7 ≤ 300 := iv_r95_7 hI
    refine sm_213 hI (show (2 : Int) ≤ a2 + 1 ∧ a2 + 1 ≤ (2210 : Int) from by omega) (show (0 : Int) ≤ 1 ∧ 1 ≤ (1 : Int) from by omega) (show (3 : Int) ≤ 60 ∧ 60 ≤ (99 : Int) from by omega) (show wk_E ((s.1 98)) ((s.1 95 12)) ((s.1 95 13)) from by first | with_reducible assumption | assumption) (show (s.1 98) ((s.1 95 12)) < 24 from by omega) (show (s.1 95 12) + 1 + 4 * (s.1 98) ((s.1 95 12)) + 1 ≤ (a2 + 1) ∧ (a2 + 1) ≤ (s.1 95 12) + 1 + 4 * (s.1 98) ((s.1 95 12)) + 2 from by omega) (show ((s.1 95 9) = 0 ∨ (s.1 95 8) < (s.1 95 7)) ∧ (s.1 95 13) ≤ (s.1 95 8) from by omega) (fun r57 s56 hI142 fr141 ps148 ps149 q147 => ?_)
    replace ps148 : r57 = 0 → pz_V ((s.1 98)) (s56.1 98) ((s.1 95 12)) (s56.1 95 12) (s56.1 95 13) ((a2 + 1)) := ps148
    replace ps149 : r57 = 0 → ((s56.1 95 9 = 0 ∨ s56.1 95 8 < s56.1 95 7) ∧ s56.1 95 13 ≤ s56.1 95 8 ∧ (s.1 95 8) ≤ s56.1 95 8) := ps149
    have fr150 : lf_fq [95, 98, 100, 101, 102, 103] 1000000 true s.1 s.2.2 s56.1 s56.2.2 := lf_fq_tr (lf_fq_rf) (lf_fq_wk fr141 rfl (by decide) (by decide))
    have b151 : 0 ≤ s56.1 95 12 ∧ s56.1 95 12 ≤ 2115 := iv_r95_12 hI142
    have b152 : 0 ≤ s56.1 95 13 ∧ s56.1 95 13 ≤ 304 := iv_r95_13 hI142
    have b153 : r57 = 0 → pz_D (a1) (a2) (s.1 98) ((s56.1 98)) (s.1 95 12) ((s56.1 95 12)) ((s56.1 95 13)) := by first | exact fun h9 => pz_DV (ps148 h9) (by omega) (by omega) (by omega) | exact fun h9 => pz_Dm (ps148 h9) (by omega)
    exact hQ r57 s56 hI142 fr150 (show r57 = 0 → pz_D (a1) (a2) (s.1 98) ((s56.1 98)) (s.1 95 12) ((s56.1 95 12)) ((s56.1 95 13)) from by first | with_reducible assumption | omega) (show r57 = 0 → (((s56.1 95 9) = 0 ∨ (s56.1 95 8) < (s56.1 95 7)) ∧ (s56.1 95 13) ≤ (s56.1 95 8) ∧ s.1 95 8 ≤ (s56.1 95 8)) from by first | with_reducible assumption | omega) (show (0 : Int) ≤ r57 ∧ r57 ≤ (5 : Int) from by omega)
