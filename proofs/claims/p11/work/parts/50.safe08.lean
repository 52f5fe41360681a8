-- fm_210 Model.has i i
theorem sm_210 {a0 : Int} {a1 : Int} {Q : Bool → lf_Z → Prop} {s : lf_Z} (hI : iv_A s.1 s.2.2) (ba0 : (-2147483648) ≤ a0 ∧ a0 ≤ 2147483647) (ba1 : (-1) ≤ a1 ∧ a1 ≤ 15) (hQ : ∀ (z : Bool), ((z = true → (lf_and (lf_shr a0 a1) 1 = 1)) ∧ (z = false → ¬ (lf_and (lf_shr a0 a1) 1 = 1))) → Q z s) : fm_210 a0 a1 Q s := by
  unfold fm_210
  exact ⟨fun c => hQ false (lf_pf c), fun c => hQ true (lf_pt (Classical.not_not.mp c))⟩
-- fm_202 Model.clause 95
set_option maxHeartbeats 8000000 in
theorem sm_202_p65 {Q : Int → lf_Z → Prop} {x1 : Int} {x2 : Int} {s : lf_Z} {s0 : lf_Z} (hQ : ∀ (r : Int) (s' : lf_Z), iv_A s'.1 s'.2.2 → lf_fq [95, 98, 100, 101, 102, 103] 1000000 true s.1 s.2.2 s'.1 s'.2.2 → (r = 0 → wk_E (s'.1 98) (s'.1 95 12) (s'.1 95 13)) → (r = 0 → ((s'.1 95 9 = 0 ∨ s'.1 95 8 < s'.1 95 7) ∧ s'.1 95 13 ≤ s'.1 95 8 ∧ s0.1 95 8 < s'.1 95 8)) → (0 ≤ r ∧ r ≤ 6) → Q r s') (hI : iv_A s.1 s.2.2) (bx1 : 0 ≤ x1 ∧ x1 ≤ 12) (bx2 : 0 ≤ x2 ∧ x2 ≤ 23) (kv0 : wk_E (s.1 98) (s.1 95 12) (s.1 95 13)) (kv1 : s.1 95 9 ≠ 0) (kv2 : (s.1 95 9 = 0 ∨ s.1 95 8 < s.1 95 7) ∧ s.1 95 13 ≤ s.1 95 8) (kv3 : 0 ≤ x1) (kv4 : s.1 95 8 = s0.1 95 8 ∧ s.1 95 12 = s0.1 95 12) (kv5 : x2 = s.1 98 (s.1 95 12) ∧ x2 < 24) : fm_202_p65 Q x1 x2 s := by
  unfold fm_202_p65
  have b18 : 0 ≤ s.1 95 12 ∧ s.1 95 12 ≤ 2115 := iv_r95_12 hI
  have b19 : 0 ≤ (s.1 98) ((s.1 95 12)) ∧ (s.1 98) ((s.1 95 12)) ≤ 24 ∧ ((s.1 95 12) = 0 ∨ (s.1 95 12) = 705 ∨ (s.1 95 12) = 1410 ∨ (s.1 95 12) = 2115) := ⟨kv0.2.2.1, kv0.2.1, kv0.1⟩
  have hI20 : iv_A (lf_up s.1 95 14 x1) s.2.2 := iv_w95_14 hI (by omega)
  have fr21 : lf_fq [95, 98, 100, 101, 102, 103] 1000000 true s.1 s.2.2 (lf_up s.1 95 14 x1) s.2.2 := lf_fq_up (lf_fq_rf) rfl (fun h => absurd h (by decide))
  refine sm_197 hI20 (fun s27 hI23 fr22 ps25 ps26 => ?_)
  replace ps25 : (s.1 95 7) ≤ s27.1 95 8 ∧ (s27.1 95 9 = 0 ∨ s27.1 95 8 < s27.1 95 7) := ps25
  replace ps26 : s27.1 95 12 = (s.1 95 12) ∧ s27.1 95 13 = (s.1 95 13) ∧ s27.1 95 19 = (s.1 95 19) ∧ s27.1 95 20 = (s.1 95 20) ∧ s27.1 95 21 = (s.1 95 21) ∧ s27.1 95 22 = (s.1 95 22) ∧ s27.1 95 23 = (s.1 95 23) := ps26
  have fr27 : lf_fq [95, 98, 100, 101, 102, 103] 1000000 true s.1 s.2.2 s27.1 s27.2.2 := lf_fq_tr fr21 (lf_fq_wk fr22 rfl (by decide) (by decide))
  have b28 : 0 ≤ s27.1 95 12 ∧ s27.1 95 12 ≤ 2115 := iv_r95_12 hI23
  have b29 : 0 ≤ s27.1 95 13 ∧ s27.1 95 13 ≤ 304 := iv_r95_13 hI23
  have b30 : wk_E ((s27.1 98)) ((s27.1 95 12)) ((s27.1 95 13)) := wk_cE (fr22.1 98 rfl) kv0 (by omega) (by omega)
  have b31 : (s27.1 98) ((s27.1 95 12)) = s.1 98 (s.1 95 12) := lf_ap (fr22.1 98 rfl) (by omega)
  have b32 : ((s27.1 95 12) = 0 ∨ (s27.1 95 12) = 705 ∨ (s27.1 95 12) = 1410 ∨ (s27.1 95 12) = 2115) := by omega
  have b33 : wk_T (lf_up s27.1 98 (((s27.1 95 12) + 1) + (4 * x2)) x1 98) := wk_Tx (wk_TA hI23) (show wk_E ((s27.1 98)) ((s27.1 95 12)) ((s27.1 95 13)) from by first | with_reducible assumption | assumption) (by omega) (wk_hr hI23) (by omega)
  refine ⟨(show (0 : Int) ≤ ((s27.1 95 12) + 1) + (4 * x2) ∧ ((s27.1 95 12) + 1) + (4 * x2) < (2820 : Int) from by omega), ?_⟩
  have hI34 : iv_A (lf_up s27.1 98 (((s27.1 95 12) + 1) + (4 * x2)) x1) s27.2.2 := iv_w98c (t0 := s27.1 95 12) hI23 (by omega) (by omega) (by omega) (by first | with_reducible assumption | assumption)
  have fr35 : lf_fq [95, 98, 100, 101, 102, 103] 1000000 true s.1 s.2.2 (lf_up s27.1 98 (((s27.1 95 12) + 1) + (4 * x2)) x1) s27.2.2 := lf_fq_up fr27 rfl (fun h => absurd h (by decide))
  have b36 : wk_E (((lf_up s27.1 98 (((s27.1 95 12) + 1) + (4 * x2)) x1) 98)) ((s27.1 95 12)) ((s27.1 95 13)) := wk_Ex (by first | with_reducible assumption | assumption) (by omega)
  have b37 : ((lf_up s27.1 98 (((s27.1 95 12) + 1) + (4 * x2)) x1) 98) ((s27.1 95 12)) = s27.1 98 (s27.1 95 12) := lf_up_i (by omega)
  have b38 : ((lf_up s27.1 98 (((s27.1 95 12) + 1) + (4 * x2)) x1) 98) ((((s27.1 95 12) + 1) + (4 * x2))) = x1 := lf_up_s
  have b41 : (-2147483648) ≤ s27.1 95 9 ∧ s27.1 95 9 ≤ 2147483647 := (show (-2147483648) ≤ (lf_up s27.1 98 (((s27.1 95 12) + 1) + (4 * x2)) x1) 95 9 ∧ (lf_up s27.1 98 (((s27.1 95 12) + 1) + (4 * x2)) x1) 95 9 ≤ 2147483647 from iv_full hI34)
  have b42 : 0 ≤ s27.1 95 8 ∧ s27.1 95 8 ≤ 300 := (show 0 ≤ (lf_up s27.1 98 (((s27.1 95 12) + 1) + (4 * x2)) x1) 95 8 ∧ (lf_up s27.1 98 (((s27.1 95 12) + 1) + (4 * x2)) x1) 95 8 ≤ 300 from iv_r95_8 hI34)
  have b43 : 0 ≤ s27.1 95 7 ∧ s27.1 95 7 ≤ 300 := (show 0 ≤ (lf_up s27.1 98 (((s27.1 95 12) + 1) + (4 * x2)) x1) 95 7 ∧ (lf_up s27.1 98 (((s27.1 95 12) + 1) + (4 * x2)) x1) 95 7 ≤ 300 from iv_r95_7 hI34)
  refine sm_211 hI34 (show (0 : Int) ≤ x1 ∧ x1 ≤ (12 : Int) from by omega) (show (1 : Int) ≤ ((s27.1 95 12) + 1) + (4 * x2) ∧ ((s27.1 95 12) + 1) + (4 * x2) ≤ (2208 : Int) from by omega) (show wk_E (((lf_up s27.1 98 (((s27.1 95 12) + 1) + (4 * x2)) x1) 98)) ((s27.1 95 12)) ((s27.1 95 13)) from by first | with_reducible assumption | assumption) (show ((lf_up s27.1 98 (((s27.1 95 12) + 1) + (4 * x2)) x1) 98) ((s27.1 95 12)) < 24 from by omega) (show (((s27.1 95 12) + 1) + (4 * x2)) = (s27.1 95 12) + 1 + 4 * ((lf_up s27.1 98 (((s27.1 95 12) + 1) + (4 * x2)) x1) 98) ((s27.1 95 12)) from by omega) (show ((s27.1 95 9) = 0 ∨ (s27.1 95 8) < (s27.1 95 7)) ∧ (s27.1 95 13) ≤ (s27.1 95 8) from by omega) (fun r30 s29 hI40 fr39 ps45 ps46 q44 => ?_)
  replace ps45 : r30 = 0 → pz_D (x1) ((((s27.1 95 12) + 1) + (4 * x2))) (((lf_up s27.1 98 (((s27.1 95 12) + 1) + (4 * x2)) x1) 98)) (s29.1 98) ((s27.1 95 12)) (s29.1 95 12) (s29.1 95 13) := ps45
  replace ps46 : r30 = 0 → ((s29.1 95 9 = 0 ∨ s29.1 95 8 < s29.1 95 7) ∧ s29.1 95 13 ≤ s29.1 95 8 ∧ (s27.1 95 8) ≤ s29.1 95 8) := ps46
  have fr47 : lf_fq [95, 98, 100, 101, 102, 103] 1000000 true s.1 s.2.2 s29.1 s29.2.2 := lf_fq_tr fr35 (lf_fq_wk fr39 rfl (by decide) (by decide))
  refine ⟨(show lf_R r30 from lf_Rof (by omega)), ?_⟩
  refine ⟨fun c48 => ?_, fun c48 => ?_⟩
  · skip
    replace c48 : r30 = 0 := c48
    have dps45 := ps45 c48
    have dps46 := ps46 c48
    have b49 : 0 ≤ s29.1 95 12 ∧ s29.1 95 12 ≤ 2115 := iv_r95_12 hI40
    have b50 : (s29.1 95 12) = s27.1 95 12 ∧ (s29.1 98) ((s29.1 95 12)) = (lf_up s27.1 98 (((s27.1 95 12) + 1) + (4 * x2)) x1) 98 (s27.1 95 12) := pz_Dn (show pz_D (x1) ((((s27.1 95 12) + 1) + (4 * x2))) ((lf_up s27.1 98 (((s27.1 95 12) + 1) + (4 * x2)) x1) 98) ((s29.1 98)) (s27.1 95 12) ((s29.1 95 12)) ((s29.1 95 13)) from by first | with_reducible assumption | assumption)
    refine ⟨(show (0 : Int) ≤ s29.1 95 12 ∧ s29.1 95 12 < (2820 : Int) from by omega), ?_⟩
    have b51 : (-2147483648) ≤ s29.1 98 (s29.1 95 12) ∧ s29.1 98 (s29.1 95 12) ≤ 2147483647 := iv_full hI40
    have b52 : wk_T (lf_up s29.1 98 (s29.1 95 12) ((s29.1 98 (s29.1 95 12)) + 1) 98) := wk_Tn (wk_TA hI40) (by omega) (wk_hr hI40) (by omega) (fun a b => (pz_Dc (show pz_D (x1) ((((s27.1 95 12) + 1) + (4 * x2))) ((lf_up s27.1 98 (((s27.1 95 12) + 1) + (4 * x2)) x1) 98) ((s29.1 98)) (s27.1 95 12) ((s29.1 95 12)) ((s29.1 95 13)) from by first | with_reducible assumption | assumption) (by omega) (by omega) (by omega) a b).1)
    have b53 : 0 ≤ s29.1 95 13 ∧ s29.1 95 13 ≤ 304 := iv_r95_13 hI40
    have b54 : wk_E (lf_up s29.1 98 (s29.1 95 12) ((s29.1 98 (s29.1 95 12)) + 1) 98) ((s29.1 95 12)) ((s29.1 95 13)) := wk_En (show pz_D (x1) ((((s27.1 95 12) + 1) + (4 * x2))) ((lf_up s27.1 98 (((s27.1 95 12) + 1) + (4 * x2)) x1) 98) ((s29.1 98)) (s27.1 95 12) ((s29.1 95 12)) ((s29.1 95 13)) from by first | with_reducible assumption | assumption).2.1 (by omega) (Int.le_refl _) (fun a b => (pz_Dc (show pz_D (x1) ((((s27.1 95 12) + 1) + (4 * x2))) ((lf_up s27.1 98 (((s27.1 95 12) + 1) + (4 * x2)) x1) 98) ((s29.1 98)) (s27.1 95 12) ((s29.1 95 12)) ((s29.1 95 13)) from by first | with_reducible assumption | assumption) (by omega) (by omega) (by omega) a b).2)
    have hI55 : iv_A (lf_up s29.1 98 (s29.1 95 12) ((s29.1 98 (s29.1 95 12)) + 1)) s29.2.2 := iv_w98z hI40 (by omega) (by omega) (by first | with_reducible assumption | assumption)
    have fr56 : lf_fq [95, 98, 100, 101, 102, 103] 1000000 true s.1 s.2.2 (lf_up s29.1 98 (s29.1 95 12) ((s29.1 98 (s29.1 95 12)) + 1)) s29.2.2 := lf_fq_up fr47 rfl (fun h => absurd h (by decide))
    have b57 : (-2147483648) ≤ s29.1 95 9 ∧ s29.1 95 9 ≤ 2147483647 := (show (-2147483648) ≤ (lf_up s29.1 98 (s29.1 95 12) ((s29.1 98 (s29.1 95 12)) + 1)) 95 9 ∧ (lf_up s29.1 98 (s29.1 95 12) ((s29.1 98 (s29.1 95 12)) + 1)) 95 9 ≤ 2147483647 from iv_full hI55)
    refine ⟨(show lf_R (s29.1 95 9) from lf_Rof (by omega)), ?_⟩
    refine ⟨fun c58 => ?_, fun c58 => ?_⟩
    · skip
      replace c58 : s29.1 95 9 = 59 := c58
      refine sm_197 hI55 (fun s34 hI60 fr59 ps62 ps63 => ?_)
      replace ps62 : (s29.1 95 7) ≤ s34.1 95 8 ∧ (s34.1 95 9 = 0 ∨ s34.1 95 8 < s34.1 95 7) := ps62
      replace ps63 : s34.1 95 12 = (s29.1 95 12) ∧ s34.1 95 13 = (s29.1 95 13) ∧ s34.1 95 19 = (s29.1 95 19) ∧ s34.1 95 20 = (s29.1 95 20) ∧ s34.1 95 21 = (s29.1 95 21) ∧ s34.1 95 22 = (s29.1 95 22) ∧ s34.1 95 23 = (s29.1 95 23) := ps63
      have fr64 : lf_fq [95, 98, 100, 101, 102, 103] 1000000 true s.1 s.2.2 s34.1 s34.2.2 := lf_fq_tr fr56 (lf_fq_wk fr59 rfl (by decide) (by decide))
      have b65 : 0 ≤ s34.1 95 12 ∧ s34.1 95 12 ≤ 2115 := iv_r95_12 hI60
      have b66 : 0 ≤ s34.1 95 13 ∧ s34.1 95 13 ≤ 304 := iv_r95_13 hI60
      have b67 : wk_E ((s34.1 98)) ((s34.1 95 12)) ((s34.1 95 13)) := wk_cE (fr59.1 98 rfl) (by first | with_reducible assumption | assumption) (by omega) (by omega)
      exact hQ 0 s34 hI60 fr64 (show 0 = 0 → wk_E ((s34.1 98)) ((s34.1 95 12)) ((s34.1 95 13)) from fun _ => by first | with_reducible assumption | assumption) (show 0 = 0 → (((s34.1 95 9) = 0 ∨ (s34.1 95 8) < (s34.1 95 7)) ∧ (s34.1 95 13) ≤ (s34.1 95 8) ∧ s0.1 95 8 < (s34.1 95 8)) from fun _ => by omega) (show (0 : Int) ≤ 0 ∧ 0 ≤ (6 : Int) from by omega)
    · skip
      replace c58 : ¬ (s29.1 95 9 = 59) := c58
      exact hQ 1 (lf_up s29.1 98 (s29.1 95 12) ((s29.1 98 (s29.1 95 12)) + 1), s29.2.1, s29.2.2) hI55 fr56 (show 1 = 0 → wk_E (((lf_up s29.1 98 (s29.1 95 12) ((s29.1 98 (s29.1 95 12)) + 1)) 98)) ((s29.1 95 12)) ((s29.1 95 13)) from fun h => absurd h (by decide)) (show 1 = 0 → (((s29.1 95 9) = 0 ∨ (s29.1 95 8) < (s29.1 95 7)) ∧ (s29.1 95 13) ≤ (s29.1 95 8) ∧ s0.1 95 8 < (s29.1 95 8)) from fun h => absurd h (by decide)) (show (0 : Int) ≤ 1 ∧ 1 ≤ (6 : Int) from by omega)
  · skip
    replace c48 : ¬ (r30 = 0) := c48
    exact hQ r30 s29 hI40 fr47 (show r30 = 0 → wk_E ((s29.1 98)) ((s29.1 95 12)) ((s29.1 95 13)) from by first | with_reducible assumption | omega) (show r30 = 0 → (((s29.1 95 9) = 0 ∨ (s29.1 95 8) < (s29.1 95 7)) ∧ (s29.1 95 13) ≤ (s29.1 95 8) ∧ s0.1 95 8 < (s29.1 95 8)) from by first | with_reducible assumption | omega) (show (0 : Int) ≤ r30 ∧ r30 ≤ (6 : Int) from by omega)
theorem sm_202_p29 {Q : Int → lf_Z → Prop} {x1 : Int} {s : lf_Z} {s0 : lf_Z} (hQ : ∀ (r : Int) (s' : lf_Z), iv_A s'.1 s'.2.2 → lf_fq [95, 98, 100, 101, 102, 103] 1000000 true s.1 s.2.2 s'.1 s'.2.2 → (r = 0 → wk_E (s'.1 98) (s'.1 95 12) (s'.1 95 13)) → (r = 0 → ((s'.1 95 9 = 0 ∨ s'.1 95 8 < s'.1 95 7) ∧ s'.1 95 13 ≤ s'.1 95 8 ∧ s0.1 95 8 < s'.1 95 8)) → (0 ≤ r ∧ r ≤ 6) → Q r s') (hI : iv_A s.1 s.2.2) (bx1 : 0 ≤ x1 ∧ x1 ≤ 12) (kv0 : wk_E (s.1 98) (s.1 95 12) (s.1 95 13)) (kv1 : s.1 95 9 ≠ 0) (kv2 : (s.1 95 9 = 0 ∨ s.1 95 8 < s.1 95 7) ∧ s.1 95 13 ≤ s.1 95 8) (kv3 : 0 ≤ x1) (kv4 : s.1 95 8 = s0.1 95 8 ∧ s.1 95 12 = s0.1 95 12) : fm_202_p29 Q x1 s := by
  unfold fm_202_p29
  have b9 : 0 ≤ s.1 95 12 ∧ s.1 95 12 ≤ 2115 := iv_r95_12 hI
  have b10 : 0 ≤ (s.1 98) ((s.1 95 12)) ∧ (s.1 98) ((s.1 95 12)) ≤ 24 ∧ ((s.1 95 12) = 0 ∨ (s.1 95 12) = 705 ∨ (s.1 95 12) = 1410 ∨ (s.1 95 12) = 2115) := ⟨kv0.2.2.1, kv0.2.1, kv0.1⟩
  refine ⟨(show (0 : Int) ≤ s.1 95 12 ∧ s.1 95 12 < (2820 : Int) from by omega), ?_⟩
  have b11 : (-2147483648) ≤ s.1 98 (s.1 95 12) ∧ s.1 98 (s.1 95 12) ≤ 2147483647 := iv_full hI
  refine ⟨(show lf_R (s.1 98 (s.1 95 12)) from lf_Rof (by omega)), ?_⟩
  refine ⟨fun c12 => ?_, fun c12 => ?_⟩
  · skip
    replace c12 : s.1 98 (s.1 95 12) ≠ 24 := c12
    refine ⟨(show lf_R x1 from lf_Rof (by omega)), ?_⟩
    refine ⟨fun c13 => ?_, fun c13 => ?_⟩
    · skip
      replace c13 : 2 < x1 := c13
      have b14 : 0 ≤ s.1 95 13 ∧ s.1 95 13 ≤ 304 := iv_r95_13 hI
      have b15 : (-2147483648) ≤ s.1 95 9 ∧ s.1 95 9 ≤ 2147483647 := iv_full hI
      have b16 : 0 ≤ s.1 95 8 ∧ s.1 95 8 ≤ 300 := iv_r95_8 hI
      have b17 : 0 ≤ s.1 95 7 ∧ s.1 95 7 ≤ 300 := iv_r95_7 hI
      exact sm_202_p65 (s0 := s0) hQ hI (show (0 : Int) ≤ x1 ∧ x1 ≤ (12 : Int) from by omega) (show (0 : Int) ≤ s.1 98 (s.1 95 12) ∧ s.1 98 (s.1 95 12) ≤ (23 : Int) from by omega) (show wk_E ((s.1 98)) ((s.1 95 12)) ((s.1 95 13)) from by first | with_reducible assumption | assumption) (show (s.1 95 9) ≠ 0 from by omega) (show ((s.1 95 9) = 0 ∨ (s.1 95 8) < (s.1 95 7)) ∧ (s.1 95 13) ≤ (s.1 95 8) from by omega) (show 0 ≤ x1 from by omega) (show (s.1 95 8) = s0.1 95 8 ∧ (s.1 95 12) = s0.1 95 12 from by omega) (show (s.1 98 (s.1 95 12)) = (s.1 98) ((s.1 95 12)) ∧ (s.1 98 (s.1 95 12)) < 24 from by omega)
    · skip
      replace c13 : ¬ (2 < x1) := c13
      have b68 : (-2147483648) ≤ s.1 95 24 ∧ s.1 95 24 ≤ 2147483647 := iv_full hI
      have b69 : 1 ≤ lf_shl 1 x1 ∧ lf_shl 1 x1 ≤ 4 := lf_shl1 (m := 2) (by omega) (by omega) (by decide)
      have b70 : (-2147483648) ≤ lf_or (s.1 95 24) (lf_shl 1 x1) ∧ lf_or (s.1 95 24) (lf_shl 1 x1) ≤ 2147483647 := lf_orB
      have hI71 : iv_A (lf_up s.1 95 24 (lf_or (s.1 95 24) (lf_shl 1 x1))) s.2.2 := iv_w95_24 hI (by omega)
      have fr72 : lf_fq [95, 98, 100, 101, 102, 103] 1000000 true s.1 s.2.2 (lf_up s.1 95 24 (lf_or (s.1 95 24) (lf_shl 1 x1))) s.2.2 := lf_fq_up (lf_fq_rf) rfl (fun h => absurd h (by decide))
      have b73 : (lf_up s.1 95 24 (lf_or (s.1 95 24) (lf_shl 1 x1))) 95 12 = s.1 95 12 := lf_up_i (by omega)
      have b74 : 0 ≤ s.1 95 13 ∧ s.1 95 13 ≤ 304 := (show 0 ≤ (lf_up s.1 95 24 (lf_or (s.1 95 24) (lf_shl 1 x1))) 95 13 ∧ (lf_up s.1 95 24 (lf_or (s.1 95 24) (lf_shl 1 x1))) 95 13 ≤ 304 from iv_r95_13 hI71)
      have b75 : (lf_up s.1 95 24 (lf_or (s.1 95 24) (lf_shl 1 x1))) 95 13 = s.1 95 13 := lf_up_i (by omega)
      have b76 : (-2147483648) ≤ s.1 95 9 ∧ s.1 95 9 ≤ 2147483647 := (show (-2147483648) ≤ (lf_up s.1 95 24 (lf_or (s.1 95 24) (lf_shl 1 x1))) 95 9 ∧ (lf_up s.1 95 24 (lf_or (s.1 95 24) (lf_shl 1 x1))) 95 9 ≤ 2147483647 from iv_full hI71)
      have b77 : (lf_up s.1 95 24 (lf_or (s.1 95 24) (lf_shl 1 x1))) 95 9 = s.1 95 9 := lf_up_i (by omega)
      have b78 : 0 ≤ s.1 95 8 ∧ s.1 95 8 ≤ 300 := (show 0 ≤ (lf_up s.1 95 24 (lf_or (s.1 95 24) (lf_shl 1 x1))) 95 8 ∧ (lf_up s.1 95 24 (lf_or (s.1 95 24) (lf_shl 1 x1))) 95 8 ≤ 300 from iv_r95_8 hI71)
      have b79 : (lf_up s.1 95 24 (lf_or (s.1 95 24) (lf_shl 1 x1))) 95 8 = s.1 95 8 := lf_up_i (by omega)
      have b80 : 0 ≤ s.1 95 7 ∧ s.1 95 7 ≤ 300 := (show 0 ≤ (lf_up s.1 95 24 (lf_or (s.1 95 24) (lf_shl 1 x1))) 95 7 ∧ (lf_up s.1 95 24 (lf_or (s.1 95 24) (lf_shl 1 x1))) 95 7 ≤ 300 from iv_r95_7 hI71)
      have b81 : (lf_up s.1 95 24 (lf_or (s.1 95 24) (lf_shl 1 x1))) 95 7 = s.1 95 7 := lf_up_i (by omega)
      exact sm_202_p65 (s0 := s0) (fun r9 t9 i9 f9 => hQ r9 t9 i9 (lf_fq_tr fr72 f9)) hI71 (show (0 : Int) ≤ x1 ∧ x1 ≤ (12 : Int) from by omega) (show (0 : Int) ≤ s.1 98 (s.1 95 12) ∧ s.1 98 (s.1 95 12) ≤ (23 : Int) from by omega) (show wk_E ((s.1 98)) ((s.1 95 12)) ((s.1 95 13)) from by first | with_reducible assumption | assumption) (show (s.1 95 9) ≠ 0 from by omega) (show ((s.1 95 9) = 0 ∨ (s.1 95 8) < (s.1 95 7)) ∧ (s.1 95 13) ≤ (s.1 95 8) from by omega) (show 0 ≤ x1 from by omega) (show (s.1 95 8) = s0.1 95 8 ∧ (s.1 95 12) = s0.1 95 12 from by omega) (show (s.1 98 (s.1 95 12)) = (s.1 98) ((s.1 95 12)) ∧ (s.1 98 (s.1 95 12)) < 24 from by omega)
  · skip
    replace c12 : ¬ (s.1 98 (s.1 95 12) ≠ 24) := c12
    exact hQ 6 s hI (lf_fq_rf) (show 6 = 0 → wk_E ((s.1 98)) ((s.1 95 12)) ((s.1 95 13)) from fun h => absurd h (by decide)) (show 6 = 0 → (((s.1 95 9) = 0 ∨ (s.1 95 8) < (s.1 95 7)) ∧ (s.1 95 13) ≤ (s.1 95 8) ∧ s0.1 95 8 < (s.1 95 8)) from fun h => absurd h (by decide)) (show (0 : Int) ≤ 6 ∧ 6 ≤ (6 : Int) from by omega)
theorem sm_202 {Q : Int → lf_Z → Prop} {s : lf_Z} (hI : iv_A s.1 s.2.2) (kp0 : wk_E (s.1 98) (s.1 95 12) (s.1 95 13)) (kp1 : s.1 95 9 ≠ 0) (kp2 : (s.1 95 9 = 0 ∨ s.1 95 8 < s.1 95 7) ∧ s.1 95 13 ≤ s.1 95 8) (hQ : ∀ (r : Int) (s' : lf_Z), iv_A s'.1 s'.2.2 → lf_fq [95, 98, 100, 101, 102, 103] 1000000 true s.1 s.2.2 s'.1 s'.2.2 → (r = 0 → wk_E (s'.1 98) (s'.1 95 12) (s'.1 95 13)) → (r = 0 → ((s'.1 95 9 = 0 ∨ s'.1 95 8 < s'.1 95 7) ∧ s'.1 95 13 ≤ s'.1 95 8 ∧ s.1 95 8 < s'.1 95 8)) → (0 ≤ r ∧ r ≤ 6) → Q r s') : fm_202 Q s := by
  unfold fm_202
  refine sm_203 hI (fun r22 q1 => ?_)
  refine ⟨(show lf_R r22 from lf_Rof (by omega)), ?_⟩
  refine ⟨fun c2 => ?_, fun c2 => ?_⟩
  · skip
    replace c2 : 0 ≤ r22 := c2
    refine ⟨fun c3 => ?_, fun c3 => ?_⟩
    · skip
      replace c3 : 2 < r22 := c3
      have b4 : 0 ≤ s.1 95 12 ∧ s.1 95 12 ≤ 2115 := iv_r95_12 hI
      have b5 : 0 ≤ s.1 95 13 ∧ s.1 95 13 ≤ 304 := iv_r95_13 hI
      have b6 : (-2147483648) ≤ s.1 95 9 ∧ s.1 95 9 ≤ 2147483647 := iv_full hI
      have b7 : 0 ≤ s.1 95 8 ∧ s.1 95 8 ≤ 300 := iv_r95_8 hI
      have b8 : 0 ≤ s.1 95 7 ∧ s.1 95 7 ≤ 300 := iv_r95_7 hI
      exact sm_202_p29 (s0 := s) hQ hI (show (0 : Int) ≤ r22 ∧ r22 ≤ (12 : Int) from by omega) (show wk_E ((s.1 98)) ((s.1 95 12)) ((s.1 95 13)) from by first | with_reducible assumption | assumption) (show (s.1 95 9) ≠ 0 from by omega) (show ((s.1 95 9) = 0 ∨ (s.1 95 8) < (s.1 95 7)) ∧ (s.1 95 13) ≤ (s.1 95 8) from by omega) (show 0 ≤ r22 from by omega) (show (s.1 95 8) = s.1 95 8 ∧ (s.1 95 12) = s.1 95 12 from by omega)
    · skip
      replace c3 : ¬ (2 < r22) := c3
      have b82 : (-2147483648) ≤ s.1 95 24 ∧ s.1 95 24 ≤ 2147483647 := iv_full hI
      refine sm_210 hI (show (-2147483648 : Int) ≤ s.1 95 24 ∧ s.1 95 24 ≤ (2147483647 : Int) from by omega) (show (-1 : Int) ≤ r22 ∧ r22 ≤ (15 : Int) from by omega) (fun z36 q83 => ?_)
      refine ⟨fun c84 => ?_, fun c84 => ?_⟩
      · skip
        have dc84 := q83.2 c84
        have b85 : 0 ≤ s.1 95 12 ∧ s.1 95 12 ≤ 2115 := iv_r95_12 hI
        have b86 : 0 ≤ s.1 95 13 ∧ s.1 95 13 ≤ 304 := iv_r95_13 hI
        have b87 : (-2147483648) ≤ s.1 95 9 ∧ s.1 95 9 ≤ 2147483647 := iv_full hI
        have b88 : 0 ≤ s.1 95 8 ∧ s.1 95 8 ≤ 300 := iv_r95_8 hI
        have b89 : 0 ≤ s.1 95 7 ∧ s.1 95 7 ≤ 300 := iv_r95_7 hI
        exact sm_202_p29 (s0 := s) hQ hI (show (0 : Int) ≤ r22 ∧ r22 ≤ (12 : Int) from by omega) (show wk_E ((s.1 98)) ((s.1 95 12)) ((s.1 95 13)) from by first | with_reducible assumption | assumption) (show (s.1 95 9) ≠ 0 from by omega) (show ((s.1 95 9) = 0 ∨ (s.1 95 8) < (s.1 95 7)) ∧ (s.1 95 13) ≤ (s.1 95 8) from by omega) (show 0 ≤ r22 from by omega) (show (s.1 95 8) = s.1 95 8 ∧ (s.1 95 12) = s.1 95 12 from by omega)
      · skip
        have dc84 := q83.1 c84
        exact hQ 4 s hI (lf_fq_rf) (show 4 = 0 → wk_E ((s.1 98)) ((s.1 95 12)) ((s.1 95 13)) from fun h => absurd h (by decide)) (show 4 = 0 → (((s.1 95 9) = 0 ∨ (s.1 95 8) < (s.1 95 7)) ∧ (s.1 95 13) ≤ (s.1 95 8) ∧ s.1 95 8 < (s.1 95 8)) from fun h => absurd h (by decide)) (show (0 : Int) ≤ 4 ∧ 4 ≤ (6 : Int) from by omega)
  · skip
    replace c2 : ¬ (0 ≤ r22) := c2
    exact hQ 1 s hI (lf_fq_rf) (show 1 = 0 → wk_E ((s.1 98)) ((s.1 95 12)) ((s.1 95 13)) from fun h => absurd h (by decide)) (show 1 = 0 → (((s.1 95 9) = 0 ∨ (s.1 95 8) < (s.1 95 7)) ∧ (s.1 95 13) ≤ (s.1 95 8) ∧ s.1 95 8 < (s.1 95 8)) from fun h => absurd h (by decide)) (show (0 : Int) ≤ 1 ∧ 1 ≤ (6 : Int) from by omega)
-- fm_196 Model.readText 95
theorem sm_196_p44 {X44 : lf_Z → Prop} {Q : Int → lf_Z → Prop} {s : lf_Z} (hQ : ∀ (r : Int) (s' : lf_Z), iv_A s'.1 s'.2.2 → lf_fq [95, 98, 100, 101, 102, 103] 1000000 true s.1 s.2.2 s'.1 s'.2.2 → (0 ≤ r ∧ r ≤ 6) → Q r s') {M44 : Nat} (hX44 : ∀ (s' : lf_Z), iv_A s'.1 s'.2.2 → lf_fq [95, 98, 100, 101, 102, 103] 1000000 true s.1 s.2.2 s'.1 s'.2.2 → (wk_E (s'.1 98) (s'.1 95 12) (s'.1 95 13)) → ((s'.1 95 9 = 0 ∨ s'.1 95 8 < s'.1 95 7) ∧ s'.1 95 13 ≤ s'.1 95 8) → (301 - s'.1 95 8).toNat < M44 → X44 s') (hM44 : (301 - s.1 95 8).toNat ≤ M44) (hI : iv_A s.1 s.2.2) (kv0 : wk_E (s.1 98) (s.1 95 12) (s.1 95 13)) (kv1 : (s.1 95 9 = 0 ∨ s.1 95 8 < s.1 95 7) ∧ s.1 95 13 ≤ s.1 95 8) : fm_196_p44 Q X44 s := by
  unfold fm_196_p44
  have b26 : (-2147483648) ≤ s.1 95 9 ∧ s.1 95 9 ≤ 2147483647 := iv_full hI
  refine ⟨(show lf_R (s.1 95 9) from lf_Rof (by omega)), ?_⟩
  refine ⟨fun c27 => ?_, fun c27 => ?_⟩
  · skip
    replace c27 : s.1 95 9 = 0 := c27
    exact hQ 0 s hI (lf_fq_rf) (show (0 : Int) ≤ 0 ∧ 0 ≤ (6 : Int) from by omega)
  · skip
    replace c27 : ¬ (s.1 95 9 = 0) := c27
    have b30 : 0 ≤ s.1 95 12 ∧ s.1 95 12 ≤ 2115 := iv_r95_12 hI
    have b31 : 0 ≤ s.1 95 13 ∧ s.1 95 13 ≤ 304 := iv_r95_13 hI
    have b32 : 0 ≤ s.1 95 8 ∧ s.1 95 8 ≤ 300 := iv_r95_8 hI
    have b33 : 0 ≤ s.1 95 7 ∧ s.1 95 7 ≤ 300 := iv_r95_7 hI
    refine sm_202 hI (show wk_E ((s.1 98)) ((s.1 95 12)) ((s.1 95 13)) from by first | with_reducible assumption | assumption) (show (s.1 95 9) ≠ 0 from by omega) (show ((s.1 95 9) = 0 ∨ (s.1 95 8) < (s.1 95 7)) ∧ (s.1 95 13) ≤ (s.1 95 8) from by omega) (fun r25 s24 hI29 fr28 ps35 ps36 q34 => ?_)
    replace ps35 : r25 = 0 → wk_E (s24.1 98) (s24.1 95 12) (s24.1 95 13) := ps35
    replace ps36 : r25 = 0 → ((s24.1 95 9 = 0 ∨ s24.1 95 8 < s24.1 95 7) ∧ s24.1 95 13 ≤ s24.1 95 8 ∧ (s.1 95 8) < s24.1 95 8) := ps36
    have fr37 : lf_fq [95, 98, 100, 101, 102, 103] 1000000 true s.1 s.2.2 s24.1 s24.2.2 := lf_fq_tr (lf_fq_rf) (lf_fq_wk fr28 rfl (by decide) (by decide))
    refine ⟨(show lf_R r25 from lf_Rof (by omega)), ?_⟩
    refine ⟨fun c38 => ?_, fun c38 => ?_⟩
    · skip
      replace c38 : r25 = 0 := c38
      have dps35 := ps35 c38
      have dps36 := ps36 c38
      have b39 : 0 ≤ s24.1 95 8 ∧ s24.1 95 8 ≤ 300 := iv_r95_8 hI29
      have b40 : (s24.1 95 8) ≤ 300 := (iv_r95_8 hI29).2
      have b41 : 0 ≤ s24.1 95 12 ∧ s24.1 95 12 ≤ 2115 := iv_r95_12 hI29
      have b42 : 0 ≤ s24.1 95 13 ∧ s24.1 95 13 ≤ 304 := iv_r95_13 hI29
      have b43 : (-2147483648) ≤ s24.1 95 9 ∧ s24.1 95 9 ≤ 2147483647 := iv_full hI29
      have b44 : 0 ≤ s24.1 95 7 ∧ s24.1 95 7 ≤ 300 := iv_r95_7 hI29
      have b45 : wk_E ((s24.1 98)) ((s24.1 95 12)) ((s24.1 95 13)) := by first | with_reducible assumption | exact wk_cE (fr28.1 98 rfl) (by first | with_reducible assumption | assumption) (by omega) (by omega)
      exact hX44  s24 hI29 fr37 (show wk_E ((s24.1 98)) ((s24.1 95 12)) ((s24.1 95 13)) from by first | with_reducible assumption | assumption) (show ((s24.1 95 9) = 0 ∨ (s24.1 95 8) < (s24.1 95 7)) ∧ (s24.1 95 13) ≤ (s24.1 95 8) from by omega) (show (301 - (s24.1 95 8)).toNat < M44 from by omega)
    · skip
      replace c38 : ¬ (r25 = 0) := c38
      exact hQ r25 s24 hI29 fr37 (show (0 : Int) ≤ r25 ∧ r25 ≤ (6 : Int) from by omega)
theorem sm_196_p44L {Q : Int → lf_Z → Prop} {s : lf_Z} (hQ : ∀ (r : Int) (s' : lf_Z), iv_A s'.1 s'.2.2 → lf_fq [95, 98, 100, 101, 102, 103] 1000000 true s.1 s.2.2 s'.1 s'.2.2 → (0 ≤ r ∧ r ≤ 6) → Q r s') (hI : iv_A s.1 s.2.2) (kv0 : wk_E (s.1 98) (s.1 95 12) (s.1 95 13)) (kv1 : (s.1 95 9 = 0 ∨ s.1 95 8 < s.1 95 7) ∧ s.1 95 13 ≤ s.1 95 8) : fm_196_p44L Q s := by
  intro X44 hX
  have key : ∀ (m9 : Nat) (s' : lf_Z), iv_A s'.1 s'.2.2 → lf_fq [95, 98, 100, 101, 102, 103] 1000000 true s.1 s.2.2 s'.1 s'.2.2 → (wk_E (s'.1 98) (s'.1 95 12) (s'.1 95 13)) → ((s'.1 95 9 = 0 ∨ s'.1 95 8 < s'.1 95 7) ∧ s'.1 95 13 ≤ s'.1 95 8) → (301 - s'.1 95 8).toNat < m9 → X44 s' := by
    intro m9
    induction m9 with
    | zero => intro  s' _ _ kv0 kv1 h9; exact absurd h9 (Nat.not_lt_zero _)
    | succ m9 ih => intro  s' i7 f7 kv0 kv1 h9; exact hX  _ (sm_196_p44 (fun r9 t9 i9 f9 => hQ r9 t9 i9 (lf_fq_tr f7 f9))   (fun  t8 i8 f8 kv0' kv1' h8 => ih  t8 i8 (lf_fq_tr f7 f8) kv0' kv1' (by omega)) (Nat.le_refl _)  i7    kv0 kv1)
  exact key _  s hI lf_fq_rf kv0 kv1 (Nat.lt_succ_self _)
theorem sm_196 {Q : Int → lf_Z → Prop} {s : lf_Z} (hI : iv_A s.1 s.2.2) (kp0 : s.1 96 7 < 4) (hQ : ∀ (r : Int) (s' : lf_Z), iv_A s'.1 s'.2.2 → lf_fq [95, 98, 100, 101, 102, 103] 1000000 true s.1 s.2.2 s'.1 s'.2.2 → (0 ≤ r ∧ r ≤ 6) → Q r s') : fm_196 Q s := by
  unfold fm_196
  have b1 : 0 ≤ s.1 96 7 ∧ s.1 96 7 ≤ 4 := iv_rd96 hI (iv_ffb272d5f (by omega))
  have hI2 : iv_A (lf_up s.1 95 12 (705 * (s.1 96 7))) s.2.2 := iv_w95_12 hI (by omega)
  have fr3 : lf_fq [95, 98, 100, 101, 102, 103] 1000000 true s.1 s.2.2 (lf_up s.1 95 12 (705 * (s.1 96 7))) s.2.2 := lf_fq_up (lf_fq_rf) rfl (fun h => absurd h (by decide))
  have b4 : wk_T (lf_up (lf_up s.1 95 12 (705 * (s.1 96 7))) 98 (705 * (s.1 96 7)) 0 98) := wk_Tz (wk_TA hI2) (by omega) (wk_hr hI2)
  refine ⟨(show (0 : Int) ≤ 705 * (s.1 96 7) ∧ 705 * (s.1 96 7) < (2820 : Int) from by omega), ?_⟩
  have hI5 : iv_A (lf_up (lf_up s.1 95 12 (705 * (s.1 96 7))) 98 (705 * (s.1 96 7)) 0) s.2.2 := iv_w98z hI2 (by omega) (by decide) (by first | with_reducible assumption | assumption)
  have fr6 : lf_fq [95, 98, 100, 101, 102, 103] 1000000 true s.1 s.2.2 (lf_up (lf_up s.1 95 12 (705 * (s.1 96 7))) 98 (705 * (s.1 96 7)) 0) s.2.2 := lf_fq_up fr3 rfl (fun h => absurd h (by decide))
  have hI7 : iv_A (lf_up (lf_up (lf_up s.1 95 12 (705 * (s.1 96 7))) 98 (705 * (s.1 96 7)) 0) 95 13 0) s.2.2 := iv_w95_13 hI5 (by omega)
  have fr8 : lf_fq [95, 98, 100, 101, 102, 103] 1000000 true s.1 s.2.2 (lf_up (lf_up (lf_up s.1 95 12 (705 * (s.1 96 7))) 98 (705 * (s.1 96 7)) 0) 95 13 0) s.2.2 := lf_fq_up fr6 rfl (fun h => absurd h (by decide))
  have hI9 : iv_A (lf_up (lf_up (lf_up (lf_up s.1 95 12 (705 * (s.1 96 7))) 98 (705 * (s.1 96 7)) 0) 95 13 0) 95 24 0) s.2.2 := iv_w95_24 hI7 (by omega)
  have fr10 : lf_fq [95, 98, 100, 101, 102, 103] 1000000 true s.1 s.2.2 (lf_up (lf_up (lf_up (lf_up s.1 95 12 (705 * (s.1 96 7))) 98 (705 * (s.1 96 7)) 0) 95 13 0) 95 24 0) s.2.2 := lf_fq_up fr8 rfl (fun h => absurd h (by decide))
  have hI11 : iv_A (lf_up (lf_up (lf_up (lf_up (lf_up s.1 95 12 (705 * (s.1 96 7))) 98 (705 * (s.1 96 7)) 0) 95 13 0) 95 24 0) 95 7 0) s.2.2 := iv_w95_7 hI9 (by omega)
  have fr12 : lf_fq [95, 98, 100, 101, 102, 103] 1000000 true s.1 s.2.2 (lf_up (lf_up (lf_up (lf_up (lf_up s.1 95 12 (705 * (s.1 96 7))) 98 (705 * (s.1 96 7)) 0) 95 13 0) 95 24 0) 95 7 0) s.2.2 := lf_fq_up fr10 rfl (fun h => absurd h (by decide))
  have b13 : wk_E (((lf_up (lf_up s.1 95 12 (705 * (s.1 96 7))) 98 (705 * (s.1 96 7)) 0) 98)) ((705 * (s.1 96 7))) (0) := wk_Ez (by omega)
  refine sm_197 hI11 (fun s22 hI15 fr14 ps17 ps18 => ?_)
  replace ps17 : 0 ≤ s22.1 95 8 ∧ (s22.1 95 9 = 0 ∨ s22.1 95 8 < s22.1 95 7) := ps17
  replace ps18 : s22.1 95 12 = (705 * (s.1 96 7)) ∧ s22.1 95 13 = 0 ∧ s22.1 95 19 = (s.1 95 19) ∧ s22.1 95 20 = (s.1 95 20) ∧ s22.1 95 21 = (s.1 95 21) ∧ s22.1 95 22 = (s.1 95 22) ∧ s22.1 95 23 = (s.1 95 23) := ps18
  have fr19 : lf_fq [95, 98, 100, 101, 102, 103] 1000000 true s.1 s.2.2 s22.1 s22.2.2 := lf_fq_tr fr12 (lf_fq_wk fr14 rfl (by decide) (by decide))
  have b20 : 0 ≤ s22.1 95 12 ∧ s22.1 95 12 ≤ 2115 := iv_r95_12 hI15
  have b21 : 0 ≤ s22.1 95 13 ∧ s22.1 95 13 ≤ 304 := iv_r95_13 hI15
  have b22 : (-2147483648) ≤ s22.1 95 9 ∧ s22.1 95 9 ≤ 2147483647 := iv_full hI15
  have b23 : 0 ≤ s22.1 95 8 ∧ s22.1 95 8 ≤ 300 := iv_r95_8 hI15
  have b24 : 0 ≤ s22.1 95 7 ∧ s22.1 95 7 ≤ 300 := iv_r95_7 hI15
  have b25 : wk_E ((s22.1 98)) ((s22.1 95 12)) ((s22.1 95 13)) := by first | with_reducible assumption | exact wk_cE (fr14.1 98 rfl) (by first | with_reducible assumption | assumption) (by omega) (by omega)
  exact sm_196_p44L (fun r9 t9 i9 f9 => hQ r9 t9 i9 (lf_fq_tr fr19 f9)) hI15 (show wk_E ((s22.1 98)) ((s22.1 95 12)) ((s22.1 95 13)) from by first | with_reducible assumption | assumption) (show ((s22.1 95 9) = 0 ∨ (s22.1 95 8) < (s22.1 95 7)) ∧ (s22.1 95 13) ≤ (s22.1 95 8) from by omega)
-- fm_195 Model.text 95
theorem sm_195_p37 {Q : Int → lf_Z → Prop} {y1 : Int} {s : lf_Z} (hQ : ∀ (r : Int) (s' : lf_Z), iv_A s'.1 s'.2.2 → lf_fq [95, 96, 98, 100, 101, 102, 103, 1003] 7 true s.1 s.2.2 s'.1 s'.2.2 → ((-1) ≤ r ∧ r ≤ 4) → Q r s') (hI : iv_A s.1 s.2.2) (by1 : (-1) ≤ y1 ∧ y1 ≤ 300) (kv0 : s.1 96 7 < 4) : fm_195_p37 Q y1 s := by
  unfold fm_195_p37
  have hI14 : iv_A (lf_up s.1 95 6 y1) s.2.2 := iv_w95_6 hI (by omega)
  have fr15 : lf_fq [95, 96, 98, 100, 101, 102, 103, 1003] 7 true s.1 s.2.2 (lf_up s.1 95 6 y1) s.2.2 := lf_fq_up (lf_fq_rf) rfl (fun h => absurd h (by decide))
  have hI16 : iv_A (lf_up (lf_up s.1 95 6 y1) 95 4 0) s.2.2 := iv_w95_4 hI14 (by omega)
  have fr17 : lf_fq [95, 96, 98, 100, 101, 102, 103, 1003] 7 true s.1 s.2.2 (lf_up (lf_up s.1 95 6 y1) 95 4 0) s.2.2 := lf_fq_up fr15 rfl (fun h => absurd h (by decide))
  have b18 : (-2147483648) ≤ s.1 95 5 ∧ s.1 95 5 ≤ 2147483647 := (show (-2147483648) ≤ (lf_up (lf_up s.1 95 6 y1) 95 4 0) 95 5 ∧ (lf_up (lf_up s.1 95 6 y1) 95 4 0) 95 5 ≤ 2147483647 from iv_full hI16)
  have b19 : (lf_up (lf_up s.1 95 6 y1) 95 4 0) 95 5 = (lf_up s.1 95 6 y1) 95 5 := lf_up_i (by omega)
  have b20 : (lf_up s.1 95 6 y1) 95 5 = s.1 95 5 := lf_up_i (by omega)
  refine ⟨(show lf_R (s.1 95 5) from lf_Rof (by omega)), ?_⟩
  refine ⟨fun c21 => ?_, fun c21 => ?_⟩
  · skip
    replace c21 : s.1 95 5 = 0 := c21
    have b22 : 0 ≤ s.1 96 7 ∧ s.1 96 7 ≤ 4 := (show 0 ≤ (lf_up (lf_up s.1 95 6 y1) 95 4 0) 96 7 ∧ (lf_up (lf_up s.1 95 6 y1) 95 4 0) 96 7 ≤ 4 from iv_rd96 hI16 (iv_ffb272d5f (by omega)))
    have hI23 : iv_A (lf_up (lf_up (lf_up s.1 95 6 y1) 95 4 0) 96 7 ((s.1 96 7) + 1)) s.2.2 := iv_wd96 hI16 (lf_le2 (iv_f29303112 (by omega)) (by omega)) (fun h => absurd h (by omega))
    have fr24 : lf_fq [95, 96, 98, 100, 101, 102, 103, 1003] 7 true s.1 s.2.2 (lf_up (lf_up (lf_up s.1 95 6 y1) 95 4 0) 96 7 ((s.1 96 7) + 1)) s.2.2 := lf_fq_up fr17 rfl (fun _ => ⟨by omega, fr_o (Or.inr (fr_n0 (by omega))) (Or.inr (fr_n1 (by omega))) (Or.inr (fr_n2 (by omega))) (Or.inl rfl) (Or.inr (fr_n4 (by omega))) (Or.inr (fr_n5 (by omega))) (Or.inr (fr_n6 (by omega)))⟩)
    exact hQ (((s.1 96 7) + 1) - 1) (lf_up (lf_up (lf_up s.1 95 6 y1) 95 4 0) 96 7 ((s.1 96 7) + 1), s.2.1, s.2.2) hI23 fr24 (show (-1 : Int) ≤ ((s.1 96 7) + 1) - 1 ∧ ((s.1 96 7) + 1) - 1 ≤ (4 : Int) from by omega)
  · skip
    replace c21 : ¬ (s.1 95 5 = 0) := c21
    exact hQ (-1) (lf_up (lf_up s.1 95 6 y1) 95 4 0, s.2.1, s.2.2) hI16 fr17 (show (-1 : Int) ≤ (-1) ∧ (-1) ≤ (4 : Int) from by omega)
theorem sm_195 {Q : Int → lf_Z → Prop} {s : lf_Z} (hI : iv_A s.1 s.2.2) (hQ : ∀ (r : Int) (s' : lf_Z), iv_A s'.1 s'.2.2 → lf_fq [95, 96, 98, 100, 101, 102, 103, 1003] 7 true s.1 s.2.2 s'.1 s'.2.2 → ((-1) ≤ r ∧ r ≤ 4) → Q r s') : fm_195 Q s := by
  unfold fm_195
  have b1 : 0 ≤ s.1 96 7 ∧ s.1 96 7 ≤ 4 := iv_rd96 hI (iv_ffb272d5f (by omega))
  refine ⟨(show lf_R (s.1 96 7) from lf_Rof (by omega)), ?_⟩
  refine ⟨fun c2 => ?_, fun c2 => ?_⟩
  · skip
    replace c2 : s.1 96 7 ≠ 4 := c2
    refine sm_196 hI (show (s.1 96 7) < 4 from by omega) (fun r23 s22 hI4 fr3 q5 => ?_)
    have fr6 : lf_fq [95, 96, 98, 100, 101, 102, 103, 1003] 7 true s.1 s.2.2 s22.1 s22.2.2 := lf_fq_tr (lf_fq_rf) (lf_fq_wk fr3 rfl (by decide) (by decide))
    have hI7 : iv_A (lf_up s22.1 95 5 r23) s22.2.2 := iv_w95_5 hI4 (by omega)
    have fr8 : lf_fq [95, 96, 98, 100, 101, 102, 103, 1003] 7 true s.1 s.2.2 (lf_up s22.1 95 5 r23) s22.2.2 := lf_fq_up fr6 rfl (fun h => absurd h (by decide))
    refine ⟨(show lf_R r23 from lf_Rof (by omega)), ?_⟩
    refine ⟨fun c9 => ?_, fun c9 => ?_⟩
    · skip
      replace c9 : r23 ≠ 0 := c9
      have b10 : 0 ≤ s22.1 95 8 ∧ s22.1 95 8 ≤ 300 := (show 0 ≤ (lf_up s22.1 95 5 r23) 95 8 ∧ (lf_up s22.1 95 5 r23) 95 8 ≤ 300 from iv_r95_8 hI7)
      have b11 : (lf_up s22.1 95 5 r23) 95 8 = s22.1 95 8 := lf_up_i (by omega)
      have b12 : 0 ≤ s22.1 96 7 ∧ s22.1 96 7 ≤ 4 := (show 0 ≤ (lf_up s22.1 95 5 r23) 96 7 ∧ (lf_up s22.1 95 5 r23) 96 7 ≤ 4 from iv_rd96 hI7 (iv_ffb272d5f (by omega)))
      have b13 : s22.1 96 7 = s.1 96 7 := congrFun (fr3.1 96 rfl) _
      exact sm_195_p37 (fun r9 t9 i9 f9 => hQ r9 t9 i9 (lf_fq_tr fr8 f9)) hI7 (show (-1 : Int) ≤ s22.1 95 8 ∧ s22.1 95 8 ≤ (300 : Int) from by omega) (show (s22.1 96 7) < 4 from by omega)
    · skip
      replace c9 : ¬ (r23 ≠ 0) := c9
      have b25 : 0 ≤ s22.1 96 7 ∧ s22.1 96 7 ≤ 4 := (show 0 ≤ (lf_up s22.1 95 5 r23) 96 7 ∧ (lf_up s22.1 95 5 r23) 96 7 ≤ 4 from iv_rd96 hI7 (iv_ffb272d5f (by omega)))
      have b26 : s22.1 96 7 = s.1 96 7 := congrFun (fr3.1 96 rfl) _
      exact sm_195_p37 (fun r9 t9 i9 f9 => hQ r9 t9 i9 (lf_fq_tr fr8 f9)) hI7 (show (-1 : Int) ≤ (-1) ∧ (-1) ≤ (300 : Int) from by omega) (show (s22.1 96 7) < 4 from by omega)
  · skip
    replace c2 : ¬ (s.1 96 7 ≠ 4) := c2
    exact hQ (-1) s hI (lf_fq_rf) (show (-1 : Int) ≤ (-1) ∧ (-1) ≤ (4 : Int) from by omega)
-- fm_59 ElevenBullocks.fault 0 i
theorem sm_59 {a1 : Int} {Q : Int → lf_Z → Prop} {s : lf_Z} (hI : iv_A s.1 s.2.2) (ba1 : (-2147483648) ≤ a1 ∧ a1 ≤ 2147483647) (hQ : ∀ (r : Int), ((-2147483648) ≤ r ∧ r ≤ 2147483647) → Q r s) : fm_59 a1 Q s := by
  unfold fm_59
  refine ⟨(show lf_R a1 from lf_Rof (by omega)), ?_⟩
  refine ⟨fun c1 => ?_, fun c1 => ?_⟩
  · skip
    replace c1 : a1 ≠ 0 := c1
    refine ⟨fun c2 => ?_, fun c2 => ?_⟩
    · skip
      replace c2 : a1 ≠ 1 := c2
      exact hQ (-1) (show (-2147483648 : Int) ≤ (-1) ∧ (-1) ≤ (2147483647 : Int) from by omega)
    · skip
      replace c2 : ¬ (a1 ≠ 1) := c2
      have b3 : (-2147483648) ≤ s.1 31 3 ∧ s.1 31 3 ≤ 2147483647 := iv_full hI
      exact hQ (s.1 31 3) (show (-2147483648 : Int) ≤ s.1 31 3 ∧ s.1 31 3 ≤ (2147483647 : Int) from by omega)
  · skip
    replace c1 : ¬ (a1 ≠ 0) := c1
    have b4 : (-2147483648) ≤ s.1 31 2 ∧ s.1 31 2 ≤ 2147483647 := iv_full hI
    exact hQ (s.1 31 2) (show (-2147483648 : Int) ≤ s.1 31 2 ∧ s.1 31 2 ≤ (2147483647 : Int) from by omega)
-- fm_236 Model.fault 95 i
theorem sm_236 {a1 : Int} {Q : Int → lf_Z → Prop} {s : lf_Z} (hI : iv_A s.1 s.2.2) (ba1 : (-2147483648) ≤ a1 ∧ a1 ≤ 2147483647) (hQ : ∀ (r : Int), ((-2147483648) ≤ r ∧ r ≤ 2147483647) → Q r s) : fm_236 a1 Q s := by
  unfold fm_236
  refine ⟨(show lf_R a1 from lf_Rof (by omega)), ?_⟩
  refine ⟨fun c1 => ?_, fun c1 => ?_⟩
  · skip
    replace c1 : a1 ≠ 0 := c1
    refine ⟨fun c2 => ?_, fun c2 => ?_⟩
    · skip
      replace c2 : a1 ≠ 1 := c2
      exact hQ (-1) (show (-2147483648 : Int) ≤ (-1) ∧ (-1) ≤ (2147483647 : Int) from by omega)
    · skip
      replace c2 : ¬ (a1 ≠ 1) := c2
      have b3 : (-2147483648) ≤ s.1 95 6 ∧ s.1 95 6 ≤ 2147483647 := iv_full hI
      exact hQ (s.1 95 6) (show (-2147483648 : Int) ≤ s.1 95 6 ∧ s.1 95 6 ≤ (2147483647 : Int) from by omega)
  · skip
    replace c1 : ¬ (a1 ≠ 0) := c1
    have b4 : (-2147483648) ≤ s.1 95 5 ∧ s.1 95 5 ≤ 2147483647 := iv_full hI
    exact hQ (s.1 95 5) (show (-2147483648 : Int) ≤ s.1 95 5 ∧ s.1 95 5 ≤ (2147483647 : Int) from by omega)
-- fm_62 ElevenBullocks.scriptOf 0 i
theorem sm_62_p28 {Q : Option Nat → lf_Z → Prop} {s : lf_Z} (hQ : ∀ (r : Option Nat), (∀ t : Nat, r = some t → t < 4) → Q r s) (hI : iv_A s.1 s.2.2) : fm_62_p28 Q s := by
  unfold fm_62_p28
  exact hQ none (fun t e => by cases e)
theorem sm_62 {a1 : Int} {Q : Option Nat → lf_Z → Prop} {s : lf_Z} (hI : iv_A s.1 s.2.2) (ba1 : (-2147483648) ≤ a1 ∧ a1 ≤ 2147483647) (hQ : ∀ (r : Option Nat), (∀ t : Nat, r = some t → t < 4) → Q r s) : fm_62 a1 Q s := by
  unfold fm_62
  have b1 : 0 ≤ s.1 0 11 ∧ s.1 0 11 ≤ 4 := iv_r0_11 hI
  refine sm_15 hI (show (-2147483648 : Int) ≤ a1 ∧ a1 ≤ (2147483647 : Int) from by omega) (show (-1 : Int) ≤ 0 ∧ 0 ≤ (99 : Int) from by omega) (show (-2147483648 : Int) ≤ (s.1 0 11) - 1 ∧ (s.1 0 11) - 1 ≤ (2147483647 : Int) from by omega) (fun z22 q2 => ?_)
  refine ⟨fun c3 => ?_, fun c3 => ?_⟩
  · skip
    have dc3 := q2.2 c3
    exact sm_62_p28 hQ hI
  · skip
    have dc3 := q2.1 c3
    refine ⟨(show lf_R a1 from lf_Rof (by omega)), ?_⟩
    refine ⟨fun c4 => ?_, fun c4 => ?_⟩
    · skip
      replace c4 : 4 ≤ a1 := c4
      exfalso
      omega
    · skip
      replace c4 : ¬ (4 ≤ a1) := c4
      refine ⟨(show (0 : Int) ≤ a1 ∧ a1 < (4 : Int) from by omega), ?_⟩
      intro t25 et25
      have htt25 : t25 < 4 := by have e9 : t25 = (a1).toNat := et25; omega
      exact hQ (some t25) (fun t e => by cases e; exact htt25)
-- fm_61 ElevenBullocks.rule 0 i
theorem sm_61 {a1 : Int} {Q : lf_Z → Prop} {s : lf_Z} (hI : iv_A s.1 s.2.2) (ba1 : (-1) ≤ a1 ∧ a1 ≤ 3) (hQ : ∀  (s' : lf_Z), iv_A s'.1 s'.2.2 → lf_fq [0] 1000000 false s.1 s.2.2 s'.1 s'.2.2 → Q  s') : fm_61 a1 Q s := by
  unfold fm_61
  have hI1 : iv_A (lf_up s.1 0 12 a1) s.2.2 := iv_w0_12 hI (by omega)
  have fr2 : lf_fq [0] 1000000 false s.1 s.2.2 (lf_up s.1 0 12 a1) s.2.2 := lf_fq_up (lf_fq_rf) rfl (fun h => absurd h (by decide))
  refine sm_62 hI1 (show (-2147483648 : Int) ≤ a1 ∧ a1 ≤ (2147483647 : Int) from by omega) (fun r23 q3 => ?_)
  refine ⟨fun et22 => ?_, fun t22 et22 => ?_⟩
  · skip
    have hI4 : iv_A (lf_up s.1 0 12 a1) (lf_ur s.2.2 3 none) := iv_un3 hI1
    have fr5 : lf_fq [0] 1000000 false s.1 s.2.2 (lf_up s.1 0 12 a1) (lf_ur s.2.2 3 none) := lf_fq_pp fr2
    exact hQ (lf_up s.1 0 12 a1, s.2.1, lf_ur s.2.2 3 none) hI4 fr5
  · have htt22 : t22 < 4 := q3 t22 et22
    refine ⟨htt22, ?_⟩
    have hI6 : iv_A (lf_up s.1 0 12 a1) (lf_ur s.2.2 3 (some t22)) := iv_ut3 hI1 htt22
    have fr7 : lf_fq [0] 1000000 false s.1 s.2.2 (lf_up s.1 0 12 a1) (lf_ur s.2.2 3 (some t22)) := lf_fq_pp fr2
    exact hQ (lf_up s.1 0 12 a1, s.2.1, lf_ur s.2.2 3 (some t22)) hI6 fr7
-- fm_60 ElevenBullocks.by 0 i
theorem sm_60 {a1 : Int} {Q : Bool → lf_Z → Prop} {s : lf_Z} (hI : iv_A s.1 s.2.2) (ba1 : (-2147483648) ≤ a1 ∧ a1 ≤ 2147483647) (hQ : ∀ (z : Bool) (s' : lf_Z), iv_A s'.1 s'.2.2 → lf_fq [0] 1000000 false s.1 s.2.2 s'.1 s'.2.2 → Q z s') : fm_60 a1 Q s := by
  unfold fm_60
  have b1 : 0 ≤ s.1 0 11 ∧ s.1 0 11 ≤ 4 := iv_r0_11 hI
  refine sm_15 hI (show (-2147483648 : Int) ≤ a1 ∧ a1 ≤ (2147483647 : Int) from by omega) (show (-1 : Int) ≤ (-1) ∧ (-1) ≤ (99 : Int) from by omega) (show (-2147483648 : Int) ≤ (s.1 0 11) - 1 ∧ (s.1 0 11) - 1 ≤ (2147483647 : Int) from by omega) (fun z22 q2 => ?_)
  refine ⟨fun c3 => ?_, fun c3 => ?_⟩
  · skip
    have dc3 := q2.1 c3
    refine sm_61 hI (show (-1 : Int) ≤ a1 ∧ a1 ≤ (3 : Int) from by omega) (fun s23 hI5 fr4 => ?_)
    have fr7 : lf_fq [0] 1000000 false s.1 s.2.2 s23.1 s23.2.2 := lf_fq_tr (lf_fq_rf) (lf_fq_wk fr4 rfl (by decide) (by decide))
    exact hQ true s23 hI5 fr7
  · skip
    have dc3 := q2.2 c3
    exact hQ false s hI (lf_fq_rf)
-- fm_237 Model.by 95 i
theorem sm_237 {a1 : Int} {Q : Bool → lf_Z → Prop} {s : lf_Z} (hI : iv_A s.1 s.2.2) (ba1 : (-2147483648) ≤ a1 ∧ a1 ≤ 2147483647) (hQ : ∀ (z : Bool) (s' : lf_Z), iv_A s'.1 s'.2.2 → lf_fq [96, 1003] 8 true s.1 s.2.2 s'.1 s'.2.2 → Q z s') : fm_237 a1 Q s := by
  unfold fm_237
  have b1 : 0 ≤ s.1 96 7 ∧ s.1 96 7 ≤ 4 := iv_rd96 hI (iv_ffb272d5f (by omega))
  refine sm_183 hI (show (-2147483648 : Int) ≤ a1 ∧ a1 ≤ (2147483647 : Int) from by omega) (show (-1 : Int) ≤ (-1) ∧ (-1) ≤ (97 : Int) from by omega) (show (-1 : Int) ≤ (s.1 96 7) - 1 ∧ (s.1 96 7) - 1 ≤ (9999 : Int) from by omega) (fun z22 q2 => ?_)
  refine ⟨fun c3 => ?_, fun c3 => ?_⟩
  · skip
    have dc3 := q2.1 c3
    have hI4 : iv_A (lf_up s.1 96 8 a1) s.2.2 := iv_wd96 hI (lf_le2 (iv_f0c0828f9 (by omega)) (by omega)) (fun h => absurd h (by omega))
    have fr5 : lf_fq [96, 1003] 8 true s.1 s.2.2 (lf_up s.1 96 8 a1) s.2.2 := lf_fq_up (lf_fq_rf) rfl (fun _ => ⟨by omega, fr_o (Or.inr (fr_n0 (by omega))) (Or.inr (fr_n1 (by omega))) (Or.inr (fr_n2 (by omega))) (Or.inl rfl) (Or.inr (fr_n4 (by omega))) (Or.inr (fr_n5 (by omega))) (Or.inr (fr_n6 (by omega)))⟩)
    exact hQ true (lf_up s.1 96 8 a1, s.2.1, s.2.2) hI4 fr5
  · skip
    have dc3 := q2.2 c3
    exact hQ false s hI (lf_fq_rf)
-- fm_65 Stand.sum 16
theorem sm_65_p10 {X10 : Int → Int → lf_Z → Prop} {Q : Int → lf_Z → Prop} {x1 : Int} {x3 : Int} {x4 : Int} {s : lf_Z} (hQ : ∀ (r : Int), ((-2147483648) ≤ r ∧ r ≤ 2147483647) → Q r s) {M10 : Nat} (hX10 : ∀ (x1 : Int) (x4 : Int), (-2147483648) ≤ x1 ∧ x1 ≤ 2147483647 → 0 ≤ x4 ∧ x4 ≤ 4 → (4 - x4).toNat < M10 → X10 x1 x4 s) (hM10 : (4 - x4).toNat ≤ M10) (hI : iv_A s.1 s.2.2) (bx1 : (-2147483648) ≤ x1 ∧ x1 ≤ 2147483647) (bx3 : 4 ≤ x3 ∧ x3 ≤ 4) (bx4 : 0 ≤ x4 ∧ x4 ≤ 4) : fm_65_p10 Q x3 X10 x1 x4 s := by
  unfold fm_65_p10
  refine ⟨(show lf_R x4 from lf_Rof (by omega)), ?_⟩
  refine ⟨(show lf_R x3 from lf_Rof (by omega)), ?_⟩
  refine ⟨fun c1 => ?_, fun c1 => ?_⟩
  · skip
    replace c1 : x3 ≤ x4 := c1
    exact hQ x1 (show (-2147483648 : Int) ≤ x1 ∧ x1 ≤ (2147483647 : Int) from by omega)
  · skip
    replace c1 : ¬ (x3 ≤ x4) := c1
    refine ⟨(show (0 : Int) ≤ x4 ∧ x4 < (4 : Int) from by omega), ?_⟩
    have b2 : (-2147483648) ≤ s.1 16 x4 ∧ s.1 16 x4 ≤ 2147483647 := iv_full hI
    have b3 : (-2147483648) ≤ lf_w (x1 + (s.1 16 x4)) ∧ lf_w (x1 + (s.1 16 x4)) ≤ 2147483647 := lf_wB
    exact hX10 (lf_w (x1 + (s.1 16 x4))) (x4 + 1) (show (-2147483648 : Int) ≤ lf_w (x1 + (s.1 16 x4)) ∧ lf_w (x1 + (s.1 16 x4)) ≤ (2147483647 : Int) from by omega) (show (0 : Int) ≤ x4 + 1 ∧ x4 + 1 ≤ (4 : Int) from by omega) (show (4 - (x4 + 1)).toNat < M10 from by omega)
theorem sm_65_p10L {Q : Int → lf_Z → Prop} {x1 : Int} {x3 : Int} {x4 : Int} {s : lf_Z} (hQ : ∀ (r : Int), ((-2147483648) ≤ r ∧ r ≤ 2147483647) → Q r s) (hI : iv_A s.1 s.2.2) (bx1 : (-2147483648) ≤ x1 ∧ x1 ≤ 2147483647) (bx3 : 4 ≤ x3 ∧ x3 ≤ 4) (bx4 : 0 ≤ x4 ∧ x4 ≤ 4) : fm_65_p10L Q x1 x3 x4 s := by
  intro X10 hX
  have key : ∀ (m9 : Nat) (x1 : Int) (x4 : Int), (-2147483648) ≤ x1 ∧ x1 ≤ 2147483647 → 0 ≤ x4 ∧ x4 ≤ 4 → (4 - x4).toNat < m9 → X10 x1 x4 s := by
    intro m9
    induction m9 with
    | zero => intro x1 x4 bx1 bx4 h9; exact absurd h9 (Nat.not_lt_zero _)
    | succ m9 ih => intro x1 x4 bx1 bx4 h9; exact hX _ _ _ (sm_65_p10 hQ   (fun x1' x4' bx1' bx4' h8 => ih x1' x4' bx1' bx4' (by omega)) (Nat.le_refl _)  hI  bx1 bx3 bx4  )
  exact key _ _ _ bx1 bx4   (Nat.lt_succ_self _)
theorem sm_65 {Q : Int → lf_Z → Prop} {s : lf_Z} (hI : iv_A s.1 s.2.2) (hQ : ∀ (r : Int), ((-2147483648) ≤ r ∧ r ≤ 2147483647) → Q r s) : fm_65 Q s := by
  unfold fm_65
  exact sm_65_p10L hQ hI (show (-2147483648 : Int) ≤ 0 ∧ 0 ≤ (2147483647 : Int) from by omega) (show (4 : Int) ≤ 4 ∧ 4 ≤ (4 : Int) from by omega) (show (0 : Int) ≤ 0 ∧ 0 ≤ (4 : Int) from by omega)
-- fm_64 Stand.beasts 15
theorem sm_64 {Q : Int → lf_Z → Prop} {s : lf_Z} (hI : iv_A s.1 s.2.2) (hQ : ∀ (r : Int), ((-2147483648) ≤ r ∧ r ≤ 2147483647) → Q r s) : fm_64 Q s := by
  unfold fm_64
  refine sm_65 hI (fun r22 q1 => ?_)
  exact hQ r22 (show (-2147483648 : Int) ≤ r22 ∧ r22 ≤ (2147483647 : Int) from by omega)
-- fm_66 Stand.freeBunch 15
theorem sm_66_p2 {X2 : Int → lf_Z → Prop} {Q : Int → lf_Z → Prop} {x1 : Int} {s : lf_Z} (hQ : ∀ (r : Int), ((-1) ≤ r ∧ r ≤ 3) → Q r s) {M2 : Nat} (hX2 : ∀ (x1 : Int), 0 ≤ x1 ∧ x1 ≤ 4 → (4 - x1).toNat < M2 → X2 x1 s) (hM2 : (4 - x1).toNat ≤ M2) (hI : iv_A s.1 s.2.2) (bx1 : 0 ≤ x1 ∧ x1 ≤ 4) : fm_66_p2 Q X2 x1 s := by
  unfold fm_66_p2
  refine ⟨(show lf_R x1 from lf_Rof (by omega)), ?_⟩
  refine ⟨fun c1 => ?_, fun c1 => ?_⟩
  · skip
    replace c1 : 4 ≤ x1 := c1
    exact hQ (-1) (show (-1 : Int) ≤ (-1) ∧ (-1) ≤ (3 : Int) from by omega)
  · skip
    replace c1 : ¬ (4 ≤ x1) := c1
    refine ⟨(show (0 : Int) ≤ x1 ∧ x1 < (4 : Int) from by omega), ?_⟩
    have b2 : (-2147483648) ≤ s.1 16 x1 ∧ s.1 16 x1 ≤ 2147483647 := iv_full hI
    refine ⟨(show lf_R (s.1 16 x1) from lf_Rof (by omega)), ?_⟩
    refine ⟨fun c3 => ?_, fun c3 => ?_⟩
    · skip
      replace c3 : s.1 16 x1 ≠ 0 := c3
      exact hX2 (x1 + 1) (show (0 : Int) ≤ x1 + 1 ∧ x1 + 1 ≤ (4 : Int) from by omega) (show (4 - (x1 + 1)).toNat < M2 from by omega)
    · skip
      replace c3 : ¬ (s.1 16 x1 ≠ 0) := c3
      exact hQ x1 (show (-1 : Int) ≤ x1 ∧ x1 ≤ (3 : Int) from by omega)
theorem sm_66_p2L {Q : Int → lf_Z → Prop} {x1 : Int} {s : lf_Z} (hQ : ∀ (r : Int), ((-1) ≤ r ∧ r ≤ 3) → Q r s) (hI : iv_A s.1 s.2.2) (bx1 : 0 ≤ x1 ∧ x1 ≤ 4) : fm_66_p2L Q x1 s := by
  intro X2 hX
  have key : ∀ (m9 : Nat) (x1 : Int), 0 ≤ x1 ∧ x1 ≤ 4 → (4 - x1).toNat < m9 → X2 x1 s := by
    intro m9
    induction m9 with
    | zero => intro x1 bx1 h9; exact absurd h9 (Nat.not_lt_zero _)
    | succ m9 ih => intro x1 bx1 h9; exact hX _ _ (sm_66_p2 hQ   (fun x1' bx1' h8 => ih x1' bx1' (by omega)) (Nat.le_refl _)  hI  bx1  )
  exact key _ _ bx1   (Nat.lt_succ_self _)
theorem sm_66 {Q : Int → lf_Z → Prop} {s : lf_Z} (hI : iv_A s.1 s.2.2) (hQ : ∀ (r : Int), ((-1) ≤ r ∧ r ≤ 3) → Q r s) : fm_66 Q s := by
  unfold fm_66
  exact sm_66_p2L hQ hI (show (0 : Int) ≤ 0 ∧ 0 ≤ (4 : Int) from by omega)
-- fm_68 Stand.writeTo 15 23 i
theorem sm_68_p57 {X57 : Int → Int → lf_Z → Prop} {Q : lf_Z → Prop} {x3 : Int} {x4 : Int} {s : lf_Z} (hQ : ∀  (s' : lf_Z), iv_A s'.1 s'.2.2 → lf_fq [23] 1000000 true s.1 s.2.2 s'.1 s'.2.2 → Q  s') {M57 : Nat} (hX57 : ∀ (x3 : Int) (x4 : Int) (s' : lf_Z), iv_A s'.1 s'.2.2 → lf_fq [23] 1000000 true s.1 s.2.2 s'.1 s'.2.2 → 12 ≤ x3 ∧ x3 ≤ 1155 → 0 ≤ x4 ∧ x4 ≤ 6 → (x3 = 39 * s'.1 22 2 + 12 + 2 * x4) → (6 - x4).toNat < M57 → X57 x3 x4 s') (hM57 : (6 - x4).toNat ≤ M57) (hI : iv_A s.1 s.2.2) (bx3 : 12 ≤ x3 ∧ x3 ≤ 1155) (bx4 : 0 ≤ x4 ∧ x4 ≤ 6) (kv0 : x3 = 39 * s.1 22 2 + 12 + 2 * x4) : fm_68_p57 Q X57 x3 x4 s := by
  unfold fm_68_p57
  refine ⟨(show lf_R x4 from lf_Rof (by omega)), ?_⟩
  refine ⟨fun c4 => ?_, fun c4 => ?_⟩
  · skip
    replace c4 : 6 ≤ x4 := c4
    refine ⟨(show (0 : Int) ≤ 0 ∧ (0 : Int) ≤ x3 ∧ (0 : Int) ≤ 12 ∧ (0 : Int) + 12 ≤ 12 ∧ (x3 : Int) + 12 ≤ 1170 from by omega), ?_⟩
    have hI5 : iv_A (lf_cp s.1 21 23 0 x3 12) s.2.2 := iv_cp21_23 hI (lf_m39 (q := s.1 22 2) (r := 24) (by omega) (by omega))
    have fr6 : lf_fq [23] 1000000 true s.1 s.2.2 (lf_cp s.1 21 23 0 x3 12) s.2.2 := lf_fq_cp (lf_fq_rf) rfl (by decide)
    have b7 : (-2147483648) ≤ (lf_cp s.1 21 23 0 x3 12) 15 6 ∧ (lf_cp s.1 21 23 0 x3 12) 15 6 ≤ 2147483647 := iv_full hI5
    have b8 : (lf_cp s.1 21 23 0 x3 12) 15 6 = s.1 15 6 := lf_cp_c (by omega)
    refine ⟨(show (0 : Int) ≤ x3 + 12 ∧ x3 + 12 < (1170 : Int) from by omega), ?_⟩
    have hI9 : iv_A (lf_up (lf_cp s.1 21 23 0 x3 12) 23 (x3 + 12) ((lf_cp s.1 21 23 0 x3 12) 15 6)) s.2.2 := iv_wd23 hI5 (lf_le2 (iv_f94fa157c (s.1 22 2) (x4) (by omega) (by omega) (by omega)) (by omega)) (by rw [lf_m39 (q := s.1 22 2) (r := 24 + 2 * x4) (by omega) (by omega)]; omega)
    have fr10 : lf_fq [23] 1000000 true s.1 s.2.2 (lf_up (lf_cp s.1 21 23 0 x3 12) 23 (x3 + 12) ((lf_cp s.1 21 23 0 x3 12) 15 6)) s.2.2 := lf_fq_up fr6 rfl (fun h => absurd h (by decide))
    have b11 : (-2147483648) ≤ (lf_cp s.1 21 23 0 x3 12) 15 7 ∧ (lf_cp s.1 21 23 0 x3 12) 15 7 ≤ 2147483647 := (show (-2147483648) ≤ (lf_up (lf_cp s.1 21 23 0 x3 12) 23 (x3 + 12) ((lf_cp s.1 21 23 0 x3 12) 15 6)) 15 7 ∧ (lf_up (lf_cp s.1 21 23 0 x3 12) 23 (x3 + 12) ((lf_cp s.1 21 23 0 x3 12) 15 6)) 15 7 ≤ 2147483647 from iv_full hI9)
    have b12 : (lf_cp s.1 21 23 0 x3 12) 15 7 = s.1 15 7 := lf_cp_c (by omega)
    refine ⟨(show (0 : Int) ≤ (x3 + 12) + 1 ∧ (x3 + 12) + 1 < (1170 : Int) from by omega), ?_⟩
    have hI13 : iv_A (lf_up (lf_up (lf_cp s.1 21 23 0 x3 12) 23 (x3 + 12) ((lf_cp s.1 21 23 0 x3 12) 15 6)) 23 ((x3 + 12) + 1) ((lf_cp s.1 21 23 0 x3 12) 15 7)) s.2.2 := iv_wd23 hI9 (lf_le2 (iv_f5e4c071d (s.1 22 2) (x4) (by omega) (by omega) (by omega)) (by omega)) (by rw [lf_m39 (q := s.1 22 2) (r := 25 + 2 * x4) (by omega) (by omega)]; omega)
    have fr14 : lf_fq [23] 1000000 true s.1 s.2.2 (lf_up (lf_up (lf_cp s.1 21 23 0 x3 12) 23 (x3 + 12) ((lf_cp s.1 21 23 0 x3 12) 15 6)) 23 ((x3 + 12) + 1) ((lf_cp s.1 21 23 0 x3 12) 15 7)) s.2.2 := lf_fq_up fr10 rfl (fun h => absurd h (by decide))
    have b15 : (-2147483648) ≤ (lf_cp s.1 21 23 0 x3 12) 15 8 ∧ (lf_cp s.1 21 23 0 x3 12) 15 8 ≤ 2147483647 := (show (-2147483648) ≤ (lf_up (lf_up (lf_cp s.1 21 23 0 x3 12) 23 (x3 + 12) ((lf_cp s.1 21 23 0 x3 12) 15 6)) 23 ((x3 + 12) + 1) ((lf_cp s.1 21 23 0 x3 12) 15 7)) 15 8 ∧ (lf_up (lf_up (lf_cp s.1 21 23 0 x3 12) 23 (x3 + 12) ((lf_cp s.1 21 23 0 x3 12) 15 6)) 23 ((x3 + 12) + 1) ((lf_cp s.1 21 23 0 x3 12) 15 7)) 15 8 ≤ 2147483647 from iv_full hI13)
    have b16 : (lf_cp s.1 21 23 0 x3 12) 15 8 = s.1 15 8 := lf_cp_c (by omega)
    refine ⟨(show (0 : Int) ≤ (x3 + 12) + 2 ∧ (x3 + 12) + 2 < (1170 : Int) from by omega), ?_⟩
    have hI17 : iv_A (lf_up (lf_up (lf_up (lf_cp s.1 21 23 0 x3 12) 23 (x3 + 12) ((lf_cp s.1 21 23 0 x3 12) 15 6)) 23 ((x3 + 12) + 1) ((lf_cp s.1 21 23 0 x3 12) 15 7)) 23 ((x3 + 12) + 2) ((lf_cp s.1 21 23 0 x3 12) 15 8)) s.2.2 := iv_wd23 hI13 (lf_le2 (iv_fc75fd977 (s.1 22 2) (x4) (by omega) (by omega) (by omega)) (by omega)) (by rw [lf_m39 (q := s.1 22 2) (r := 26 + 2 * x4) (by omega) (by omega)]; omega)
    have fr18 : lf_fq [23] 1000000 true s.1 s.2.2 (lf_up (lf_up (lf_up (lf_cp s.1 21 23 0 x3 12) 23 (x3 + 12) ((lf_cp s.1 21 23 0 x3 12) 15 6)) 23 ((x3 + 12) + 1) ((lf_cp s.1 21 23 0 x3 12) 15 7)) 23 ((x3 + 12) + 2) ((lf_cp s.1 21 23 0 x3 12) 15 8)) s.2.2 := lf_fq_up fr14 rfl (fun h => absurd h (by decide))
    exact hQ (lf_up (lf_up (lf_up (lf_cp s.1 21 23 0 x3 12) 23 (x3 + 12) ((lf_cp s.1 21 23 0 x3 12) 15 6)) 23 ((x3 + 12) + 1) ((lf_cp s.1 21 23 0 x3 12) 15 7)) 23 ((x3 + 12) + 2) ((lf_cp s.1 21 23 0 x3 12) 15 8), s.2.1, s.2.2) hI17 fr18
  · skip
    replace c4 : ¬ (6 ≤ x4) := c4
    refine ⟨(show (0 : Int) ≤ x4 ∧ x4 < (6 : Int) from by omega), ?_⟩
    have b19 : (-2147483648) ≤ s.1 19 x4 ∧ s.1 19 x4 ≤ 2147483647 := iv_full hI
    refine ⟨(show (0 : Int) ≤ x3 ∧ x3 < (1170 : Int) from by omega), ?_⟩
    have hI20 : iv_A (lf_up s.1 23 x3 (s.1 19 x4)) s.2.2 := iv_wd23 hI (lf_le2 (iv_f8e736285 (s.1 22 2) (x4) (by omega) (by omega) (by omega)) (by omega)) (by rw [lf_m39 (q := s.1 22 2) (r := 12 + 2 * x4) (by omega) (by omega)]; omega)
    have fr21 : lf_fq [23] 1000000 true s.1 s.2.2 (lf_up s.1 23 x3 (s.1 19 x4)) s.2.2 := lf_fq_up (lf_fq_rf) rfl (fun h => absurd h (by decide))
    have b22 : (-2147483648) ≤ s.1 20 x4 ∧ s.1 20 x4 ≤ 2147483647 := (show (-2147483648) ≤ (lf_up s.1 23 x3 (s.1 19 x4)) 20 x4 ∧ (lf_up s.1 23 x3 (s.1 19 x4)) 20 x4 ≤ 2147483647 from iv_full hI20)
    refine ⟨(show (0 : Int) ≤ x3 + 1 ∧ x3 + 1 < (1170 : Int) from by omega), ?_⟩
    have hI23 : iv_A (lf_up (lf_up s.1 23 x3 (s.1 19 x4)) 23 (x3 + 1) (s.1 20 x4)) s.2.2 := iv_wd23 hI20 (lf_le2 (iv_f055a89ee (s.1 22 2) (x4) (by omega) (by omega) (by omega)) (by omega)) (by rw [lf_m39 (q := s.1 22 2) (r := 13 + 2 * x4) (by omega) (by omega)]; omega)
    have fr24 : lf_fq [23] 1000000 true s.1 s.2.2 (lf_up (lf_up s.1 23 x3 (s.1 19 x4)) 23 (x3 + 1) (s.1 20 x4)) s.2.2 := lf_fq_up fr21 rfl (fun h => absurd h (by decide))
    have b25 : 0 ≤ s.1 22 2 ∧ s.1 22 2 ≤ 29 := (show 0 ≤ (lf_up (lf_up s.1 23 x3 (s.1 19 x4)) 23 (x3 + 1) (s.1 20 x4)) 22 2 ∧ (lf_up (lf_up s.1 23 x3 (s.1 19 x4)) 23 (x3 + 1) (s.1 20 x4)) 22 2 ≤ 29 from iv_r22_2 hI23)
    exact hX57 (x3 + 2) (x4 + 1) (lf_up (lf_up s.1 23 x3 (s.1 19 x4)) 23 (x3 + 1) (s.1 20 x4), s.2.1, s.2.2) hI23 fr24 (show (12 : Int) ≤ x3 + 2 ∧ x3 + 2 ≤ (1155 : Int) from by omega) (show (0 : Int) ≤ x4 + 1 ∧ x4 + 1 ≤ (6 : Int) from by omega) (show (x3 + 2) = 39 * (s.1 22 2) + 12 + 2 * (x4 + 1) from by omega) (show (6 - (x4 + 1)).toNat < M57 from by omega)
theorem sm_68_p57L {Q : lf_Z → Prop} {x3 : Int} {x4 : Int} {s : lf_Z} (hQ : ∀  (s' : lf_Z), iv_A s'.1 s'.2.2 → lf_fq [23] 1000000 true s.1 s.2.2 s'.1 s'.2.2 → Q  s') (hI : iv_A s.1 s.2.2) (bx3 : 12 ≤ x3 ∧ x3 ≤ 1155) (bx4 : 0 ≤ x4 ∧ x4 ≤ 6) (kv0 : x3 = 39 * s.1 22 2 + 12 + 2 * x4) : fm_68_p57L Q x3 x4 s := by
  intro X57 hX
  have key : ∀ (m9 : Nat) (x3 : Int) (x4 : Int) (s' : lf_Z), iv_A s'.1 s'.2.2 → lf_fq [23] 1000000 true s.1 s.2.2 s'.1 s'.2.2 → 12 ≤ x3 ∧ x3 ≤ 1155 → 0 ≤ x4 ∧ x4 ≤ 6 → (x3 = 39 * s'.1 22 2 + 12 + 2 * x4) → (6 - x4).toNat < m9 → X57 x3 x4 s' := by
    intro m9
    induction m9 with
    | zero => intro x3 x4 s' _ _ bx3 bx4 kv0 h9; exact absurd h9 (Nat.not_lt_zero _)
    | succ m9 ih => intro x3 x4 s' i7 f7 bx3 bx4 kv0 h9; exact hX _ _ _ (sm_68_p57 (fun t9 i9 f9 => hQ t9 i9 (lf_fq_tr f7 f9))   (fun x3' x4' t8 i8 f8 bx3' bx4' kv0' h8 => ih x3' x4' t8 i8 (lf_fq_tr f7 f8) bx3' bx4' kv0' (by omega)) (Nat.le_refl _)  i7  bx3 bx4  kv0)
  exact key _ _ _ s hI lf_fq_rf bx3 bx4 kv0 (Nat.lt_succ_self _)
theorem sm_68_p5 {X5 : Int → Int → lf_Z → Prop} {Q : lf_Z → Prop} {x3 : Int} {x4 : Int} {s : lf_Z} (hQ : ∀  (s' : lf_Z), iv_A s'.1 s'.2.2 → lf_fq [23] 1000000 true s.1 s.2.2 s'.1 s'.2.2 → Q  s') {M5 : Nat} (hX5 : ∀ (x3 : Int) (x4 : Int) (s' : lf_Z), iv_A s'.1 s'.2.2 → lf_fq [23] 1000000 true s.1 s.2.2 s'.1 s'.2.2 → 0 ≤ x3 ∧ x3 ≤ 1143 → 0 ≤ x4 ∧ x4 ≤ 4 → (x3 = 39 * s'.1 22 2 + 3 * x4) → (4 - x4).toNat < M5 → X5 x3 x4 s') (hM5 : (4 - x4).toNat ≤ M5) (hI : iv_A s.1 s.2.2) (bx3 : 0 ≤ x3 ∧ x3 ≤ 1143) (bx4 : 0 ≤ x4 ∧ x4 ≤ 4) (kv0 : x3 = 39 * s.1 22 2 + 3 * x4) : fm_68_p5 Q X5 x3 x4 s := by
  unfold fm_68_p5
  refine ⟨(show lf_R x4 from lf_Rof (by omega)), ?_⟩
  refine ⟨fun c2 => ?_, fun c2 => ?_⟩
  · skip
    replace c2 : 4 ≤ x4 := c2
    have b3 : 0 ≤ s.1 22 2 ∧ s.1 22 2 ≤ 29 := iv_r22_2 hI
    exact sm_68_p57L hQ hI (show (12 : Int) ≤ x3 ∧ x3 ≤ (1155 : Int) from by omega) (show (0 : Int) ≤ 0 ∧ 0 ≤ (6 : Int) from by omega) (show x3 = 39 * (s.1 22 2) + 12 + 2 * 0 from by omega)
  · skip
    replace c2 : ¬ (4 ≤ x4) := c2
    refine ⟨(show (0 : Int) ≤ x4 ∧ x4 < (4 : Int) from by omega), ?_⟩
    have b26 : (-2147483648) ≤ s.1 16 x4 ∧ s.1 16 x4 ≤ 2147483647 := iv_full hI
    refine ⟨(show (0 : Int) ≤ x3 ∧ x3 < (1170 : Int) from by omega), ?_⟩
    have fr27 : lf_fq [23] 1000000 true s.1 s.2.2 (lf_up s.1 23 x3 (s.1 16 x4)) s.2.2 := lf_fq_up (lf_fq_rf) rfl (fun h => absurd h (by decide))
    have b28 : (-1) ≤ s.1 17 x4 ∧ s.1 17 x4 ≤ 11 := (show (-1) ≤ (lf_up s.1 23 x3 (s.1 16 x4)) 17 x4 ∧ (lf_up s.1 23 x3 (s.1 16 x4)) 17 x4 ≤ 11 from iv_r17 hI _)
    have b29 : s.1 16 x4 ≤ 0 ∨ 0 ≤ s.1 17 x4 := (by first | exact (show (lf_up s.1 23 x3 (s.1 16 x4)) 16 x4 ≤ 0 ∨ 0 ≤ (lf_up s.1 23 x3 (s.1 16 x4)) 17 x4 from iv_sp hI (by omega) (by omega)) | exact iv_sp hI (by omega) (by omega))
    refine ⟨(show (0 : Int) ≤ x3 + 1 ∧ x3 + 1 < (1170 : Int) from by omega), ?_⟩
    have fr30 : lf_fq [23] 1000000 true s.1 s.2.2 (lf_up (lf_up s.1 23 x3 (s.1 16 x4)) 23 (x3 + 1) (s.1 17 x4)) s.2.2 := lf_fq_up fr27 rfl (fun h => absurd h (by decide))
    have b31 : (-1) ≤ s.1 18 x4 ∧ s.1 18 x4 ≤ 11 := (show (-1) ≤ (lf_up (lf_up s.1 23 x3 (s.1 16 x4)) 23 (x3 + 1) (s.1 17 x4)) 18 x4 ∧ (lf_up (lf_up s.1 23 x3 (s.1 16 x4)) 23 (x3 + 1) (s.1 17 x4)) 18 x4 ≤ 11 from iv_r18 hI _)
    refine ⟨(show (0 : Int) ≤ x3 + 2 ∧ x3 + 2 < (1170 : Int) from by omega), ?_⟩
    have hI32 : iv_A (lf_up (lf_up (lf_up s.1 23 x3 (s.1 16 x4)) 23 (x3 + 1) (s.1 17 x4)) 23 (x3 + 2) (s.1 18 x4)) s.2.2 := iv_row3 hI (r := s.1 22 2) (j := x4) (by omega) (by omega) (by omega) (by omega) (by omega) (by omega) (by omega) (by omega)
    have fr33 : lf_fq [23] 1000000 true s.1 s.2.2 (lf_up (lf_up (lf_up s.1 23 x3 (s.1 16 x4)) 23 (x3 + 1) (s.1 17 x4)) 23 (x3 + 2) (s.1 18 x4)) s.2.2 := lf_fq_up fr30 rfl (fun h => absurd h (by decide))
    have b34 : 0 ≤ s.1 22 2 ∧ s.1 22 2 ≤ 29 := (show 0 ≤ (lf_up (lf_up (lf_up s.1 23 x3 (s.1 16 x4)) 23 (x3 + 1) (s.1 17 x4)) 23 (x3 + 2) (s.1 18 x4)) 22 2 ∧ (lf_up (lf_up (lf_up s.1 23 x3 (s.1 16 x4)) 23 (x3 + 1) (s.1 17 x4)) 23 (x3 + 2) (s.1 18 x4)) 22 2 ≤ 29 from iv_r22_2 hI32)
    exact hX5 (x3 + 3) (x4 + 1) (lf_up (lf_up (lf_up s.1 23 x3 (s.1 16 x4)) 23 (x3 + 1) (s.1 17 x4)) 23 (x3 + 2) (s.1 18 x4), s.2.1, s.2.2) hI32 fr33 (show (0 : Int) ≤ x3 + 3 ∧ x3 + 3 ≤ (1143 : Int) from by omega) (show (0 : Int) ≤ x4 + 1 ∧ x4 + 1 ≤ (4 : Int) from by omega) (show (x3 + 3) = 39 * (s.1 22 2) + 3 * (x4 + 1) from by omega) (show (4 - (x4 + 1)).toNat < M5 from by omega)
theorem sm_68_p5L {Q : lf_Z → Prop} {x3 : Int} {x4 : Int} {s : lf_Z} (hQ : ∀  (s' : lf_Z), iv_A s'.1 s'.2.2 → lf_fq [23] 1000000 true s.1 s.2.2 s'.1 s'.2.2 → Q  s') (hI : iv_A s.1 s.2.2) (bx3 : 0 ≤ x3 ∧ x3 ≤ 1143) (bx4 : 0 ≤ x4 ∧ x4 ≤ 4) (kv0 : x3 = 39 * s.1 22 2 + 3 * x4) : fm_68_p5L Q x3 x4 s := by
  intro X5 hX
  have key : ∀ (m9 : Nat) (x3 : Int) (x4 : Int) (s' : lf_Z), iv_A s'.1 s'.2.2 → lf_fq [23] 1000000 true s.1 s.2.2 s'.1 s'.2.2 → 0 ≤ x3 ∧ x3 ≤ 1143 → 0 ≤ x4 ∧ x4 ≤ 4 → (x3 = 39 * s'.1 22 2 + 3 * x4) → (4 - x4).toNat < m9 → X5 x3 x4 s' := by
    intro m9
    induction m9 with
    | zero => intro x3 x4 s' _ _ bx3 bx4 kv0 h9; exact absurd h9 (Nat.not_lt_zero _)
    | succ m9 ih => intro x3 x4 s' i7 f7 bx3 bx4 kv0 h9; exact hX _ _ _ (sm_68_p5 (fun t9 i9 f9 => hQ t9 i9 (lf_fq_tr f7 f9))   (fun x3' x4' t8 i8 f8 bx3' bx4' kv0' h8 => ih x3' x4' t8 i8 (lf_fq_tr f7 f8) bx3' bx4' kv0' (by omega)) (Nat.le_refl _)  i7  bx3 bx4  kv0)
  exact key _ _ _ s hI lf_fq_rf bx3 bx4 kv0 (Nat.lt_succ_self _)
theorem sm_68 {a2 : Int} {Q : lf_Z → Prop} {s : lf_Z} (hI : iv_A s.1 s.2.2) (ba2 : 0 ≤ a2 ∧ a2 ≤ 1131) (kp0 : a2 = 39 * s.1 22 2) (hQ : ∀  (s' : lf_Z), iv_A s'.1 s'.2.2 → lf_fq [23] 1000000 true s.1 s.2.2 s'.1 s'.2.2 → Q  s') : fm_68 a2 Q s := by
  unfold fm_68
  have b1 : 0 ≤ s.1 22 2 ∧ s.1 22 2 ≤ 29 := iv_r22_2 hI
  exact sm_68_p5L hQ hI (show (0 : Int) ≤ a2 ∧ a2 ≤ (1143 : Int) from by omega) (show (0 : Int) ≤ 0 ∧ 0 ≤ (4 : Int) from by omega) (show a2 = 39 * (s.1 22 2) + 3 * 0 from by omega)
-- fm_67 Steps.keep 22 15 i
theorem sm_67 {a2 : Int} {Q : lf_Z → Prop} {s : lf_Z} (hI : iv_A s.1 s.2.2) (ba2 : 0 ≤ a2 ∧ a2 ≤ 6) (hQ : ∀  (s' : lf_Z), iv_A s'.1 s'.2.2 → lf_fq [22, 23, 24] 1000000 true s.1 s.2.2 s'.1 s'.2.2 → Q  s') : fm_67 a2 Q s := by
  unfold fm_67
  have b1 : 0 ≤ s.1 22 2 ∧ s.1 22 2 ≤ 29 := iv_r22_2 hI
  refine ⟨(show lf_R ((s.1 22 2) + 1) from lf_Rof (by omega)), ?_⟩
  have b2 : 0 ≤ ((s.1 22 2) + 1).tmod 30 ∧ ((s.1 22 2) + 1).tmod 30 ≤ 29 := lf_tmodP (by omega) (by omega) (by omega)
  have hI3 : iv_A (lf_up s.1 22 2 (((s.1 22 2) + 1).tmod 30)) s.2.2 := iv_w22_2 hI (by omega)
  have fr4 : lf_fq [22, 23, 24] 1000000 true s.1 s.2.2 (lf_up s.1 22 2 (((s.1 22 2) + 1).tmod 30)) s.2.2 := lf_fq_up (lf_fq_rf) rfl (fun h => absurd h (by decide))
  have b5 : 0 ≤ s.1 22 3 ∧ s.1 22 3 ≤ 30 := (show 0 ≤ (lf_up s.1 22 2 (((s.1 22 2) + 1).tmod 30)) 22 3 ∧ (lf_up s.1 22 2 (((s.1 22 2) + 1).tmod 30)) 22 3 ≤ 30 from iv_r22_3 hI3)
  have b6 : (lf_up s.1 22 2 (((s.1 22 2) + 1).tmod 30)) 22 3 = s.1 22 3 := lf_up_i (by omega)
  refine ⟨(show lf_R ((s.1 22 3) + 1) from lf_Rof (by omega)), ?_⟩
  have hI7 : iv_A (lf_up (lf_up s.1 22 2 (((s.1 22 2) + 1).tmod 30)) 22 3 (min 30 ((s.1 22 3) + 1))) s.2.2 := iv_w22_3 hI3 (by omega)
  have fr8 : lf_fq [22, 23, 24] 1000000 true s.1 s.2.2 (lf_up (lf_up s.1 22 2 (((s.1 22 2) + 1).tmod 30)) 22 3 (min 30 ((s.1 22 3) + 1))) s.2.2 := lf_fq_up fr4 rfl (fun h => absurd h (by decide))
  refine sm_68 hI7 (show (0 : Int) ≤ (((s.1 22 2) + 1).tmod 30) * 39 ∧ (((s.1 22 2) + 1).tmod 30) * 39 ≤ (1131 : Int) from by omega) (show ((((s.1 22 2) + 1).tmod 30) * 39) = 39 * (((s.1 22 2) + 1).tmod 30) from by omega) (fun s23 hI10 fr9 => ?_)
  have fr12 : lf_fq [22, 23, 24] 1000000 true s.1 s.2.2 s23.1 s23.2.2 := lf_fq_tr fr8 (lf_fq_wk fr9 rfl (by decide) (by decide))
  have b13 : 0 ≤ s23.1 22 2 ∧ s23.1 22 2 ≤ 29 := iv_r22_2 hI10
  have b14 : s23.1 22 2 = ((s.1 22 2) + 1).tmod 30 := congrFun (fr9.1 22 rfl) _
  refine ⟨(show (0 : Int) ≤ s23.1 22 2 ∧ s23.1 22 2 < (30 : Int) from by omega), ?_⟩
  have hI15 : iv_A (lf_up s23.1 24 (s23.1 22 2) a2) s23.2.2 := iv_w24 hI10 (by omega)
  have fr16 : lf_fq [22, 23, 24] 1000000 true s.1 s.2.2 (lf_up s23.1 24 (s23.1 22 2) a2) s23.2.2 := lf_fq_up fr12 rfl (fun h => absurd h (by decide))
  exact hQ (lf_up s23.1 24 (s23.1 22 2) a2, s23.2.1, s23.2.2) hI15 fr16
-- fm_69 Stand.put 15 i i i i
theorem sm_69 {a1 : Int} {a2 : Int} {a3 : Int} {a4 : Int} {Q : lf_Z → Prop} {s : lf_Z} (hI : iv_A s.1 s.2.2) (ba1 : 0 ≤ a1 ∧ a1 ≤ 3) (ba2 : (-2147483648) ≤ a2 ∧ a2 ≤ 2147483647) (ba3 : (-1) ≤ a3 ∧ a3 ≤ 11) (ba4 : (-1) ≤ a4 ∧ a4 ≤ 11) (kp0 : a2 ≤ 0 ∨ 0 ≤ a3) (hQ : ∀  (s' : lf_Z), iv_A s'.1 s'.2.2 → lf_fq [16, 17, 18] 1000000 true s.1 s.2.2 s'.1 s'.2.2 → Q  s') : fm_69 a1 a2 a3 a4 Q s := by
  unfold fm_69
  refine ⟨by omega, ?_⟩
  exact hQ (lf_up (lf_up (lf_up s.1 16 a1 a2) 17 a1 a3) 18 a1 a4, s.2.1, s.2.2) (iv_put hI ba2 ba3 ba4 kp0) (lf_fq_up (lf_fq_up (lf_fq_up lf_fq_rf rfl (fun h => absurd h (by decide))) rfl (fun h => absurd h (by decide))) rfl (fun h => absurd h (by decide)))
-- fm_63 ElevenBullocks.stray 0 i i
theorem sm_63 {a1 : Int} {a2 : Int} {Q : Int → lf_Z → Prop} {s : lf_Z} (hI : iv_A s.1 s.2.2) (ba1 : (-2147483648) ≤ a1 ∧ a1 ≤ 2147483647) (ba2 : (-2147483648) ≤ a2 ∧ a2 ≤ 2147483647) (hQ : ∀ (r : Int) (s' : lf_Z), iv_A s'.1 s'.2.2 → lf_fq [16, 17, 18, 22, 23, 24] 1000000 true s.1 s.2.2 s'.1 s'.2.2 → ((-1) ≤ r ∧ r ≤ 3) → Q r s') : fm_63 a1 a2 Q s := by
  unfold fm_63
  refine sm_64 hI (fun r22 q1 => ?_)
  have b2 : (-2147483648) ≤ lf_w (24 - r22) ∧ lf_w (24 - r22) ≤ 2147483647 := lf_wB
  refine sm_15 hI (show (-2147483648 : Int) ≤ a1 ∧ a1 ≤ (2147483647 : Int) from by omega) (show (-1 : Int) ≤ 1 ∧ 1 ≤ (99 : Int) from by omega) (show (-2147483648 : Int) ≤ lf_w (24 - r22) ∧ lf_w (24 - r22) ≤ (2147483647 : Int) from by omega) (fun z24 q3 => ?_)
  refine ⟨fun c4 => ?_, fun c4 => ?_⟩
  · skip
    have dc4 := q3.2 c4
    exact hQ (-1) s hI (lf_fq_rf) (show (-1 : Int) ≤ (-1) ∧ (-1) ≤ (3 : Int) from by omega)
  · skip
    have dc4 := q3.1 c4
    refine sm_18 hI (show (-2147483648 : Int) ≤ a2 ∧ a2 ≤ (2147483647 : Int) from by omega) (fun z26 q5 => ?_)
    have b6 : 0 ≤ s.1 1 0 ∧ s.1 1 0 ≤ 12 := iv_r1_0 hI
    refine ⟨fun c7 => ?_, fun c7 => ?_⟩
    · skip
      have dc7 := q5.1 c7
      refine sm_66 hI (fun r28 q8 => ?_)
      refine ⟨(show lf_R r28 from lf_Rof (by omega)), ?_⟩
      refine ⟨fun c9 => ?_, fun c9 => ?_⟩
      · skip
        replace c9 : r28 = (-1) := c9
        exact hQ r28 s hI (lf_fq_rf) (show (-1 : Int) ≤ r28 ∧ r28 ≤ (3 : Int) from by omega)
      · skip
        replace c9 : ¬ (r28 = (-1)) := c9
        have b10 : 0 ≤ s.1 1 2 ∧ s.1 1 2 ≤ 6 := iv_r1_2 hI
        refine sm_67 hI (show (0 : Int) ≤ s.1 1 2 ∧ s.1 1 2 ≤ (6 : Int) from by omega) (fun s30 hI12 fr11 => ?_)
        have fr14 : lf_fq [16, 17, 18, 22, 23, 24] 1000000 true s.1 s.2.2 s30.1 s30.2.2 := lf_fq_tr (lf_fq_rf) (lf_fq_wk fr11 rfl (by decide) (by decide))
        refine sm_69 hI12 (show (0 : Int) ≤ r28 ∧ r28 ≤ (3 : Int) from by omega) (show (-2147483648 : Int) ≤ a1 ∧ a1 ≤ (2147483647 : Int) from by omega) (show (-1 : Int) ≤ a2 ∧ a2 ≤ (11 : Int) from by omega) (show (-1 : Int) ≤ (-1) ∧ (-1) ≤ (11 : Int) from by omega) (show a1 ≤ 0 ∨ 0 ≤ a2 from by omega) (fun s31 hI16 fr15 => ?_)
        have fr18 : lf_fq [16, 17, 18, 22, 23, 24] 1000000 true s.1 s.2.2 s31.1 s31.2.2 := lf_fq_tr fr14 (lf_fq_wk fr15 rfl (by decide) (by decide))
        exact hQ r28 s31 hI16 fr18 (show (-1 : Int) ≤ r28 ∧ r28 ≤ (3 : Int) from by omega)
    · skip
      have dc7 := q5.2 c7
      exact hQ (-1) s hI (lf_fq_rf) (show (-1 : Int) ≤ (-1) ∧ (-1) ≤ (3 : Int) from by omega)
-- fm_242 Model.sizeOf 95 i
theorem sm_242 {a1 : Int} {Q : Int → lf_Z → Prop} {s : lf_Z} (hI : iv_A s.1 s.2.2) (ba1 : 0 ≤ a1 ∧ a1 ≤ 3) (hQ : ∀ (r : Int), ((0 ≤ r ∧ r ≤ 24) ∧ (r = s.1 96 (114 + 3 * a1))) → Q r s) : fm_242 a1 Q s := by
  unfold fm_242
  refine ⟨(show (0 : Int) ≤ 114 + (3 * a1) ∧ 114 + (3 * a1) < (1538 : Int) from by omega), ?_⟩
  have b1 : 0 ≤ s.1 96 (114 + (3 * a1)) ∧ s.1 96 (114 + (3 * a1)) ≤ 24 := iv_rd96 hI (iv_f3318a158 (a1) (by omega) (by omega))
  exact hQ (s.1 96 (114 + (3 * a1))) ⟨(show (0 : Int) ≤ s.1 96 (114 + (3 * a1)) ∧ s.1 96 (114 + (3 * a1)) ≤ (24 : Int) from by omega), (show s.1 96 (114 + (3 * a1)) = s.1 96 (114 + 3 * a1) from by omega)⟩
-- fm_241 Model.freeBunch 95
theorem sm_241_p2 {X2 : Int → lf_Z → Prop} {Q : Int → lf_Z → Prop} {x1 : Int} {s : lf_Z} {s0 : lf_Z} (hQ : ∀ (r : Int), (r = -1 ∨ s.1 96 (114 + 3 * r) = 0) → ((-1) ≤ r ∧ r ≤ 3) → Q r s) {M2 : Nat} (hX2 : ∀ (x1 : Int), 0 ≤ x1 ∧ x1 ≤ 4 → (4 - x1).toNat < M2 → X2 x1 s) (hM2 : (4 - x1).toNat ≤ M2) (hI : iv_A s.1 s.2.2) (bx1 : 0 ≤ x1 ∧ x1 ≤ 4) : fm_241_p2 Q X2 x1 s := by
  unfold fm_241_p2
  refine ⟨(show lf_R x1 from lf_Rof (by omega)), ?_⟩
  refine ⟨fun c1 => ?_, fun c1 => ?_⟩
  · skip
    replace c1 : 4 ≤ x1 := c1
    exact hQ (-1) (show (-1) = -1 ∨ (s.1 96) (114 + 3 * (-1)) = 0 from by omega) (show (-1 : Int) ≤ (-1) ∧ (-1) ≤ (3 : Int) from by omega)
  · skip
    replace c1 : ¬ (4 ≤ x1) := c1
    refine sm_242 hI (show (0 : Int) ≤ x1 ∧ x1 ≤ (3 : Int) from by omega) (fun r23 q2 => ?_)
    obtain ⟨q2, q2x⟩ := q2
    replace q2x : r23 = s.1 96 (114 + 3 * x1) := q2x
    refine ⟨(show lf_R r23 from lf_Rof (by omega)), ?_⟩
    refine ⟨fun c3 => ?_, fun c3 => ?_⟩
    · skip
      replace c3 : r23 ≠ 0 := c3
      exact hX2 (x1 + 1) (show (0 : Int) ≤ x1 + 1 ∧ x1 + 1 ≤ (4 : Int) from by omega) (show (4 - (x1 + 1)).toNat < M2 from by omega)
    · skip
      replace c3 : ¬ (r23 ≠ 0) := c3
      exact hQ x1 (show x1 = -1 ∨ (s.1 96) (114 + 3 * x1) = 0 from by omega) (show (-1 : Int) ≤ x1 ∧ x1 ≤ (3 : Int) from by omega)
theorem sm_241_p2L {Q : Int → lf_Z → Prop} {x1 : Int} {s : lf_Z} {s0 : lf_Z} (hQ : ∀ (r : Int), (r = -1 ∨ s.1 96 (114 + 3 * r) = 0) → ((-1) ≤ r ∧ r ≤ 3) → Q r s) (hI : iv_A s.1 s.2.2) (bx1 : 0 ≤ x1 ∧ x1 ≤ 4) : fm_241_p2L Q x1 s := by
  intro X2 hX
  have key : ∀ (m9 : Nat) (x1 : Int), 0 ≤ x1 ∧ x1 ≤ 4 → (4 - x1).toNat < m9 → X2 x1 s := by
    intro m9
    induction m9 with
    | zero => intro x1 bx1 h9; exact absurd h9 (Nat.not_lt_zero _)
    | succ m9 ih => intro x1 bx1 h9; exact hX _ _ (sm_241_p2 (s0 := s0) hQ   (fun x1' bx1' h8 => ih x1' bx1' (by omega)) (Nat.le_refl _)  hI  bx1  )
  exact key _ _ bx1   (Nat.lt_succ_self _)
theorem sm_241 {Q : Int → lf_Z → Prop} {s : lf_Z} (hI : iv_A s.1 s.2.2) (hQ : ∀ (r : Int), (r = -1 ∨ s.1 96 (114 + 3 * r) = 0) → ((-1) ≤ r ∧ r ≤ 3) → Q r s) : fm_241 Q s := by
  unfold fm_241
  exact sm_241_p2L (s0 := s) hQ hI (show (0 : Int) ≤ 0 ∧ 0 ≤ (4 : Int) from by omega)
-- fm_243 Model.beasts 95
theorem sm_243_p4 {X4 : Int → Int → lf_Z → Prop} {Q : Int → lf_Z → Prop} {x1 : Int} {x2 : Int} {s : lf_Z} {s0 : lf_Z} (hQ : ∀ (r : Int), (r = s.1 96 114 + s.1 96 117 + s.1 96 120 + s.1 96 123) → (0 ≤ r ∧ r ≤ 96) → Q r s) {M4 : Nat} (hX4 : ∀ (x1 : Int) (x2 : Int), 0 ≤ x1 ∧ x1 ≤ 96 → 0 ≤ x2 ∧ x2 ≤ 4 → ((x2 = 0 ∧ x1 = 0) ∨ (x2 = 1 ∧ x1 = s.1 96 114) ∨ (x2 = 2 ∧ x1 = s.1 96 114 + s.1 96 117) ∨ (x2 = 3 ∧ x1 = s.1 96 114 + s.1 96 117 + s.1 96 120) ∨ (x2 = 4 ∧ x1 = s.1 96 114 + s.1 96 117 + s.1 96 120 + s.1 96 123)) → (4 - x2).toNat < M4 → X4 x1 x2 s) (hM4 : (4 - x2).toNat ≤ M4) (hI : iv_A s.1 s.2.2) (bx1 : 0 ≤ x1 ∧ x1 ≤ 96) (bx2 : 0 ≤ x2 ∧ x2 ≤ 4) (kv0 : (x2 = 0 ∧ x1 = 0) ∨ (x2 = 1 ∧ x1 = s.1 96 114) ∨ (x2 = 2 ∧ x1 = s.1 96 114 + s.1 96 117) ∨ (x2 = 3 ∧ x1 = s.1 96 114 + s.1 96 117 + s.1 96 120) ∨ (x2 = 4 ∧ x1 = s.1 96 114 + s.1 96 117 + s.1 96 120 + s.1 96 123)) : fm_243_p4 Q X4 x1 x2 s := by
  unfold fm_243_p4
  refine ⟨(show lf_R x2 from lf_Rof (by omega)), ?_⟩
  refine ⟨fun c5 => ?_, fun c5 => ?_⟩
  · skip
    replace c5 : 4 ≤ x2 := c5
    exact hQ x1 (show x1 = (s.1 96 114) + (s.1 96 117) + (s.1 96 120) + (s.1 96 123) from by omega) (show (0 : Int) ≤ x1 ∧ x1 ≤ (96 : Int) from by omega)
  · skip
    replace c5 : ¬ (4 ≤ x2) := c5
    refine sm_242 hI (show (0 : Int) ≤ x2 ∧ x2 ≤ (3 : Int) from by omega) (fun r23 q6 => ?_)
    obtain ⟨q6, q6x⟩ := q6
    replace q6x : r23 = s.1 96 (114 + 3 * x2) := q6x
    have b7 : 0 ≤ s.1 96 114 ∧ s.1 96 114 ≤ 24 := iv_rd96 hI (iv_fda037f3c (by omega))
    have b8 : 0 ≤ s.1 96 117 ∧ s.1 96 117 ≤ 24 := iv_rd96 hI (iv_f168d6e22 (by omega))
    have b9 : 0 ≤ s.1 96 120 ∧ s.1 96 120 ≤ 24 := iv_rd96 hI (iv_f5f96ec92 (by omega))
    have b10 : 0 ≤ s.1 96 123 ∧ s.1 96 123 ≤ 24 := iv_rd96 hI (iv_fe4a5d80e (by omega))
    have b11 : (x2 = 0 → (s.1 96) (114 + 3 * x2) = (s.1 96 114)) ∧ (x2 = 1 → (s.1 96) (114 + 3 * x2) = (s.1 96 117)) ∧ (x2 = 2 → (s.1 96) (114 + 3 * x2) = (s.1 96 120)) ∧ (x2 = 3 → (s.1 96) (114 + 3 * x2) = (s.1 96 123)) := lf_c4 _ _
    exact hX4 (x1 + r23) (x2 + 1) (show (0 : Int) ≤ x1 + r23 ∧ x1 + r23 ≤ (96 : Int) from by omega) (show (0 : Int) ≤ x2 + 1 ∧ x2 + 1 ≤ (4 : Int) from by omega) (show ((x2 + 1) = 0 ∧ (x1 + r23) = 0) ∨ ((x2 + 1) = 1 ∧ (x1 + r23) = (s.1 96 114)) ∨ ((x2 + 1) = 2 ∧ (x1 + r23) = (s.1 96 114) + (s.1 96 117)) ∨ ((x2 + 1) = 3 ∧ (x1 + r23) = (s.1 96 114) + (s.1 96 117) + (s.1 96 120)) ∨ ((x2 + 1) = 4 ∧ (x1 + r23) = (s.1 96 114) + (s.1 96 117) + (s.1 96 120) + (s.1 96 123)) from by omega) (show (4 - (x2 + 1)).toNat < M4 from by omega)
theorem sm_243_p4L {Q : Int → lf_Z → Prop} {x1 : Int} {x2 : Int} {s : lf_Z} {s0 : lf_Z} (hQ : ∀ (r : Int), (r = s.1 96 114 + s.1 96 117 + s.1 96 120 + s.1 96 123) → (0 ≤ r ∧ r ≤ 96) → Q r s) (hI : iv_A s.1 s.2.2) (bx1 : 0 ≤ x1 ∧ x1 ≤ 96) (bx2 : 0 ≤ x2 ∧ x2 ≤ 4) (kv0 : (x2 = 0 ∧ x1 = 0) ∨ (x2 = 1 ∧ x1 = s.1 96 114) ∨ (x2 = 2 ∧ x1 = s.1 96 114 + s.1 96 117) ∨ (x2 = 3 ∧ x1 = s.1 96 114 + s.1 96 117 + s.1 96 120) ∨ (x2 = 4 ∧ x1 = s.1 96 114 + s.1 96 117 + s.1 96 120 + s.1 96 123)) : fm_243_p4L Q x1 x2 s := by
  intro X4 hX
  have key : ∀ (m9 : Nat) (x1 : Int) (x2 : Int), 0 ≤ x1 ∧ x1 ≤ 96 → 0 ≤ x2 ∧ x2 ≤ 4 → ((x2 = 0 ∧ x1 = 0) ∨ (x2 = 1 ∧ x1 = s.1 96 114) ∨ (x2 = 2 ∧ x1 = s.1 96 114 + s.1 96 117) ∨ (x2 = 3 ∧ x1 = s.1 96 114 + s.1 96 117 + s.1 96 120) ∨ (x2 = 4 ∧ x1 = s.1 96 114 + s.1 96 117 + s.1 96 120 + s.1 96 123)) → (4 - x2).toNat < m9 → X4 x1 x2 s := by
    intro m9
    induction m9 with
    | zero => intro x1 x2 bx1 bx2 kv0 h9; exact absurd h9 (Nat.not_lt_zero _)
    | succ m9 ih => intro x1 x2 bx1 bx2 kv0 h9; exact hX _ _ _ (sm_243_p4 (s0 := s0) hQ   (fun x1' x2' bx1' bx2' kv0' h8 => ih x1' x2' bx1' bx2' kv0' (by omega)) (Nat.le_refl _)  hI  bx1 bx2  kv0)
  exact key _ _ _ bx1 bx2  kv0 (Nat.lt_succ_self _)
theorem sm_243 {Q : Int → lf_Z → Prop} {s : lf_Z} (hI : iv_A s.1 s.2.2) (hQ : ∀ (r : Int), (r = s.1 96 114 + s.1 96 117 + s.1 96 120 + s.1 96 123) → (0 ≤ r ∧ r ≤ 96) → Q r s) : fm_243 Q s := by
  unfold fm_243
  have b1 : 0 ≤ s.1 96 114 ∧ s.1 96 114 ≤ 24 := iv_rd96 hI (iv_fda037f3c (by omega))
  have b2 : 0 ≤ s.1 96 117 ∧ s.1 96 117 ≤ 24 := iv_rd96 hI (iv_f168d6e22 (by omega))
  have b3 : 0 ≤ s.1 96 120 ∧ s.1 96 120 ≤ 24 := iv_rd96 hI (iv_f5f96ec92 (by omega))
  have b4 : 0 ≤ s.1 96 123 ∧ s.1 96 123 ≤ 24 := iv_rd96 hI (iv_fe4a5d80e (by omega))
  exact sm_243_p4L (s0 := s) hQ hI (show (0 : Int) ≤ 0 ∧ 0 ≤ (96 : Int) from by omega) (show (0 : Int) ≤ 0 ∧ 0 ≤ (4 : Int) from by omega) (show (0 = 0 ∧ 0 = 0) ∨ (0 = 1 ∧ 0 = (s.1 96 114)) ∨ (0 = 2 ∧ 0 = (s.1 96 114) + (s.1 96 117)) ∨ (0 = 3 ∧ 0 = (s.1 96 114) + (s.1 96 117) + (s.1 96 120)) ∨ (0 = 4 ∧ 0 = (s.1 96 114) + (s.1 96 117) + (s.1 96 120) + (s.1 96 123)) from by omega)
