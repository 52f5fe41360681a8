-- fm_210 Model.has i i
theorem sm_210 {a0 : Int} {a1 : Int} {Q : Bool → lf_Z → Prop} {s : lf_Z} (hI : iv_A s.1 s.2.2) (ba0 : (-2147483648) ≤ a0 ∧ a0 ≤ 2147483647) (ba1 : (-1) ≤ a1 ∧ a1 ≤ 15) (hQ : ∀ (z : Bool), ((z = true → (lf_and (lf_shr a0 a1) 1 = 1)) ∧ (z = false → ¬ (lf_and (lf_shr a0 a1) 1 = 1))) → Q z s) : fm_210 a0 a1 Q s := by
  unfold fm_210
  exact ⟨fun c => hQ false (lf_pf c), fun c => hQ true (lf_pt (Classical.not_not.mp c))⟩
-- fm_202 Model.clause 95
set_option maxHeartbeats 8000000 in
theorem sm_202_p65 {Q : Int → lf_Z → Prop} {x1 : Int} {x2 : Int} {s : lf_Z} {s0 : lf_Z} (hQ : ∀ (r : Int) (s' : lf_Z), iv_A s'.1 s'.2.2 → lf_fq [95, 98, 100, 101, 102, 103] 1000000 true s.1 s.2.2 s'.1 s'.2.2 → (r = 0 → wk_E (s'.1 98) (s'.1 95 12) (s'.1 95 13)) → (r = 0 → ((s'.1 95 9 = 0 ∨ s'.1 95 8 < s'.1 95 7) ∧ s'.1 95 13 ≤ s'.1 95 8 ∧ s0.1 95 8 < s'.1 95 8)) → (0 ≤ r ∧ r ≤ 6) → Q r s') (hI : iv_A s.1 s.2.2) (bx1 : 0 ≤ x1 ∧ x1 ≤ 12) (bx2 : 0 ≤ x2 ∧ x2 ≤ 23) (kv0 : wk_E (s.1 98) (s.1 95 12) (s.1 95 13)) (kv1 : s.1 95 9 ≠ 0) (kv2 : (s.1 95 9 = 0 ∨ s.1 95 8 < s.1 95 7) ∧ s.1 95 13 ≤ s.1 95 8) (kv3 : 0 ≤ x1) (kv4 : s.1 95 8 = s0.1 95 8 ∧ s.1 95 12 = s0.1 95 12) (kv5 : x2 = s.1 98 (s.1 95 12) ∧ x2 < 24) : fm_202_p65 Q x1 x2 s := by
  unfold fm_202_p65
  have b18 : 0 ≤ s.1 95 12 ∧ s.1 95 12 ≤ 2115 := iv_r95_12 hI
  have b19 : 0 ≤ (s.1 98) ((s.1 95 12)) ∧ (s.1 98) ((s.1 95 12)) ≤ 24 ∧ ((s.1 95 12) = 0 ∨ (s.1 95 12) = 705 ∨ (s.1 95 12) = 1410 ∨ (s.1 95 12) = 2115) := ⟨kv0.2.2.1, kv0.2.1, kv0.1⟩
  have hI20 : iv_A (lf_up s.1 95 14 x1) s.2.2 := iv_w95_14 hI (by omega)
  have fr21 : lf_fq [95, 98, 100, 101, 102, 103] 1000000 true s.1 s.2.2 (lf_up s.1 95 14 x1) s.2.2 := lf_fq_up (lf_fq_rf) rfl (fun h => absurd h (by decide))
  refine sm_197 hI20 (fun s27 hI23 fr22 ps25 ps26 => ?_)
  replace ps25 : (s.1 95 7) ≤ s27.1 95 8 ∧ (s27.1 95 9 = 0 ∨ s27.1 95 8 < s27.1 95 7) := ps25
  replace ps26 : s27.1 95 12 = (s.1 95 12) ∧ s27.1 95 13 = (s.1 95 13) ∧ s27.1 95 19 = (s.1 95 19) ∧ s27.1 95 20 = (s.1 95 20) ∧ s27.1 95 21 = (s.1 95 21) ∧ s27.1 95 22 = (s.1 95 22) ∧ s27.1 95 23 = (s.1 95 23) := ps26
  have fr27 : lf_fq [95, 98, 100, 101, 102, 103] 1000000 true s.1 s.2.2 s27.1 s27.2.2 := lf_fq_tr fr21 (lf_fq_wk fr22 rfl (by decide) (by decide))
  have b28 : 0 ≤ s27.1 95 12 ∧ s27.1 95 12 ≤ 2115 := iv_r95_12 hI23
  have b29 : 0 ≤ s27.1 95 13 ∧ s27.1 95 13 ≤ 304 := iv_r95_13 hI23
  have b30 : wk_E ((s27.1 98)) ((s27.1 95 12)) ((s27.1 95 13)) := wk_cE (fr22.1 98 rfl) kv0 (by omega) (by omega)
  have b31 : (s27.1 98) ((s27.1 95 12)) = s.1 98 (s.1 95 12) := lf_ap (fr22.1 98 rfl) (by omega)
  have b32 : ((s27.1 95 12) = 0 ∨ (s27.1 95 12) = 705 ∨ (s27.1 95 12) = 1410 ∨ (s27.1 95 12) = 2115) := by omega
  have b33 : wk_T (lf_up s27.1 98 (((s27.1 95 12) + 1) + (4 * x2)) x1 98) := wk_Tx (wk_TA hI23) (show wk_E ((s27.1 98)) ((s27.1 95 12)) ((s27.1 95 13)) from by first | with_reducible assumption | assumption) (by omega) (wk_hr hI23) (by omega)
  refine ⟨(show (0 : Int) ≤ ((s27.1 95 12) + 1) + (4 * x2) ∧ ((s27.1 95 12) + 1) + (4 * x2) < (2820 : Int) from by omega), ?_⟩
  have hI34 : iv_A (lf_up s27.1 98 (((s27.1 95 12) + 1) + (4 * x2)) x1) s27.2.2 := iv_w98c (t0 := s27.1 95 12) hI23 (by omega) (by omega) (by omega) (by first | with_reducible assumption | assumption)
  have fr35 : lf_fq [95, 98, 100, 101, 102, 103] 1000000 true s.1 s.2.2 (lf_up s27.1 98 (((s27.1 95 12) + 1) + (4 * x2)) x1) s27.2.2 := lf_fq_up fr27 rfl (fun h => absurd h (by decide))
  have b36 : wk_E (((lf_up s27.1 98 (((s27.1 95 12) + 1) + (4 * x2)) x1) 98)) ((s27.1 95 12)) ((s27.1 95 13)) := wk_Ex (by first | with_reducible assumption | assumption) (by omega)
  have b37 : ((lf_up s27.1 98 (((s27.1 95 12) + 1) + (4 * x2)) x1) 98) ((s27.1 95 12)) = s27.1 98 (s27.1 95 12) := lf_up_i (by omega)
  have b38 : ((lf_up s27.1 98 (((s27.1 95 12) + 1) + (4 * x2)) x1) 98) ((((s27.1 95 12) + 1) + (4 * x2))) = x1 := lf_up_s
  have b41 : (-2147483648) ≤ s27.1 95 9 ∧ s27.1 95 9 ≤ 2147483647 := (show (-2147483648) ≤ (lf_up s27.1 98 (((s27.1 95 12) + 1) + (4 * x2)) x1) 95 9 ∧ (lf_up s27.1 98 (((s27.1 95 12) + 1) + (4 * x2)) x1) 95 9 ≤ 2147483647 from iv_full hI34)
  have b42 : 0 ≤ s27.1 95 8 ∧ s27.1 95 8 ≤ 300 := (show 0 ≤ (lf_up s27.1 98 (((s27.1 95 12) + 1) + (4 * x2)) x1) 95 8 ∧ (lf_up s27.1 98 (((s27.1 95 12) + 1) + (4 * x2)) x1) 95 8 ≤ 300 from iv_r95_8 hI34)
  have b43 : 0 ≤ s27.1 95 7 ∧ s27.1 95 7 ≤ 300 := (show 0 ≤ (lf_up s27.1 98 (((s27.1 95 12) + 1) + (4 * x2)) x1) 95 7 ∧ (lf_up s27.1 98 (((s27.1 95 12) + 1) + (4 * x2)) x1) 95 7 ≤ 300 from iv_r95_7 hI34)
  refine sm_211 hI34 (show (0 : Int) ≤ x1 ∧ x1 ≤ (12 : Int) from by omega) (show (1 : Int) ≤ ((s27.1 95 12) + 1) + (4 * x2) ∧ ((s27.1 95 12) + 1) + (4 * x2) ≤ (2208 : Int) from by omega) (show wk_E (((lf_up s27.1 98 (((s27.1 95 12) + 1) + (4 * x2)) x1) 98)) ((s27.1 95 12)) ((s27.1 95 13)) from by first | with_reducible assumption | assumption) (show ((lf_up s27.1 98 (((s27.1 95 12) + 1) + (4 * x2)) x1) 98) ((s27.1 95 12)) < 24 from by omega) (show (((s27.1 95 12) + 1) + (4 * x2)) = (s27.1 95 12) + 1 + 4 * ((lf_up s27.1 98 (((s27.1 95 12) + 1) + (4 * x2)) x1) 98) ((s27.1 95 12)) from by omega) (show ((s27.1 95 9) = 0 ∨ (s27.1 95 8) < (s27.1 95 7)) ∧ (s27.1 95 13) ≤ (s27.1 95 8) from by omega) (fun r30 s29 hI40 fr39 ps45 ps46 q44 => ?_)
  replace ps45 : r30 = 0 → pz_D (x1) ((((s27.1 95 12) + 1) + (4 * x2))) (((lf_up s27.1 98 (((s27.1 95 12) + 1) + (4 * x2)) x1) 98)) (s29.1 98) ((s27.1 95 12)) (s29.1 95 12) (s29.1 95 13) := ps45
  replace ps46 : r30 = 0 → ((s29.1 95 9 = 0 ∨ s29.1 95 8 < s29.1 95 7) ∧ s29.1 95 13 ≤ s29.1 95 8 ∧ (s27.1 95 8) ≤ s29.1 95 8) := ps46
  have fr47 : lf_fq [95, 98, 100, 101, 102, 103] 1000000 true s.1 s.2.2 s29.1 s29.2.2 := lf_fq_tr fr35 (lf_fq_wk fr39 rfl (by decide) (by decide))
  refine ⟨(show lf_R r30 from lf_Rof (by omega)), ?_⟩
  refine ⟨fun c48 => ?_, fun c48 => ?_⟩
  · skip
    replace c48 : r30 = 0 := c48
    have dps45 := ps45 c48
    have dps46 := ps46 c48
    have b49 : 0 ≤ s29.1 95 12 ∧ s29.1 95 12 ≤ 2115 := iv_r95_12 hI40
    have b50 : (s29.1 95 12) = s27.1 95 12 ∧ (s29.1 98) ((s29.1 95 12)) = (lf_up s27.1 98 (((s27.1 95 12) + 1) + (4 * x2)) x1) 98 (s27.1 95 12) := pz_Dn (show pz_D (x1) ((((s27.1 95 12) + 1) + (4 * x2))) ((lf_up s27.1 98 (((s27.1 95 12) + 1) + (4 * x2)) x1) 98) ((s29.1 98)) (s27.1 95 12) ((s29.1 95 12)) ((s29.1 95 13)) from by first | with_reducible assumption | assumption)
    refine ⟨(show (0 : Int) ≤ s29.1 95 12 ∧ s29.1 95 12 < (2820 : Int) from by omega), ?_⟩
    have b51 : (-2147483648) ≤ s29.1 98 (s29.1 95 12) ∧ s29.1 98 (s29.1 95 12) ≤ 2147483647 := iv_full hI40
    have b52 : wk_T (lf_up s29.1 98 (s29.1 95 12) ((s29.1 98 (s29.1 95 12)) + 1) 98) := wk_Tn (wk_TA hI40) (by omega) (wk_hr hI40) (by omega) (fun a b => (pz_Dc (show pz_D (x1) ((((s27.1 95 12) + 1) + (4 * x2))) ((lf_up s27.1 98 (((s27.1 95 12) + 1) + (4 * x2)) x1) 98) ((s29.1 98)) (s27.1 95 12) ((s29.1 95 12)) ((s29.1 95 13)) from by first | with_reducible assumption | assumption) (by omega) (by omega) (by omega) a b).1)
    have b53 : 0 ≤ s29.1 95 13 ∧ s29.1 95 13 ≤ 304 := iv_r95_13 hI40
    have b54 : wk_E (lf_up s29.1 98 (s29.1 95 12) ((s29.1 98 (s29.1 95 12)) + 1) 98) ((s29.1 95 12)) ((s29.1 95 13)) := wk_En (show pz_D (x1) ((((s27.1 95 12) + 1) + (4 * x2))) ((lf_up s27.1 98 (((s27.1 95 12) + 1) + (4 * x2)) x1) 98) ((s29.1 98)) (s27.1 95 12) ((s29.1 95 12)) ((s29.1 95 13)) from by first | with_reducible assumption | assumption).2.1 (by omega) (Int.le_refl _) (fun a b => (pz_Dc (show pz_D (x1) ((((s27.1 95 12) + 1) + (4 * x2))) ((lf_up s27.1 98 (((s27.1 95 12) + 1) + (4 * x2)) x1) 98) ((s29.1 98)) (s27.1 95 12) ((s29.1 95 12)) ((s29.1 95 13)) from by first | with_reducible assumption | assumption) (by omega) (by omega) (by omega) a b).2)
    have hI55 : iv_A (lf_up s29.1 98 (s29.1 95 12) ((s29.1 98 (s29.1 95 12)) + 1)) s29.2.2 := iv_w98z hI40 (by omega) (by omega) (by first | with_reducible assumption | assumption)
    have fr56 : lf_fq [95, 98, 100, 101, 102, 103] 1000000 true s.1 s.2.2 (lf_up s29.1 98 (s29.1 95 12) ((s29.1 98 (s29.1 95 12)) + 1)) s29.2.2 := lf_fq_up fr47 rfl (fun h => absurd h (by decide))
    have b57 : (-2147483648) ≤ s29.1 95 9 ∧ s29.1 95 9 ≤ 2147483647 := (show (-2147483648) ≤ (lf_up s29.1 98 (s29.1 95 12) ((s29.1 98 (s29.1 95 12)) + 1)) 95 9 ∧ (lf_up s29.1 98 (s29.1 95 12) ((s29.1 98 (s29.1 95 12)) + 1)) 95 9 ≤ 2147483647 from iv_full hI55)
    refine ⟨(show lf_R (s29.1 95 9) from lf_Rof (by omega)), ?_⟩
    refine ⟨fun c58 => ?_, fun c58 => ?_⟩
    · skip
      replace c58 : s29.1 95 9 = 59 := c58
      refine sm_197 hI55 (fun s34 hI60 fr59 ps62 ps63 => ?_)
      replace ps62 : (s29.1 95 7) ≤ s34.1 95 8 ∧ (s34.1 95 9 = 0 ∨ s34.1 95 8 < s34.1 95 7) := ps62
      replace ps63 : s34.1 95 12 = (s29.1 95 12) ∧ s34.1 95 13 = (s29.1 95 13) ∧ s34.1 95 19 = (s29.1 95 19) ∧ s34.1 95 20 = (s29.1 95 20) ∧ s34.1 95 21 = (s29.1 95 21) ∧ s34.1 95 22 = (s29.1 95 22) ∧ s34.1 95 23 = (s29.1 95 23) := ps63
      have fr64 : lf_fq [95, 98, 100, 101, 102, 103] 1000000 true s.1 s.2.2 s34.1 s34.2.2 := lf_fq_tr fr56 (lf_fq_wk fr59 rfl (by decide) (by decide))
      have b65 : 0 ≤ s34.1 95 12 ∧ s34.1 95 12 ≤ 2115 := iv_r95_12 hI60
      have b66 : 0 ≤ s34.1 95 13 ∧ s34.1 95 13 ≤ 304 := iv_r95_13 hI60
      have b67 : wk_E ((s34.1 98)) ((s34.1 95 12)) ((s34.1 95 13)) := wk_cE (fr59.1 98 rfl) (by first | with_reducible assumption | assumption) (by omega) (by omega)
      exact hQ 0 s34 hI60 fr64 (show 0 = 0 → wk_E ((s34.1 98)) ((s34.1 95 12)) ((s34.1 95 13)) from fun _ => by first | with_reducible assumption | assumption) (show 0 = 0 → (((s34.1 95 9) = 0 ∨ (s34.1 95 8) < (s34.1 95 7)) ∧ (s34.1 95 13) ≤ (s34.1 95 8) ∧ s0.1 95 8 < (s34.1 95 8)) from fun _ => by omega) (show (0 : Int) ≤ 0 ∧ 0 ≤ (6 : Int) from by omega)
    · skip
      replace c58 : ¬ (s29.1 95 9 = 59) := c58
      exact hQ 1 (lf_up s29.1 98 (s29.1 95 12) ((s29.1 98 (s29.1 95 12)) + 1), s29.2.1, s29.2.2) hI55 fr56 (show 1 = 0 → wk_E (((lf_up s29.1 98 (s29.1 95 12) ((s29.1 98 (s29.1 95 12)) + 1)) 98)) ((s29.1 95 12)) ((s29.1 95 13)) from fun h => absurd h (by decide)) (show 1 = 0 → (((s29.1 95 9) = 0 ∨ (s29.1 95 8) < (s29.1 95 7)) ∧ (s29.1 95 13) ≤ (s29.1 95 8) ∧ s0.1 95 8 < (s29.1 95 8)) from fun h => absurd h (by decide)) (show (0 : Int) ≤ 1 ∧ 1 ≤ (6 : Int) from by omega)
  · skip
    replace c48 : ¬ (r30 = 0) := c48
    exact hQ r30 s29 hI40 fr47 (show r30 = 0 → wk_E ((s29.1 98)) ((s29.1 95 12)) ((s29.1 95 13)) from by first | with_reducible assumption | omega) (show r30 = 0 → (((s29.1 95 9) = 0 ∨ (s29.1 95 8) < (s29.1 95 7)) ∧ (s29.1 95 13) ≤ (s29.1 95 8) ∧ s0.1 95 8 < (s29.1 95 8)) from by first | with_reducible assumption | omega) (show (0 : Int) ≤ r30 ∧ r30 ≤ (6 : Int) from by omega)
theorem sm_202_p29 {Q : Int → lf_Z → Prop} {x1 : Int} {s : lf_Z} {s0 : lf_Z} (hQ : ∀ (r : Int) (s' : lf_Z), iv_A s'.1 s'.2.2 → lf_fq [95, 98, 100, 101, 102, 103] 1000000 true s.1 s.2.2 s'.1 s'.2.2 → (r = 0 → wk_E (s'.1 98) (s'.1 95 12) (s'.1 95 13)) → (r = 0 → ((s'.1 95 9 = 0 ∨ s'.1 95 8 < s'.1 95 7) ∧ s'.1 95 13 ≤ s'.1 95 8 ∧ s0.1 95 8 < s'.1 95 8)) → (0 ≤ r ∧ r ≤ 6) → Q r s') (hI : iv_A s.1 s.2.2) (bx1 : 0 ≤ x1 ∧ x1 ≤ 12) (kv0 : wk_E (s.1 98) (s.1 95 12) (s.1 95 13)) (kv1 : s.1 95 9 ≠ 0) (kv2 : (s.1 95 9 = 0 ∨ s.1 95 8 < s.1 95 7) ∧ s.1 95 13 ≤ s.1 95 8) (kv3 : 0 ≤ x1) (kv4 : s.1 95 8 = s0.1 95 8 ∧ s.1 95 12 = s0.1 95 12) : fm_202_p29 Q x1 s := by
  unfold fm_202_p29
  have b9 : 0 ≤ s.1 95 12 ∧ s.1 95 12 ≤ 2115 := iv_r95_12 hI
  have b10 : 0 ≤ (s.1 98) ((s.1 95 12)) ∧ (s.1 98) ((s.1 95 12)) ≤ 24 ∧ ((s.1 95 12) = 0 ∨ (s.1 95 12) = 705 ∨ (s.1 95 12) = 1410 ∨ (s.1 95 12) = 2115) := ⟨kv0.2.2.1, kv0.2.1, kv0.1⟩
  refine ⟨(show (0 : Int) ≤ s.1 95 12 ∧ s.1 95 12 < (2820 : Int) from by omega), ?_⟩
  have b11 : (-2147483648) ≤ s.1 98 (s.1 95 12) ∧ s.1 98 (s.1 95 12) ≤ 2147483647 := iv_full hI
  refine ⟨(show lf_R (s.1 98 (s.1 95 12)) from lf_Rof (by omega)), ?_⟩
  refine ⟨fun c12 => ?_, fun c12 => ?_⟩
  · skip
    replace c12 : s.1 98 (s.1 95 12) ≠ 24 := c12
    refine ⟨(show lf_R x1 from lf_Rof (by omega)), ?_⟩
    refine ⟨fun c13 => ?_, fun c13 => ?_⟩
    · skip
      replace c13 : 2 < x1 := c13
      have b14 : 0 ≤ s.1 95 13 ∧ s.1 95 13 ≤ 304 := iv_r95_13 hI
      have b15 : (-2147483648) ≤ s.1 95 9 ∧ s.1 95 9 ≤ 2147483647 := iv_full hI
      have b16 : 0 ≤ s.1 95 8 ∧ s.1 95 8 ≤ 300 := iv_r95_8 hI
      have b17 : 0 ≤ s.1 95 7 ∧ s.1 95 7 ≤ 300 := iv_r95_7 hI
      exact sm_202_p65 (s0 := s0) hQ hI (show (0 : Int) ≤ x1 ∧ x1 ≤ (12 : Int) from by omega) (show (0 : Int) ≤ s.1 98 (s.1 95 12) ∧ s.1 98 (s.1 95 12) ≤ (23 : Int) from by omega) (show wk_E ((s.1 98)) ((s.1 95 12)) ((s.1 95 13)) from by first | with_reducible assumption | assumption) (show (s.1 95 9) ≠ 0 from by omega) (show ((s.1 95 9) = 0 ∨ (s.1 95 8) < (s.1 95 7)) ∧ (s.1 95 13) ≤ (s.1 95 8) from by omega) (show 0 ≤ x1 from by omega) (show (s.1 95 8) = s0.1 95 8 ∧ (s.1 95 12) = s0.1 95 12 from by omega) (show (s.1 98 (s.1 95 12)) = (s.1 98) ((s.1 95 12)) ∧ (s.1 98 (s.1 95 12)) < 24 from by omega)
    · skip
      replace c13 : ¬ (2 < x1) := c13
      have b68 : (-2147483648) ≤ s.1 95 24 ∧ s.1 95 24 ≤ 2147483647 := iv_full hI
      have b69 : 1 ≤ lf_shl 1 x1 ∧ lf_shl 1 x1 ≤ 4 := lf_shl1 (m := 2) (by omega) (by omega) (by decide)
      have b70 : (-2147483648) ≤ lf_or (s.1 95 24) (lf_shl 1 x1) ∧ lf_or (s.1 95 24) (lf_shl 1 x1) ≤ 2147483647 := lf_orB
      have hI71 : iv_A (lf_up s.1 95 24 (lf_or (s.1 95 24) (lf_shl 1 x1))) s.2.2 := iv_w95_24 hI (by omega)
      have fr72 : lf_fq [95, 98, 100, 101, 102, 103] 1000000 true s.1 s.2.2 (lf_up s.1 95 24 (lf_or (s.1 95 24) (lf_shl 1 x1))) s.2.2 := lf_fq_up (lf_fq_rf) rfl (fun h => absurd h (by decide))
      have b73 : (lf_up s.1 95 24 (lf_or (s.1 95 24) (lf_shl 1 x1))) 95 12 = s.1 95 12 := lf_up_i (by omega)
      have b74 : 0 ≤ s.1 95 13 ∧ s.1 95 13 ≤ 304 := (show 0 ≤ (lf_up s.1 95 24 (lf_or (s.1 95 24) (lf_shl 1 x1))) 95 13 ∧ (lf_up s.1 95 24 (lf_or (s.1 95 24) (lf_shl 1 x1))) 95 13 ≤ 304 from iv_r95_13 hI71)
      have b75 : (lf_up s.1 95 24 (lf_or (s.1 95 24) (lf_shl 1 x1))) 95 13 = s.1 95 13 := lf_up_i (by omega)
      have b76 : (-2147483648) ≤ s.1 95 9 ∧ s.1 95 9 ≤ 2147483647 := (show (-2147483648) ≤ (lf_up s.1 95 24 (lf_or (s.1 95 24) (lf_shl 1 x1))) 95 9 ∧ (lf_up s.1 95 24 (lf_or (s.1 95 24) (lf_shl 1 x1))) 95 9 ≤ 2147483647 from iv_full hI71)
      have b77 : (lf_up s.1 95 24 (lf_or (s.1 95 24) (lf_shl 1 x1))) 95 9 = s.1 95 9 := lf_up_i (by omega)
      have b78 : 0 ≤ s.1 95 8 ∧ s.1 95 8 ≤ 300 := (show 0 ≤ (lf_up s.1 95 24 (lf_or (s.1 95 24) (lf_shl 1 x1))) 95 8 ∧ (lf_up s.1 95 24 (lf_or (s.1 95 24) (lf_shl 1 x1))) 95 8 ≤ 300 from iv_r95_8 hI71)
      have b79 : (lf_up s.1 95 24 (lf_or (s.1 95 24) (lf_shl 1 x1))) 95 8 = s.1 95 8 := lf_up_i (by omega)
      have b80 : 0 ≤ s.1 95 7 ∧ s.1 95 7 ≤ 300 := (show 0 ≤ (lf_up s.1 95 24 (lf_or (s.1 95 24) (lf_shl 1 x1))) 95 7 ∧ (lf_up s.1 95 24 (lf_or (s.1 95 24) (lf_shl 1 x1))) 95 7 ≤ 300 from iv_r95_7 hI71)
      have b81 : (lf_up s.1 95 24 (lf_or (s.1 95 24) (lf_shl 1 x1))) 95 7 = s.1 95 7 := lf_up_i (by omega)
      exact sm_202_p65 (s0 := s0) (fun r9 t9 i9 f9 => hQ r9 t9 i9 (lf_fq_tr fr72 f9)) hI71 (show (0 : Int) ≤ x1 ∧ x1 ≤ (12 : Int) from by omega) (show (0 : Int) ≤ s.1 98 (s.1 95 12) ∧ s.1 98 (s.1 95 12) ≤ (23 : Int) from by omega) (show wk_E ((s.1 98)) ((s.1 95 12)) ((s.1 95 13)) from by first | with_reducible assumption | assumption) (show (s.1 95 9) ≠ 0 from by omega) (show ((s.1 95 9) = 0 ∨ (s.1 95 8) < (s.1 95 7)) ∧ (s.1 95 13) ≤ (s.1 95 8) from by omega) (show 0 ≤ x1 from by omega) (show (s.1 95 8) = s0.1 95 8 ∧ (s.1 95 12) = s0.1 95 12 from by omega) (show (s.1 98 (s.1 95 12)) = (s.1 98) ((s.1 95 12)) ∧ (s.1 98 (s.1 95 12)) < 24 from by omega)
  · skip
    replace c12 : ¬ (s.1 98 (s.1 95 12) ≠ 24) := c12
    exact hQ 6 s hI (lf_fq_rf) (show 6 = 0 → wk_E ((s.1 98)) ((s.1 95 12)) ((s.1 95 13)) from fun h => absurd h (by decide)) (show 6 = 0 → (((s.1 95 9) = 0 ∨ (s.1 95 8) < (s.1 95 7)) ∧ (s.1 95 13) ≤ (s.1 95 8) ∧ s0.1 95 8 < (s.1 95 8)) from fun h => absurd h (by decide)) (show (0 : Int) ≤ 6 ∧ 6 ≤ (6 : Int) from by omega)
theorem sm_202 {Q : Int → lf_Z → Prop} {s : lf_Z} (hI : iv_A s.1 s.2.2) (kp0 : wk_E (s.1 98) (s.1 95 12) (s.1 95 13)) (kp1 : s.1 95 9 ≠ 0) (kp2 : (s.1 95 9 = 0 ∨ s.1 95 8 < s.1 95 7) ∧ s.1 95 13 ≤ s.1 95 8) (hQ : ∀ (r : Int) (s' : lf_Z), iv_A s'.1 s'.2.2 → lf_fq [95, 98, 100, 101, 102, 103] 1000000 true s.1 s.2.2 s'.1 s'.2.2 → (r = 0 → wk_E (s'.1 98) (s'.1 95 12) (s'.1 95 13)) → (r = 0 → ((s'.1 95 9 = 0 ∨ s'.1 95 8 < s'.1 95 7) ∧ s'.1 95 13 ≤ s'.1 95 8 ∧ s.1 95 8 < s'.1 95 8)) → (0 ≤ r ∧ r ≤ 6) → Q r s') : fm_202 Q s := by
  unfold fm_202
  refine sm_203 hI (fun r22 q1 => ?_)
  refine ⟨(show lf_R r22 from lf_Rof (by omega)), ?_⟩
  refine ⟨fun c2 => ?_, fun c2 => ?_⟩
  · skip
    replace c2 : 0 ≤ r22 := c2
    refine ⟨fun c3 => ?_, fun c3 => ?_⟩
    · skip
      replace c3 : 2 < r22 := c3
      have b4 : 0 ≤ s.1 95 12 ∧ s.1 95 12 ≤ 2115 := iv_r95_12 hI
      have b5 : 0 ≤ s.1 95 13 ∧ s.1 95 13 ≤ 304 := iv_r95_13 hI
      have b6 : (-2147483648) ≤ s.1 95 9 ∧ s.1 95 9 ≤ 2147483647 := iv_full hI
      have b7 : 0 ≤ s.1 95 8 ∧ s.1 95 8 ≤ 300 := iv_r95_8 hI
      have b8 : 0 ≤ s.1 95 7 ∧ s.1 95 7 ≤ 300 := iv_r95_7 hI
      exact sm_202_p29 (s0 := s) hQ hI (show (0 : Int) ≤ r22 ∧ r22 ≤ (12 : Int) from by omega) (show wk_E ((s.1 98)) ((s.1 95 12)) ((s.1 95 13)) from by first | with_reducible assumption | assumption) (show (s.1 95 9) ≠ 0 from by omega) (show ((s.1 95 9) = 0 ∨ (s.1 95 8) < (s.1 95 7)) ∧ (s.1 95 13) ≤ (s.1 95 8) from by omega) (show 0 ≤ r22 from by omega) (show (s.1 95 8) = s.1 95 8 ∧ (s.1 95 12) = s.1 95 12 from by omega)
    · skip
      replace c3 : ¬ (2 < r22) := c3
      have b82 : (-2147483648) ≤ s.1 95 24 ∧ s.1 95 24 ≤ 2147483647 := iv_full hI
      refine sm_210 hI (show (-2147483648 : Int) ≤ s.1 95 24 ∧ s.1 95 24 ≤ (2147483647 : Int) from by omega) (show (-1 : Int) ≤ r22 ∧ r22 ≤ (15 : Int) from by omega) (fun z36 q83 => ?_)
      refine ⟨fun c84 => ?_, fun c84 => ?_⟩
      · skip
        have dc84 := q83.2 c84
        have b85 : 0 ≤ s.1 95 12 ∧ s.1 95 12 ≤ 2115 := iv_r95_12 hI
        have b86 : 0 ≤ s.1 95 13 ∧ s.1 95 13 ≤ 304 := iv_r95_13 hI
        have b87 : (-2147483648) ≤ s.1 95 9 ∧ s.1 95 9 ≤ 2147483647 := iv_full hI
        have b88 : 0 ≤ s.1 95 8 ∧ s.1 95 8 ≤ 300 := iv_r95_8 hI
        have b89 : 0 ≤ s.1 95 7 ∧ s.1 95 7 ≤ 300 := iv_r95_7 hI
        exact sm_202_p29 (s0 := s) hQ hI (show (0 : Int) ≤ r22 ∧ r22 ≤ (12 : Int) from by omega) (show wk_E ((s.1 98)) ((s.1 95 12)) ((s.1 95 13)) from by first | with_reducible assumption | assumption) (show (s.1 95 9) ≠ 0 from by omega) (show ((s.1 95 9) = 0 ∨ (s.1 95 8) < (s.1 95 7)) ∧ (s.1 95 13) ≤ (s.1 95 8) from by omega) (show 0 ≤ r22 from by omega) (show (s.1 95 8) = s.1 95 8 ∧ (s.1 95 12) = s.1 95 12 from by omega)
      · skip
        have dc84 := q83.1 c84
        exact hQ 4 s hI (lf_fq_rf) (show 4 = 0 → wk_E ((s.1 98)) ((s.1 95 12)) ((s.1 95 13)) from fun h => absurd h (by decide)) (show 4 = 0 → (((s.1 95 9) = 0 ∨ (s.1 95 8) < (s.1 95 7)) ∧ (s.1 95 13) ≤ (s.1 95 8) ∧ s.1 95 8 < (s.1 95 8)) from fun h => absurd h (by decide)) (show (0 : Int) ≤ 4 ∧ 4 ≤ (6 : Int) from by omega)
  · skip
    replace c2 : ¬ (0 ≤ r22) := c2
    exact hQ 1 s hI (lf_fq_rf) (show 1 = 0 → wk_E ((s.1 98)) ((s.1 95 12)) ((s.1 95 13)) from fun h => absurd h (by decide)) (show 1 = 0 → (((s.1 95 9) = 0 ∨ (s.1 95 8) < (s.1 95 7)) ∧ (s.1 95 13) ≤ (s.1 95 8) ∧ s.1 95 8 < (s.1 95 8)) from fun h => absurd h (by decide)) (show (0 : Int) ≤ 1 ∧ 1 ≤ (6 : Int) from by omega)
-- fm_196 Model.readText 95
theorem sm_196_p44 {X44 : lf_Z → Prop} {Q : Int → lf_Z → Prop} {s : lf_Z} (hQ : ∀ (r : Int) (s' : lf_Z), iv_A s'.1 s'.2.2 → lf_fq [95, 98, 100, 101, 102, 103] 1000000 true s.1 s.2.2 s'.1 s'.2.2 → (0 ≤ r ∧ r ≤ 6) → Q r s') {M44 : Nat} (hX44 : ∀ (s' : lf_Z), iv_A s'.1 s'.2.2 → lf_fq [95, 98, 100, 101, 102, 103] 1000000 true s.1 s.2.2 s'.1 s'.2.2 → (wk_E (s'.1 98) (s'.1 95 12) (s'.1 95 13)) → ((s'.1 95 9 = 0 ∨ s'.1 95 8 < s'.1 95 7) ∧ s'.1 95 13 ≤ s'.1 95 8) → (301 - s'.1 95 8).toNat < M44 → X44 s') (hM44 : (301 - s.1 95 8).toNat ≤ M44) (hI : iv_A s.1 s.2.2) (kv0 : wk_E (s.1 98) (s.1 95 12) (s.1 95 13)) (kv1 : (s.1 95 9 = 0 ∨ s.1 95 8 < s.1 95 7) ∧ s.1 95 13 ≤ s.1 95 8) : fm_196_p44 Q X44 s := by
  unfold fm_196_p44
  have b26 : (-2147483648) ≤ s.1 95 9 ∧ s.1 95 9 ≤ 2147483647 := iv_full hI
  refine ⟨(show lf_R (s.1 95 9) from lf_Rof (by omega)), ?_⟩
  refine ⟨fun c27 => ?_, fun c27 => ?_⟩
  · skip
    replace c27 : s.1 95 9 = 0 := c27
    exact hQ 0 s hI (lf_fq_rf) (show (0 : Int) ≤ 0 ∧ 0 ≤ (6 : Int) from by omega)
  · skip
    replace c27 : ¬ (s.1 95 9 = 0) := c27
    have b30 : 0 ≤ s.1 95 12 ∧ s.1 95 12 ≤ 2115 := iv_r95_12 hI
    have b31 : 0 ≤ s.1 95 13 ∧ s.1 95 13 ≤ 304 := iv_r95_13 hI
    have b32 : 0 ≤ s.1 95 8 ∧ s.1 95 8 ≤ 300 := iv_r95_8 hI
    have b33 : 0 ≤ s.1 95 7 ∧ s.1 95 7 ≤ 300 := iv_r95_7 hI
    refine sm_202 hI (show wk_E ((s.1 98)) ((s.1 95 12)) ((s.1 95 13)) from by first | with_reducible assumption | assumption) (show (s.1 95 9) ≠ 0 from by omega) (show ((s.1 95 9) = 0 ∨ (s.1 95 8) < (s.1 95 7)) ∧ (s.1 95 13) ≤ (s.1 95 8) from by omega) (fun r25 s24 hI29 fr28 ps35 ps36 q34 => ?_)
    replace ps35 : r25 = 0 → wk_E (s24.1 98) (s24.1 95 12) (s24.1 95 13) := ps35
    replace ps36 : r25 = 0 → ((s24.1 95 9 = 0 ∨ s24.1 95 8 < s24.1 95 7) ∧ s24.1 95 13 ≤ s24.1 95 8 ∧ (s.1 95 8) < s24.1 95 8) := ps36
    have fr37 : lf_fq [95, 98, 100, 101, 102, 103] 1000000 true s.1 s.2.2 s24.1 s24.2.2 := lf_fq_tr (lf_fq_rf) (lf_fq_wk fr28 rfl (by decide) (by decide))
    refine ⟨(show lf_R r25 from lf_Rof (by omega)), ?_⟩
    refine ⟨fun c38 => ?_, fun c38 => ?_⟩
    · skip
      replace c38 : r25 = 0 := c38
      have dps35 := ps35 c38
      have dps36 := ps36 c38
      have b39 : 0 ≤ s24.1 95 8 ∧ s24.1 95 8 ≤ 300 := iv_r95_8 hI29
      have b40 : (s24.1 95 8) ≤ 300 := (iv_r95_8 hI29).2
      have b41 : 0 ≤ s24.1 95 12 ∧ s24.1 95 12 ≤ 2115 := iv_r95_12 hI29
      have b42 : 0 ≤ s24.1 95 13 ∧ s24.1 95 13 ≤ 304 := iv_r95_13 hI29
      have b43 : (-2147483648) ≤ s24.1 95 9 ∧ s24.1 95 9 ≤ 2147483647 := iv_full hI29
      have b44 : 0 ≤ s24.1 95 7 ∧ s24.1 95 7 ≤ 300 := iv_r95_7 hI29
      have b45 : wk_E ((s24.1 98)) ((s24.1 95 12)) ((s24.1 95 13)) := by first | with_reducible assumption | exact wk_cE (fr28.1 98 rfl) (by first | with_reducible assumption | assumption) (by omega) (by omega)
      exact hX44  s24 hI29 fr37 (show wk_E ((s24.1 98)) ((s24.1 95 12)) ((s24.1 95 13)) from by first | with_reducible assumption | assumption) (show ((s24.1 95 9) = 0 ∨ (s24.1 95 8) < (s24.1 95 7)) ∧ (s24.1 95 13) ≤ (s24.1 95 8) from by omega) (show (301 - (s24.1 95 8)).toNat < M44 from by omega)
    · skip
      replace c38 : ¬ (r25 = 0) := c38
      exact hQ r25 s24 hI29 fr37 (show (0 : Int) ≤ r25 ∧ r25 ≤ (6 : Int) from by omega)
theorem sm_196_p44L {Q : Int → lf_Z → Prop} {s : lf_Z} (hQ : ∀ (r : Int) (s' : lf_Z), iv_A s'.1 s'.2.2 → lf_fq [95, 98, 100, 101, 102, 103] 1000000 true s.1 s.2.2 s'.1 s'.2.2 → (0 ≤ r ∧ r ≤ 6) → Q r s') (hI : iv_A s.1 s.2.2) (kv0 : wk_E (s.1 98) (s.1 95 12) (s.1 95 13)) (kv1 : (s.1 95 9 = 0 ∨ s.1 95 8 < s.1 95 7) ∧ s.1 95 13 ≤ s.1 95 8) : fm_196_p44L Q s := by
  intro X44 hX
  have key : ∀ (m9 : Nat) (s' : lf_Z), iv_A s'.1 s'.2.2 → lf_fq [95, 98, 100, 101, 102, 103] 1000000 true s.1 s.2.2 s'.1 s'.2.2 → (wk_E (s'.1 98) (s'.1 95 12) (s'.1 95 13)) → ((s'.1 95 9 = 0 ∨ s'.1 95 8 < s'.1 95 7) ∧ s'.1 95 13 ≤ s'.1 95 8) → (301 - s'.1 95 8).toNat < m9 → X44 s' := by
    intro m9
    induction m9 with
    | zero => intro  s' _ _ kv0 kv1 h9; exact absurd h9 (Nat.not_lt_zero _)
    | succ m9 ih => intro  s' i7 f7 kv0 kv1 h9; exact hX  _ (sm_196_p44 (fun r9 t9 i9 f9 => hQ r9 t9 i9 (lf_fq_tr f7 f9))   (fun  t8 i8 f8 kv0' kv1' h8 => ih  t8 i8 (lf_fq_tr f7 f8) kv0' kv1' (by omega)) (Nat.le_refl _)  i7    kv0 kv1)
  exact key _  s hI lf_fq_rf kv0 kv1 (Nat.lt_succ_self _)
theorem sm_196 {Q : Int → lf_Z → Prop} {s : lf_Z} (hI : iv_A s.1 s.2.2) (kp0 : s.1 96 7 < 4) (hQ : ∀ (r : Int) (s' : lf_Z), iv_A s'.1 s'.2.2 → lf_fq [95, 98, 100, 101, 102, 103] 1000000 true s.1 s.2.2 s'.1 s'.2.2 → (0 ≤ r ∧ r ≤ 6) → Q r s') : fm_196 Q s := by
  unfold fm_196
  have b1 : 0 ≤ s.1 96 7 ∧ s.1 96 7 ≤ 4 := iv_rd96 hI (iv_ffb272d5f (by omega))
  have hI2 : iv_A (lf_up s.1 95 12 (705 * (s.1 96 7))) s.2.2 := iv_w95_12 hI (by omega)
  have fr3 : lf_fq [95, 98, 100, 101, 102, 103] 1000000 true s.1 s.2.2 (lf_up s.1 95 12 (705 * (s.1 96 7))) s.2.2 := lf_fq_up (lf_fq_rf) rfl (fun h => absurd h (by decide))
  have b4 : wk_T (lf_up (lf_up s.1 95 12 (705 * (s.1 96 7))) 98 (705 * (s.1 96 7)) 0 98) := wk_Tz (wk_TA hI2) (by omega) (wk_hr hI2)
  refine ⟨(show (0 : Int) ≤ 705 * (s.1 96 7) ∧ 705 * (s.1 96 7) < (2820 : Int) from by omega), ?_⟩
  have hI5 : iv_A (lf_up (lf_up s.1 95 12 (705 * (s.1 96 7))) 98 (705 * (s.1 96 7)) 0) s.2.2 := iv_w98z hI2 (by omega) (by decide) (by first | with_reducible assumption | assumption)
  have fr6 : lf_fq [95, 98, 100, 101, 102, 103] 1000000 true s.1 s.2.2 (lf_up (lf_up s.1 95 12 (705 * (s.1 96 7))) 98 (705 * (s.1 96 7)) 0) s.2.2 := lf_fq_up fr3 rfl (fun h => absurd h (by decide))
  have hI7 : iv_A (lf_up (lf_up (lf_up s.1 95 12 (705 * (s.1 96 7))) 98 (705 * (s.1 96 7)) 0) 95 13 0) s.2.2 := iv_w95_13 hI5 (by omega)
  have fr8 : lf_fq [95, 98, 100, 101, 102, 103] 1000000 true s.1 s.2.2 (lf_up (lf_up (lf_up s.1 95 12 (705 * (s.1 96 7))) 98 (705 * (s.1 96 7)) 0) 95 13 0) s.2.2 := lf_fq_up fr6 rfl (fun h => absurd h (by decide))
  have hI9 : iv_A (lf_up (lf_up (lf_up (lf_up s.1 95 12 (705 * (s.1 96 7))) 98 (705 * (s.1 96 7)) 0) 95 13 0) 95 24 0) s.2.2 := iv_w95_24 hI7 (by omega)
  have fr10 : lf_fq [95, 98, 100, 101, 102, 103] 1000000 true s.1 s.2.2 (lf_up (lf_up (lf_up (lf_up s.1 95 12 (705 * (s.1 96 7))) 98 (705 * (s.1 96 7)) 0) 95 13 0) 95 24 0) s.2.2 := lf_fq_up fr8 rfl (fun h => absurd h (by decide))
  have hI11 : iv_A (lf_up (lf_up (lf_up (lf_up (lf_up s.1 95 12 (705 * (s.1 96 7))) 98 (705 * (s.1 96 7)) 0) 95 13 0) 95 24 0) 95 7 0) s.2.2 := iv_w95_7 hI9 (by omega)
  have fr12 : lf_fq [95, 98, 100, 101, 102, 103] 1000000 true s.1 s.2.2 (lf_up (lf_up (lf_up (lf_up (lf_up s.1 95 12 (705 * (s.1 96 7))) 98 (705 * (s.1 96 7)) 0) 95 13 0) 95 24 0) 95 7 0) s.2.2 := lf_fq_up fr10 rfl (fun h => absurd h (by decide))
  have b13 : wk_E (((lf_up (lf_up s.1 95 12 (705 * (s.1 96 7))) 98 (705 * (s.1 96 7)) 0) 98)) ((705 * (s.1 96 7))) (0) := wk_Ez (by omega)
  refine sm_197 hI11 (fun s22 hI15 fr14 ps17 ps18 => ?_)
  replace ps17 : 0 ≤ s22.1 95 8 ∧ (s22.1 95 9 = 0 ∨ s22.1 95 8 < s22.1 95 7) := ps17
  replace ps18 : s22.1 95 12 = (705 * (s.1 96 7)) ∧ s22.1 95 13 = 0 ∧ s22.1 95 19 = (s.1 95 19) ∧ s22.1 95 20 = (s.1 95 20) ∧ s22.1 95 21 = (s.1 95 21) ∧ s22.1 95 22 = (s.1 95 22) ∧ s22.1 95 23 = (s.1 95 23) := ps18
  have fr19 : lf_fq [95, 98, 100, 101, 102, 103] 1000000 true s.1 s.2.2 s22.1 s22.2.2 := lf_fq_tr fr12 (lf_fq_wk fr14 rfl (by decide) (by decide))
  have b20 : 0 ≤ s22.1 95 12 ∧ s22.1 95 12 ≤ 2115 := iv_r95_12 hI15
  have b21 : 0 ≤ s22.1 95 13 ∧ s22.1 95 13 ≤ 304 := iv_r95_13 hI15
  have b22 : (-2147483648) ≤ s22.1 95 9 ∧ s22.1 95 9 ≤ 2147483647 := iv_full hI15
  have b23 : 0 ≤ s22.1 95 8 ∧ s22.1 95 8 ≤ 300 := iv_r95_8 hI15
  have b24 : 0 ≤ s22.1 95 7 ∧ s22.1 95 7 ≤ 300 := iv_r95_7 hI15
  have b25 : wk_E ((s22.1 98)) ((s22.1 95 12)) ((s22.1 95 13)) := by first | with_reducible assumption | exact wk_cE (fr14.1 98 rfl) (by first | with_reducible assumption | assumption) (by omega) (by omega)
  exact sm_196_p44L (fun r9 t9 i9 f9 => hQ r9 t9 i9 (lf_fq_tr fr19 f9)) hI15 (show wk_E ((s22.1 98)) ((s22.1 95 12)) ((s22.1 95 13)) from by first | with_reducible assumption | assumption) (show ((s22.1 95 9) = 0 ∨ (s22.1 95 8) < (s22.1 95 7)) ∧ (s22.1 95 13) ≤ (s22.1 95 8) from by omega)
-- fm_195 Model.text 95
theorem sm_195_p37 {Q : Int → lf_Z → Prop} {y1 : Int} {s : lf_Z} (hQ : ∀ (r : Int) (s' : lf_Z), iv_A s'.1 s'.2.2 → lf_fq [95, 96, 98, 100, 101, 102, 103, 1003] 7 true s.1 s.2.2 s'.1 s'.2.2 → ((-1) ≤ r ∧ r ≤ 4) → Q r s') (hI : iv_A s.1 s.2.2) (by1 : (-1) ≤ y1 ∧ y1 ≤ 300) (kv0 : s.1 96 7 < 4) : fm_195_p37 Q y1 s := by
  unfold fm_195_p37
  have hI14 : iv_A (lf_up s.1 95 6 y1) s.2.2 := iv_w95_6 hI (by omega)
  have fr15 : lf_fq [95, 96, 98, 100, 101, 102, 103, 1003] 7 true s.1 s.2.2 (lf_up s.1 95 6 y1) s.2.2 := lf_fq_up (lf_fq_rf) rfl (fun h => absurd h (by decide))
  have hI16 : iv_A (lf_up (lf_up s.1 95 6 y1) 95 4 0) s.2.2 := iv_w95_4 hI14 (by omega)
  have fr17 : lf_fq [95, 96, 98, 100, 101, 102, 103, 1003] 7 true s.1 s.2.2 (lf_up (lf_up s.1 95 6 y1) 95 4 0) s.2.2 := lf_fq_up fr15 rfl (fun h => absurd h (by decide))
  have b18 : (-2147483648) ≤ s.1 95 5 ∧ s.1 95 5 ≤ 2147483647 := (show (-2147483648) ≤ (lf_up (lf_up s.1 95 6 y1) 95 4 0) 95 5 ∧ (lf_up (lf_up s.1 95 6 y1) 95 4 0) 95 5 ≤ 2147483647 from iv_full hI16)
  have b19 : (lf_up (lf_up s.1 95 6 y1) 95 4 0) 95 5 = (lf_up s.1 95 6 y1) 95 5 := lf_up_i (by omega)
  have b20 : (lf_up s.1 95 6 y1) 95 5 = s.1 95 5 := lf_up_i (by omega)
  refine ⟨(show lf_R (s.1 95 5) from lf_Rof (by omega)), ?_⟩
  refine ⟨fun c21 => ?_, fun c21 => ?_⟩
  · skip
    replace c21 : s.1 95 5 = 0 := c21
    have b22 : 0 ≤ s.1 96 7 ∧ s.1 96 7 ≤ 4 := (show 0 ≤ (lf_up (lf_up s.1 95 6 y1) 95 4 0) 96 7 ∧ (lf_up (lf_up s.1 95 6 y1) 95 4 0) 96 7 ≤ 4 from iv_rd96 hI16 (iv_ffb272d5f (by omega)))
    have hI23 : iv_A (lf_up (lf_up (lf_up s.1 95 6 y1) 95 4 0) 96 7 ((s.1 96 7) + 1)) s.2.2 := iv_wd96 hI16 (lf_le2 (iv_f29303112 (by omega)) (by omega)) (fun h => absurd h (by omega))
    have fr24 : lf_fq [95, 96, 98, 100, 101, 102, 103, 1003] 7 true s.1 s.2.2 (lf_up (lf_up (lf_up s.1 95 6 y1) 95 4 0) 96 7 ((s.1 96 7) + 1)) s.2.2 := lf_fq_up fr17 rfl (fun _ => ⟨by omega, fr_o (Or.inr (fr_n0 (by omega))) (Or.inr (fr_n1 (by omega))) (Or.inr (fr_n2 (by omega))) (Or.inl rfl) (Or.inr (fr_n4 (by omega))) (Or.inr (fr_n5 (by omega))) (Or.inr (fr_n6 (by omega)))⟩)
    exact hQ (((s.1 96 7) + 1) - 1) (lf_up (lf_up (lf_up s.1 95 6 y1) 95 4 0) 96 7 ((s.1 96 7) + 1), s.2.1, s.2.2) hI23 fr24 (show (-1 : Int) ≤ ((s.1 96 7) + 1) - 1 ∧ ((s.1 96 7) + 1) - 1 ≤ (4 : Int) from by omega)
  · skip
    replace c21 : ¬ (s.1 95 5 = 0) := c21
    exact hQ (-1) (lf_up (lf_up s.1 95 6 y1) 95 4 0, s.2.1, s.2.2) hI16 fr17 (show (-1 : Int) ≤ (-1) ∧ (-1) ≤ (4 : Int) from by omega)
theorem sm_195 {Q : Int → lf_Z → Prop} {s : lf_Z} (hI : iv_A s.1 s.2.2) (hQ : ∀ (r : Int) (s' : lf_Z), iv_A s'.1 s'.2.2 → lf_fq [95, 96, 98, 100, 101, 102, 103, 1003] 7 true s.1 s.2.2 s'.1 s'.2.2 → ((-1) ≤ r ∧ r ≤ 4) → Q r s') : fm_195 Q s := by
  unfold fm_195
  have b1 : 0 ≤ s.1 96 7 ∧ s.1 96 7 ≤ 4 := iv_rd96 hI (iv_ffb272d5f (by omega))
  refine ⟨(show lf_R (s.1 96 7) from lf_Rof (by omega)), ?_⟩
  refine ⟨fun c2 => ?_, fun c2 => ?_⟩
  · skip
    replace c2 : s.1 96 7 ≠ 4 := c2
    refine sm_196 hI (show (s.1 96 7) < 4 from by omega) (fun r23 s22 hI4 fr3 q5 => ?_)
    have fr6 : lf_fq [95, 96, 98, 100, 101, 102, 103, 1003] 7 true s.1 s.2.2 s22.1 s22.2.2 := lf_fq_tr (lf_fq_rf) (lf_fq_wk fr3 rfl (by decide) (by decide))
    have hI7 : iv_A (lf_up s22.1 95 5 r23) s22.2.2 := iv_w95_5 hI4 (by omega)
    have fr8 : lf_fq [95, 96, 98, 100, 101, 102, 103, 1003] 7 true s.1 s.2.2 (lf_up s22.1 95 5 r23) s22.2.2 := lf_fq_up fr6 rfl (fun h => absurd h (by decide))
    refine ⟨(show lf_R r23 from lf_Rof (by omega)), ?_⟩
    refine ⟨fun c9 => ?_, fun c9 => ?_⟩
    · skip
      replace c9 : r23 ≠ 0 := c9
      have b10 : 0 ≤ s22.1 95 8 ∧ s22.1 95 8 ≤ 300 := (show 0 ≤ (lf_up s22.1 95 5 r23) 95 8 ∧ (lf_up s22.1 95 5 r23) 95 8 ≤ 300 from iv_r95_8 hI7)
      have b11 : (lf_up s22.1 95 5 r23) 95 8 = s22.1 95 8 := lf_up_i (by omega)
      have b12 : 0 ≤ s22.1 96 7 ∧ s22.1 96 7 ≤ 4 := (show 0 ≤ (lf_up s22.1 95 5 r23) 96 7 ∧ (lf_up s22.1 95 5 r23) 96 7 ≤ 4 from iv_rd96 hI7 (iv_ffb272d5f (by omega)))
      have b13 : s22.1 96 7 = s.1 96 7 := congrFun (fr3.1 96 rfl) _
      exact sm_195_p37 (fun r9 t9 i9 f9 => hQ r9 t9 i9 (lf_fq_tr fr8 f9)) hI7 (show (-1 : Int) ≤ s22.1 95 8 ∧ s22.1 95 8 ≤ (300 : Int) from by omega) (show (s22.1 96 7) < 4 from by omega)
    · skip
      replace c9 : ¬ (r23 ≠ 0) := c9
      have b25 : 0 ≤ s22.1 96 7 ∧ s22.1 96 7 ≤ 4 := (show 0 ≤ (lf_up s22.1 95 5 r23) 96 7 ∧ (lf_up s22.1 95 5 r23) 96 7 ≤ 4 from iv_rd96 hI7 (iv_ffb272d5f (by omega)))
      have b26 : s22.1 96 7 = s.1 96 7 := congrFun (fr3.1 96 rfl) _
      exact sm_195_p37 (fun r9 t9 i9 f9 => hQ r9 t9 i9 (lf_fq_tr fr8 f9)) hI7 (show (-1 : Int) ≤ (-1) ∧ (-1) ≤ (300 : Int) from by omega) (show (s22.1 96 7) < 4 from by omega)
  · skip
    replace c2 : ¬ (s.1 96 7 ≠ 4) := c2
    exact hQ (-1) s hI (lf_fq_rf) (show (-1 : Int) ≤ (-1) ∧ (-1) ≤ (4 : Int) from by omega)
-- fm_59 ElevenBullocks.fault 0 i
theorem sm_59 {a1 : Int} {Q : Int → lf_Z → Prop} {s : lf_Z} (hI : iv_A s.1 s.2.2) (ba1 : (-2147483648) ≤ a1 ∧ a1 ≤ 2147483647) (hQ : ∀ (r : Int), ((-2147483648) ≤ r ∧ r ≤ 2147483647) → Q r s) : fm_59 a1 Q s := by
  unfold fm_59
  refine ⟨(show lf_R a1 from lf_Rof (by omega)), ?_⟩
  refine ⟨fun c1 => ?_, fun c1 => ?_⟩
  · skip
    replace c1 : a1 ≠ 0 := c1
    refine ⟨fun c2 => ?_, fun c2 => ?_⟩
    · skip
      replace c2 : a1 ≠ 1 := c2
      exact hQ (-1) (show (-2147483648 : Int) ≤ (-1) ∧ (-1) ≤ (2147483647 : Int) from by omega)
    · skip
      replace c2 : ¬ (a1 ≠ 1) := c2
      have b3 : (-2147483648) ≤ s.1 31 3 ∧ s.1 31 3 ≤ 2147483647 := iv_full hI
      exact hQ (s.1 31 3) (show (-2147483648 : Int) ≤ s.1 31 3 ∧ s.1 31 3 ≤ (2147483647 : Int) from by omega)
  · skip
    replace c1 : ¬ (a1 ≠ 0) := c1
    have b4 : (-2147483648) ≤ s.1 31 2 ∧ s.1 31 2 ≤ 2147483647 := iv_full hI
    exact hQ (s.1 31 2) (show (-2147483648 : Int) ≤ s.1 31 2 ∧ s.1 31 2 ≤ (2147483647 : Int) from by omega)
-- fm_236 Model.fault 95 i
theorem sm_236 {a1 : Int} {Q : Int → lf_Z → Prop} {s : lf_Z} (hI : iv_A s.1 s.2.2) (ba1 : (-2147483648) ≤ a1 ∧ a1 ≤ 2147483647) (hQ : ∀ (r : Int), ((-2147483648) ≤ r ∧ r ≤ 2147483647) → Q r s) : fm_236 a1 Q s := by
  unfold fm_236
  refine ⟨(show lf_R a1 from lf_Rof (by omega)), ?_⟩
  refine ⟨fun c1 => ?_, fun c1 => ?_⟩
  · skip
    replace c1 : a1 ≠ 0 := c1
    refine ⟨fun c2 => ?_, fun c2 => ?_⟩
    · skip
      replace c2 : a1 ≠ 1 := c2
      exact hQ (-1) (show (-2147483648 : Int) ≤ (-1) ∧ (-1) ≤ (2147483647 : Int) from by omega)
    · skip
      replace c2 : ¬ (a1 ≠ 1) := c2
      have b3 : (-2147483648) ≤ s.1 95 6 ∧ s.1 95 6 ≤ 2147483647 := iv_full hI
      exact hQ (s.1 95 6) (show (-2147483648 : Int) ≤ s.1 95 6 ∧ s.1 95 6 ≤ (2147483647 : Int) from by omega)
  · skip
    replace c1 : ¬ (a1 ≠ 0) := c1
    have b4 : (-2147483648) ≤ s.1 95 5 ∧ s.1 95 5 ≤ 2147483647 := iv_full hI
    exact hQ (s.1 95 5) (show (-2147483648 : Int) ≤ s.1 95 5 ∧ s.1 95 5 ≤ (2147483647 : Int) from by omega)
-- fm_62 ElevenBullocks.scriptOf 0 i
theorem sm_62_p28 {Q : Option Nat → lf_Z → Prop} {s : lf_Z} (hQ : ∀ (r : Option Nat), (∀ t : Nat, r = some t → t < 4) → Q r s) (hI : iv_A s.1 s.2.2) : fm_62_p28 Q s := by
  unfold fm_62_p28
  exact hQ none (fun t e => by cases e)
theorem sm_62 {a1 : Int} {Q : Option Nat → lf_Z → Prop} {s : lf_Z} (hI : iv_A s.1 s.2.2) (ba1 : (-2147483648) ≤ a1 ∧ a1 ≤ 2147483647) (hQ : ∀ (r : Option Nat), (∀ t : Nat, r = some t → t < 4) → Q r s) : fm_62 a1 Q s := by
  unfold fm_62
  have b1 : 0 ≤ s.1 0 11 ∧ s.1 0 11 ≤ 4 := iv_r0_11 hI
  refine sm_15 hI (show (-2147483648 : Int) ≤ a1 ∧ a1 ≤ (2147483647 : Int) from by omega) (show (-1 : Int) ≤ 0 ∧ 0 ≤ (99 : Int) from by omega) (show (-2147483648 : Int) ≤ (s.1 0 11) - 1 ∧ (s.1 0 11) - 1 ≤ (2147483647 : Int) from by omega) (fun z22 q2 => ?_)
  refine ⟨fun c3 => ?_, fun c3 => ?_⟩
  · skip
    have dc3 := q2.2 c3
    exact sm_62_p28 hQ hI
  · skip
    have dc3 := q2.1 c3
    refine ⟨(show lf_R a1 from lf_Rof (by omega)), ?_⟩
    refine ⟨fun c4 => ?_, fun c4 => ?_⟩
    · skip
      replace c4 : 4 ≤ a1 := c4
      exfalso
      omega
    · skip
      replace c4 : ¬ (4 ≤ a1) := c4
      refine ⟨(show (0 : Int) ≤ a1 ∧ a1 < (4 : Int) from by omega), ?_⟩
      intro t25 et25
      have htt25 : t25 < 4 := by have e9 : t25 = (a1).toNat := et25; omega
      exact hQ (some t25) (fun t e => by cases e; exact htt25)
-- fm_61 ElevenBullocks.rule 0 i
theorem sm_61 {a1 : Int} {Q : lf_Z → Prop} {s : lf_Z} (hI : iv_A s.1 s.2.2) (ba1 : (-1) ≤ a1 ∧ a1 ≤ 3) (hQ : ∀  (s' : lf_Z), iv_A s'.1 s'.2.2 → lf_fq [0] 1000000 false s.1 s.2.2 s'.1 s'.2.2 → Q  s') : fm_61 a1 Q s := by
  unfold fm_61
  have hI1 : iv_A (lf_up s.1 0 12 a1) s.2.2 := iv_w0_12 hI (by omega)
  have fr2 : lf_fq [0] 1000000 false s.1 s.2.2 (lf_up s.1 0 12 a1) s.2.2 := lf_fq_up (lf_fq_rf) rfl (fun h => absurd h (by decide))
  refine sm_62 hI1 (show (-2147483648 : Int) ≤ a1 ∧ a1 ≤ (2147483647 : Int) from by omega) (fun r23 q3 => ?_)
  refine ⟨fun et22 => ?_, fun t22 et22 => ?_⟩
  · skip
    have hI4 : iv_A (lf_up s.1 0 12 a1) (lf_ur s.2.2 3 none) := iv_un3 hI1
    have fr5 : lf_fq [0] 1000000 false s.1 s.2.2 (lf_up s.1 0 12 a1) (lf_ur s.2.2 3 none) := lf_fq_pp fr2
    exact hQ (lf_up s.1 0 12 a1, s.2.1, lf_ur s.2.2 3 none) hI4 fr5
  · have htt22 : t22 < 4 := q3 t22 et22
    refine ⟨htt22, ?_⟩
    have hI6 : iv_A (lf_up s.1 0 12 a1) (lf_ur s.2.2 3 (some t22)) := iv_ut3 hI1 htt22
    have fr7 : lf_fq [0] 1000000 false s.1 s.2.2 (lf_up s.1 0 12 a1) (lf_ur s.2.2 3 (some t22)) := lf_fq_pp fr2
    exact hQ (lf_up s.1 0 12 a1, s.2.1, lf_ur s.2.2 3 (some t22)) hI6 fr7
-- fm_60 ElevenBullocks.by 0 i
theorem sm_60 {a1 : Int} {Q : Bool → lf_Z → Prop} {s : lf_Z} (hI : iv_A s.1 s.2.2) (ba1 : (-2147483648) ≤ a1 ∧ a1 ≤ 2147483647) (hQ : ∀ (z : Bool) (s' : lf_Z), iv_A s'.1 s'.2.2 → lf_fq [0] 1000000 false s.1 s.2.2 s'.1 s'.2.2 → Q z s') : fm_60 a1 Q s := by
  unfold fm_60
  have b1 : 0 ≤ s.1 0 11 ∧ s.1 0 11 ≤ 4 := iv_r0_11 hI
  refine sm_15 hI (show (-2147483648 : Int) ≤ a1 ∧ a1 ≤ (2147483647 : Int) from by omega) (show (-1 : Int) ≤ (-1) ∧ (-1) ≤ (99 : Int) from by omega) (show (-2147483648 : Int) ≤ (s.1 0 11) - 1 ∧ (s.1 0 11) - 1 ≤ (2147483647 : Int) from by omega) (fun z22 q2 => ?_)
  refine ⟨fun c3 => ?_, fun c3 => ?_⟩
  · skip
    have dc3 := q2.1 c3
    refine sm_61 hI (show (-1 : Int) ≤ a1 ∧ a1 ≤ (3 : Int) from by omega) (fun s23 hI5 fr4 => ?_)
    have fr7 : lf_fq [0] 1000000 false s.1 s.2.2 s23.1 s23.2.2 := lf_fq_tr (lf_fq_rf) (lf_fq_wk fr4 rfl (by decide) (by decide))
    exact hQ true s23 hI5 fr7
  · skip
    have dc3 := q2.2 c3
    exact hQ false s hI (lf_fq_rf)
-- fm_237 Model.by 95 i
theorem sm_237 {a1 : Int} {Q : Bool → lf_Z → Prop} {s : lf_Z} (hI : iv_A s.1 s.2.2) (ba1 : (-2147483648) ≤ a1 ∧ a1 ≤ 2147483647) (hQ : ∀ (z : Bool) (s' : lf_Z), iv_A s'.1 s'.2.2 → lf_fq [96, 1003] 8 true s.1 s.2.2 s'.1 s'.2.2 → Q z s') : fm_237 a1 Q s := by
  unfold fm_237
  have b1 : 0 ≤ s.1 96 7 ∧ s.1 96 7 ≤ 4 := iv_rd96 hI (iv_ffb272d5f (by omega))
  refine sm_183 hI (show (-2147483648 : Int) ≤ a1 ∧ a1 ≤ (2147483647 : Int) from by omega) (show (-1 : Int) ≤ (-1) ∧ (-1) ≤ (97 : Int) from by omega) (show (-1 : Int) ≤ (s.1 96 7) - 1 ∧ (s.1 96 7) - 1 ≤ (9999 : Int) from by omega) (fun z22 q2 => ?_)
  refine ⟨fun c3 => ?_, fun c3 => ?_⟩
  · skip
    have dc3 := q2.1 c3
    have hI4 : iv_A (lf_up s.1 96 8 a1) s.2.2 := iv_wd96 hI (lf_le2 (iv_f0c0828f9 (by omega)) (by omega)) (fun h => absurd h (by omega))
    have fr5 : lf_fq [96, 1003] 8 true s.1 s.2.2 (lf_up s.1 96 8 a1) s.2.2 := lf_fq_up (lf_fq_rf) rfl (fun _ => ⟨by omega, fr_o (Or.inr (fr_n0 (by omega))) (Or.inr (fr_n1 (by omega))) (Or.inr (fr_n2 (by omega))) (Or.inl rfl) (Or.inr (fr_n4 (by omega))) (Or.inr (fr_n5 (by omega))) (Or.inr (fr_n6 (by omega)))⟩)
    exact hQ true (lf_up s.1 96 8 a1, s.2.1, s.2.2) hI4 fr5
  · skip
    have dc3 := q2.2 c3
    exact hQ false s hI (lf_fq_rf)
-- fm_65 Stand.sum 16
theorem sm_65_p10 {X10 : Int → Int → lf_Z → Prop} {Q : Int → lf_Z → Prop} {x1 : Int} {x3 : Int} {x4 : Int} {s : lf_Z} (hQ : ∀ (r : Int), ((-2147483648) ≤ r ∧ r ≤ 2147483647) → Q r s) {M10 : Nat} (hX10 : ∀ (x1 : Int) (x4 : Int), (-2147483648) ≤ x1 ∧ x1 ≤ 2147483647 → 0 ≤ x4 ∧ x4 ≤ 4 → (4 - x4).toNat < M10 → X10 x1 x4 s) (hM10 : (4 - x4).toNat ≤ M10) (hI : iv_A s.1 s.2.2) (bx1 : (-2147483648) ≤ x1 ∧ x1 ≤ 2147483647) (bx3 : 4 ≤ x3 ∧ x3 ≤ 4) (bx4 : 0 ≤ x4 ∧ x4 ≤ 4) : fm_65_p10 Q x3 X10 x1 x4 s := by
  unfold fm_65_p10
  refine ⟨(show lf_R x4 from lf_Rof (by omega)), ?_⟩
  refine ⟨(show lf_R x3 from lf_Rof (by omega)), ?_⟩
  refine ⟨fun c1 => ?_, fun c1 => ?_⟩
  · skip
    replace c1 : x3 ≤ x4 := c1
    exact hQ x1 (show (-2147483648 : Int) ≤ x1 ∧ x1 ≤ (2147483647 : Int) from by omega)
  · skip
    replace c1 : ¬ (x3 ≤ x4) := c1
    refine ⟨(show (0 : Int) ≤ x4 ∧ x4 < (4 : Int) from by omega), ?_⟩
    have b2 : (-2147483648) ≤ s.1 16 x4 ∧ s.1 16 x4 ≤ 2147483647 := iv_full hI
    have b3 : (-2147483648) ≤ lf_w (x1 + (s.1 16 x4)) ∧ lf_w (x1 + (s.1 16 x4)) ≤ 2147483647 := lf_wB
    exact hX10 (lf_w (x1 + (s.1 16 x4))) (x4 + 1) (show (-2147483648 : Int) ≤ lf_w (x1 + (s.1 16 x4)) ∧ lf_w (x1 + (s.1 16 x4)) ≤ (2147483647 : Int) from by omega) (show (0 : Int) ≤ x4 + 1 ∧ x4 + 1 ≤ (4 : Int) from by omega) (show (4 - (x4 + 1)).toNat < M10 from by omega)
theorem sm_65_p10L {Q : Int → lf_Z → Prop} {x1 : Int} {x3 : Int} {x4 : Int} {s : lf_Z} (hQ : ∀ (r : Int), ((-2147483648) ≤ r ∧ r ≤ 2147483647) → Q r s) (hI : iv_A s.1 s.2.2) (bx1 : (-2147483648) ≤ x1 ∧ x1 ≤ 2147483647) (bx3 : 4 ≤ x3 ∧ x3 ≤ 4) (bx4 : 0 ≤ x4 ∧ x4 ≤ 4) : fm_65_p10L Q x1 x3 x4 s := by
  intro X10 hX
  have key : ∀ (m9 : Nat) (x1 : Int) (x4 : Int), (-2147483648) ≤ x1 ∧ x1 ≤ 2147483647 → 0 ≤ x4 ∧ x4 ≤ 4 → (4 - x4).toNat < m9 → X10 x1 x4 s := by
    intro m9
    induction m9 with
    | zero => intro x1 x4 bx1 bx4 h9; exact absurd h9 (Nat.not_lt_zero _)
    | succ m9 ih => intro x1 x4 bx1 bx4 h9; exact hX _ _ _ (sm_65_p10 hQ   (fun x1' x4' bx1' bx4' h8 => ih x1' x4' bx1' bx4' (by omega)) (Nat.le_refl _)  hI  bx1 bx3 bx4  )
  exact key _ _ _ bx1 bx4   (Nat.lt_succ_self _)
theorem sm_65 {Q : Int → lf_Z → Prop} {s : lf_Z} (hI : iv_A s.1 s.2.2) (hQ : ∀ (r : Int), ((-2147483648) ≤ r ∧ r ≤ 2147483647) → Q r s) : fm_65 Q s := by
  unfold fm_65
  exact sm_65_p10L hQ hI (show (-2147483648 : Int) ≤ 0 ∧ 0 ≤ (2147483647 : Int) from by omega) (show (4 : Int) ≤ 4 ∧ 4 ≤ (4 : Int) from by omega) (show (0 : Int) ≤ 0 ∧ 0 ≤ (4 : Int) from by omega)
-- fm_64 Stand.beasts 15
theorem sm_64 {Q : Int → lf_Z → Prop} {s : lf_Z} (hI : iv_A s.1 s.2.2) (hQ : ∀ (r : Int), ((-2147483648) ≤ r ∧ r ≤ 2147483647) → Q r s) : fm_64 Q s := by
  unfold fm_64
  refine sm_65 hI (fun r22 q1 => ?_)
  exact hQ r22 (show (-2147483648 : Int) ≤ r22 ∧ r22 ≤ (2147483647 : Int) from by omega)
-- fm_66 Stand.freeBunch 15
theorem sm_66_p2 {X2 : Int → lf_Z → Prop} {Q : Int → lf_Z → Prop} {x1 : Int} {s : lf_Z} (hQ : ∀ (r : Int), ((-1) ≤ r ∧ r ≤ 3) → Q r s) {M2 : Nat} (hX2 : ∀ (x1 : Int), 0 ≤ x1 ∧ x1 ≤ 4 → (4 - x1).toNat < M2 → X2 x1 s) (hM2 : (4 - x1).toNat ≤ M2) (hI : iv_A s.1 s.2.2) (bx1 : 0 ≤ x1 ∧ x1 ≤ 4) : fm_66_p2 Q X2 x1 s := by
  unfold fm_66_p2
  refine ⟨(show lf_R x1 from lf_Rof (by omega)), ?_⟩
  refine ⟨fun c1 => ?_, fun c1 => ?_⟩
  · skip
    replace c1 : 4 ≤ x1 := c1
    exact hQ (-1) (show (-1 : Int) ≤ (-1) ∧ (-1) ≤ (3 : Int) from by omega)
  · skip
    replace c1 : ¬ (4 ≤ x1) := c1
    refine ⟨(show (0 : Int) ≤ x1 ∧ x1 < (4 : Int) from by omega), ?_⟩
    have b2 : (-2147483648) ≤ s.1 16 x1 ∧ s.1 16 x1 ≤ 2147483647 := iv_full hI
    refine ⟨(show lf_R (s.1 16 x1) from lf_Rof (by omega)), ?_⟩
    refine ⟨fun c3 => ?_, fun c3 => ?_⟩
    · skip
      replace c3 : s.1 16 x1 ≠ 0 := c3
      exact hX2 (x1 + 1) (show (0 : Int) ≤ x1 + 1 ∧ x1 + 1 ≤ (4 : Int) from by omega) (show (4 - (x1 + 1)).toNat < M2 from by omega)
    · skip
      replace c3 : ¬ (s.1 16 x1 ≠ 0) := c3
      exact hQ x1 (show (-1 : Int) ≤ x1 ∧ x1 ≤ (3 : Int) from by omega)
theorem sm_66_p2L {Q : Int → lf_Z → Prop} {x1 : Int} {s : lf_Z} (hQ : ∀ (r : Int), ((-1) ≤ r ∧ r ≤ 3) → Q r s) (hI : iv_A s.1 s.2.2) (bx1 : 0 ≤ x1 ∧ x1 ≤ 4) : fm_66_p2L Q x1 s := by
  intro X2 hX
  have key : ∀ (m9 : Nat) (x1 : Int), 0 ≤ x1 ∧ x1 ≤ 4 → (4 - x1).toNat < m9 → X2 x1 s := by
    intro m9
    induction m9 with
    | zero => intro x1 bx1 h9; exact absurd h9 (Nat.not_lt_zero _)
    | succ m9 ih => intro x1 bx1 h9; exact hX _ _ (sm_66_p2 hQ   (fun x1' bx1' h8 => ih x1' bx1' (by omega)) (Nat.le_refl _)  hI  bx1  )
  exact key _ _ bx1   (Nat.lt_succ_self _)
theorem sm_66 {Q : Int → lf_Z → Prop} {s : lf_Z} (hI : iv_A s.1 s.2.2) (hQ : ∀ (r : Int), ((-1) ≤ r ∧ r ≤ 3) → Q r s) : fm_66 Q s := by
  unfold fm_66
  exact sm_66_p2L hQ hI (show (0 : Int) ≤ 0 ∧ 0 ≤ (4 : Int) from by omega)
-- fm_68 Stand.writeTo 15 23 i
theorem sm_68_p57 {X57 : Int → Int → lf_Z → Prop} {Q : lf_Z → Prop} {x3 : Int} {x4 : Int} {s : lf_Z} (hQ : ∀  (s' : lf_Z), iv_A s'.1 s'.2.2 → lf_fq [23] 1000000 true s.1 s.2.2 s'.1 s'.2.2 → Q  s') {M57 : Nat} (hX57 : ∀ (x3 : Int) (x4 : Int) (s' : lf_Z), iv_A s'.1 s'.2.2 → lf_fq [23] 1000000 true s.1 s.2.2 s'.1 s'.2.2 → 12 ≤ x3 ∧ x3 ≤ 1155 → 0 ≤ x4 ∧ x4 ≤ 6 → (x3 = 39 * s'.1 22 2 + 12 + 2 * x4) → (6 - x4).toNat < M57 → X57 x3 x4 s') (hM57 : (6 - x4).toNat ≤ M57) (hI : iv_A s.1 s.2.2) (bx3 : 12 ≤ x3 ∧ x3 ≤ 1155) (bx4 : 0 ≤ x4 ∧ x4 ≤ 6) (kv0 : x3 = 39 * s.1 22 2 + 12 + 2 * x4) : fm_68_p57 Q X57 x3 x4 s := by
  unfold fm_68_p57
  refine ⟨(show lf_R x4 from lf_Rof (by omega)), ?_⟩
  refine ⟨fun c4 => ?_, fun c4 => ?_⟩
  · skip
    replace c4 : 6 ≤ x4 := c4
    refine ⟨(show (0 : Int) ≤ 0 ∧ (0 : Int) ≤ x3 ∧ (0 : Int) ≤ 12 ∧ (0 : Int) + 12 ≤ 12 ∧ (x3 : Int) + 12 ≤ 1170 from by omega), ?_⟩
    have hI5 : iv_A (lf_cp s.1 21 23 0 x3 12) s.2.2 := iv_cp21_23 hI (lf_m39 (q := s.1 22 2) (r := 24) (by omega) (by omega))
    have fr6 : lf_fq [23] 1000000 true s.1 s.2.2 (lf_cp s.1 21 23 0 x3 12) s.2.2 := lf_fq_cp (lf_fq_rf) rfl (by decide)
    have b7 : (-2147483648) ≤ (lf_cp s.1 21 23 0 x3 12) 15 6 ∧ (lf_cp s.1 21 23 0 x3 12) 15 6 ≤ 2147483647 := iv_full hI5
    have b8 : (lf_cp s.1 21 23 0 x3 12) 15 6 = s.1 15 6 := lf_cp_c (by omega)
    refine ⟨(show (0 : Int) ≤ x3 + 12 ∧ x3 + 12 < (1170 : Int) from by omega), ?_⟩
    have hI9 : iv_A (lf_up (lf_cp s.1 21 23 0 x3 12) 23 (x3 + 12) ((lf_cp s.1 21 23 0 x3 12) 15 6)) s.2.2 := iv_wd23 hI5 (lf_le2 (iv_f94fa157c (s.1 22 2) (x4) (by omega) (by omega) (by omega)) (by omega)) (by rw [lf_m39 (q := s.1 22 2) (r := 24 + 2 * x4) (by omega) (by omega)]; omega)
    have fr10 : lf_fq [23] 1000000 true s.1 s.2.2 (lf_up (lf_cp s.1 21 23 0 x3 12) 23 (x3 + 12) ((lf_cp s.1 21 23 0 x3 12) 15 6)) s.2.2 := lf_fq_up fr6 rfl (fun h => absurd h (by decide))
    have b11 : (-2147483648) ≤ (lf_cp s.1 21 23 0 x3 12) 15 7 ∧ (lf_cp s.1 21 23 0 x3 12) 15 7 ≤ 2147483647 := (show (-2147483648) ≤ (lf_up (lf_cp s.1 21 23 0 x3 12) 23 (x3 + 12) ((lf_cp s.1 21 23 0 x3 12) 15 6)) 15 7 ∧ (lf_up (lf_cp s.1 21 23 0 x3 12) 23 (x3 + 12) ((lf_cp s.1 21 23 0 x3 12) 15 6)) 15 7 ≤ 2147483647 from iv_full hI9)
    have b12 : (lf_cp s.1 21 23 0 x3 12) 15 7 = s.1 15 7 := lf_cp_c (by omega)
    refine ⟨(show (0 : Int) ≤ (x3 + 12) + 1 ∧ (x3 + 12) + 1 < (1170 : Int) from by omega), ?_⟩
    have hI13 : iv_A (lf_up (lf_up (lf_cp s.1 21 23 0 x3 12) 23 (x3 + 12) ((lf_cp s.1 21 23 0 x3 12) 15 6)) 23 ((x3 + 12) + 1) ((lf_cp s.1 21 23 0 x3 12) 15 7)) s.2.2 := iv_wd23 hI9 (lf_le2 (iv_f5e4c071d (s.1 22 2) (x4) (by omega) (by omega) (by omega)) (by omega)) (by rw [lf_m39 (q := s.1 22 2) (r := 25 + 2 * x4) (by omega) (by omega)]; omega)
    have fr14 : lf_fq [23] 1000000 true s.1 s.2.2 (lf_up (lf_up (lf_cp s.1 21 23 0 x3 12) 23 (x3 + 12) ((lf_cp s.1 21 23 0 x3 12) 15 6)) 23 ((x3 + 12) + 1) ((lf_cp s.1 21 23 0 x3 12) 15 7)) s.2.2 := lf_fq_up fr10 rfl (fun h => absurd h (by decide))
    have b15 : (-2147483648) ≤ (lf_cp s.1 21 23 0 x3 12) 15 8 ∧ (lf_cp s.1 21 23 0 x3 12) 15 8 ≤ 2147483647 := (show (-2147483648) ≤ (lf_up (lf_up (lf_cp s.1 21 23 0 x3 12) 23 (x3 + 12) ((lf_cp s.1 21 23 0 x3 12) 15 6)) 23 ((x3 + 12) + 1) ((lf_cp s.1 21 23 0 x3 12) 15 7)) 15 8 ∧ (lf_up (lf_up (lf_cp s.1 21 23 0 x3 12) 23 (x3 + 12) ((lf_cp s.1 21 23 0 x3 12) 15 6)) 23 ((x3 + 12) + 1) ((lf_cp s.1 21 23 0 x3 12) 15 7)) 15 8 ≤ 2147483647 from iv_full hI13)
    have b16 : (lf_cp s.1 21 23 0 x3 12) 15 8 = s.1 15 8 := lf_cp_c (by omega)
    refine ⟨(show (0 : Int) ≤ (x3 + 12) + 2 ∧ (x3 + 12) + 2 < (1170 : Int) from by omega), ?_⟩
    have hI17 : iv_A (lf_up (lf_up (lf_up (lf_cp s.1 21 23 0 x3 12) 23 (x3 + 12) ((lf_cp s.1 21 23 0 x3 12) 15 6)) 23 ((x3 + 12) + 1) ((lf_cp s.1 21 23 0 x3 12) 15 7)) 23 ((x3 + 12) + 2) ((lf_cp s.1 21 23 0 x3 12) 15 8)) s.2.2 := iv_wd23 hI13 (lf_le2 (iv_fc75fd977 (s.1 22 2) (x4) (by omega) (by omega) (by omega)) (by omega)) (by rw [lf_m39 (q := s.1 22 2) (r := 26 + 2 * x4) (by omega) (by omega)]; omega)
    have fr18 : lf_fq [23] 1000000 true s.1 s.2.2 (lf_up (lf_up (lf_up (lf_cp s.1 21 23 0 x3 12) 23 (x3 + 12) ((lf_cp s.1 21 23 0 x3 12) 15 6)) 23 ((x3 + 12) + 1) ((lf_cp s.1 21 23 0 x3 12) 15 7)) 23 ((x3 + 12) + 2) ((lf_cp s.1 21 23 0 x3 12) 15 8)) s.2.2 := lf_fq_up fr14 rfl (fun h => absurd h (by decide))
    exact hQ (lf_up (lf_up (lf_up (lf_cp s.1 21 23 0 x3 12) 23 (x3 + 12) ((lf_cp s.1 21 23 0 x3 12) 15 6)) 23 ((x3 + 12) + 1) ((lf_cp s.1 21 23 0 x3 12) 15 7)) 23 ((x3 + 12) + 2) ((lf_cp s.1 21 23 0 x3 12) 15 8), s.2.1, s.2.2) hI17 fr18
  · skip
    replace c4 : ¬ (6 ≤ x4) := c4
    refine ⟨(show (0 : Int) ≤ x4 ∧ x4 < (6 : Int) from by omega), ?_⟩
    have b19 : (-2147483648) ≤ s.1 19 x4 ∧ s.1 19 x4 ≤ 2147483647 := iv_full hI
    refine ⟨(show (0 : Int) ≤ x3 ∧ x3 < (1170 : Int) from by omega), ?_⟩
    have hI20 : iv_A (lf_up s.1 23 x3 (s.1 19 x4)) s.2.2 := iv_wd23 hI (lf_le2 (iv_f8e736285 (s.1 22 2) (x4) (by omega) (by omega) (by omega)) (by omega)) (by rw [lf_m39 (q := s.1 22 2) (r := 12 + 2 * x4) (by omega) (by omega)]; omega)
    have fr21 : lf_fq [23] 1000000 true s.1 s.2.2 (lf_up s.1 23 x3 (s.1 19 x4)) s.2.2 := lf_fq_up (lf_fq_rf) rfl (fun h => absurd h (by decide))
    have b22 : (-2147483648) ≤ s.1 20 x4 ∧ s.1 20 x4 ≤ 2147483647 := (show (-2147483648) ≤ (lf_up s.1 23 x3 (s.1 19 x4)) 20 x4 ∧ (lf_up s.1 23 x3 (s.1 19 x4)) 20 x4 ≤ 2147483647 from iv_full hI20)
    refine ⟨(show (0 : Int) ≤ x3 + 1 ∧ x3 + 1 < (1170 : Int) from by omega), ?_⟩
    have hI23 : iv_A (lf_up (lf_up s.1 23 x3 (s.1 19 x4)) 23 (x3 + 1) (s.1 20 x4)) s.2.2 := iv_wd23 hI20 (lf_le2 (iv_f055a89ee (s.1 22 2) (x4) (by omega) (by omega) (by omega)) (by omega)) (by rw [lf_m39 (q := s.1 22 2) (r := 13 + 2 * x4) (by omega) (by omega)]; omega)
    have fr24 : lf_fq [23] 1000000 true s.1 s.2.2 (lf_up (lf_up s.1 23 x3 (s.1 19 x4)) 23 (x3 + 1) (s.1 20 x4)) s.2.2 := lf_fq_up fr21 rfl (fun h => absurd h (by decide))
    have b25 : 0 ≤ s.1 22 2 ∧ s.1 22 2 ≤ 29 := (show 0 ≤ (lf_up (lf_up s.1 23 x3 (s.1 19 x4)) 23 (x3 + 1) (s.1 20 x4)) 22 2 ∧ (lf_up (lf_up s.1 23 x3 (s.1 19 x4)) 23 (x3 + 1) (s.1 20 x4)) 22 2 ≤ 29 from iv_r22_2 hI23)
    exact hX57 (x3 + 2) (x4 + 1) (lf_up (lf_up s.1 23 x3 (s.1 19 x4)) 23 (x3 + 1) (s.1 20 x4), s.2.1, s.2.2) hI23 fr24 (show (12 : Int) ≤ x3 + 2 ∧ x3 + 2 ≤ (1155 : Int) from by omega) (show (0 : Int) ≤ x4 + 1 ∧ x4 + 1 ≤ (6 : Int) from by omega) (show (x3 + 2) = 39 * (s.1 22 2) + 12 + 2 * (x4 + 1) from by omega) (show (6 - (x4 + 1)).toNat < M57 from by omega)
theorem sm_68_p57L {Q : lf_Z → Prop} {x3 : Int} {x4 : Int} {s : lf_Z} (hQ : ∀  (s' : lf_Z), iv_A s'.1 s'.2.2 → lf_fq [23] 1000000 true s.1 s.2.2 s'.1 s'.2.2 → Q  s') (hI : iv_A s.1 s.2.2) (bx3 : 12 ≤ x3 ∧ x3 ≤ 1155) (bx4 : 0 ≤ x4 ∧ x4 ≤ 6) (kv0 : x3 = 39 * s.1 22 2 + 12 + 2 * x4) : fm_68_p57L Q x3 x4 s := by
  intro X57 hX
  have key : ∀ (m9 : Nat) (x3 : Int) (x4 : Int) (s' : lf_Z), iv_A s'.1 s'.2.2 → lf_fq [23] 1000000 true s.1 s.2.2 s'.1 s'.2.2 → 12 ≤ x3 ∧ x3 ≤ 1155 → 0 ≤ x4 ∧ x4 ≤ 6 → (x3 = 39 * s'.1 22 2 + 12 + 2 * x4) → (6 - x4).toNat < m9 → X57 x3 x4 s' := by
    intro m9
    induction m9 with
    | zero => intro x3 x4 s' _ _ bx3 bx4 kv0 h9; exact absurd h9 (Nat.not_lt_zero _)
    | succ m9 ih => intro x3 x4 s' i7 f7 bx3 bx4 kv0 h9; exact hX _ _ _ (sm_68_p57 (fun t9 i9 f9 => hQ t9 i9 (lf_fq_tr f7 f9))   (fun x3' x4' t8 i8 f8 bx3' bx4' kv0' h8 => ih x3' x4' t8 i8 (lf_fq_tr f7 f8) bx3' bx4' kv0' (by omega)) (Nat.le_refl _)  i7  bx3 bx4  kv0)
  exact key _ _ _ s hI lf_fq_rf bx3 bx4 kv0 (Nat.lt_succ_self _)
theorem sm_68_p5 {X5 : Int → Int → lf_Z → Prop} {Q : lf_Z → Prop} {x3 : Int} {x4 : Int} {s : lf_Z} (hQ : ∀  (s' : lf_Z), iv_A s'.1 s'.2.2 → lf_fq [23] 1000000 true s.1 s.2.2 s'.1 s'.2.2 → Q  s') {M5 : Nat} (hX5 : ∀ (x3 : Int) (x4 : Int) (s' : lf_Z), iv_A s'.1 s'.2.2 → lf_fq [23] 1000000 true s.1 s.2.2 s'.1 s'.2.2 → 0 ≤ x3 ∧ x3 ≤ 1143 → 0 ≤ x4 ∧ x4 ≤ 4 → (x3 = 39 * s'.1 22 2 + 3 * x4) → (4 - x4).toNat < M5 → X5 x3 x4 s') (hM5 : (4 - x4).toNat ≤ M5) (hI : iv_A s.1 s.2.2) (bx3 : 0 ≤ x3 ∧ x3 ≤ 1143) (bx4 : 0 ≤ x4 ∧ x4 ≤ 4) (kv0 : x3 = 39 * s.1 22 2 + 3 * x4) : fm_68_p5 Q X5 x3 x4 s := by
  unfold fm_68_p5
  refine ⟨(show lf_R x4 from lf_Rof (by omega)), ?_⟩
  refine ⟨fun c2 => ?_, fun c2 => ?_⟩
  · skip
    replace c2 : 4 ≤ x4 := c2
    have b3 : 0 ≤ s.1 22 2 ∧ s.1 22 2 ≤ 29 := iv_r22_2 hI
    exact sm_68_p57L hQ hI (show (12 : Int) ≤ x3 ∧ x3 ≤ (1155 : Int) from by omega) (show (0 : Int) ≤ 0 ∧ 0 ≤ (6 : Int) from by omega) (show x3 = 39 * (s.1 22 2) + 12 + 2 * 0 from by omega)
  · skip
    replace c2 : ¬ (4 ≤ x4) := c2
    refine ⟨(show (0 : Int) ≤ x4 ∧ x4 < (4 : Int) from by omega), ?_⟩
    have b26 : (-2147483648) ≤ s.1 16 x4 ∧ s.1 16 x4 ≤ 2147483647 := iv_full hI
    refine ⟨(show (0 : Int) ≤ x3 ∧ x3 < (1170 : Int) from by omega), ?_⟩
    have fr27 : lf_fq [23] 1000000 true s.1 s.2.2 (lf_up s.1 23 x3 (s.1 16 x4)) s.2.2 := lf_fq_up (lf_fq_rf) rfl (fun h => absurd h (by decide))
    have b28 : (-1) ≤ s.1 17 x4 ∧ s.1 17 x4 ≤ 11 := (show (-1) ≤ (lf_up s.1 23 x3 (s.1 16 x4)) 17 x4 ∧ (lf_up s.1 23 x3 (s.1 16 x4)) 17 x4 ≤ 11 from iv_r17 hI _)
    have b29 : s.1 16 x4 ≤ 0 ∨ 0 ≤ s.1 17 x4 := (by first | exact (show (lf_up s.1 23 x3 (s.1 16 x4)) 16 x4 ≤ 0 ∨ 0 ≤ (lf_up s.1 23 x3 (s.1 16 x4)) 17 x4 from iv_sp hI (by omega) (by omega)) | exact iv_sp hI (by omega) (by omega))
    refine ⟨(show (0 : Int) ≤ x3 + 1 ∧ x3 + 1 < (1170 : Int) from by omega), ?_⟩
    have fr30 : lf_fq [23] 1000000 true s.1 s.2.2 (lf_up (lf_up s.1 23 x3 (s.1 16 x4)) 23 (x3 + 1) (s.1 17 x4)) s.2.2 := lf_fq_up fr27 rfl (fun h => absurd h (by decide))
    have b31 : (-1) ≤ s.1 18 x4 ∧ s.1 18 x4 ≤ 11 := (show (-1) ≤ (lf_up (lf_up s.1 23 x3 (s.1 16 x4)) 23 (x3 + 1) (s.1 17 x4)) 18 x4 ∧ (lf_up (lf_up s.1 23 x3 (s.1 16 x4)) 23 (x3 + 1) (s.1 17 x4)) 18 x4 ≤ 11 from iv_r18 hI _)
    refine ⟨(show (0 : Int) ≤ x3 + 2 ∧ x3 + 2 < (1170 : Int) from by omega), ?_⟩
    have hI32 : iv_A (lf_up (lf_up (lf_up s.1 23 x3 (s.1 16 x4)) 23 (x3 + 1) (s.1 17 x4)) 23 (x3 + 2) (s.1 18 x4)) s.2.2 := iv_row3 hI (r := s.1 22 2) (j := x4) (by omega) (by omega) (by omega) (by omega) (by omega) (by omega) (by omega) (by omega)
    have fr33 : lf_fq [23] 1000000 true s.1 s.2.2 (lf_up (lf_up (lf_up s.1 23 x3 (s.1 16 x4)) 23 (x3 + 1) (s.1 17 x4)) 23 (x3 + 2) (s.1 18 x4)) s.2.2 := lf_fq_up fr30 rfl (fun h => absurd h (by decide))
    have b34 : 0 ≤ s.1 22 2 ∧ s.1 22 2 ≤ 29 := (show 0 ≤ (lf_up (lf_up (lf_up s.1 23 x3 (s.1 16 x4)) 23 (x3 + 1) (s.1 17 x4)) 23 (x3 + 2) (s.1 18 x4)) 22 2 ∧ (lf_up (lf_up (lf_up s.1 23 x3 (s.1 16 x4)) 23 (x3 + 1) (s.1 17 x4)) 23 (x3 + 2) (s.1 18 x4)) 22 2 ≤ 29 from iv_r22_2 hI32)
    exact hX5 (x3 + 3) (x4 + 1) (lf_up (lf_up (lf_up s.1 23 x3 (s.1 16 x4)) 23 (x3 + 1) (s.1 17 x4)) 23 (x3 + 2) (s.1 18 x4), s.2.1, s.2.2) hI32 fr33 (show (0 : Int) ≤ x3 + 3 ∧ x3 + 3 ≤ (1143 : Int) from by omega) (show (0 : Int) ≤ x4 + 1 ∧ x4 + 1 ≤ (4 : Int) from by omega) (show (x3 + 3) = 39 * (s.1 22 2) + 3 * (x4 + 1) from by omega) (show (4 - (x4 + 1)).toNat < M5 from by omega)
theorem sm_68_p5L {Q : lf_Z → Prop} {x3 : Int} {x4 : Int} {s : lf_Z} (hQ : ∀  (s' : lf_Z), iv_A s'.1 s'.2.2 → lf_fq [23] 1000000 true s.1 s.2.2 s'.1 s'.2.2 → Q  s') (hI : iv_A s.1 s.2.2) (bx3 : 0 ≤ x3 ∧ x3 ≤ 1143) (bx4 : 0 ≤ x4 ∧ x4 ≤ 4) (kv0 : x3 = 39 * s.1 22 2 + 3 * x4) : fm_68_p5L Q x3 x4 s := by
  intro X5 hX
  have key : ∀ (m9 : Nat) (x3 : Int) (x4 : Int) (s' : lf_Z), iv_A s'.1 s'.2.2 → lf_fq [23] 1000000 true s.1 s.2.2 s'.1 s'.2.2 → 0 ≤ x3 ∧ x3 ≤ 1143 → 0 ≤ x4 ∧ x4 ≤ 4 → (x3 = 39 * s'.1 22 2 + 3 * x4) → (4 - x4).toNat < m9 → X5 x3 x4 s' := by
    intro m9
    induction m9 with
    | zero => intro x3 x4 s' _ _ bx3 bx4 kv0 h9; exact absurd h9 (Nat.not_lt_zero _)
    | succ m9 ih => intro x3 x4 s' i7 f7 bx3 bx4 kv0 h9; exact hX _ _ _ (sm_68_p5 (fun t9 i9 f9 => hQ t9 i9 (lf_fq_tr f7 f9))   (fun x3' x4' t8 i8 f8 bx3' bx4' kv0' h8 => ih x3' x4' t8 i8 (lf_fq_tr f7 f8) bx3' bx4' kv0' (by omega)) (Nat.le_refl _)  i7  bx3 bx4  kv0)
  exact key _ _ _ s hI lf_fq_rf bx3 bx4 kv0 (Nat.lt_succ_self _)
theorem sm_68 {a2 : Int} {Q : lf_Z → Prop} {s : lf_Z} (hI : iv_A s.1 s.2.2) (ba2 : 0 ≤ a2 ∧ a2 ≤ 1131) (kp0 : a2 = 39 * s.1 22 2) (hQ : ∀  (s' : lf_Z), iv_A s'.1 s'.2.2 → lf_fq [23] 1000000 true s.1 s.2.2 s'.1 s'.2.2 → Q  s') : fm_68 a2 Q s := by
  unfold fm_68
  have b1 : 0 ≤ s.1 22 2 ∧ s.1 22 2 ≤ 29 := iv_r22_2 hI
  exact sm_68_p5L hQ hI (show (0 : Int) ≤ a2 ∧ a2 ≤ (1143 : Int) from by omega) (show (0 : Int) ≤ 0 ∧ 0 ≤ (4 : Int) from by omega) (show a2 = 39 * (s.1 22 2) + 3 * 0 from by omega)
-- fm_67 Steps.keep 22 15 i
theorem sm_67 {a2 : Int} {Q : lf_Z → Prop} {s : lf_Z} (hI : iv_A s.1 s.2.2) (ba2 : 0 ≤ a2 ∧ a2 ≤ 6) (hQ : ∀  (s' : lf_Z), iv_A s'.1 s'.2.2 → lf_fq [22, 23, 24] 1000000 true s.1 s.2.2 s'.1 s'.2.2 → Q  s') : fm_67 a2 Q s := by
  unfold fm_67
  have b1 : 0 ≤ s.1 22 2 ∧ s.1 22 2 ≤ 29 := iv_r22_2 hI
  refine ⟨(show lf_R ((s.1 22 2) + 1) from lf_Rof (by omega)), ?_⟩
  have b2 : 0 ≤ ((s.1 22 2) + 1).tmod 30 ∧ ((s.1 22 2) + 1).tmod 30 ≤ 29 := lf_tmodP (by omega) (by omega) (by omega)
  have hI3 : iv_A (lf_up s.1 22 2 (((s.1 22 2) + 1).tmod 30)) s.2.2 := iv_w22_2 hI (by omega)
  have fr4 : lf_fq [22, 23, 24] 1000000 true s.1 s.2.2 (lf_up s.1 22 2 (((s.1 22 2) + 1).tmod 30)) s.2.2 := lf_fq_up (lf_fq_rf) rfl (fun h => absurd h (by decide))
  have b5 : 0 ≤ s.1 22 3 ∧ s.1 22 3 ≤ 30 := (show 0 ≤ (lf_up s.1 22 2 (((s.1 22 2) + 1).tmod 30)) 22 3 ∧ (lf_up s.1 22 2 (((s.1 22 2) + 1).tmod 30)) 22 3 ≤ 30 from iv_r22_3 hI3)
  have b6 : (lf_up s.1 22 2 (((s.1 22 2) + 1).tmod 30)) 22 3 = s.1 22 3 := lf_up_i (by omega)
  refine ⟨(show lf_R ((s.1 22 3) + 1) from lf_Rof (by omega)), ?_⟩
  have hI7 : iv_A (lf_up (lf_up s.1 22 2 (((s.1 22 2) + 1).tmod 30)) 22 3 (min 30 ((s.1 22 3) + 1))) s.2.2 := iv_w22_3 hI3 (by omega)
  have fr8 : lf_fq [22, 23, 24] 1000000 true s.1 s.2.2 (lf_up (lf_up s.1 22 2 (((s.1 22 2) + 1).tmod 30)) 22 3 (min 30 ((s.1 22 3) + 1))) s.2.2 := lf_fq_up fr4 rfl (fun h => absurd h (by decide))
  refine sm_68 hI7 (show (0 : Int) ≤ (((s.1 22 2) + 1).tmod 30) * 39 ∧ (((s.1 22 2) + 1).tmod 30) * 39 ≤ (1131 : Int) from by omega) (show ((((s.1 22 2) + 1).tmod 30) * 39) = 39 * (((s.1 22 2) + 1).tmod 30) from by omega) (fun s23 hI10 fr9 => ?_)
  have fr12 : lf_fq [22, 23, 24] 1000000 true s.1 s.2.2 s23.1 s23.2.2 := lf_fq_tr fr8 (lf_fq_wk fr9 rfl (by decide) (by decide))
  have b13 : 0 ≤ s23.1 22 2 ∧ s23.1 22 2 ≤ 29 := iv_r22_2 hI10
  have b14 : s23.1 22 2 = ((s.1 22 2) + 1).tmod 30 := congrFun (fr9.1 22 rfl) _
  refine ⟨(show (0 : Int) ≤ s23.1 22 2 ∧ s23.1 22 2 < (30 : Int) from by omega), ?_⟩
  have hI15 : iv_A (lf_up s23.1 24 (s23.1 22 2) a2) s23.2.2 := iv_w24 hI10 (by omega)
  have fr16 : lf_fq [22, 23, 24] 1000000 true s.1 s.2.2 (lf_up s23.1 24 (s23.1 22 2) a2) s23.2.2 := lf_fq_up fr12 rfl (fun h => absurd h (by decide))
  exact hQ (lf_up s23.1 24 (s23.1 22 2) a2, s23.2.1, s23.2.2) hI15 fr16
-- fm_69 Stand.put 15 i i i i
theorem sm_69 {a1 : Int} {a2 : Int} {a3 : Int} {a4 : Int} {Q : lf_Z → Prop} {s : lf_Z} (hI : iv_A s.1 s.2.2) (ba1 : 0 ≤ a1 ∧ a1 ≤ 3) (ba2 : (-2147483648) ≤ a2 ∧ a2 ≤ 2147483647) (ba3 : (-1) ≤ a3 ∧ a3 ≤ 11) (ba4 : (-1) ≤ a4 ∧ a4 ≤ 11) (kp0 : a2 ≤ 0 ∨ 0 ≤ a3) (hQ : ∀  (s' : lf_Z), iv_A s'.1 s'.2.2 → lf_fq [16, 17, 18] 1000000 true s.1 s.2.2 s'.1 s'.2.2 → Q  s') : fm_69 a1 a2 a3 a4 Q s := by
  unfold fm_69
  refine ⟨by omega, ?_⟩
  exact hQ (lf_up (lf_up (lf_up s.1 16 a1 a2) 17 a1 a3) 18 a1 a4, s.2.1, s.2.2) (iv_put hI ba2 ba3 ba4 kp0) (lf_fq_up (lf_fq_up (lf_fq_up lf_fq_rf rfl (fun h => absurd h (by decide))) rfl (fun h => absurd h (by decide))) rfl (fun h => absurd h (by decide)))
-- fm_63 ElevenBullocks.stray 0 i i
theorem sm_63 {a1 : Int} {a2 : Int} {Q : Int → lf_Z → Prop} {s : lf_Z} (hI : iv_A s.1 s.2.2) (ba1 : (-2147483648) ≤ a1 ∧ a1 ≤ 2147483647) (ba2 : (-2147483648) ≤ a2 ∧ a2 ≤ 2147483647) (hQ : ∀ (r : Int) (s' : lf_Z), iv_A s'.1 s'.2.2 → lf_fq [16, 17, 18, 22, 23, 24] 1000000 true s.1 s.2.2 s'.1 s'.2.2 → ((-1) ≤ r ∧ r ≤ 3) → Q r s') : fm_63 a1 a2 Q s := by
  unfold fm_63
  refine sm_64 hI (fun r22 q1 => ?_)
  have b2 : (-2147483648) ≤ lf_w (24 - r22) ∧ lf_w (24 - r22) ≤ 2147483647 := lf_wB
  refine sm_15 hI (show (-2147483648 : Int) ≤ a1 ∧ a1 ≤ (2147483647 : Int) from by omega) (show (-1 : Int) ≤ 1 ∧ 1 ≤ (99 : Int) from by omega) (show (-2147483648 : Int) ≤ lf_w (24 - r22) ∧ lf_w (24 - r22) ≤ (2147483647 : Int) from by omega) (fun z24 q3 => ?_)
  refine ⟨fun c4 => ?_, fun c4 => ?_⟩
  · skip
    have dc4 := q3.2 c4
    exact hQ (-1) s hI (lf_fq_rf) (show (-1 : Int) ≤ (-1) ∧ (-1) ≤ (3 : Int) from by omega)
  · skip
    have dc4 := q3.1 c4
    refine sm_18 hI (show (-2147483648 : Int) ≤ a2 ∧ a2 ≤ (2147483647 : Int) from by omega) (fun z26 q5 => ?_)
    have b6 : 0 ≤ s.1 1 0 ∧ s.1 1 0 ≤ 12 := iv_r1_0 hI
    refine ⟨fun c7 => ?_, fun c7 => ?_⟩
    · skip
      have dc7 := q5.1 c7
      refine sm_66 hI (fun r28 q8 => ?_)
      refine ⟨(show lf_R r28 from lf_Rof (by omega)), ?_⟩
      refine ⟨fun c9 => ?_, fun c9 => ?_⟩
      · skip
        replace c9 : r28 = (-1) := c9
        exact hQ r28 s hI (lf_fq_rf) (show (-1 : Int) ≤ r28 ∧ r28 ≤ (3 : Int) from by omega)
      · skip
        replace c9 : ¬ (r28 = (-1)) := c9
        have b10 : 0 ≤ s.1 1 2 ∧ s.1 1 2 ≤ 6 := iv_r1_2 hI
        refine sm_67 hI (show (0 : Int) ≤ s.1 1 2 ∧ s.1 1 2 ≤ (6 : Int) from by omega) (fun s30 hI12 fr11 => ?_)
        have fr14 : lf_fq [16, 17, 18, 22, 23, 24] 1000000 true s.1 s.2.2 s30.1 s30.2.2 := lf_fq_tr (lf_fq_rf) (lf_fq_wk fr11 rfl (by decide) (by decide))
        refine sm_69 hI12 (show (0 : Int) ≤ r28 ∧ r28 ≤ (3 : Int) from by omega) (show (-2147483648 : Int) ≤ a1 ∧ a1 ≤ (2147483647 : Int) from by omega) (show (-1 : Int) ≤ a2 ∧ a2 ≤ (11 : Int) from by omega) (show (-1 : Int) ≤ (-1) ∧ (-1) ≤ (11 : Int) from by omega) (show a1 ≤ 0 ∨ 0 ≤ a2 from by omega) (fun s31 hI16 fr15 => ?_)
        have fr18 : lf_fq [16, 17, 18, 22, 23, 24] 1000000 true s.1 s.2.2 s31.1 s31.2.2 := lf_fq_tr fr14 (lf_fq_wk fr15 rfl (by decide) (by decide))
        exact hQ r28 s31 hI16 fr18 (show (-1 : Int) ≤ r28 ∧ r28 ≤ (3 : Int) from by omega)
    · skip
      have dc7 := q5.2 c7
      exact hQ (-1) s hI (lf_fq_rf) (show (-1 : Int) ≤ (-1) ∧ (-1) ≤ (3 : Int) from by omega)
-- fm_242 Model.sizeOf 95 i
theorem sm_242 {a1 : Int} {Q : Int → lf_Z → Prop} {s : lf_Z} (hI : iv_A s.1 s.2.2) (ba1 : 0 ≤ a1 ∧ a1 ≤ 3) (hQ : ∀ (r : Int), ((0 ≤ r ∧ r ≤ 24) ∧ (r = s.1 96 (114 + 3 * a1))) → Q r s) : fm_242 a1 Q s := by
  unfold fm_242
  refine ⟨(show (0 : Int) ≤ 114 + (3 * a1) ∧ 114 + (3 * a1) < (1538 : Int) from by omega), ?_⟩
  have b1 : 0 ≤ s.1 96 (114 + (3 * a1)) ∧ s.1 96 (114 + (3 * a1)) ≤ 24 := iv_rd96 hI (iv_f3318a158 (a1) (by omega) (by omega))
  exact hQ (s.1 96 (114 + (3 * a1))) ⟨(show (0 : Int) ≤ s.1 96 (114 + (3 * a1)) ∧ s.1 96 (114 + (3 * a1)) ≤ (24 : Int) from by omega), (show s.1 96 (114 + (3 * a1)) = s.1 96 (114 + 3 * a1) from by omega)⟩
-- fm_241 Model.freeBunch 95
theorem sm_241_p2 {X2 : Int → lf_Z → Prop} {Q : Int → lf_Z → Prop} {x1 : Int} {s : lf_Z} {s0 : lf_Z} (hQ : ∀ (r : Int), (r = -1 ∨ s.1 96 (114 + 3 * r) = 0) → ((-1) ≤ r ∧ r ≤ 3) → Q r s) {M2 : Nat} (hX2 : ∀ (x1 : Int), 0 ≤ x1 ∧ x1 ≤ 4 → (4 - x1).toNat < M2 → X2 x1 s) (hM2 : (4 - x1).toNat ≤ M2) (hI : iv_A s.1 s.2.2) (bx1 : 0 ≤ x1 ∧ x1 ≤ 4) : fm_241_p2 Q X2 x1 s := by
  unfold fm_241_p2
  refine ⟨(show lf_R x1 from lf_Rof (by omega)), ?_⟩
  refine ⟨fun c1 => ?_, fun c1 => ?_⟩
  · skip
    replace c1 : 4 ≤ x1 := c1
    exact hQ (-1) (show (-1) = -1 ∨ (s.1 96) (114 + 3 * (-1)) = 0 from by omega) (show (-1 : Int) ≤ (-1) ∧ (-1) ≤ (3 : Int) from by omega)
  · skip
    replace c1 : ¬ (4 ≤ x1) := c1
    refine sm_242 hI (show (0 : Int) ≤ x1 ∧ x1 ≤ (3 : Int) from by omega) (fun r23 q2 => ?_)
    obtain ⟨q2, q2x⟩ := q2
    replace q2x : r23 = s.1 96 (114 + 3 * x1) := q2x
    refine ⟨(show lf_R r23 from lf_Rof (by omega)), ?_⟩
    refine ⟨fun c3 => ?_, fun c3 => ?_⟩
    · skip
      replace c3 : r23 ≠ 0 := c3
      exact hX2 (x1 + 1) (show (0 : Int) ≤ x1 + 1 ∧ x1 + 1 ≤ (4 : Int) from by omega) (show (4 - (x1 + 1)).toNat < M2 from by omega)
    · skip
      replace c3 : ¬ (r23 ≠ 0) := c3
      exact hQ x1 (show x1 = -1 ∨ (s.1 96) (114 + 3 * x1) = 0 from by omega) (show (-1 : Int) ≤ x1 ∧ x1 ≤ (3 : Int) from by omega)
theorem sm_241_p2L {Q : Int → lf_Z → Prop} {x1 : Int} {s : lf_Z} {s0 : lf_Z} (hQ : ∀ (r : Int), (r = -1 ∨ s.1 96 (114 + 3 * r) = 0) → ((-1) ≤ r ∧ r ≤ 3) → Q r s) (hI : iv_A s.1 s.2.2) (bx1 : 0 ≤ x1 ∧ x1 ≤ 4) : fm_241_p2L Q x1 s := by
  intro X2 hX
  have key : ∀ (m9 : Nat) (x1 : Int), 0 ≤ x1 ∧ x1 ≤ 4 → (4 - x1).toNat < m9 → X2 x1 s := by
    intro m9
    induction m9 with
    | zero => intro x1 bx1 h9; exact absurd h9 (Nat.not_lt_zero _)
    | succ m9 ih => intro x1 bx1 h9; exact hX _ _ (sm_241_p2 (s0 := s0) hQ   (fun x1' bx1' h8 => ih x1' bx1' (by omega)) (Nat.le_refl _)  hI  bx1  )
  exact key _ _ bx1   (Nat.lt_succ_self _)
theorem sm_241 {Q : Int → lf_Z → Prop} {s : lf_Z} (hI : iv_A s.1 s.2.2) (hQ : ∀ (r : Int), (r = -1 ∨ s.1 96 (114 + 3 * r) = 0) → ((-1) ≤ r ∧ r ≤ 3) → Q r s) : fm_241 Q s := by
  unfold fm_241
  exact sm_241_p2L (s0 := s) hQ hI (show (0 : Int) ≤ 0 ∧ 0 ≤ (4 : Int) from by omega)
-- fm_243 Model.beasts 95
theorem sm_243_p4 {X4 : Int → Int → lf_Z → Prop} {Q : Int → lf_Z → Prop} {x1 : Int} {x2 : Int} {s : lf_Z} {s0 : lf_Z} (hQ : ∀ (r : Int), (r = s.1 96 114 + s.1 96 117 + s.1 96 120 + s.1 96 123) → (0 ≤ r ∧ r ≤ 96) → Q r s) {M4 : Nat} (hX4 : ∀ (x1 : Int) (x2 : Int), 0 ≤ x1 ∧ x1 ≤ 96 → 0 ≤ x2 ∧ x2 ≤ 4 → ((x2 = 0 ∧ x1 = 0) ∨ (x2 = 1 ∧ x1 = s.1 96 114) ∨ (x2 = 2 ∧ x1 = s.1 96 114 + s.1 96 117) ∨ (x2 = 3 ∧ x1 = s.1 96 114 + s.1 96 117 + s.1 96 120) ∨ (x2 = 4 ∧ x1 = s.1 96 114 + s.1 96 117 + s.1 96 120 + s.1 96 123)) → (4 - x2).toNat < M4 → X4 x1 x2 s) (hM4 : (4 - x2).toNat ≤ M4) (hI : iv_A s.1 s.2.2) (bx1 : 0 ≤ x1 ∧ x1 ≤ 96) (bx2 : 0 ≤ x2 ∧ x2 ≤ 4) (kv0 : (x2 = 0 ∧ x1 = 0) ∨ (x2 = 1 ∧ x1 = s.1 96 114) ∨ (x2 = 2 ∧ x1 = s.1 96 114 + s.1 96 117) ∨ (x2 = 3 ∧ x1 = s.1 96 114 + s.1 96 117 + s.1 96 120) ∨ (x2 = 4 ∧ x1 = s.1 96 114 + s.1 96 117 + s.1 96 120 + s.1 96 123)) : fm_243_p4 Q X4 x1 x2 s := by
  unfold fm_243_p4
  refine ⟨(show lf_R x2 from lf_Rof (by omega)), ?_⟩
  refine ⟨fun c5 => ?_, fun c5 => ?_⟩
  · skip
    replace c5 : 4 ≤ x2 := c5
    exact hQ x1 (show x1 = (s.1 96 114) + (s.1 96 117) + (s.1 96 120) + (s.1 96 123) from by omega) (show (0 : Int) ≤ x1 ∧ x1 ≤ (96 : Int) from by omega)
  · skip
    replace c5 : ¬ (4 ≤ x2) := c5
    refine sm_242 hI (show (0 : Int) ≤ x2 ∧ x2 ≤ (3 : Int) from by omega) (fun r23 q6 => ?_)
    obtain ⟨q6, q6x⟩ := q6
    replace q6x : r23 = s.1 96 (114 + 3 * x2) := q6x
    have b7 : 0 ≤ s.1 96 114 ∧ s.1 96 114 ≤ 24 := iv_rd96 hI (iv_fda037f3c (by omega))
    have b8 : 0 ≤ s.1 96 117 ∧ s.1 96 117 ≤ 24 := iv_rd96 hI (iv_f168d6e22 (by omega))
    have b9 : 0 ≤ s.1 96 120 ∧ s.1 96 120 ≤ 24 := iv_rd96 hI (iv_f5f96ec92 (by omega))
    have b10 : 0 ≤ s.1 96 123 ∧ s.1 96 123 ≤ 24 := iv_rd96 hI (iv_fe4a5d80e (by omega))
    have b11 : (x2 = 0 → (s.1 96) (114 + 3 * x2) = (s.1 96 114)) ∧ (x2 = 1 → (s.1 96) (114 + 3 * x2) = (s.1 96 117)) ∧ (x2 = 2 → (s.1 96) (114 + 3 * x2) = (s.1 96 120)) ∧ (x2 = 3 → (s.1 96) (114 + 3 * x2) = (s.1 96 123)) := lf_c4 _ _
    exact hX4 (x1 + r23) (x2 + 1) (show (0 : Int) ≤ x1 + r23 ∧ x1 + r23 ≤ (96 : Int) from by omega) (show (0 : Int) ≤ x2 + 1 ∧ x2 + 1 ≤ (4 : Int) from by omega) (show ((x2 + 1) = 0 ∧ (x1 + r23) = 0) ∨ ((x2 + 1) = 1 ∧ (x1 + r23) = (s.1 96 114)) ∨ ((x2 + 1) = 2 ∧ (x1 + r23) = (s.1 96 114) + (s.1 96 117)) ∨ ((x2 + 1) = 3 ∧ (x1 + r23) = (s.1 96 114) + (s.1 96 117) + (s.1 96 120)) ∨ ((x2 + 1) = 4 ∧ (x1 + r23) = (s.1 96 114) + (s.1 96 117) + (s.1 96 120) + (s.1 96 123)) from by omega) (show (4 - (x2 + 1)).toNat < M4 from by omega)
theorem sm_243_p4L {Q : Int → lf_Z → Prop} {x1 : Int} {x2 : Int} {s : lf_Z} {s0 : lf_Z} (hQ : ∀ (r : Int), (r = s.1 96 114 + s.1 96 117 + s.1 96 120 + s.1 96 123) → (0 ≤ r ∧ r ≤ 96) → Q r s) (hI : iv_A s.1 s.2.2) (bx1 : 0 ≤ x1 ∧ x1 ≤ 96) (bx2 : 0 ≤ x2 ∧ x2 ≤ 4) (kv0 : (x2 = 0 ∧ x1 = 0) ∨ (x2 = 1 ∧ x1 = s.1 96 114) ∨ (x2 = 2 ∧ x1 = s.1 96 114 + s.1 96 117) ∨ (x2 = 3 ∧ x1 = s.1 96 114 + s.1 96 117 + s.1 96 120) ∨ (x2 = 4 ∧ x1 = s.1 96 114 + s.1 96 117 + s.1 96 120 + s.1 96 123)) : fm_243_p4L Q x1 x2 s := by
  intro X4 hX
  have key : ∀ (m9 : Nat) (x1 : Int) (x2 : Int), 0 ≤ x1 ∧ x1 ≤ 96 → 0 ≤ x2 ∧ x2 ≤ 4 → ((x2 = 0 ∧ x1 = 0) ∨ (x2 = 1 ∧ x1 = s.1 96 114) ∨ (x2 = 2 ∧ x1 = s.1 96 114 + s.1 96 117) ∨ (x2 = 3 ∧ x1 = s.1 96 114 + s.1 96 117 + s.1 96 120) ∨ (x2 = 4 ∧ x1 = s.1 96 114 + s.1 96 117 + s.1 96 120 + s.1 96 123)) → (4 - x2).toNat < m9 → X4 x1 x2 s := by
    intro m9
    induction m9 with
    | zero => intro x1 x2 bx1 bx2 kv0 h9; exact absurd h9 (Nat.not_lt_zero _)
    | succ m9 ih => intro x1 x2 bx1 bx2 kv0 h9; exact hX _ _ _ (sm_243_p4 (s0 := s0) hQ   (fun x1' x2' bx1' bx2' kv0' h8 => ih x1' x2' bx1' bx2' kv0' (by omega)) (Nat.le_refl _)  hI  bx1 bx2  kv0)
  exact key _ _ _ bx1 bx2  kv0 (Nat.lt_succ_self _)
theorem sm_243 {Q : Int → lf_Z → Prop} {s : lf_Z} (hI : iv_A s.1 s.2.2) (hQ : ∀ (r : Int), (r = s.1 96 114 + s.1 96 117 + s.1 96 120 + s.1 96 123) → (0 ≤ r ∧ r ≤ 96) → Q r s) : fm_243 Q s := by
  unfold fm_243
  have b1 : 0 ≤ s.1 96 114 ∧ s.1 96 114 ≤ 24 := iv_rd96 hI (iv_fda037f3c (by omega))
  have b2 : 0 ≤ s.1 96 117 ∧ s.1 96 117 ≤ 24 := iv_rd96 hI (iv_f168d6e22 (by omega))
  have b3 : 0 ≤ s.1 96 120 ∧ s.1 96 120 ≤ 24 := iv_rd96 hI (iv_f5f96ec92 (by omega))
  have b4 : 0 ≤ s.1 96 123 ∧ s.1 96 123 ≤ 24 := iv_rd96 hI (iv_fe4a5d80e (by omega))
  exact sm_243_p4L (s0 := s) hQ hI (show (0 : Int) ≤ 0 ∧ 0 ≤ (96 : Int) from by omega) (show (0 : Int) ≤ 0 ∧ 0 ≤ (4 : Int) from by omega) (show (0 = 0 ∧ 0 = 0) ∨ (0 = 1 ∧ 0 = (s.1 96 114)) ∨ (0 = 2 ∧ 0 = (s.1 96 114) + (s.1 96 117)) ∨ (0 = 3 ∧ 0 = (s.1 96 114) + (s.1 96 117) + (s.1 96 120)) ∨ (0 = 4 ∧ 0 = (s.1 96 114) + (s.1 96 117) + (s.1 96 120) + (s.1 96 123)) from by omega)
-- fm_246 Model.doneAt 95 i
theorem sm_246 {a1 : Int} {Q : Int → lf_Z → Prop} {s : lf_Z} (hI : iv_A s.1 s.2.2) (ba1 : 0 ≤ a1 ∧ a1 ≤ 11) (hQ : ∀ (r : Int), ((-2147483648) ≤ r ∧ r ≤ 2147483647) → Q r s) : fm_246 a1 Q s := by
  unfold fm_246
  refine ⟨(show (0 : Int) ≤ (14 + (3 * a1)) + 2 ∧ (14 + (3 * a1)) + 2 < (1538 : Int) from by omega), ?_⟩
  have b1 : (-2147483648) ≤ s.1 96 ((14 + (3 * a1)) + 2) ∧ s.1 96 ((14 + (3 * a1)) + 2) ≤ 2147483647 := iv_full hI
  exact hQ (s.1 96 ((14 + (3 * a1)) + 2)) (show (-2147483648 : Int) ≤ s.1 96 ((14 + (3 * a1)) + 2) ∧ s.1 96 ((14 + (3 * a1)) + 2) ≤ (2147483647 : Int) from by omega)
-- fm_239 Model.get 95 i 3
theorem sm_239 {a1 : Int} {Q : Int → lf_Z → Prop} {s : lf_Z} (hI : iv_A s.1 s.2.2) (ba1 : 0 ≤ a1 ∧ a1 ≤ 5) (hQ : ∀ (r : Int), ((0 ≤ r ∧ r ≤ 11) ∧ (r = s.1 96 (126 + 6 * a1 + 3))) → Q r s) : fm_239 a1 Q s := by
  unfold fm_239
  refine ⟨(show (0 : Int) ≤ (126 + (6 * a1)) + 3 ∧ (126 + (6 * a1)) + 3 < (1538 : Int) from by omega), ?_⟩
  have b1 : 0 ≤ s.1 96 ((126 + (6 * a1)) + 3) ∧ s.1 96 ((126 + (6 * a1)) + 3) ≤ 11 := iv_rd96 hI (iv_fba44946a (a1) (by omega) (by omega))
  exact hQ (s.1 96 ((126 + (6 * a1)) + 3)) ⟨(show (0 : Int) ≤ s.1 96 ((126 + (6 * a1)) + 3) ∧ s.1 96 ((126 + (6 * a1)) + 3) ≤ (11 : Int) from by omega), (show s.1 96 ((126 + (6 * a1)) + 3) = s.1 96 (126 + 6 * a1 + 3) from by omega)⟩
-- fm_239b Model.get 95 i 4
theorem sm_239b {a1 : Int} {Q : Int → lf_Z → Prop} {s : lf_Z} (hI : iv_A s.1 s.2.2) (ba1 : 0 ≤ a1 ∧ a1 ≤ 5) (hQ : ∀ (r : Int), (((-1) ≤ r ∧ r ≤ 11) ∧ (r = s.1 96 (126 + 6 * a1 + 4))) → Q r s) : fm_239b a1 Q s := by
  unfold fm_239b
  refine ⟨(show (0 : Int) ≤ (126 + (6 * a1)) + 4 ∧ (126 + (6 * a1)) + 4 < (1538 : Int) from by omega), ?_⟩
  have b1 : (-1) ≤ s.1 96 ((126 + (6 * a1)) + 4) ∧ s.1 96 ((126 + (6 * a1)) + 4) ≤ 11 := iv_rd96 hI (iv_f97411019 (a1) (by omega) (by omega))
  exact hQ (s.1 96 ((126 + (6 * a1)) + 4)) ⟨(show (-1 : Int) ≤ s.1 96 ((126 + (6 * a1)) + 4) ∧ s.1 96 ((126 + (6 * a1)) + 4) ≤ (11 : Int) from by omega), (show s.1 96 ((126 + (6 * a1)) + 4) = s.1 96 (126 + 6 * a1 + 4) from by omega)⟩
-- fm_245 Model.isOpen 95 i
theorem sm_245 {a1 : Int} {Q : Bool → lf_Z → Prop} {s : lf_Z} (hI : iv_A s.1 s.2.2) (ba1 : 0 ≤ a1 ∧ a1 ≤ 15) (hQ : ∀ (z : Bool), Q z s) : fm_245 a1 Q s := by
  unfold fm_245
  refine ⟨(show (0 : Int) ≤ (50 + (4 * a1)) + 3 ∧ (50 + (4 * a1)) + 3 < (1538 : Int) from by omega), ?_⟩
  have b1 : (-2147483648) ≤ s.1 96 ((50 + (4 * a1)) + 3) ∧ s.1 96 ((50 + (4 * a1)) + 3) ≤ 2147483647 := iv_full hI
  refine ⟨(show lf_R (s.1 96 ((50 + (4 * a1)) + 3)) from lf_Rof (by omega)), ?_⟩
  refine ⟨fun c2 => ?_, fun c2 => ?_⟩
  · skip
    replace c2 : s.1 96 ((50 + (4 * a1)) + 3) ≠ 1 := c2
    exact hQ false
  · skip
    replace c2 : ¬ (s.1 96 ((50 + (4 * a1)) + 3) ≠ 1) := c2
    exact hQ true
-- fm_244 Model.keep 95
theorem sm_244_p268 {X268 : Int → lf_Z → Prop} {Q : lf_Z → Prop} {x1 : Int} {x2 : Int} {s : lf_Z} {s0 : lf_Z} (hQ : ∀  (s' : lf_Z), iv_A s'.1 s'.2.2 → lf_fq [96, 1005] 9 true s.1 s.2.2 s'.1 s'.2.2 → (kp_F (s0.1 96) (s'.1 96)) → Q  s') {M268 : Nat} (hX268 : ∀ (x2 : Int) (s' : lf_Z), iv_A s'.1 s'.2.2 → lf_fq [96, 1005] 9 true s.1 s.2.2 s'.1 s'.2.2 → 0 ≤ x2 ∧ x2 ≤ 12 → (x1 = 278 + 42 * s'.1 96 9) → (s'.1 96 9 < 30) → (kp_F (s0.1 96) (s'.1 96)) → (iv_s4 (s'.1 96) (x1 + 5)) → (12 - x2).toNat < M268 → X268 x2 s') (hM268 : (12 - x2).toNat ≤ M268) (hI : iv_A s.1 s.2.2) (bx1 : 278 ≤ x1 ∧ x1 ≤ 1496) (bx2 : 0 ≤ x2 ∧ x2 ≤ 12) (kv0 : x1 = 278 + 42 * s.1 96 9) (kv1 : s.1 96 9 < 30) (kv2 : kp_F (s0.1 96) (s.1 96)) (kv3 : iv_s4 (s.1 96) (x1 + 5)) : fm_244_p268 Q x1 X268 x2 s := by
  unfold fm_244_p268
  refine ⟨(show lf_R x2 from lf_Rof (by omega)), ?_⟩
  refine ⟨fun c47 => ?_, fun c47 => ?_⟩
  · skip
    replace c47 : 12 ≤ x2 := c47
    have b48 : 0 ≤ s.1 96 9 ∧ s.1 96 9 ≤ 30 := iv_rd96 hI (iv_fb9711825 (by omega))
    have b49 : iv_s4 (s.1 96) (278 + 42 * s.1 96 9 + 5) := iv_s4e (show iv_s4 ((s.1 96)) (x1 + 5) from by first | with_reducible assumption | assumption) (by omega)
    have hI50 : iv_A (lf_up s.1 96 9 ((s.1 96 9) + 1)) s.2.2 := iv_wd96 hI (lf_le2 (iv_f894cccb4 (by omega)) (by omega)) (fun _ => by first | exact iv_rel9 hI (by omega) | exact iv_rel9u hI (by omega) (by assumption))
    have fr51 : lf_fq [96, 1005] 9 true s.1 s.2.2 (lf_up s.1 96 9 ((s.1 96 9) + 1)) s.2.2 := lf_fq_up (lf_fq_rf) rfl (fun _ => ⟨by omega, fr_o (Or.inr (fr_n0 (by omega))) (Or.inr (fr_n1 (by omega))) (Or.inr (fr_n2 (by omega))) (Or.inr (fr_n3 (by omega))) (Or.inr (fr_n4 (by omega))) (Or.inl rfl) (Or.inr (fr_n6 (by omega)))⟩)
    have b52 : kp_F (s0.1 96) (((lf_up s.1 96 9 ((s.1 96 9) + 1)) 96)) := by first | with_reducible assumption | (repeat first | with_reducible assumption | exact kp_r | refine kp_u ?_ (fun j hj => lf_up_i hj) (by omega))
    exact hQ (lf_up s.1 96 9 ((s.1 96 9) + 1), s.2.1, s.2.2) hI50 fr51 (show kp_F (s0.1 96) (((lf_up s.1 96 9 ((s.1 96 9) + 1)) 96)) from by first | with_reducible assumption | assumption)
  · skip
    replace c47 : ¬ (12 ≤ x2) := c47
    refine sm_246 hI (show (0 : Int) ≤ x2 ∧ x2 ≤ (11 : Int) from by omega) (fun r33 q53 => ?_)
    refine ⟨(show (0 : Int) ≤ (x1 + 29) + x2 ∧ (x1 + 29) + x2 < (1538 : Int) from by omega), ?_⟩
    have hI54 : iv_A (lf_up s.1 96 ((x1 + 29) + x2) r33) s.2.2 := iv_wd96 hI (lf_le2 (iv_f6039f252 (s.1 96 9) (x2) (by omega) (by omega) (by omega)) (by omega)) (fun h => absurd h (by omega))
    have fr55 : lf_fq [96, 1005] 9 true s.1 s.2.2 (lf_up s.1 96 ((x1 + 29) + x2) r33) s.2.2 := lf_fq_up (lf_fq_rf) rfl (fun _ => ⟨by omega, fr_o (Or.inr (fr_n0 (by omega))) (Or.inr (fr_n1 (by omega))) (Or.inr (fr_n2 (by omega))) (Or.inr (fr_n3 (by omega))) (Or.inr (fr_n4 (by omega))) (Or.inl rfl) (Or.inr (fr_n6 (by omega)))⟩)
    have b56 : 0 ≤ (lf_up s.1 96 ((x1 + 29) + x2) r33) 96 9 ∧ (lf_up s.1 96 ((x1 + 29) + x2) r33) 96 9 ≤ 30 := iv_rd96 hI54 (iv_fb9711825 (by omega))
    have b57 : (lf_up s.1 96 ((x1 + 29) + x2) r33) 96 9 = s.1 96 9 := lf_up_i (by omega)
    have b58 : kp_F (s0.1 96) (((lf_up s.1 96 ((x1 + 29) + x2) r33) 96)) := by first | with_reducible assumption | (repeat first | with_reducible assumption | exact kp_r | refine kp_u ?_ (fun j hj => lf_up_i hj) (by omega))
    have b59 : iv_s4 (((lf_up s.1 96 ((x1 + 29) + x2) r33) 96)) (x1 + 5) := by first | exact kp_s4 (by first | with_reducible assumption | assumption) (by omega) (iv_szA hI54) | (repeat first | with_reducible assumption | refine iv_s4u ?_ (fun j hj => lf_up_i hj) (by omega))
    exact hX268 (x2 + 1) (lf_up s.1 96 ((x1 + 29) + x2) r33, s.2.1, s.2.2) hI54 fr55 (show (0 : Int) ≤ x2 + 1 ∧ x2 + 1 ≤ (12 : Int) from by omega) (show x1 = 278 + 42 * ((lf_up s.1 96 ((x1 + 29) + x2) r33) 96 9) from by omega) (show ((lf_up s.1 96 ((x1 + 29) + x2) r33) 96 9) < 30 from by omega) (show kp_F (s0.1 96) (((lf_up s.1 96 ((x1 + 29) + x2) r33) 96)) from by first | with_reducible assumption | assumption) (show iv_s4 (((lf_up s.1 96 ((x1 + 29) + x2) r33) 96)) (x1 + 5) from by first | with_reducible assumption | assumption) (show (12 - (x2 + 1)).toNat < M268 from by omega)
theorem sm_244_p268L {Q : lf_Z → Prop} {x1 : Int} {x2 : Int} {s : lf_Z} {s0 : lf_Z} (hQ : ∀  (s' : lf_Z), iv_A s'.1 s'.2.2 → lf_fq [96, 1005] 9 true s.1 s.2.2 s'.1 s'.2.2 → (kp_F (s0.1 96) (s'.1 96)) → Q  s') (hI : iv_A s.1 s.2.2) (bx1 : 278 ≤ x1 ∧ x1 ≤ 1496) (bx2 : 0 ≤ x2 ∧ x2 ≤ 12) (kv0 : x1 = 278 + 42 * s.1 96 9) (kv1 : s.1 96 9 < 30) (kv2 : kp_F (s0.1 96) (s.1 96)) (kv3 : iv_s4 (s.1 96) (x1 + 5)) : fm_244_p268L Q x1 x2 s := by
  intro X268 hX
  have key : ∀ (m9 : Nat) (x2 : Int) (s' : lf_Z), iv_A s'.1 s'.2.2 → lf_fq [96, 1005] 9 true s.1 s.2.2 s'.1 s'.2.2 → 0 ≤ x2 ∧ x2 ≤ 12 → (x1 = 278 + 42 * s'.1 96 9) → (s'.1 96 9 < 30) → (kp_F (s0.1 96) (s'.1 96)) → (iv_s4 (s'.1 96) (x1 + 5)) → (12 - x2).toNat < m9 → X268 x2 s' := by
    intro m9
    induction m9 with
    | zero => intro x2 s' _ _ bx2 kv0 kv1 kv2 kv3 h9; exact absurd h9 (Nat.not_lt_zero _)
    | succ m9 ih => intro x2 s' i7 f7 bx2 kv0 kv1 kv2 kv3 h9; exact hX _ _ (sm_244_p268 (s0 := s0) (fun t9 i9 f9 => hQ t9 i9 (lf_fq_tr f7 f9))   (fun x2' t8 i8 f8 bx2' kv0' kv1' kv2' kv3' h8 => ih x2' t8 i8 (lf_fq_tr f7 f8) bx2' kv0' kv1' kv2' kv3' (by omega)) (Nat.le_refl _)  i7  bx1 bx2  kv0 kv1 kv2 kv3)
  exact key _ _ s hI lf_fq_rf bx2 kv0 kv1 kv2 kv3 (Nat.lt_succ_self _)
theorem sm_244_p216 {X216 : Int → lf_Z → Prop} {Q : lf_Z → Prop} {x1 : Int} {x2 : Int} {s : lf_Z} {s0 : lf_Z} (hQ : ∀  (s' : lf_Z), iv_A s'.1 s'.2.2 → lf_fq [96, 1005] 9 true s.1 s.2.2 s'.1 s'.2.2 → (kp_F (s0.1 96) (s'.1 96)) → Q  s') {M216 : Nat} (hX216 : ∀ (x2 : Int) (s' : lf_Z), iv_A s'.1 s'.2.2 → lf_fq [96, 1005] 9 true s.1 s.2.2 s'.1 s'.2.2 → 0 ≤ x2 ∧ x2 ≤ 6 → (x1 = 278 + 42 * s'.1 96 9) → (s'.1 96 9 < 30) → (kp_F (s0.1 96) (s'.1 96)) → (iv_s4 (s'.1 96) (x1 + 5)) → (6 - x2).toNat < M216 → X216 x2 s') (hM216 : (6 - x2).toNat ≤ M216) (hI : iv_A s.1 s.2.2) (bx1 : 278 ≤ x1 ∧ x1 ≤ 1496) (bx2 : 0 ≤ x2 ∧ x2 ≤ 6) (kv0 : x1 = 278 + 42 * s.1 96 9) (kv1 : s.1 96 9 < 30) (kv2 : kp_F (s0.1 96) (s.1 96)) (kv3 : iv_s4 (s.1 96) (x1 + 5)) : fm_244_p216 Q x1 X216 x2 s := by
  unfold fm_244_p216
  refine ⟨(show lf_R x2 from lf_Rof (by omega)), ?_⟩
  refine ⟨fun c43 => ?_, fun c43 => ?_⟩
  · skip
    replace c43 : 6 ≤ x2 := c43
    have b44 : 0 ≤ s.1 96 9 ∧ s.1 96 9 ≤ 30 := iv_rd96 hI (iv_fb9711825 (by omega))
    have b45 : kp_F (s0.1 96) ((s.1 96)) := by first | with_reducible assumption | (repeat first | with_reducible assumption | exact kp_r | refine kp_u ?_ (fun j hj => lf_up_i hj) (by omega))
    have b46 : iv_s4 ((s.1 96)) (x1 + 5) := by first | exact kp_s4 (by first | with_reducible assumption | assumption) (by omega) (iv_szA hI) | (repeat first | with_reducible assumption | refine iv_s4u ?_ (fun j hj => lf_up_i hj) (by omega))
    exact sm_244_p268L (s0 := s0) hQ hI (show (278 : Int) ≤ x1 ∧ x1 ≤ (1496 : Int) from by omega) (show (0 : Int) ≤ 0 ∧ 0 ≤ (12 : Int) from by omega) (show x1 = 278 + 42 * (s.1 96 9) from by omega) (show (s.1 96 9) < 30 from by omega) (show kp_F (s0.1 96) ((s.1 96)) from by first | with_reducible assumption | assumption) (show iv_s4 ((s.1 96)) (x1 + 5) from by first | with_reducible assumption | assumption)
  · skip
    replace c43 : ¬ (6 ≤ x2) := c43
    refine sm_239 hI (show (0 : Int) ≤ x2 ∧ x2 ≤ (5 : Int) from by omega) (fun r36 q60 => ?_)
    obtain ⟨q60, q60x⟩ := q60
    replace q60x : r36 = s.1 96 (126 + 6 * x2 + 3) := q60x
    refine ⟨(show (0 : Int) ≤ (x1 + 17) + (2 * x2) ∧ (x1 + 17) + (2 * x2) < (1538 : Int) from by omega), ?_⟩
    have hI61 : iv_A (lf_up s.1 96 ((x1 + 17) + (2 * x2)) r36) s.2.2 := iv_wd96 hI (lf_le2 (iv_fd552392a (s.1 96 9) (x2) (by omega) (by omega) (by omega)) (by omega)) (fun h => absurd h (by omega))
    have fr62 : lf_fq [96, 1005] 9 true s.1 s.2.2 (lf_up s.1 96 ((x1 + 17) + (2 * x2)) r36) s.2.2 := lf_fq_up (lf_fq_rf) rfl (fun _ => ⟨by omega, fr_o (Or.inr (fr_n0 (by omega))) (Or.inr (fr_n1 (by omega))) (Or.inr (fr_n2 (by omega))) (Or.inr (fr_n3 (by omega))) (Or.inr (fr_n4 (by omega))) (Or.inl rfl) (Or.inr (fr_n6 (by omega)))⟩)
    refine sm_239b hI61 (show (0 : Int) ≤ x2 ∧ x2 ≤ (5 : Int) from by omega) (fun r39 q63 => ?_)
    obtain ⟨q63, q63x⟩ := q63
    replace q63x : r39 = ((lf_up s.1 96 ((x1 + 17) + (2 * x2)) r36) 96) (126 + 6 * x2 + 4) := q63x
    refine ⟨(show (0 : Int) ≤ (x1 + 18) + (2 * x2) ∧ (x1 + 18) + (2 * x2) < (1538 : Int) from by omega), ?_⟩
    have b64 : 0 ≤ (lf_up s.1 96 ((x1 + 17) + (2 * x2)) r36) 96 9 ∧ (lf_up s.1 96 ((x1 + 17) + (2 * x2)) r36) 96 9 ≤ 30 := iv_rd96 hI61 (iv_fb9711825 (by omega))
    have b65 : (lf_up s.1 96 ((x1 + 17) + (2 * x2)) r36) 96 9 = s.1 96 9 := lf_up_i (by omega)
    have hI66 : iv_A (lf_up (lf_up s.1 96 ((x1 + 17) + (2 * x2)) r36) 96 ((x1 + 18) + (2 * x2)) r39) s.2.2 := iv_wd96 hI61 (lf_le2 (iv_f10709e31 (s.1 96 9) (x2) (by omega) (by omega) (by omega)) (by omega)) (fun h => absurd h (by omega))
    have fr67 : lf_fq [96, 1005] 9 true s.1 s.2.2 (lf_up (lf_up s.1 96 ((x1 + 17) + (2 * x2)) r36) 96 ((x1 + 18) + (2 * x2)) r39) s.2.2 := lf_fq_up fr62 rfl (fun _ => ⟨by omega, fr_o (Or.inr (fr_n0 (by omega))) (Or.inr (fr_n1 (by omega))) (Or.inr (fr_n2 (by omega))) (Or.inr (fr_n3 (by omega))) (Or.inr (fr_n4 (by omega))) (Or.inl rfl) (Or.inr (fr_n6 (by omega)))⟩)
    have b68 : 0 ≤ (lf_up (lf_up s.1 96 ((x1 + 17) + (2 * x2)) r36) 96 ((x1 + 18) + (2 * x2)) r39) 96 9 ∧ (lf_up (lf_up s.1 96 ((x1 + 17) + (2 * x2)) r36) 96 ((x1 + 18) + (2 * x2)) r39) 96 9 ≤ 30 := iv_rd96 hI66 (iv_fb9711825 (by omega))
    have b69 : (lf_up (lf_up s.1 96 ((x1 + 17) + (2 * x2)) r36) 96 ((x1 + 18) + (2 * x2)) r39) 96 9 = (lf_up s.1 96 ((x1 + 17) + (2 * x2)) r36) 96 9 := lf_up_i (by omega)
    have b70 : kp_F (s0.1 96) (((lf_up (lf_up s.1 96 ((x1 + 17) + (2 * x2)) r36) 96 ((x1 + 18) + (2 * x2)) r39) 96)) := by first | with_reducible assumption | (repeat first | with_reducible assumption | exact kp_r | refine kp_u ?_ (fun j hj => lf_up_i hj) (by omega))
    have b71 : iv_s4 (((lf_up (lf_up s.1 96 ((x1 + 17) + (2 * x2)) r36) 96 ((x1 + 18) + (2 * x2)) r39) 96)) (x1 + 5) := by first | exact kp_s4 (by first | with_reducible assumption | assumption) (by omega) (iv_szA hI66) | (repeat first | with_reducible assumption | refine iv_s4u ?_ (fun j hj => lf_up_i hj) (by omega))
    exact hX216 (x2 + 1) (lf_up (lf_up s.1 96 ((x1 + 17) + (2 * x2)) r36) 96 ((x1 + 18) + (2 * x2)) r39, s.2.1, s.2.2) hI66 fr67 (show (0 : Int) ≤ x2 + 1 ∧ x2 + 1 ≤ (6 : Int) from by omega) (show x1 = 278 + 42 * ((lf_up (lf_up s.1 96 ((x1 + 17) + (2 * x2)) r36) 96 ((x1 + 18) + (2 * x2)) r39) 96 9) from by omega) (show ((lf_up (lf_up s.1 96 ((x1 + 17) + (2 * x2)) r36) 96 ((x1 + 18) + (2 * x2)) r39) 96 9) < 30 from by omega) (show kp_F (s0.1 96) (((lf_up (lf_up s.1 96 ((x1 + 17) + (2 * x2)) r36) 96 ((x1 + 18) + (2 * x2)) r39) 96)) from by first | with_reducible assumption | assumption) (show iv_s4 (((lf_up (lf_up s.1 96 ((x1 + 17) + (2 * x2)) r36) 96 ((x1 + 18) + (2 * x2)) r39) 96)) (x1 + 5) from by first | with_reducible assumption | assumption) (show (6 - (x2 + 1)).toNat < M216 from by omega)
theorem sm_244_p216L {Q : lf_Z → Prop} {x1 : Int} {x2 : Int} {s : lf_Z} {s0 : lf_Z} (hQ : ∀  (s' : lf_Z), iv_A s'.1 s'.2.2 → lf_fq [96, 1005] 9 true s.1 s.2.2 s'.1 s'.2.2 → (kp_F (s0.1 96) (s'.1 96)) → Q  s') (hI : iv_A s.1 s.2.2) (bx1 : 278 ≤ x1 ∧ x1 ≤ 1496) (bx2 : 0 ≤ x2 ∧ x2 ≤ 6) (kv0 : x1 = 278 + 42 * s.1 96 9) (kv1 : s.1 96 9 < 30) (kv2 : kp_F (s0.1 96) (s.1 96)) (kv3 : iv_s4 (s.1 96) (x1 + 5)) : fm_244_p216L Q x1 x2 s := by
  intro X216 hX
  have key : ∀ (m9 : Nat) (x2 : Int) (s' : lf_Z), iv_A s'.1 s'.2.2 → lf_fq [96, 1005] 9 true s.1 s.2.2 s'.1 s'.2.2 → 0 ≤ x2 ∧ x2 ≤ 6 → (x1 = 278 + 42 * s'.1 96 9) → (s'.1 96 9 < 30) → (kp_F (s0.1 96) (s'.1 96)) → (iv_s4 (s'.1 96) (x1 + 5)) → (6 - x2).toNat < m9 → X216 x2 s' := by
    intro m9
    induction m9 with
    | zero => intro x2 s' _ _ bx2 kv0 kv1 kv2 kv3 h9; exact absurd h9 (Nat.not_lt_zero _)
    | succ m9 ih => intro x2 s' i7 f7 bx2 kv0 kv1 kv2 kv3 h9; exact hX _ _ (sm_244_p216 (s0 := s0) (fun t9 i9 f9 => hQ t9 i9 (lf_fq_tr f7 f9))   (fun x2' t8 i8 f8 bx2' kv0' kv1' kv2' kv3' h8 => ih x2' t8 i8 (lf_fq_tr f7 f8) bx2' kv0' kv1' kv2' kv3' (by omega)) (Nat.le_refl _)  i7  bx1 bx2  kv0 kv1 kv2 kv3)
  exact key _ _ s hI lf_fq_rf bx2 kv0 kv1 kv2 kv3 (Nat.lt_succ_self _)
theorem sm_244_p183 {X183 : Int → lf_Z → Prop} {Q : lf_Z → Prop} {x1 : Int} {x2 : Int} {s : lf_Z} {s0 : lf_Z} (hQ : ∀  (s' : lf_Z), iv_A s'.1 s'.2.2 → lf_fq [96, 1005] 9 true s.1 s.2.2 s'.1 s'.2.2 → (kp_F (s0.1 96) (s'.1 96)) → Q  s') {M183 : Nat} (hX183 : ∀ (x2 : Int) (s' : lf_Z), iv_A s'.1 s'.2.2 → lf_fq [96, 1005] 9 true s.1 s.2.2 s'.1 s'.2.2 → 0 ≤ x2 ∧ x2 ≤ 12 → (x1 = 278 + 42 * s'.1 96 9) → (s'.1 96 9 < 30) → (kp_F (s0.1 96) (s'.1 96)) → (kp_C (s'.1 96) (x1) (x2)) → (12 - x2).toNat < M183 → X183 x2 s') (hM183 : (12 - x2).toNat ≤ M183) (hI : iv_A s.1 s.2.2) (bx1 : 278 ≤ x1 ∧ x1 ≤ 1496) (bx2 : 0 ≤ x2 ∧ x2 ≤ 12) (kv0 : x1 = 278 + 42 * s.1 96 9) (kv1 : s.1 96 9 < 30) (kv2 : kp_F (s0.1 96) (s.1 96)) (kv3 : kp_C (s.1 96) (x1) (x2)) : fm_244_p183 Q x1 X183 x2 s := by
  unfold fm_244_p183
  refine ⟨(show lf_R x2 from lf_Rof (by omega)), ?_⟩
  refine ⟨fun c39 => ?_, fun c39 => ?_⟩
  · skip
    replace c39 : 12 ≤ x2 := c39
    have b40 : 0 ≤ s.1 96 9 ∧ s.1 96 9 ≤ 30 := iv_rd96 hI (iv_fb9711825 (by omega))
    have b41 : kp_F (s0.1 96) ((s.1 96)) := by first | with_reducible assumption | (repeat first | with_reducible assumption | exact kp_r | refine kp_u ?_ (fun j hj => lf_up_i hj) (by omega))
    have b42 : iv_s4 ((s.1 96)) (x1 + 5) := by first | exact kp_s4 (by first | with_reducible assumption | assumption) (by omega) (iv_szA hI) | (repeat first | with_reducible assumption | refine iv_s4u ?_ (fun j hj => lf_up_i hj) (by omega))
    exact sm_244_p216L (s0 := s0) hQ hI (show (278 : Int) ≤ x1 ∧ x1 ≤ (1496 : Int) from by omega) (show (0 : Int) ≤ 0 ∧ 0 ≤ (6 : Int) from by omega) (show x1 = 278 + 42 * (s.1 96 9) from by omega) (show (s.1 96 9) < 30 from by omega) (show kp_F (s0.1 96) ((s.1 96)) from by first | with_reducible assumption | assumption) (show iv_s4 ((s.1 96)) (x1 + 5) from by first | with_reducible assumption | assumption)
  · skip
    replace c39 : ¬ (12 ≤ x2) := c39
    refine ⟨(show (0 : Int) ≤ 114 + x2 ∧ 114 + x2 < (1538 : Int) from by omega), ?_⟩
    have b72 : (-1) ≤ s.1 96 (114 + x2) ∧ s.1 96 (114 + x2) ≤ 24 := iv_rd96 hI (iv_f1b92e825 (x2) (by omega) (by omega))
    refine ⟨(show (0 : Int) ≤ (x1 + 5) + x2 ∧ (x1 + 5) + x2 < (1538 : Int) from by omega), ?_⟩
    have hI73 : iv_A (lf_up s.1 96 ((x1 + 5) + x2) (s.1 96 (114 + x2))) s.2.2 := iv_wp96_96 hI (iv_gf62e0eba (s.1 96 9) (x2) (by omega) (by omega) (by omega) (by omega)) (fun h => absurd h (by omega))
    have fr74 : lf_fq [96, 1005] 9 true s.1 s.2.2 (lf_up s.1 96 ((x1 + 5) + x2) (s.1 96 (114 + x2))) s.2.2 := lf_fq_up (lf_fq_rf) rfl (fun _ => ⟨by omega, fr_o (Or.inr (fr_n0 (by omega))) (Or.inr (fr_n1 (by omega))) (Or.inr (fr_n2 (by omega))) (Or.inr (fr_n3 (by omega))) (Or.inr (fr_n4 (by omega))) (Or.inl rfl) (Or.inr (fr_n6 (by omega)))⟩)
    have b75 : 0 ≤ (lf_up s.1 96 ((x1 + 5) + x2) (s.1 96 (114 + x2))) 96 9 ∧ (lf_up s.1 96 ((x1 + 5) + x2) (s.1 96 (114 + x2))) 96 9 ≤ 30 := iv_rd96 hI73 (iv_fb9711825 (by omega))
    have b76 : (lf_up s.1 96 ((x1 + 5) + x2) (s.1 96 (114 + x2))) 96 9 = s.1 96 9 := lf_up_i (by omega)
    have b77 : kp_F (s0.1 96) (((lf_up s.1 96 ((x1 + 5) + x2) (s.1 96 (114 + x2))) 96)) := by first | with_reducible assumption | (repeat first | with_reducible assumption | exact kp_r | refine kp_u ?_ (fun j hj => lf_up_i hj) (by omega))
    have b78 : kp_C (((lf_up s.1 96 ((x1 + 5) + x2) (s.1 96 (114 + x2))) 96)) (x1) ((x2 + 1)) := by first | exact kp_CS (by first | with_reducible assumption | assumption) lf_up_s (fun j hj => lf_up_i hj) (by omega) (by omega) | exact (fun j a b => by omega)
    exact hX183 (x2 + 1) (lf_up s.1 96 ((x1 + 5) + x2) (s.1 96 (114 + x2)), s.2.1, s.2.2) hI73 fr74 (show (0 : Int) ≤ x2 + 1 ∧ x2 + 1 ≤ (12 : Int) from by omega) (show x1 = 278 + 42 * ((lf_up s.1 96 ((x1 + 5) + x2) (s.1 96 (114 + x2))) 96 9) from by omega) (show ((lf_up s.1 96 ((x1 + 5) + x2) (s.1 96 (114 + x2))) 96 9) < 30 from by omega) (show kp_F (s0.1 96) (((lf_up s.1 96 ((x1 + 5) + x2) (s.1 96 (114 + x2))) 96)) from by first | with_reducible assumption | assumption) (show kp_C (((lf_up s.1 96 ((x1 + 5) + x2) (s.1 96 (114 + x2))) 96)) (x1) ((x2 + 1)) from by first | with_reducible assumption | assumption) (show (12 - (x2 + 1)).toNat < M183 from by omega)
theorem sm_244_p183L {Q : lf_Z → Prop} {x1 : Int} {x2 : Int} {s : lf_Z} {s0 : lf_Z} (hQ : ∀  (s' : lf_Z), iv_A s'.1 s'.2.2 → lf_fq [96, 1005] 9 true s.1 s.2.2 s'.1 s'.2.2 → (kp_F (s0.1 96) (s'.1 96)) → Q  s') (hI : iv_A s.1 s.2.2) (bx1 : 278 ≤ x1 ∧ x1 ≤ 1496) (bx2 : 0 ≤ x2 ∧ x2 ≤ 12) (kv0 : x1 = 278 + 42 * s.1 96 9) (kv1 : s.1 96 9 < 30) (kv2 : kp_F (s0.1 96) (s.1 96)) (kv3 : kp_C (s.1 96) (x1) (x2)) : fm_244_p183L Q x1 x2 s := by
  intro X183 hX
  have key : ∀ (m9 : Nat) (x2 : Int) (s' : lf_Z), iv_A s'.1 s'.2.2 → lf_fq [96, 1005] 9 true s.1 s.2.2 s'.1 s'.2.2 → 0 ≤ x2 ∧ x2 ≤ 12 → (x1 = 278 + 42 * s'.1 96 9) → (s'.1 96 9 < 30) → (kp_F (s0.1 96) (s'.1 96)) → (kp_C (s'.1 96) (x1) (x2)) → (12 - x2).toNat < m9 → X183 x2 s' := by
    intro m9
    induction m9 with
    | zero => intro x2 s' _ _ bx2 kv0 kv1 kv2 kv3 h9; exact absurd h9 (Nat.not_lt_zero _)
    | succ m9 ih => intro x2 s' i7 f7 bx2 kv0 kv1 kv2 kv3 h9; exact hX _ _ (sm_244_p183 (s0 := s0) (fun t9 i9 f9 => hQ t9 i9 (lf_fq_tr f7 f9))   (fun x2' t8 i8 f8 bx2' kv0' kv1' kv2' kv3' h8 => ih x2' t8 i8 (lf_fq_tr f7 f8) bx2' kv0' kv1' kv2' kv3' (by omega)) (Nat.le_refl _)  i7  bx1 bx2  kv0 kv1 kv2 kv3)
  exact key _ _ s hI lf_fq_rf bx2 kv0 kv1 kv2 kv3 (Nat.lt_succ_self _)
theorem sm_244_p144 {X110 : Int → lf_Z → Prop} {Q : lf_Z → Prop} {x1 : Int} {x2 : Int} {y1 : Int} {y2 : Int} {y3 : Int} {s : lf_Z} {s0 : lf_Z} (hQ : ∀  (s' : lf_Z), iv_A s'.1 s'.2.2 → lf_fq [96, 1005] 9 true s.1 s.2.2 s'.1 s'.2.2 → (kp_F (s0.1 96) (s'.1 96)) → Q  s') {M110 : Nat} (hX110 : ∀ (x2 : Int) (s' : lf_Z), iv_A s'.1 s'.2.2 → lf_fq [96, 1005] 9 true s.1 s.2.2 s'.1 s'.2.2 → 0 ≤ x2 ∧ x2 ≤ 16 → (x1 = 278 + 42 * s'.1 96 9) → (s'.1 96 9 < 30) → (kp_F (s0.1 96) (s'.1 96)) → (16 - x2).toNat < M110 → X110 x2 s') (hM110 : (16 - x2).toNat ≤ M110) (hI : iv_A s.1 s.2.2) (bx1 : 278 ≤ x1 ∧ x1 ≤ 1496) (bx2 : 0 ≤ x2 ∧ x2 ≤ 15) (by1 : 280 ≤ y1 ∧ y1 ≤ 1498) (by2 : (-2147483648) ≤ y2 ∧ y2 ≤ 2147483647) (by3 : 0 ≤ y3 ∧ y3 ≤ 32768) (kv0 : x1 = 278 + 42 * s.1 96 9) (kv1 : s.1 96 9 < 30) (kv2 : y1 = x1 + 2) (kv3 : kp_F (s0.1 96) (s.1 96)) : fm_244_p144 X110 Q x1 x2 y1 y2 y3 s := by
  unfold fm_244_p144
  have b84 : (-2147483648) ≤ lf_or y2 y3 ∧ lf_or y2 y3 ≤ 2147483647 := lf_orB
  refine ⟨(show (0 : Int) ≤ y1 ∧ y1 < (1538 : Int) from by omega), ?_⟩
  have hI85 : iv_A (lf_up s.1 96 y1 (lf_or y2 y3)) s.2.2 := iv_wd96 hI (lf_le2 (iv_fb7c9e2e3 (s.1 96 9) (by omega) (by omega)) (by omega)) (fun h => absurd h (by omega))
  have fr86 : lf_fq [96, 1005] 9 true s.1 s.2.2 (lf_up s.1 96 y1 (lf_or y2 y3)) s.2.2 := lf_fq_up (lf_fq_rf) rfl (fun _ => ⟨by omega, fr_o (Or.inr (fr_n0 (by omega))) (Or.inr (fr_n1 (by omega))) (Or.inr (fr_n2 (by omega))) (Or.inr (fr_n3 (by omega))) (Or.inr (fr_n4 (by omega))) (Or.inl rfl) (Or.inr (fr_n6 (by omega)))⟩)
  have b87 : 0 ≤ (lf_up s.1 96 y1 (lf_or y2 y3)) 96 9 ∧ (lf_up s.1 96 y1 (lf_or y2 y3)) 96 9 ≤ 30 := iv_rd96 hI85 (iv_fb9711825 (by omega))
  have b88 : (lf_up s.1 96 y1 (lf_or y2 y3)) 96 9 = s.1 96 9 := lf_up_i (by omega)
  have b89 : kp_F (s0.1 96) (((lf_up s.1 96 y1 (lf_or y2 y3)) 96)) := by first | with_reducible assumption | (repeat first | with_reducible assumption | exact kp_r | refine kp_u ?_ (fun j hj => lf_up_i hj) (by omega))
  exact hX110 (x2 + 1) (lf_up s.1 96 y1 (lf_or y2 y3), s.2.1, s.2.2) hI85 fr86 (show (0 : Int) ≤ x2 + 1 ∧ x2 + 1 ≤ (16 : Int) from by omega) (show x1 = 278 + 42 * ((lf_up s.1 96 y1 (lf_or y2 y3)) 96 9) from by omega) (show ((lf_up s.1 96 y1 (lf_or y2 y3)) 96 9) < 30 from by omega) (show kp_F (s0.1 96) (((lf_up s.1 96 y1 (lf_or y2 y3)) 96)) from by first | with_reducible assumption | assumption) (show (16 - (x2 + 1)).toNat < M110 from by omega)
theorem sm_244_p110 {X110 : Int → lf_Z → Prop} {Q : lf_Z → Prop} {x1 : Int} {x2 : Int} {s : lf_Z} {s0 : lf_Z} (hQ : ∀  (s' : lf_Z), iv_A s'.1 s'.2.2 → lf_fq [96, 1005] 9 true s.1 s.2.2 s'.1 s'.2.2 → (kp_F (s0.1 96) (s'.1 96)) → Q  s') {M110 : Nat} (hX110 : ∀ (x2 : Int) (s' : lf_Z), iv_A s'.1 s'.2.2 → lf_fq [96, 1005] 9 true s.1 s.2.2 s'.1 s'.2.2 → 0 ≤ x2 ∧ x2 ≤ 16 → (x1 = 278 + 42 * s'.1 96 9) → (s'.1 96 9 < 30) → (kp_F (s0.1 96) (s'.1 96)) → (16 - x2).toNat < M110 → X110 x2 s') (hM110 : (16 - x2).toNat ≤ M110) (hI : iv_A s.1 s.2.2) (bx1 : 278 ≤ x1 ∧ x1 ≤ 1496) (bx2 : 0 ≤ x2 ∧ x2 ≤ 16) (kv0 : x1 = 278 + 42 * s.1 96 9) (kv1 : s.1 96 9 < 30) (kv2 : kp_F (s0.1 96) (s.1 96)) : fm_244_p110 Q x1 X110 x2 s := by
  unfold fm_244_p110
  have b23 : 0 ≤ s.1 96 1 ∧ s.1 96 1 ≤ 16 := iv_rd96 hI (iv_fd6ad3e54 (by omega))
  have b24 : s.1 96 1 ≤ 0 ∨ 0 < s.1 96 0 := (show s.1 96 1 ≤ 0 ∨ 0 < s.1 96 0 from iv_l96_1 hI)
  refine ⟨(show lf_R x2 from lf_Rof (by omega)), ?_⟩
  refine ⟨(show lf_R (s.1 96 1) from lf_Rof (by omega)), ?_⟩
  refine ⟨fun c25 => ?_, fun c25 => ?_⟩
  · skip
    replace c25 : s.1 96 1 ≤ x2 := c25
    have b26 : (-2147483648) ≤ s.1 96 3 ∧ s.1 96 3 ≤ 2147483647 := iv_full hI
    refine ⟨(show (0 : Int) ≤ x1 + 3 ∧ x1 + 3 < (1538 : Int) from by omega), ?_⟩
    have hI27 : iv_A (lf_up s.1 96 (x1 + 3) (s.1 96 3)) s.2.2 := iv_wd96 hI (lf_le2 (iv_f2823758f (s.1 96 9) (by omega) (by omega)) (by omega)) (fun h => absurd h (by omega))
    have fr28 : lf_fq [96, 1005] 9 true s.1 s.2.2 (lf_up s.1 96 (x1 + 3) (s.1 96 3)) s.2.2 := lf_fq_up (lf_fq_rf) rfl (fun _ => ⟨by omega, fr_o (Or.inr (fr_n0 (by omega))) (Or.inr (fr_n1 (by omega))) (Or.inr (fr_n2 (by omega))) (Or.inr (fr_n3 (by omega))) (Or.inr (fr_n4 (by omega))) (Or.inl rfl) (Or.inr (fr_n6 (by omega)))⟩)
    have b29 : 0 ≤ (lf_up s.1 96 (x1 + 3) (s.1 96 3)) 96 6 ∧ (lf_up s.1 96 (x1 + 3) (s.1 96 3)) 96 6 ≤ 30202 := iv_rd96 hI27 (iv_f060f4a97 (by omega))
    have b30 : (lf_up s.1 96 (x1 + 3) (s.1 96 3)) 96 6 = s.1 96 6 := lf_up_i (by omega)
    refine ⟨(show (0 : Int) ≤ x1 + 4 ∧ x1 + 4 < (1538 : Int) from by omega), ?_⟩
    have b31 : 0 ≤ (lf_up s.1 96 (x1 + 3) (s.1 96 3)) 96 9 ∧ (lf_up s.1 96 (x1 + 3) (s.1 96 3)) 96 9 ≤ 30 := iv_rd96 hI27 (iv_fb9711825 (by omega))
    have b32 : (lf_up s.1 96 (x1 + 3) (s.1 96 3)) 96 9 = s.1 96 9 := lf_up_i (by omega)
    have hI33 : iv_A (lf_up (lf_up s.1 96 (x1 + 3) (s.1 96 3)) 96 (x1 + 4) ((lf_up s.1 96 (x1 + 3) (s.1 96 3)) 96 6)) s.2.2 := iv_wd96 hI27 (lf_le2 (iv_f7ea5c773 (s.1 96 9) (by omega) (by omega)) (by omega)) (fun h => absurd h (by omega))
    have fr34 : lf_fq [96, 1005] 9 true s.1 s.2.2 (lf_up (lf_up s.1 96 (x1 + 3) (s.1 96 3)) 96 (x1 + 4) ((lf_up s.1 96 (x1 + 3) (s.1 96 3)) 96 6)) s.2.2 := lf_fq_up fr28 rfl (fun _ => ⟨by omega, fr_o (Or.inr (fr_n0 (by omega))) (Or.inr (fr_n1 (by omega))) (Or.inr (fr_n2 (by omega))) (Or.inr (fr_n3 (by omega))) (Or.inr (fr_n4 (by omega))) (Or.inl rfl) (Or.inr (fr_n6 (by omega)))⟩)
    have b35 : 0 ≤ (lf_up (lf_up s.1 96 (x1 + 3) (s.1 96 3)) 96 (x1 + 4) ((lf_up s.1 96 (x1 + 3) (s.1 96 3)) 96 6)) 96 9 ∧ (lf_up (lf_up s.1 96 (x1 + 3) (s.1 96 3)) 96 (x1 + 4) ((lf_up s.1 96 (x1 + 3) (s.1 96 3)) 96 6)) 96 9 ≤ 30 := iv_rd96 hI33 (iv_fb9711825 (by omega))
    have b36 : (lf_up (lf_up s.1 96 (x1 + 3) (s.1 96 3)) 96 (x1 + 4) ((lf_up s.1 96 (x1 + 3) (s.1 96 3)) 96 6)) 96 9 = (lf_up s.1 96 (x1 + 3) (s.1 96 3)) 96 9 := lf_up_i (by omega)
    have b37 : kp_F (s0.1 96) (((lf_up (lf_up s.1 96 (x1 + 3) (s.1 96 3)) 96 (x1 + 4) ((lf_up s.1 96 (x1 + 3) (s.1 96 3)) 96 6)) 96)) := by first | with_reducible assumption | (repeat first | with_reducible assumption | exact kp_r | refine kp_u ?_ (fun j hj => lf_up_i hj) (by omega))
    have b38 : kp_C (((lf_up (lf_up s.1 96 (x1 + 3) (s.1 96 3)) 96 (x1 + 4) ((lf_up s.1 96 (x1 + 3) (s.1 96 3)) 96 6)) 96)) (x1) (0) := by first | exact kp_CS (by first | with_reducible assumption | assumption) lf_up_s (fun j hj => lf_up_i hj) (by omega) (by omega) | exact (fun j a b => by omega)
    exact sm_244_p183L (s0 := s0) (fun t9 i9 f9 => hQ t9 i9 (lf_fq_tr fr34 f9)) hI33 (show (278 : Int) ≤ x1 ∧ x1 ≤ (1496 : Int) from by omega) (show (0 : Int) ≤ 0 ∧ 0 ≤ (12 : Int) from by omega) (show x1 = 278 + 42 * ((lf_up (lf_up s.1 96 (x1 + 3) (s.1 96 3)) 96 (x1 + 4) ((lf_up s.1 96 (x1 + 3) (s.1 96 3)) 96 6)) 96 9) from by omega) (show ((lf_up (lf_up s.1 96 (x1 + 3) (s.1 96 3)) 96 (x1 + 4) ((lf_up s.1 96 (x1 + 3) (s.1 96 3)) 96 6)) 96 9) < 30 from by omega) (show kp_F (s0.1 96) (((lf_up (lf_up s.1 96 (x1 + 3) (s.1 96 3)) 96 (x1 + 4) ((lf_up s.1 96 (x1 + 3) (s.1 96 3)) 96 6)) 96)) from by first | with_reducible assumption | assumption) (show kp_C (((lf_up (lf_up s.1 96 (x1 + 3) (s.1 96 3)) 96 (x1 + 4) ((lf_up s.1 96 (x1 + 3) (s.1 96 3)) 96 6)) 96)) (x1) (0) from by first | with_reducible assumption | assumption)
  · skip
    replace c25 : ¬ (s.1 96 1 ≤ x2) := c25
    refine ⟨(show (0 : Int) ≤ x1 + 2 ∧ x1 + 2 < (1538 : Int) from by omega), ?_⟩
    have b79 : (-2147483648) ≤ s.1 96 (x1 + 2) ∧ s.1 96 (x1 + 2) ≤ 2147483647 := iv_full hI
    refine sm_245 hI (show (0 : Int) ≤ x2 ∧ x2 ≤ (15 : Int) from by omega) (fun z45 => ?_)
    refine ⟨fun c81 => ?_, fun c81 => ?_⟩
    · skip
      have b82 : 0 ≤ s.1 96 9 ∧ s.1 96 9 ≤ 30 := iv_rd96 hI (iv_fb9711825 (by omega))
      have b83 : kp_F (s0.1 96) ((s.1 96)) := by first | with_reducible assumption | (repeat first | with_reducible assumption | exact kp_r | refine kp_u ?_ (fun j hj => lf_up_i hj) (by omega))
      exact sm_244_p144 (s0 := s0) hQ hX110 (show (16 - x2).toNat ≤ M110 from by omega) hI (show (278 : Int) ≤ x1 ∧ x1 ≤ (1496 : Int) from by omega) (show (0 : Int) ≤ x2 ∧ x2 ≤ (15 : Int) from by omega) (show (280 : Int) ≤ x1 + 2 ∧ x1 + 2 ≤ (1498 : Int) from by omega) (show (-2147483648 : Int) ≤ s.1 96 (x1 + 2) ∧ s.1 96 (x1 + 2) ≤ (2147483647 : Int) from by omega) (show (0 : Int) ≤ 0 ∧ 0 ≤ (32768 : Int) from by omega) (show x1 = 278 + 42 * (s.1 96 9) from by omega) (show (s.1 96 9) < 30 from by omega) (show (x1 + 2) = x1 + 2 from by omega) (show kp_F (s0.1 96) ((s.1 96)) from by first | with_reducible assumption | assumption)
    · skip
      have b90 : 1 ≤ lf_shl 1 x2 ∧ lf_shl 1 x2 ≤ 32768 := lf_shl1 (m := 15) (by omega) (by omega) (by decide)
      have b91 : 0 ≤ s.1 96 9 ∧ s.1 96 9 ≤ 30 := iv_rd96 hI (iv_fb9711825 (by omega))
      have b92 : kp_F (s0.1 96) ((s.1 96)) := by first | with_reducible assumption | (repeat first | with_reducible assumption | exact kp_r | refine kp_u ?_ (fun j hj => lf_up_i hj) (by omega))
      exact sm_244_p144 (s0 := s0) hQ hX110 (show (16 - x2).toNat ≤ M110 from by omega) hI (show (278 : Int) ≤ x1 ∧ x1 ≤ (1496 : Int) from by omega) (show (0 : Int) ≤ x2 ∧ x2 ≤ (15 : Int) from by omega) (show (280 : Int) ≤ x1 + 2 ∧ x1 + 2 ≤ (1498 : Int) from by omega) (show (-2147483648 : Int) ≤ s.1 96 (x1 + 2) ∧ s.1 96 (x1 + 2) ≤ (2147483647 : Int) from by omega) (show (0 : Int) ≤ lf_shl 1 x2 ∧ lf_shl 1 x2 ≤ (32768 : Int) from by omega) (show x1 = 278 + 42 * (s.1 96 9) from by omega) (show (s.1 96 9) < 30 from by omega) (show (x1 + 2) = x1 + 2 from by omega) (show kp_F (s0.1 96) ((s.1 96)) from by first | with_reducible assumption | assumption)
theorem sm_244_p110L {Q : lf_Z → Prop} {x1 : Int} {x2 : Int} {s : lf_Z} {s0 : lf_Z} (hQ : ∀  (s' : lf_Z), iv_A s'.1 s'.2.2 → lf_fq [96, 1005] 9 true s.1 s.2.2 s'.1 s'.2.2 → (kp_F (s0.1 96) (s'.1 96)) → Q  s') (hI : iv_A s.1 s.2.2) (bx1 : 278 ≤ x1 ∧ x1 ≤ 1496) (bx2 : 0 ≤ x2 ∧ x2 ≤ 16) (kv0 : x1 = 278 + 42 * s.1 96 9) (kv1 : s.1 96 9 < 30) (kv2 : kp_F (s0.1 96) (s.1 96)) : fm_244_p110L Q x1 x2 s := by
  intro X110 hX
  have key : ∀ (m9 : Nat) (x2 : Int) (s' : lf_Z), iv_A s'.1 s'.2.2 → lf_fq [96, 1005] 9 true s.1 s.2.2 s'.1 s'.2.2 → 0 ≤ x2 ∧ x2 ≤ 16 → (x1 = 278 + 42 * s'.1 96 9) → (s'.1 96 9 < 30) → (kp_F (s0.1 96) (s'.1 96)) → (16 - x2).toNat < m9 → X110 x2 s' := by
    intro m9
    induction m9 with
    | zero => intro x2 s' _ _ bx2 kv0 kv1 kv2 h9; exact absurd h9 (Nat.not_lt_zero _)
    | succ m9 ih => intro x2 s' i7 f7 bx2 kv0 kv1 kv2 h9; exact hX _ _ (sm_244_p110 (s0 := s0) (fun t9 i9 f9 => hQ t9 i9 (lf_fq_tr f7 f9))   (fun x2' t8 i8 f8 bx2' kv0' kv1' kv2' h8 => ih x2' t8 i8 (lf_fq_tr f7 f8) bx2' kv0' kv1' kv2' (by omega)) (Nat.le_refl _)  i7  bx1 bx2  kv0 kv1 kv2)
  exact key _ _ s hI lf_fq_rf bx2 kv0 kv1 kv2 (Nat.lt_succ_self _)
theorem sm_244_p58 {Q : lf_Z → Prop} {s : lf_Z} {s0 : lf_Z} (hQ : ∀  (s' : lf_Z), iv_A s'.1 s'.2.2 → lf_fq [96, 1005] 9 true s.1 s.2.2 s'.1 s'.2.2 → (kp_F (s0.1 96) (s'.1 96)) → Q  s') (hI : iv_A s.1 s.2.2) (kv0 : s.1 96 9 < 30) (kv1 : kp_F (s0.1 96) (s.1 96)) : fm_244_p58 Q s := by
  unfold fm_244_p58
  have b4 : 0 ≤ s.1 96 9 ∧ s.1 96 9 ≤ 30 := iv_rd96 hI (iv_fb9711825 (by omega))
  have b5 : 0 ≤ s.1 96 2 ∧ s.1 96 2 ≤ 6 := iv_rd96 hI (iv_f2103129b (by omega))
  have b6 : s.1 96 2 ≤ 0 ∨ 0 < s.1 96 0 := (show s.1 96 2 ≤ 0 ∨ 0 < s.1 96 0 from iv_l96_2 hI)
  refine ⟨(show (0 : Int) ≤ 278 + (42 * (s.1 96 9)) ∧ 278 + (42 * (s.1 96 9)) < (1538 : Int) from by omega), ?_⟩
  have hI7 : iv_A (lf_up s.1 96 (278 + (42 * (s.1 96 9))) (s.1 96 2)) s.2.2 := iv_wd96 hI (lf_le2 (iv_fd7417342 (s.1 96 9) (by omega) (by omega)) (by omega)) (fun h => absurd h (by omega))
  have fr8 : lf_fq [96, 1005] 9 true s.1 s.2.2 (lf_up s.1 96 (278 + (42 * (s.1 96 9))) (s.1 96 2)) s.2.2 := lf_fq_up (lf_fq_rf) rfl (fun _ => ⟨by omega, fr_o (Or.inr (fr_n0 (by omega))) (Or.inr (fr_n1 (by omega))) (Or.inr (fr_n2 (by omega))) (Or.inr (fr_n3 (by omega))) (Or.inr (fr_n4 (by omega))) (Or.inl rfl) (Or.inr (fr_n6 (by omega)))⟩)
  have b9 : 0 ≤ (lf_up s.1 96 (278 + (42 * (s.1 96 9))) (s.1 96 2)) 96 1 ∧ (lf_up s.1 96 (278 + (42 * (s.1 96 9))) (s.1 96 2)) 96 1 ≤ 16 := iv_rd96 hI7 (iv_fd6ad3e54 (by omega))
  have b10 : (lf_up s.1 96 (278 + (42 * (s.1 96 9))) (s.1 96 2)) 96 1 = s.1 96 1 := lf_up_i (by omega)
  have b11 : (lf_up s.1 96 (278 + (42 * (s.1 96 9))) (s.1 96 2)) 96 1 ≤ 0 ∨ 0 < (lf_up s.1 96 (278 + (42 * (s.1 96 9))) (s.1 96 2)) 96 0 := (show (lf_up s.1 96 (278 + (42 * (s.1 96 9))) (s.1 96 2)) 96 1 ≤ 0 ∨ 0 < (lf_up s.1 96 (278 + (42 * (s.1 96 9))) (s.1 96 2)) 96 0 from iv_l96_1 hI7)
  refine ⟨(show (0 : Int) ≤ (278 + (42 * (s.1 96 9))) + 1 ∧ (278 + (42 * (s.1 96 9))) + 1 < (1538 : Int) from by omega), ?_⟩
  have b12 : 0 ≤ (lf_up s.1 96 (278 + (42 * (s.1 96 9))) (s.1 96 2)) 96 9 ∧ (lf_up s.1 96 (278 + (42 * (s.1 96 9))) (s.1 96 2)) 96 9 ≤ 30 := iv_rd96 hI7 (iv_fb9711825 (by omega))
  have b13 : (lf_up s.1 96 (278 + (42 * (s.1 96 9))) (s.1 96 2)) 96 9 = s.1 96 9 := lf_up_i (by omega)
  have hI14 : iv_A (lf_up (lf_up s.1 96 (278 + (42 * (s.1 96 9))) (s.1 96 2)) 96 ((278 + (42 * (s.1 96 9))) + 1) ((lf_up s.1 96 (278 + (42 * (s.1 96 9))) (s.1 96 2)) 96 1)) s.2.2 := iv_wd96 hI7 (lf_le2 (iv_fec763053 (s.1 96 9) (by omega) (by omega)) (by omega)) (fun h => absurd h (by omega))
  have fr15 : lf_fq [96, 1005] 9 true s.1 s.2.2 (lf_up (lf_up s.1 96 (278 + (42 * (s.1 96 9))) (s.1 96 2)) 96 ((278 + (42 * (s.1 96 9))) + 1) ((lf_up s.1 96 (278 + (42 * (s.1 96 9))) (s.1 96 2)) 96 1)) s.2.2 := lf_fq_up fr8 rfl (fun _ => ⟨by omega, fr_o (Or.inr (fr_n0 (by omega))) (Or.inr (fr_n1 (by omega))) (Or.inr (fr_n2 (by omega))) (Or.inr (fr_n3 (by omega))) (Or.inr (fr_n4 (by omega))) (Or.inl rfl) (Or.inr (fr_n6 (by omega)))⟩)
  refine ⟨(show (0 : Int) ≤ (278 + (42 * (s.1 96 9))) + 2 ∧ (278 + (42 * (s.1 96 9))) + 2 < (1538 : Int) from by omega), ?_⟩
  have b16 : 0 ≤ (lf_up (lf_up s.1 96 (278 + (42 * (s.1 96 9))) (s.1 96 2)) 96 ((278 + (42 * (s.1 96 9))) + 1) ((lf_up s.1 96 (278 + (42 * (s.1 96 9))) (s.1 96 2)) 96 1)) 96 9 ∧ (lf_up (lf_up s.1 96 (278 + (42 * (s.1 96 9))) (s.1 96 2)) 96 ((278 + (42 * (s.1 96 9))) + 1) ((lf_up s.1 96 (278 + (42 * (s.1 96 9))) (s.1 96 2)) 96 1)) 96 9 ≤ 30 := iv_rd96 hI14 (iv_fb9711825 (by omega))
  have b17 : (lf_up (lf_up s.1 96 (278 + (42 * (s.1 96 9))) (s.1 96 2)) 96 ((278 + (42 * (s.1 96 9))) + 1) ((lf_up s.1 96 (278 + (42 * (s.1 96 9))) (s.1 96 2)) 96 1)) 96 9 = (lf_up s.1 96 (278 + (42 * (s.1 96 9))) (s.1 96 2)) 96 9 := lf_up_i (by omega)
  have hI18 : iv_A (lf_up (lf_up (lf_up s.1 96 (278 + (42 * (s.1 96 9))) (s.1 96 2)) 96 ((278 + (42 * (s.1 96 9))) + 1) ((lf_up s.1 96 (278 + (42 * (s.1 96 9))) (s.1 96 2)) 96 1)) 96 ((278 + (42 * (s.1 96 9))) + 2) 0) s.2.2 := iv_wd96 hI14 (lf_le2 (iv_fb7c9e2e3 (s.1 96 9) (by omega) (by omega)) (by omega)) (fun h => absurd h (by omega))
  have fr19 : lf_fq [96, 1005] 9 true s.1 s.2.2 (lf_up (lf_up (lf_up s.1 96 (278 + (42 * (s.1 96 9))) (s.1 96 2)) 96 ((278 + (42 * (s.1 96 9))) + 1) ((lf_up s.1 96 (278 + (42 * (s.1 96 9))) (s.1 96 2)) 96 1)) 96 ((278 + (42 * (s.1 96 9))) + 2) 0) s.2.2 := lf_fq_up fr15 rfl (fun _ => ⟨by omega, fr_o (Or.inr (fr_n0 (by omega))) (Or.inr (fr_n1 (by omega))) (Or.inr (fr_n2 (by omega))) (Or.inr (fr_n3 (by omega))) (Or.inr (fr_n4 (by omega))) (Or.inl rfl) (Or.inr (fr_n6 (by omega)))⟩)
  have b20 : 0 ≤ (lf_up (lf_up (lf_up s.1 96 (278 + (42 * (s.1 96 9))) (s.1 96 2)) 96 ((278 + (42 * (s.1 96 9))) + 1) ((lf_up s.1 96 (278 + (42 * (s.1 96 9))) (s.1 96 2)) 96 1)) 96 ((278 + (42 * (s.1 96 9))) + 2) 0) 96 9 ∧ (lf_up (lf_up (lf_up s.1 96 (278 + (42 * (s.1 96 9))) (s.1 96 2)) 96 ((278 + (42 * (s.1 96 9))) + 1) ((lf_up s.1 96 (278 + (42 * (s.1 96 9))) (s.1 96 2)) 96 1)) 96 ((278 + (42 * (s.1 96 9))) + 2) 0) 96 9 ≤ 30 := iv_rd96 hI18 (iv_fb9711825 (by omega))
  have b21 : (lf_up (lf_up (lf_up s.1 96 (278 + (42 * (s.1 96 9))) (s.1 96 2)) 96 ((278 + (42 * (s.1 96 9))) + 1) ((lf_up s.1 96 (278 + (42 * (s.1 96 9))) (s.1 96 2)) 96 1)) 96 ((278 + (42 * (s.1 96 9))) + 2) 0) 96 9 = (lf_up (lf_up s.1 96 (278 + (42 * (s.1 96 9))) (s.1 96 2)) 96 ((278 + (42 * (s.1 96 9))) + 1) ((lf_up s.1 96 (278 + (42 * (s.1 96 9))) (s.1 96 2)) 96 1)) 96 9 := lf_up_i (by omega)
  have b22 : kp_F (s0.1 96) (((lf_up (lf_up (lf_up s.1 96 (278 + (42 * (s.1 96 9))) (s.1 96 2)) 96 ((278 + (42 * (s.1 96 9))) + 1) ((lf_up s.1 96 (278 + (42 * (s.1 96 9))) (s.1 96 2)) 96 1)) 96 ((278 + (42 * (s.1 96 9))) + 2) 0) 96)) := by first | with_reducible assumption | (repeat first | with_reducible assumption | exact kp_r | refine kp_u ?_ (fun j hj => lf_up_i hj) (by omega))
  exact sm_244_p110L (s0 := s0) (fun t9 i9 f9 => hQ t9 i9 (lf_fq_tr fr19 f9)) hI18 (show (278 : Int) ≤ 278 + (42 * (s.1 96 9)) ∧ 278 + (42 * (s.1 96 9)) ≤ (1496 : Int) from by omega) (show (0 : Int) ≤ 0 ∧ 0 ≤ (16 : Int) from by omega) (show (278 + (42 * (s.1 96 9))) = 278 + 42 * ((lf_up (lf_up (lf_up s.1 96 (278 + (42 * (s.1 96 9))) (s.1 96 2)) 96 ((278 + (42 * (s.1 96 9))) + 1) ((lf_up s.1 96 (278 + (42 * (s.1 96 9))) (s.1 96 2)) 96 1)) 96 ((278 + (42 * (s.1 96 9))) + 2) 0) 96 9) from by omega) (show ((lf_up (lf_up (lf_up s.1 96 (278 + (42 * (s.1 96 9))) (s.1 96 2)) 96 ((278 + (42 * (s.1 96 9))) + 1) ((lf_up s.1 96 (278 + (42 * (s.1 96 9))) (s.1 96 2)) 96 1)) 96 ((278 + (42 * (s.1 96 9))) + 2) 0) 96 9) < 30 from by omega) (show kp_F (s0.1 96) (((lf_up (lf_up (lf_up s.1 96 (278 + (42 * (s.1 96 9))) (s.1 96 2)) 96 ((278 + (42 * (s.1 96 9))) + 1) ((lf_up s.1 96 (278 + (42 * (s.1 96 9))) (s.1 96 2)) 96 1)) 96 ((278 + (42 * (s.1 96 9))) + 2) 0) 96)) from by first | with_reducible assumption | assumption)
theorem sm_244_p14L {Q : lf_Z → Prop} {x1 : Int} {s : lf_Z} {s0 : lf_Z} (hQ : ∀  (s' : lf_Z), iv_A s'.1 s'.2.2 → lf_fq [96, 1005] 9 true s.1 s.2.2 s'.1 s'.2.2 → (kp_F (s0.1 96) (s'.1 96)) → Q  s') (hI : iv_A s.1 s.2.2) (bx1 : 0 ≤ x1 ∧ x1 ≤ 1218) (kv0 : s.1 96 9 = 30) (kv1 : x1 = 0) (kv2 : kp_F (s0.1 96) (s.1 96)) : fm_244_p14L Q x1 s := by
  intro X14 hX
  have key : ∀ (m : Nat) (k : Int) (s' : lf_Z), 0 ≤ k → k ≤ 1218 → (1218 - k).toNat < m → s'.2 = s.2 → (∀ a, a ≠ 96 → s'.1 a = s.1 a) → (∀ j : Int, 278 ≤ j → j < 278 + k → s'.1 96 j = s.1 96 (j + 42)) → (∀ j : Int, ¬ (278 ≤ j ∧ j < 278 + k) → s'.1 96 j = s.1 96 j) → X14 k s' := by
    intro m
    induction m with
    | zero => intros; omega
    | succ m ih =>
      intro k s' h0 h1 hm hs hr hd ho
      refine hX _ _ ?_
      unfold fm_244_p14
      refine ⟨lf_Rof (by omega), fun c => ?_, fun c => ⟨by omega, by omega, ?_⟩⟩
      · have e : k = 1218 := by omega
        subst e
        have e9 : s'.1 96 9 = 30 := by rw [ho 9 (by omega)]; exact kv0
        have hA : iv_A s'.1 s'.2.2 := by
          rw [show s'.2.2 = s.2.2 from by rw [hs]]
          exact iv_sht hI kv0 hr hd ho
        have hA2 : iv_A (lf_up s'.1 96 9 ((s'.1 96 9) - 1)) s'.2.2 := iv_w96' hA (by show (0 : Int) ≤ _ ∧ _ ≤ (30 : Int); omega) (fun _ => iv_rel9 hA (by omega))
        have fr : lf_fq [96, 1005] 9 true s.1 s.2.2 (lf_up s'.1 96 9 ((s'.1 96 9) - 1)) s'.2.2 := by
          refine lf_fq_up ⟨fun a ha => hr a (fun e => by subst e; cases ha), fun i hi => ho i (by omega), fun _ => by rw [hs], fun r hr9 i hi => ho i (fun hj => fr_x5 rfl hr9 hi (by omega))⟩ rfl (fun _ => ⟨by decide, fr_o (Or.inr (fr_n0 (by omega))) (Or.inr (fr_n1 (by omega))) (Or.inr (fr_n2 (by omega))) (Or.inr (fr_n3 (by omega))) (Or.inr (fr_n4 (by omega))) (Or.inl rfl) (Or.inr (fr_n6 (by omega)))⟩)
        refine sm_244_p58 (s0 := s0) (fun t9 i9 f9 => hQ t9 i9 (lf_fq_tr fr f9)) hA2 ?_ ?_
        · show lf_up s'.1 96 9 ((s'.1 96 9) - 1) 96 9 < 30
          rw [lf_up_s]; omega
        · refine kp_u (f1 := s'.1 96) ?_ (fun j hj => show lf_up s'.1 96 9 ((s'.1 96 9) - 1) 96 j = s'.1 96 j from lf_up_i hj) (Or.inl rfl)
          intro i a b
          rw [ho i (by omega)]
          exact kv2 i a b
      · refine ih (k + 1) _ (by omega) (by omega) (by omega) hs ?_ ?_ ?_
        · intro a ha
          show lf_up s'.1 96 (278 + k) (s'.1 96 (320 + k)) a = _
          rw [lf_up_row ha]
          exact hr a ha
        · intro j j0 j1
          show lf_up s'.1 96 (278 + k) (s'.1 96 (320 + k)) 96 j = _
          by_cases hj : j = 278 + k
          · subst hj
            rw [lf_up_s, ho _ (by omega), show 320 + k = 278 + k + 42 by omega]
          · rw [lf_up_i hj]
            exact hd j j0 (by omega)
        · intro j hj
          show lf_up s'.1 96 (278 + k) (s'.1 96 (320 + k)) 96 j = _
          rw [lf_up_i (by omega)]
          exact ho j (by omega)
  have e0 : x1 = 0 := kv1
  subst e0
  exact key _ 0 s (by omega) (by omega) (Nat.lt_succ_self _) rfl (fun _ _ => rfl) (fun j a b => by omega) (fun _ _ => rfl)
theorem sm_244 {Q : lf_Z → Prop} {s : lf_Z} (hI : iv_A s.1 s.2.2) (hQ : ∀  (s' : lf_Z), iv_A s'.1 s'.2.2 → lf_fq [96, 1005] 9 true s.1 s.2.2 s'.1 s'.2.2 → (kp_F (s.1 96) (s'.1 96)) → Q  s') : fm_244 Q s := by
  unfold fm_244
  have b1 : 0 ≤ s.1 96 9 ∧ s.1 96 9 ≤ 30 := iv_rd96 hI (iv_fb9711825 (by omega))
  refine ⟨(show lf_R (s.1 96 9) from lf_Rof (by omega)), ?_⟩
  refine ⟨fun c2 => ?_, fun c2 => ?_⟩
  · skip
    replace c2 : s.1 96 9 ≠ 30 := c2
    have b3 : kp_F (s.1 96) ((s.1 96)) := by first | with_reducible assumption | (repeat first | with_reducible assumption | exact kp_r | refine kp_u ?_ (fun j hj => lf_up_i hj) (by omega))
    exact sm_244_p58 (s0 := s) hQ hI (show (s.1 96 9) < 30 from by omega) (show kp_F (s.1 96) ((s.1 96)) from by first | with_reducible assumption | assumption)
  · skip
    replace c2 : ¬ (s.1 96 9 ≠ 30) := c2
    have b93 : kp_F (s.1 96) ((s.1 96)) := kp_r
    exact sm_244_p14L (s0 := s) hQ hI (show (0 : Int) ≤ 0 ∧ 0 ≤ (1218 : Int) from by omega) (show (s.1 96 9) = 30 from by omega) (show 0 = 0 from by omega) (show kp_F (s.1 96) ((s.1 96)) from by first | with_reducible assumption | assumption)
-- fm_247 Model.layBunch 95 i i i i
theorem sm_247 {a1 : Int} {a2 : Int} {a3 : Int} {a4 : Int} {Q : lf_Z → Prop} {s : lf_Z} (hI : iv_A s.1 s.2.2) (ba1 : 0 ≤ a1 ∧ a1 ≤ 3) (ba2 : 0 ≤ a2 ∧ a2 ≤ 24) (ba3 : 0 ≤ a3 ∧ a3 ≤ 11) (ba4 : (-1) ≤ a4 ∧ a4 ≤ 11) (kp0 : s.1 96 114 + s.1 96 117 + s.1 96 120 + s.1 96 123 - s.1 96 (114 + 3 * a1) + a2 ≤ 24) (hQ : ∀  (s' : lf_Z), iv_A s'.1 s'.2.2 → lf_fq [96, 1006] 114 true s.1 s.2.2 s'.1 s'.2.2 → Q  s') : fm_247 a1 a2 a3 a4 Q s := by
  unfold fm_247
  refine ⟨(show (0 : Int) ≤ 114 + (3 * a1) ∧ 114 + (3 * a1) < (1538 : Int) from by omega), ?_⟩
  have hI1 : iv_A (lf_up s.1 96 (114 + (3 * a1)) a2) s.2.2 := iv_wd96 hI (lf_le2 (iv_fad4315e5 (a1) (by omega) (by omega)) (by omega)) (fun _ => iv_rels hI (by omega) (by omega))
  have fr2 : lf_fq [96, 1006] 114 true s.1 s.2.2 (lf_up s.1 96 (114 + (3 * a1)) a2) s.2.2 := lf_fq_up (lf_fq_rf) rfl (fun _ => ⟨by omega, fr_o (Or.inr (fr_n0 (by omega))) (Or.inr (fr_n1 (by omega))) (Or.inr (fr_n2 (by omega))) (Or.inr (fr_n3 (by omega))) (Or.inr (fr_n4 (by omega))) (Or.inr (fr_n5 (by omega))) (Or.inl rfl)⟩)
  refine ⟨(show (0 : Int) ≤ (114 + (3 * a1)) + 1 ∧ (114 + (3 * a1)) + 1 < (1538 : Int) from by omega), ?_⟩
  have hI3 : iv_A (lf_up (lf_up s.1 96 (114 + (3 * a1)) a2) 96 ((114 + (3 * a1)) + 1) a3) s.2.2 := iv_wd96 hI1 (lf_le2 (iv_fc3e20e9e (a1) (by omega) (by omega)) (by omega)) (fun h => absurd h (by omega))
  have fr4 : lf_fq [96, 1006] 114 true s.1 s.2.2 (lf_up (lf_up s.1 96 (114 + (3 * a1)) a2) 96 ((114 + (3 * a1)) + 1) a3) s.2.2 := lf_fq_up fr2 rfl (fun _ => ⟨by omega, fr_o (Or.inr (fr_n0 (by omega))) (Or.inr (fr_n1 (by omega))) (Or.inr (fr_n2 (by omega))) (Or.inr (fr_n3 (by omega))) (Or.inr (fr_n4 (by omega))) (Or.inr (fr_n5 (by omega))) (Or.inl rfl)⟩)
  refine ⟨(show (0 : Int) ≤ (114 + (3 * a1)) + 2 ∧ (114 + (3 * a1)) + 2 < (1538 : Int) from by omega), ?_⟩
  have hI5 : iv_A (lf_up (lf_up (lf_up s.1 96 (114 + (3 * a1)) a2) 96 ((114 + (3 * a1)) + 1) a3) 96 ((114 + (3 * a1)) + 2) a4) s.2.2 := iv_wd96 hI3 (lf_le2 (iv_fcb0a6ed3 (a1) (by omega) (by omega)) (by omega)) (fun h => absurd h (by omega))
  have fr6 : lf_fq [96, 1006] 114 true s.1 s.2.2 (lf_up (lf_up (lf_up s.1 96 (114 + (3 * a1)) a2) 96 ((114 + (3 * a1)) + 1) a3) 96 ((114 + (3 * a1)) + 2) a4) s.2.2 := lf_fq_up fr4 rfl (fun _ => ⟨by omega, fr_o (Or.inr (fr_n0 (by omega))) (Or.inr (fr_n1 (by omega))) (Or.inr (fr_n2 (by omega))) (Or.inr (fr_n3 (by omega))) (Or.inr (fr_n4 (by omega))) (Or.inr (fr_n5 (by omega))) (Or.inl rfl)⟩)
  exact hQ (lf_up (lf_up (lf_up s.1 96 (114 + (3 * a1)) a2) 96 ((114 + (3 * a1)) + 1) a3) 96 ((114 + (3 * a1)) + 2) a4, s.2.1, s.2.2) hI5 fr6
-- fm_240 Model.stray 95 i i
theorem sm_240 {a1 : Int} {a2 : Int} {Q : Int → lf_Z → Prop} {s : lf_Z} (hI : iv_A s.1 s.2.2) (ba1 : (-2147483648) ≤ a1 ∧ a1 ≤ 2147483647) (ba2 : (-2147483648) ≤ a2 ∧ a2 ≤ 2147483647) (hQ : ∀ (r : Int) (s' : lf_Z), iv_A s'.1 s'.2.2 → lf_fq [96, 1005, 1006] 9 true s.1 s.2.2 s'.1 s'.2.2 → ((-1) ≤ r ∧ r ≤ 3) → Q r s') : fm_240 a1 a2 Q s := by
  unfold fm_240
  refine sm_241 hI (fun r22 ps2 q1 => ?_)
  replace ps2 : r22 = -1 ∨ (s.1 96) (114 + 3 * r22) = 0 := ps2
  refine sm_183 hI (show (-2147483648 : Int) ≤ a1 ∧ a1 ≤ (2147483647 : Int) from by omega) (show (-1 : Int) ≤ 1 ∧ 1 ≤ (97 : Int) from by omega) (show (-1 : Int) ≤ 24 ∧ 24 ≤ (9999 : Int) from by omega) (fun z24 q3 => ?_)
  refine ⟨fun c4 => ?_, fun c4 => ?_⟩
  · skip
    have dc4 := q3.2 c4
    exact hQ (-1) s hI (lf_fq_rf) (show (-1 : Int) ≤ (-1) ∧ (-1) ≤ (3 : Int) from by omega)
  · skip
    have dc4 := q3.1 c4
    refine sm_185 hI (show (-2147483648 : Int) ≤ a2 ∧ a2 ≤ (2147483647 : Int) from by omega) (fun z26 q5 => ?_)
    have b6 : 0 ≤ s.1 96 0 ∧ s.1 96 0 ≤ 12 := iv_rd96 hI (iv_f3e1fa21c (by omega))
    refine ⟨fun c7 => ?_, fun c7 => ?_⟩
    · skip
      have dc7 := q5.2 c7
      exact hQ (-1) s hI (lf_fq_rf) (show (-1 : Int) ≤ (-1) ∧ (-1) ≤ (3 : Int) from by omega)
    · skip
      have dc7 := q5.1 c7
      refine sm_243 hI (fun r28 ps9 q8 => ?_)
      replace ps9 : r28 = (s.1 96 114) + (s.1 96 117) + (s.1 96 120) + (s.1 96 123) := ps9
      refine ⟨(show lf_R (r28 + a1) from lf_Rof (by omega)), ?_⟩
      refine ⟨fun c10 => ?_, fun c10 => ?_⟩
      · skip
        replace c10 : 24 < r28 + a1 := c10
        exact hQ (-1) s hI (lf_fq_rf) (show (-1 : Int) ≤ (-1) ∧ (-1) ≤ (3 : Int) from by omega)
      · skip
        replace c10 : ¬ (24 < r28 + a1) := c10
        refine ⟨(show lf_R r22 from lf_Rof (by omega)), ?_⟩
        refine ⟨fun c11 => ?_, fun c11 => ?_⟩
        · skip
          replace c11 : 0 ≤ r22 := c11
          refine sm_244 hI (fun s31 hI13 fr12 ps15 => ?_)
          replace ps15 : kp_F ((s.1 96)) (s31.1 96) := ps15
          have fr16 : lf_fq [96, 1005, 1006] 9 true s.1 s.2.2 s31.1 s31.2.2 := lf_fq_tr (lf_fq_rf) (lf_fq_wk fr12 rfl (by decide) (by decide))
          have b17 : (s31.1 96) (114) = s.1 96 (114) := ps15 _ (by omega) (by omega)
          have b18 : (s31.1 96) (117) = s.1 96 (117) := ps15 _ (by omega) (by omega)
          have b19 : (s31.1 96) (120) = s.1 96 (120) := ps15 _ (by omega) (by omega)
          have b20 : (s31.1 96) (123) = s.1 96 (123) := ps15 _ (by omega) (by omega)
          have b21 : (s31.1 96) (114 + 3 * r22) = s.1 96 (114 + 3 * r22) := ps15 _ (by omega) (by omega)
          have b24 : 0 ≤ s31.1 96 114 ∧ s31.1 96 114 ≤ 24 := iv_rd96 hI13 (iv_fda037f3c (by omega))
          have b25 : 0 ≤ s31.1 96 117 ∧ s31.1 96 117 ≤ 24 := iv_rd96 hI13 (iv_f168d6e22 (by omega))
          have b26 : 0 ≤ s31.1 96 120 ∧ s31.1 96 120 ≤ 24 := iv_rd96 hI13 (iv_f5f96ec92 (by omega))
          have b27 : 0 ≤ s31.1 96 123 ∧ s31.1 96 123 ≤ 24 := iv_rd96 hI13 (iv_fe4a5d80e (by omega))
          refine sm_247 hI13 (show (0 : Int) ≤ r22 ∧ r22 ≤ (3 : Int) from by omega) (show (0 : Int) ≤ a1 ∧ a1 ≤ (24 : Int) from by omega) (show (0 : Int) ≤ a2 ∧ a2 ≤ (11 : Int) from by omega) (show (-1 : Int) ≤ (-1) ∧ (-1) ≤ (11 : Int) from by omega) (show (s31.1 96 114) + (s31.1 96 117) + (s31.1 96 120) + (s31.1 96 123) - (s31.1 96) (114 + 3 * r22) + a1 ≤ 24 from by omega) (fun s32 hI23 fr22 => ?_)
          have fr29 : lf_fq [96, 1005, 1006] 9 true s.1 s.2.2 s32.1 s32.2.2 := lf_fq_tr fr16 (lf_fq_wk fr22 rfl (by decide) (by decide))
          exact hQ r22 s32 hI23 fr29 (show (-1 : Int) ≤ r22 ∧ r22 ≤ (3 : Int) from by omega)
        · skip
          replace c11 : ¬ (0 ≤ r22) := c11
          exact hQ (-1) s hI (lf_fq_rf) (show (-1 : Int) ≤ (-1) ∧ (-1) ≤ (3 : Int) from by omega)
-- fm_80 Stand.hasBunch 15 i
theorem sm_80 {a1 : Int} {Q : Bool → lf_Z → Prop} {s : lf_Z} (hI : iv_A s.1 s.2.2) (ba1 : (-2147483648) ≤ a1 ∧ a1 ≤ 2147483647) (hQ : ∀ (z : Bool), ((z = true → (0 ≤ a1 ∧ a1 < 4 ∧ 0 < s.1 16 a1)) ∧ (z = false → ¬ (0 ≤ a1 ∧ a1 < 4 ∧ 0 < s.1 16 a1))) → Q z s) : fm_80 a1 Q s := by
  unfold fm_80
  refine ⟨(show lf_R a1 from lf_Rof (by omega)), ?_⟩
  refine ⟨fun c1 => ?_, fun c1 => ?_⟩
  · skip
    replace c1 : a1 < 0 := c1
    exact hQ false (lf_pf (by omega))
  · skip
    replace c1 : ¬ (a1 < 0) := c1
    refine ⟨fun c2 => ?_, fun c2 => ?_⟩
    · skip
      replace c2 : 4 ≤ a1 := c2
      exact hQ false (lf_pf (by omega))
    · skip
      replace c2 : ¬ (4 ≤ a1) := c2
      refine ⟨(show (0 : Int) ≤ a1 ∧ a1 < (4 : Int) from by omega), ?_⟩
      have b3 : (-2147483648) ≤ s.1 16 a1 ∧ s.1 16 a1 ≤ 2147483647 := iv_full hI
      refine ⟨(show lf_R (s.1 16 a1) from lf_Rof (by omega)), ?_⟩
      refine ⟨fun c4 => ?_, fun c4 => ?_⟩
      · skip
        replace c4 : s.1 16 a1 ≤ 0 := c4
        exact hQ false (lf_pf (by omega))
      · skip
        replace c4 : ¬ (s.1 16 a1 ≤ 0) := c4
        exact hQ true (lf_pt (by omega))
-- fm_95 Minutes.doHarm 67
theorem sm_95_p59 {X2 : Int → lf_Z → Prop} {Q : lf_Z → Prop} {x1 : Int} {s : lf_Z} (hQ : ∀  (s' : lf_Z), iv_A s'.1 s'.2.2 → lf_fq [21] 1000000 true s.1 s.2.2 s'.1 s'.2.2 → Q  s') {M2 : Nat} (hX2 : ∀ (x1 : Int) (s' : lf_Z), iv_A s'.1 s'.2.2 → lf_fq [21] 1000000 true s.1 s.2.2 s'.1 s'.2.2 → 0 ≤ x1 ∧ x1 ≤ 4 → (4 - x1).toNat < M2 → X2 x1 s') (hM2 : (4 - x1).toNat ≤ M2) (hI : iv_A s.1 s.2.2) (bx1 : 0 ≤ x1 ∧ x1 ≤ 3) : fm_95_p59 X2 Q x1 s := by
  unfold fm_95_p59
  exact hX2 (x1 + 1) s hI (lf_fq_rf) (show (0 : Int) ≤ x1 + 1 ∧ x1 + 1 ≤ (4 : Int) from by omega) (show (4 - (x1 + 1)).toNat < M2 from by omega)
theorem sm_95_p2 {X2 : Int → lf_Z → Prop} {Q : lf_Z → Prop} {x1 : Int} {s : lf_Z} (hQ : ∀  (s' : lf_Z), iv_A s'.1 s'.2.2 → lf_fq [21] 1000000 true s.1 s.2.2 s'.1 s'.2.2 → Q  s') {M2 : Nat} (hX2 : ∀ (x1 : Int) (s' : lf_Z), iv_A s'.1 s'.2.2 → lf_fq [21] 1000000 true s.1 s.2.2 s'.1 s'.2.2 → 0 ≤ x1 ∧ x1 ≤ 4 → (4 - x1).toNat < M2 → X2 x1 s') (hM2 : (4 - x1).toNat ≤ M2) (hI : iv_A s.1 s.2.2) (bx1 : 0 ≤ x1 ∧ x1 ≤ 4) : fm_95_p2 Q X2 x1 s := by
  unfold fm_95_p2
  refine ⟨(show lf_R x1 from lf_Rof (by omega)), ?_⟩
  refine ⟨fun c1 => ?_, fun c1 => ?_⟩
  · skip
    replace c1 : 4 ≤ x1 := c1
    exact hQ s hI (lf_fq_rf)
  · skip
    replace c1 : ¬ (4 ≤ x1) := c1
    refine sm_80 hI (show (-2147483648 : Int) ≤ x1 ∧ x1 ≤ (2147483647 : Int) from by omega) (fun z23 q2 => ?_)
    have b3 : (-2147483648) ≤ s.1 16 x1 ∧ s.1 16 x1 ≤ 2147483647 := iv_full hI
    refine ⟨fun c4 => ?_, fun c4 => ?_⟩
    · skip
      have dc4 := q2.2 c4
      exact sm_95_p59 hQ hX2 (show (4 - x1).toNat ≤ M2 from by omega) hI (show (0 : Int) ≤ x1 ∧ x1 ≤ (3 : Int) from by omega)
    · skip
      have dc4 := q2.1 c4
      refine ⟨(show (0 : Int) ≤ x1 ∧ x1 < (4 : Int) from by omega), ?_⟩
      have b5 : (-1) ≤ s.1 17 x1 ∧ s.1 17 x1 ≤ 11 := iv_r17 hI _
      have b6 : s.1 16 x1 ≤ 0 ∨ 0 ≤ s.1 17 x1 := (by first | exact (show s.1 16 x1 ≤ 0 ∨ 0 ≤ s.1 17 x1 from iv_sp hI (by omega) (by omega)) | exact iv_sp hI (by omega) (by omega))
      refine ⟨(show (0 : Int) ≤ s.1 17 x1 ∧ s.1 17 x1 < (12 : Int) from by omega), ?_⟩
      have b7 : (-2147483648) ≤ s.1 21 (s.1 17 x1) ∧ s.1 21 (s.1 17 x1) ≤ 2147483647 := iv_full hI
      have b8 : 0 ≤ s.1 3 (s.1 17 x1) ∧ s.1 3 (s.1 17 x1) ≤ 99 := iv_r3 hI _
      have b9 : (-2147483648) ≤ lf_w ((s.1 16 x1) * (s.1 3 (s.1 17 x1))) ∧ lf_w ((s.1 16 x1) * (s.1 3 (s.1 17 x1))) ≤ 2147483647 := lf_wB
      have b10 : (-2147483648) ≤ lf_w ((s.1 21 (s.1 17 x1)) + (lf_w ((s.1 16 x1) * (s.1 3 (s.1 17 x1))))) ∧ lf_w ((s.1 21 (s.1 17 x1)) + (lf_w ((s.1 16 x1) * (s.1 3 (s.1 17 x1))))) ≤ 2147483647 := lf_wB
      have hI11 : iv_A (lf_up s.1 21 (s.1 17 x1) (lf_w ((s.1 21 (s.1 17 x1)) + (lf_w ((s.1 16 x1) * (s.1 3 (s.1 17 x1))))))) s.2.2 := iv_w21 hI (by omega)
      have fr12 : lf_fq [21] 1000000 true s.1 s.2.2 (lf_up s.1 21 (s.1 17 x1) (lf_w ((s.1 21 (s.1 17 x1)) + (lf_w ((s.1 16 x1) * (s.1 3 (s.1 17 x1))))))) s.2.2 := lf_fq_up (lf_fq_rf) rfl (fun h => absurd h (by decide))
      exact sm_95_p59 (fun t9 i9 f9 => hQ t9 i9 (lf_fq_tr fr12 f9)) (fun p0 t9 i9 f9 => hX2 p0 t9 i9 (lf_fq_tr fr12 f9)) (show (4 - x1).toNat ≤ M2 from by omega) hI11 (show (0 : Int) ≤ x1 ∧ x1 ≤ (3 : Int) from by omega)
theorem sm_95_p2L {Q : lf_Z → Prop} {x1 : Int} {s : lf_Z} (hQ : ∀  (s' : lf_Z), iv_A s'.1 s'.2.2 → lf_fq [21] 1000000 true s.1 s.2.2 s'.1 s'.2.2 → Q  s') (hI : iv_A s.1 s.2.2) (bx1 : 0 ≤ x1 ∧ x1 ≤ 4) : fm_95_p2L Q x1 s := by
  intro X2 hX
  have key : ∀ (m9 : Nat) (x1 : Int) (s' : lf_Z), iv_A s'.1 s'.2.2 → lf_fq [21] 1000000 true s.1 s.2.2 s'.1 s'.2.2 → 0 ≤ x1 ∧ x1 ≤ 4 → (4 - x1).toNat < m9 → X2 x1 s' := by
    intro m9
    induction m9 with
    | zero => intro x1 s' _ _ bx1 h9; exact absurd h9 (Nat.not_lt_zero _)
    | succ m9 ih => intro x1 s' i7 f7 bx1 h9; exact hX _ _ (sm_95_p2 (fun t9 i9 f9 => hQ t9 i9 (lf_fq_tr f7 f9))   (fun x1' t8 i8 f8 bx1' h8 => ih x1' t8 i8 (lf_fq_tr f7 f8) bx1' (by omega)) (Nat.le_refl _)  i7  bx1  )
  exact key _ _ s hI lf_fq_rf bx1 (Nat.lt_succ_self _)
theorem sm_95 {Q : lf_Z → Prop} {s : lf_Z} (hI : iv_A s.1 s.2.2) (hQ : ∀  (s' : lf_Z), iv_A s'.1 s'.2.2 → lf_fq [21] 1000000 true s.1 s.2.2 s'.1 s'.2.2 → Q  s') : fm_95 Q s := by
  unfold fm_95
  exact sm_95_p2L hQ hI (show (0 : Int) ≤ 0 ∧ 0 ≤ (4 : Int) from by omega)
-- fm_96 Minutes.joinBunches 67
theorem sm_96_p97 {X2 : Int → lf_Z → Prop} {Q : lf_Z → Prop} {x1 : Int} {s : lf_Z} (hQ : ∀  (s' : lf_Z), iv_A s'.1 s'.2.2 → lf_fq [16, 17, 18] 1000000 true s.1 s.2.2 s'.1 s'.2.2 → Q  s') {M2 : Nat} (hX2 : ∀ (x1 : Int) (s' : lf_Z), iv_A s'.1 s'.2.2 → lf_fq [16, 17, 18] 1000000 true s.1 s.2.2 s'.1 s'.2.2 → 0 ≤ x1 ∧ x1 ≤ 4 → (4 - x1).toNat < M2 → X2 x1 s') (hM2 : (4 - x1).toNat ≤ M2) (hI : iv_A s.1 s.2.2) (bx1 : 0 ≤ x1 ∧ x1 ≤ 3) : fm_96_p97 X2 Q x1 s := by
  unfold fm_96_p97
  exact hX2 (x1 + 1) s hI (lf_fq_rf) (show (0 : Int) ≤ x1 + 1 ∧ x1 + 1 ≤ (4 : Int) from by omega) (show (4 - (x1 + 1)).toNat < M2 from by omega)
theorem sm_96_p91 {X2 : Int → lf_Z → Prop} {X11 : Int → lf_Z → Prop} {Q : lf_Z → Prop} {x1 : Int} {x2 : Int} {s : lf_Z} (hQ : ∀  (s' : lf_Z), iv_A s'.1 s'.2.2 → lf_fq [16, 17, 18] 1000000 true s.1 s.2.2 s'.1 s'.2.2 → Q  s') {M2 : Nat} (hX2 : ∀ (x1 : Int) (s' : lf_Z), iv_A s'.1 s'.2.2 → lf_fq [16, 17, 18] 1000000 true s.1 s.2.2 s'.1 s'.2.2 → 0 ≤ x1 ∧ x1 ≤ 4 → (4 - x1).toNat < M2 → X2 x1 s') (hM2 : (4 - x1).toNat ≤ M2) {M11 : Nat} (hX11 : ∀ (x2 : Int) (s' : lf_Z), iv_A s'.1 s'.2.2 → lf_fq [16, 17, 18] 1000000 true s.1 s.2.2 s'.1 s'.2.2 → 1 ≤ x2 ∧ x2 ≤ 4 → (4 - x2).toNat < M11 → X11 x2 s') (hM11 : (4 - x2).toNat ≤ M11) (hI : iv_A s.1 s.2.2) (bx1 : 0 ≤ x1 ∧ x1 ≤ 3) (bx2 : 1 ≤ x2 ∧ x2 ≤ 3) : fm_96_p91 X2 X11 Q x1 x2 s := by
  unfold fm_96_p91
  exact hX11 (x2 + 1) s hI (lf_fq_rf) (show (1 : Int) ≤ x2 + 1 ∧ x2 + 1 ≤ (4 : Int) from by omega) (show (4 - (x2 + 1)).toNat < M11 from by omega)
theorem sm_96_p11 {X2 : Int → lf_Z → Prop} {X11 : Int → lf_Z → Prop} {Q : lf_Z → Prop} {x1 : Int} {x2 : Int} {s : lf_Z} (hQ : ∀  (s' : lf_Z), iv_A s'.1 s'.2.2 → lf_fq [16, 17, 18] 1000000 true s.1 s.2.2 s'.1 s'.2.2 → Q  s') {M2 : Nat} (hX2 : ∀ (x1 : Int) (s' : lf_Z), iv_A s'.1 s'.2.2 → lf_fq [16, 17, 18] 1000000 true s.1 s.2.2 s'.1 s'.2.2 → 0 ≤ x1 ∧ x1 ≤ 4 → (4 - x1).toNat < M2 → X2 x1 s') (hM2 : (4 - x1).toNat ≤ M2) {M11 : Nat} (hX11 : ∀ (x2 : Int) (s' : lf_Z), iv_A s'.1 s'.2.2 → lf_fq [16, 17, 18] 1000000 true s.1 s.2.2 s'.1 s'.2.2 → 1 ≤ x2 ∧ x2 ≤ 4 → (4 - x2).toNat < M11 → X11 x2 s') (hM11 : (4 - x2).toNat ≤ M11) (hI : iv_A s.1 s.2.2) (bx1 : 0 ≤ x1 ∧ x1 ≤ 3) (bx2 : 1 ≤ x2 ∧ x2 ≤ 4) : fm_96_p11 X2 Q x1 X11 x2 s := by
  unfold fm_96_p11
  refine ⟨(show lf_R x2 from lf_Rof (by omega)), ?_⟩
  refine ⟨fun c2 => ?_, fun c2 => ?_⟩
  · skip
    replace c2 : 4 ≤ x2 := c2
    exact sm_96_p97 hQ hX2 (show (4 - x1).toNat ≤ M2 from by omega) hI (show (0 : Int) ≤ x1 ∧ x1 ≤ (3 : Int) from by omega)
  · skip
    replace c2 : ¬ (4 ≤ x2) := c2
    refine sm_80 hI (show (-2147483648 : Int) ≤ x1 ∧ x1 ≤ (2147483647 : Int) from by omega) (fun z24 q3 => ?_)
    have b4 : (-2147483648) ≤ s.1 16 x1 ∧ s.1 16 x1 ≤ 2147483647 := iv_full hI
    refine ⟨fun c5 => ?_, fun c5 => ?_⟩
    · skip
      have dc5 := q3.2 c5
      exact sm_96_p97 hQ hX2 (show (4 - x1).toNat ≤ M2 from by omega) hI (show (0 : Int) ≤ x1 ∧ x1 ≤ (3 : Int) from by omega)
    · skip
      have dc5 := q3.1 c5
      refine sm_80 hI (show (-2147483648 : Int) ≤ x2 ∧ x2 ≤ (2147483647 : Int) from by omega) (fun z26 q6 => ?_)
      have b7 : (-2147483648) ≤ s.1 16 x2 ∧ s.1 16 x2 ≤ 2147483647 := iv_full hI
      refine ⟨fun c8 => ?_, fun c8 => ?_⟩
      · skip
        have dc8 := q6.2 c8
        exact sm_96_p91 hQ hX2 (show (4 - x1).toNat ≤ M2 from by omega) hX11 (show (4 - x2).toNat ≤ M11 from by omega) hI (show (0 : Int) ≤ x1 ∧ x1 ≤ (3 : Int) from by omega) (show (1 : Int) ≤ x2 ∧ x2 ≤ (3 : Int) from by omega)
      · skip
        have dc8 := q6.1 c8
        refine ⟨(show (0 : Int) ≤ x2 ∧ x2 < (4 : Int) from by omega), ?_⟩
        have b9 : (-1) ≤ s.1 17 x2 ∧ s.1 17 x2 ≤ 11 := iv_r17 hI _
        have b10 : s.1 16 x2 ≤ 0 ∨ 0 ≤ s.1 17 x2 := (by first | exact (show s.1 16 x2 ≤ 0 ∨ 0 ≤ s.1 17 x2 from iv_sp hI (by omega) (by omega)) | exact iv_sp hI (by omega) (by omega))
        refine ⟨(show (0 : Int) ≤ x1 ∧ x1 < (4 : Int) from by omega), ?_⟩
        have b11 : (-1) ≤ s.1 17 x1 ∧ s.1 17 x1 ≤ 11 := iv_r17 hI _
        have b12 : s.1 16 x1 ≤ 0 ∨ 0 ≤ s.1 17 x1 := (by first | exact (show s.1 16 x1 ≤ 0 ∨ 0 ≤ s.1 17 x1 from iv_sp hI (by omega) (by omega)) | exact iv_sp hI (by omega) (by omega))
        refine ⟨(show lf_R (s.1 17 x2) from lf_Rof (by omega)), ?_⟩
        refine ⟨(show lf_R (s.1 17 x1) from lf_Rof (by omega)), ?_⟩
        refine ⟨fun c13 => ?_, fun c13 => ?_⟩
        · skip
          replace c13 : s.1 17 x2 ≠ s.1 17 x1 := c13
          exact sm_96_p91 hQ hX2 (show (4 - x1).toNat ≤ M2 from by omega) hX11 (show (4 - x2).toNat ≤ M11 from by omega) hI (show (0 : Int) ≤ x1 ∧ x1 ≤ (3 : Int) from by omega) (show (1 : Int) ≤ x2 ∧ x2 ≤ (3 : Int) from by omega)
        · skip
          replace c13 : ¬ (s.1 17 x2 ≠ s.1 17 x1) := c13
          have b14 : (-2147483648) ≤ lf_w ((s.1 16 x1) + (s.1 16 x2)) ∧ lf_w ((s.1 16 x1) + (s.1 16 x2)) ≤ 2147483647 := lf_wB
          have hI15 : iv_A (lf_up s.1 16 x1 (lf_w ((s.1 16 x1) + (s.1 16 x2)))) s.2.2 := iv_w16 hI (by omega) (by omega)
          have fr16 : lf_fq [16, 17, 18] 1000000 true s.1 s.2.2 (lf_up s.1 16 x1 (lf_w ((s.1 16 x1) + (s.1 16 x2)))) s.2.2 := lf_fq_up (lf_fq_rf) rfl (fun h => absurd h (by decide))
          refine sm_69 hI15 (show (0 : Int) ≤ x2 ∧ x2 ≤ (3 : Int) from by omega) (show (-2147483648 : Int) ≤ 0 ∧ 0 ≤ (2147483647 : Int) from by omega) (show (-1 : Int) ≤ (-1) ∧ (-1) ≤ (11 : Int) from by omega) (show (-1 : Int) ≤ (-1) ∧ (-1) ≤ (11 : Int) from by omega) (show 0 ≤ 0 ∨ 0 ≤ (-1) from by omega) (fun s31 hI18 fr17 => ?_)
          have fr20 : lf_fq [16, 17, 18] 1000000 true s.1 s.2.2 s31.1 s31.2.2 := lf_fq_tr fr16 (lf_fq_wk fr17 rfl (by decide) (by decide))
          exact sm_96_p91 (fun t9 i9 f9 => hQ t9 i9 (lf_fq_tr fr20 f9)) (fun p0 t9 i9 f9 => hX2 p0 t9 i9 (lf_fq_tr fr20 f9)) (show (4 - x1).toNat ≤ M2 from by omega) (fun p0 t9 i9 f9 => hX11 p0 t9 i9 (lf_fq_tr fr20 f9)) (show (4 - x2).toNat ≤ M11 from by omega) hI18 (show (0 : Int) ≤ x1 ∧ x1 ≤ (3 : Int) from by omega) (show (1 : Int) ≤ x2 ∧ x2 ≤ (3 : Int) from by omega)
theorem sm_96_p11L {X2 : Int → lf_Z → Prop} {Q : lf_Z → Prop} {x1 : Int} {x2 : Int} {s : lf_Z} (hQ : ∀  (s' : lf_Z), iv_A s'.1 s'.2.2 → lf_fq [16, 17, 18] 1000000 true s.1 s.2.2 s'.1 s'.2.2 → Q  s') {M2 : Nat} (hX2 : ∀ (x1 : Int) (s' : lf_Z), iv_A s'.1 s'.2.2 → lf_fq [16, 17, 18] 1000000 true s.1 s.2.2 s'.1 s'.2.2 → 0 ≤ x1 ∧ x1 ≤ 4 → (4 - x1).toNat < M2 → X2 x1 s') (hM2 : (4 - x1).toNat ≤ M2) (hI : iv_A s.1 s.2.2) (bx1 : 0 ≤ x1 ∧ x1 ≤ 3) (bx2 : 1 ≤ x2 ∧ x2 ≤ 4) : fm_96_p11L X2 Q x1 x2 s := by
  intro X11 hX
  have key : ∀ (m9 : Nat) (x2 : Int) (s' : lf_Z), iv_A s'.1 s'.2.2 → lf_fq [16, 17, 18] 1000000 true s.1 s.2.2 s'.1 s'.2.2 → 1 ≤ x2 ∧ x2 ≤ 4 → (4 - x2).toNat < m9 → X11 x2 s' := by
    intro m9
    induction m9 with
    | zero => intro x2 s' _ _ bx2 h9; exact absurd h9 (Nat.not_lt_zero _)
    | succ m9 ih => intro x2 s' i7 f7 bx2 h9; exact hX _ _ (sm_96_p11 (fun t9 i9 f9 => hQ t9 i9 (lf_fq_tr f7 f9))  (fun p0 t9 i9 f9 => hX2 p0 t9 i9 (lf_fq_tr f7 f9)) hM2 (fun x2' t8 i8 f8 bx2' h8 => ih x2' t8 i8 (lf_fq_tr f7 f8) bx2' (by omega)) (Nat.le_refl _)  i7  bx1 bx2  )
  exact key _ _ s hI lf_fq_rf bx2 (Nat.lt_succ_self _)
theorem sm_96_p2 {X2 : Int → lf_Z → Prop} {Q : lf_Z → Prop} {x1 : Int} {s : lf_Z} (hQ : ∀  (s' : lf_Z), iv_A s'.1 s'.2.2 → lf_fq [16, 17, 18] 1000000 true s.1 s.2.2 s'.1 s'.2.2 → Q  s') {M2 : Nat} (hX2 : ∀ (x1 : Int) (s' : lf_Z), iv_A s'.1 s'.2.2 → lf_fq [16, 17, 18] 1000000 true s.1 s.2.2 s'.1 s'.2.2 → 0 ≤ x1 ∧ x1 ≤ 4 → (4 - x1).toNat < M2 → X2 x1 s') (hM2 : (4 - x1).toNat ≤ M2) (hI : iv_A s.1 s.2.2) (bx1 : 0 ≤ x1 ∧ x1 ≤ 4) : fm_96_p2 Q X2 x1 s := by
  unfold fm_96_p2
  refine ⟨(show lf_R x1 from lf_Rof (by omega)), ?_⟩
  refine ⟨fun c1 => ?_, fun c1 => ?_⟩
  · skip
    replace c1 : 4 ≤ x1 := c1
    exact hQ s hI (lf_fq_rf)
  · skip
    replace c1 : ¬ (4 ≤ x1) := c1
    exact sm_96_p11L hQ hX2 (show (4 - x1).toNat ≤ M2 from by omega) hI (show (0 : Int) ≤ x1 ∧ x1 ≤ (3 : Int) from by omega) (show (1 : Int) ≤ x1 + 1 ∧ x1 + 1 ≤ (4 : Int) from by omega)
theorem sm_96_p2L {Q : lf_Z → Prop} {x1 : Int} {s : lf_Z} (hQ : ∀  (s' : lf_Z), iv_A s'.1 s'.2.2 → lf_fq [16, 17, 18] 1000000 true s.1 s.2.2 s'.1 s'.2.2 → Q  s') (hI : iv_A s.1 s.2.2) (bx1 : 0 ≤ x1 ∧ x1 ≤ 4) : fm_96_p2L Q x1 s := by
  intro X2 hX
  have key : ∀ (m9 : Nat) (x1 : Int) (s' : lf_Z), iv_A s'.1 s'.2.2 → lf_fq [16, 17, 18] 1000000 true s.1 s.2.2 s'.1 s'.2.2 → 0 ≤ x1 ∧ x1 ≤ 4 → (4 - x1).toNat < m9 → X2 x1 s' := by
    intro m9
    induction m9 with
    | zero => intro x1 s' _ _ bx1 h9; exact absurd h9 (Nat.not_lt_zero _)
    | succ m9 ih => intro x1 s' i7 f7 bx1 h9; exact hX _ _ (sm_96_p2 (fun t9 i9 f9 => hQ t9 i9 (lf_fq_tr f7 f9))   (fun x1' t8 i8 f8 bx1' h8 => ih x1' t8 i8 (lf_fq_tr f7 f8) bx1' (by omega)) (Nat.le_refl _)  i7  bx1  )
  exact key _ _ s hI lf_fq_rf bx1 (Nat.lt_succ_self _)
theorem sm_96 {Q : lf_Z → Prop} {s : lf_Z} (hI : iv_A s.1 s.2.2) (hQ : ∀  (s' : lf_Z), iv_A s'.1 s'.2.2 → lf_fq [16, 17, 18] 1000000 true s.1 s.2.2 s'.1 s'.2.2 → Q  s') : fm_96 Q s := by
  unfold fm_96
  exact sm_96_p2L hQ hI (show (0 : Int) ≤ 0 ∧ 0 ≤ (4 : Int) from by omega)
-- fm_76 Land.countWaysAt 1 i
theorem sm_76 {a1 : Int} {Q : Int → lf_Z → Prop} {s : lf_Z} (hI : iv_A s.1 s.2.2) (ba1 : (-2147483648) ≤ a1 ∧ a1 ≤ 2147483647) (hQ : ∀ (r : Int), (0 ≤ r ∧ r ≤ 4) → Q r s) : fm_76 a1 Q s := by
  unfold fm_76
  refine sm_18 hI (show (-2147483648 : Int) ≤ a1 ∧ a1 ≤ (2147483647 : Int) from by omega) (fun z22 q1 => ?_)
  have b2 : 0 ≤ s.1 1 0 ∧ s.1 1 0 ≤ 12 := iv_r1_0 hI
  refine ⟨fun c3 => ?_, fun c3 => ?_⟩
  · skip
    have dc3 := q1.2 c3
    exact hQ 0 (show (0 : Int) ≤ 0 ∧ 0 ≤ (4 : Int) from by omega)
  · skip
    have dc3 := q1.1 c3
    refine ⟨(show (0 : Int) ≤ a1 ∧ a1 < (12 : Int) from by omega), ?_⟩
    have b4 : 0 ≤ s.1 12 a1 ∧ s.1 12 a1 ≤ 4 := iv_r12 hI _
    exact hQ (s.1 12 a1) (show (0 : Int) ≤ s.1 12 a1 ∧ s.1 12 a1 ≤ (4 : Int) from by omega)
-- fm_77 Land.wayAt 1 i i
theorem sm_77 {a1 : Int} {a2 : Int} {Q : Int → lf_Z → Prop} {s : lf_Z} (hI : iv_A s.1 s.2.2) (ba1 : (-2147483648) ≤ a1 ∧ a1 ≤ 2147483647) (ba2 : 0 ≤ a2 ∧ a2 ≤ 3) (hQ : ∀ (r : Int), ((-1) ≤ r ∧ r ≤ 15) → Q r s) : fm_77 a1 a2 Q s := by
  unfold fm_77
  refine sm_18 hI (show (-2147483648 : Int) ≤ a1 ∧ a1 ≤ (2147483647 : Int) from by omega) (fun z22 q1 => ?_)
  have b2 : 0 ≤ s.1 1 0 ∧ s.1 1 0 ≤ 12 := iv_r1_0 hI
  refine ⟨fun c3 => ?_, fun c3 => ?_⟩
  · skip
    have dc3 := q1.2 c3
    exact hQ (-1) (show (-1 : Int) ≤ (-1) ∧ (-1) ≤ (15 : Int) from by omega)
  · skip
    have dc3 := q1.1 c3
    refine ⟨(show lf_R a2 from lf_Rof (by omega)), ?_⟩
    refine ⟨fun c4 => ?_, fun c4 => ?_⟩
    · skip
      replace c4 : a2 < 0 := c4
      exfalso
      omega
    · skip
      replace c4 : ¬ (a2 < 0) := c4
      refine ⟨(show (0 : Int) ≤ a1 ∧ a1 < (12 : Int) from by omega), ?_⟩
      have b5 : 0 ≤ s.1 12 a1 ∧ s.1 12 a1 ≤ 4 := iv_r12 hI _
      refine ⟨(show lf_R (s.1 12 a1) from lf_Rof (by omega)), ?_⟩
      refine ⟨fun c6 => ?_, fun c6 => ?_⟩
      · skip
        replace c6 : a2 < s.1 12 a1 := c6
        refine ⟨(show (0 : Int) ≤ (a1 * 4) + a2 ∧ (a1 * 4) + a2 < (48 : Int) from by omega), ?_⟩
        have b7 : 0 ≤ s.1 11 ((a1 * 4) + a2) ∧ s.1 11 ((a1 * 4) + a2) ≤ 15 := iv_r11 hI _
        exact hQ (s.1 11 ((a1 * 4) + a2)) (show (-1 : Int) ≤ s.1 11 ((a1 * 4) + a2) ∧ s.1 11 ((a1 * 4) + a2) ≤ (15 : Int) from by omega)
      · skip
        replace c6 : ¬ (a2 < s.1 12 a1) := c6
        exact hQ (-1) (show (-1 : Int) ≤ (-1) ∧ (-1) ≤ (15 : Int) from by omega)
-- fm_79 Land.hasWay 1 i
theorem sm_79 {a1 : Int} {Q : Bool → lf_Z → Prop} {s : lf_Z} (hI : iv_A s.1 s.2.2) (ba1 : (-2147483648) ≤ a1 ∧ a1 ≤ 2147483647) (hQ : ∀ (z : Bool), ((z = true → (0 ≤ a1 ∧ a1 < s.1 1 1)) ∧ (z = false → ¬ (0 ≤ a1 ∧ a1 < s.1 1 1))) → Q z s) : fm_79 a1 Q s := by
  unfold fm_79
  refine ⟨(show lf_R a1 from lf_Rof (by omega)), ?_⟩
  refine ⟨fun c1 => ?_, fun c1 => ?_⟩
  · skip
    replace c1 : a1 < 0 := c1
    exact hQ false (lf_pf (by omega))
  · skip
    replace c1 : ¬ (a1 < 0) := c1
    have b2 : 0 ≤ s.1 1 1 ∧ s.1 1 1 ≤ 16 := iv_r1_1 hI
    refine ⟨(show lf_R (s.1 1 1) from lf_Rof (by omega)), ?_⟩
    refine ⟨fun c3 => ?_, fun c3 => ?_⟩
    · skip
      replace c3 : s.1 1 1 ≤ a1 := c3
      exact hQ false (lf_pf (by omega))
    · skip
      replace c3 : ¬ (s.1 1 1 ≤ a1) := c3
      exact hQ true (lf_pt (by omega))
-- fm_78 Land.otherSide 1 i i
theorem sm_78 {a1 : Int} {a2 : Int} {Q : Int → lf_Z → Prop} {s : lf_Z} (hI : iv_A s.1 s.2.2) (ba1 : (-1) ≤ a1 ∧ a1 ≤ 15) (ba2 : (-2147483648) ≤ a2 ∧ a2 ≤ 2147483647) (hQ : ∀ (r : Int), (((-1) ≤ r ∧ r ≤ 11) ∧ (r = iv_od (s.1 1 1) (s.1 4) (s.1 5) a1 a2)) → Q r s) : fm_78 a1 a2 Q s := by
  unfold fm_78
  refine sm_79 hI (show (-2147483648 : Int) ≤ a1 ∧ a1 ≤ (2147483647 : Int) from by omega) (fun z22 q1 => ?_)
  have b2 : 0 ≤ s.1 1 1 ∧ s.1 1 1 ≤ 16 := iv_r1_1 hI
  refine ⟨fun c3 => ?_, fun c3 => ?_⟩
  · skip
    have dc3 := q1.1 c3
    refine ⟨(show (0 : Int) ≤ a1 ∧ a1 < (16 : Int) from by omega), ?_⟩
    have b4 : 0 ≤ s.1 4 a1 ∧ s.1 4 a1 ≤ 11 := iv_r4 hI _
    refine ⟨(show lf_R (s.1 4 a1) from lf_Rof (by omega)), ?_⟩
    refine ⟨(show lf_R a2 from lf_Rof (by omega)), ?_⟩
    refine ⟨fun c5 => ?_, fun c5 => ?_⟩
    · skip
      replace c5 : s.1 4 a1 ≠ a2 := c5
      have b6 : 0 ≤ s.1 5 a1 ∧ s.1 5 a1 ≤ 11 := iv_r5 hI _
      refine ⟨(show lf_R (s.1 5 a1) from lf_Rof (by omega)), ?_⟩
      refine ⟨fun c7 => ?_, fun c7 => ?_⟩
      · skip
        replace c7 : s.1 5 a1 ≠ a2 := c7
        exact hQ (-1) ⟨(show (-1 : Int) ≤ (-1) ∧ (-1) ≤ (11 : Int) from by omega), (show (-1) = iv_od (s.1 1 1) (s.1 4) (s.1 5) a1 a2 from by unfold iv_od; (repeat' split) <;> first | rfl | omega | contradiction)⟩
      · skip
        replace c7 : ¬ (s.1 5 a1 ≠ a2) := c7
        exact hQ (s.1 4 a1) ⟨(show (-1 : Int) ≤ s.1 4 a1 ∧ s.1 4 a1 ≤ (11 : Int) from by omega), (show s.1 4 a1 = iv_od (s.1 1 1) (s.1 4) (s.1 5) a1 a2 from by unfold iv_od; (repeat' split) <;> first | rfl | omega | contradiction)⟩
    · skip
      replace c5 : ¬ (s.1 4 a1 ≠ a2) := c5
      have b8 : 0 ≤ s.1 5 a1 ∧ s.1 5 a1 ≤ 11 := iv_r5 hI _
      exact hQ (s.1 5 a1) ⟨(show (-1 : Int) ≤ s.1 5 a1 ∧ s.1 5 a1 ≤ (11 : Int) from by omega), (show s.1 5 a1 = iv_od (s.1 1 1) (s.1 4) (s.1 5) a1 a2 from by unfold iv_od; (repeat' split) <;> first | rfl | omega | contradiction)⟩
  · skip
    have dc3 := q1.2 c3
    exact hQ (-1) ⟨(show (-1 : Int) ≤ (-1) ∧ (-1) ≤ (11 : Int) from by omega), (show (-1) = iv_od (s.1 1 1) (s.1 4) (s.1 5) a1 a2 from by unfold iv_od; (repeat' split) <;> first | rfl | omega | contradiction)⟩
-- fm_89 Land.hasGate 1 i
theorem sm_89 {a1 : Int} {Q : Bool → lf_Z → Prop} {s : lf_Z} (hI : iv_A s.1 s.2.2) (ba1 : (-2147483648) ≤ a1 ∧ a1 ≤ 2147483647) (hQ : ∀ (z : Bool), ((z = true → (0 ≤ a1 ∧ a1 < s.1 1 1 ∧ s.1 6 a1 = 0)) ∧ (z = false → ¬ (0 ≤ a1 ∧ a1 < s.1 1 1 ∧ s.1 6 a1 = 0))) → Q z s) : fm_89 a1 Q s := by
  unfold fm_89
  refine ⟨(show lf_R a1 from lf_Rof (by omega)), ?_⟩
  refine ⟨fun c1 => ?_, fun c1 => ?_⟩
  · skip
    replace c1 : a1 < 0 := c1
    exact hQ false (lf_pf (by omega))
  · skip
    replace c1 : ¬ (a1 < 0) := c1
    have b2 : 0 ≤ s.1 1 1 ∧ s.1 1 1 ≤ 16 := iv_r1_1 hI
    refine ⟨(show lf_R (s.1 1 1) from lf_Rof (by omega)), ?_⟩
    refine ⟨fun c3 => ?_, fun c3 => ?_⟩
    · skip
      replace c3 : s.1 1 1 ≤ a1 := c3
      exact hQ false (lf_pf (by omega))
    · skip
      replace c3 : ¬ (s.1 1 1 ≤ a1) := c3
      refine ⟨(show (0 : Int) ≤ a1 ∧ a1 < (16 : Int) from by omega), ?_⟩
      have b4 : 0 ≤ s.1 6 a1 ∧ s.1 6 a1 ≤ 1 := iv_r6 hI _
      refine ⟨(show lf_R (s.1 6 a1) from lf_Rof (by omega)), ?_⟩
      refine ⟨fun c5 => ?_, fun c5 => ?_⟩
      · skip
        replace c5 : s.1 6 a1 ≠ 0 := c5
        exact hQ false (lf_pf (by omega))
      · skip
        replace c5 : ¬ (s.1 6 a1 ≠ 0) := c5
        exact hQ true (lf_pt (by omega))
-- fm_90 Stand.isOpen 15 i
theorem sm_90 {a1 : Int} {Q : Bool → lf_Z → Prop} {s : lf_Z} (hI : iv_A s.1 s.2.2) (ba1 : 0 ≤ a1 ∧ a1 ≤ 15) (hQ : ∀ (z : Bool), Q z s) : fm_90 a1 Q s := by
  unfold fm_90
  have b1 : (-2147483648) ≤ s.1 15 6 ∧ s.1 15 6 ≤ 2147483647 := iv_full hI
  have b2 : (-2147483648) ≤ lf_shr (s.1 15 6) a1 ∧ lf_shr (s.1 15 6) a1 ≤ 2147483647 := lf_shrB
  have b3 : 0 ≤ lf_and (lf_shr (s.1 15 6) a1) 1 ∧ lf_and (lf_shr (s.1 15 6) a1) 1 ≤ 1 := lf_andB (by omega) (by omega)
  refine ⟨fun c4 => ?_, fun c4 => ?_⟩
  · skip
    replace c4 : lf_and (lf_shr (s.1 15 6) a1) 1 ≠ 0 := c4
    exact hQ false
  · skip
    replace c4 : ¬ (lf_and (lf_shr (s.1 15 6) a1) 1 ≠ 0) := c4
    exact hQ true
-- fm_83 Laws.peopleAt 63 i
theorem sm_83_p31 {X4 : Int → Int → lf_Z → Prop} {Q : Int → lf_Z → Prop} {x1 : Int} {x2 : Int} {x3 : Int} {s : lf_Z} (hQ : ∀ (r : Int), (0 ≤ r ∧ r ≤ 6) → Q r s) {M4 : Nat} (hX4 : ∀ (x2 : Int) (x3 : Int), 0 ≤ x2 ∧ x2 ≤ 6 → 0 ≤ x3 ∧ x3 ≤ 6 → (x2 ≤ x3) → (6 - x3).toNat < M4 → X4 x2 x3 s) (hM4 : (6 - x3).toNat ≤ M4) (hI : iv_A s.1 s.2.2) (bx1 : (-1) ≤ x1 ∧ x1 ≤ 11) (bx2 : 0 ≤ x2 ∧ x2 ≤ 6) (bx3 : 0 ≤ x3 ∧ x3 ≤ 5) (kv0 : x2 ≤ x3 + 1) : fm_83_p31 X4 Q x1 x2 x3 s := by
  unfold fm_83_p31
  exact hX4 (x2) (x3 + 1) (show (0 : Int) ≤ x2 ∧ x2 ≤ (6 : Int) from by omega) (show (0 : Int) ≤ x3 + 1 ∧ x3 + 1 ≤ (6 : Int) from by omega) (show x2 ≤ (x3 + 1) from by omega) (show (6 - (x3 + 1)).toNat < M4 from by omega)
theorem sm_83_p4 {X4 : Int → Int → lf_Z → Prop} {Q : Int → lf_Z → Prop} {x1 : Int} {x2 : Int} {x3 : Int} {s : lf_Z} (hQ : ∀ (r : Int), (0 ≤ r ∧ r ≤ 6) → Q r s) {M4 : Nat} (hX4 : ∀ (x2 : Int) (x3 : Int), 0 ≤ x2 ∧ x2 ≤ 6 → 0 ≤ x3 ∧ x3 ≤ 6 → (x2 ≤ x3) → (6 - x3).toNat < M4 → X4 x2 x3 s) (hM4 : (6 - x3).toNat ≤ M4) (hI : iv_A s.1 s.2.2) (bx1 : (-1) ≤ x1 ∧ x1 ≤ 11) (bx2 : 0 ≤ x2 ∧ x2 ≤ 6) (bx3 : 0 ≤ x3 ∧ x3 ≤ 6) (kv0 : x2 ≤ x3) : fm_83_p4 Q x1 X4 x2 x3 s := by
  unfold fm_83_p4
  have b1 : 0 ≤ s.1 1 2 ∧ s.1 1 2 ≤ 6 := iv_r1_2 hI
  refine ⟨(show lf_R x3 from lf_Rof (by omega)), ?_⟩
  refine ⟨(show lf_R (s.1 1 2) from lf_Rof (by omega)), ?_⟩
  refine ⟨fun c2 => ?_, fun c2 => ?_⟩
  · skip
    replace c2 : s.1 1 2 ≤ x3 := c2
    exact hQ x2 (show (0 : Int) ≤ x2 ∧ x2 ≤ (6 : Int) from by omega)
  · skip
    replace c2 : ¬ (s.1 1 2 ≤ x3) := c2
    refine ⟨(show (0 : Int) ≤ x3 ∧ x3 < (6 : Int) from by omega), ?_⟩
    have b3 : (-2147483648) ≤ s.1 19 x3 ∧ s.1 19 x3 ≤ 2147483647 := iv_full hI
    refine ⟨(show lf_R (s.1 19 x3) from lf_Rof (by omega)), ?_⟩
    refine ⟨(show lf_R x1 from lf_Rof (by omega)), ?_⟩
    refine ⟨fun c4 => ?_, fun c4 => ?_⟩
    · skip
      replace c4 : s.1 19 x3 ≠ x1 := c4
      exact sm_83_p31 hQ hX4 (show (6 - x3).toNat ≤ M4 from by omega) hI (show (-1 : Int) ≤ x1 ∧ x1 ≤ (11 : Int) from by omega) (show (0 : Int) ≤ x2 ∧ x2 ≤ (6 : Int) from by omega) (show (0 : Int) ≤ x3 ∧ x3 ≤ (5 : Int) from by omega) (show x2 ≤ x3 + 1 from by omega)
    · skip
      replace c4 : ¬ (s.1 19 x3 ≠ x1) := c4
      exact sm_83_p31 hQ hX4 (show (6 - x3).toNat ≤ M4 from by omega) hI (show (-1 : Int) ≤ x1 ∧ x1 ≤ (11 : Int) from by omega) (show (0 : Int) ≤ x2 + 1 ∧ x2 + 1 ≤ (6 : Int) from by omega) (show (0 : Int) ≤ x3 ∧ x3 ≤ (5 : Int) from by omega) (show (x2 + 1) ≤ x3 + 1 from by omega)
theorem sm_83_p4L {Q : Int → lf_Z → Prop} {x1 : Int} {x2 : Int} {x3 : Int} {s : lf_Z} (hQ : ∀ (r : Int), (0 ≤ r ∧ r ≤ 6) → Q r s) (hI : iv_A s.1 s.2.2) (bx1 : (-1) ≤ x1 ∧ x1 ≤ 11) (bx2 : 0 ≤ x2 ∧ x2 ≤ 6) (bx3 : 0 ≤ x3 ∧ x3 ≤ 6) (kv0 : x2 ≤ x3) : fm_83_p4L Q x1 x2 x3 s := by
  intro X4 hX
  have key : ∀ (m9 : Nat) (x2 : Int) (x3 : Int), 0 ≤ x2 ∧ x2 ≤ 6 → 0 ≤ x3 ∧ x3 ≤ 6 → (x2 ≤ x3) → (6 - x3).toNat < m9 → X4 x2 x3 s := by
    intro m9
    induction m9 with
    | zero => intro x2 x3 bx2 bx3 kv0 h9; exact absurd h9 (Nat.not_lt_zero _)
    | succ m9 ih => intro x2 x3 bx2 bx3 kv0 h9; exact hX _ _ _ (sm_83_p4 hQ   (fun x2' x3' bx2' bx3' kv0' h8 => ih x2' x3' bx2' bx3' kv0' (by omega)) (Nat.le_refl _)  hI  bx1 bx2 bx3  kv0)
  exact key _ _ _ bx2 bx3  kv0 (Nat.lt_succ_self _)
theorem sm_83 {a1 : Int} {Q : Int → lf_Z → Prop} {s : lf_Z} (hI : iv_A s.1 s.2.2) (ba1 : (-1) ≤ a1 ∧ a1 ≤ 11) (hQ : ∀ (r : Int), (0 ≤ r ∧ r ≤ 6) → Q r s) : fm_83 a1 Q s := by
  unfold fm_83
  exact sm_83_p4L hQ hI (show (-1 : Int) ≤ a1 ∧ a1 ≤ (11 : Int) from by omega) (show (0 : Int) ≤ 0 ∧ 0 ≤ (6 : Int) from by omega) (show (0 : Int) ≤ 0 ∧ 0 ≤ (6 : Int) from by omega) (show 0 ≤ 0 from by omega)
-- fm_82 Laws.nameAll 63 i i i
theorem sm_82_p43 {Q : lf_Z → Prop} {x2 : Int} {x3 : Int} {y1 : Int} {y2 : Int} {s : lf_Z} (hQ : ∀  (s' : lf_Z), iv_A s'.1 s'.2.2 → lf_fq [64] 1000000 true s.1 s.2.2 s'.1 s'.2.2 → Q  s') (hI : iv_A s.1 s.2.2) (bx2 : (-1) ≤ x2 ∧ x2 ≤ 11) (bx3 : 0 ≤ x3 ∧ x3 ≤ 1) (by1 : 2 ≤ y1 ∧ y1 ≤ 2) (by2 : 0 ≤ y2 ∧ y2 ≤ 3) : fm_82_p43 Q x2 x3 y1 y2 s := by
  unfold fm_82_p43
  refine ⟨(show (0 : Int) ≤ y1 ∧ y1 < (11 : Int) from by omega), ?_⟩
  have hI8 : iv_A (lf_up s.1 64 y1 y2) s.2.2 := iv_w64 hI (by omega)
  have fr9 : lf_fq [64] 1000000 true s.1 s.2.2 (lf_up s.1 64 y1 y2) s.2.2 := lf_fq_up (lf_fq_rf) rfl (fun h => absurd h (by decide))
  refine sm_83 hI8 (show (-1 : Int) ≤ x2 ∧ x2 ≤ (11 : Int) from by omega) (fun r25 q10 => ?_)
  have hI11 : iv_A (lf_up (lf_up s.1 64 y1 y2) 64 3 (r25 + x3)) s.2.2 := iv_w64 hI8 (by omega)
  have fr12 : lf_fq [64] 1000000 true s.1 s.2.2 (lf_up (lf_up s.1 64 y1 y2) 64 3 (r25 + x3)) s.2.2 := lf_fq_up fr9 rfl (fun h => absurd h (by decide))
  exact hQ (lf_up (lf_up s.1 64 y1 y2) 64 3 (r25 + x3), s.2.1, s.2.2) hI11 fr12
theorem sm_82 {a1 : Int} {a2 : Int} {a3 : Int} {Q : lf_Z → Prop} {s : lf_Z} (hI : iv_A s.1 s.2.2) (ba1 : (-2147483648) ≤ a1 ∧ a1 ≤ 2147483647) (ba2 : (-1) ≤ a2 ∧ a2 ≤ 11) (ba3 : 0 ≤ a3 ∧ a3 ≤ 1) (hQ : ∀  (s' : lf_Z), iv_A s'.1 s'.2.2 → lf_fq [64] 1000000 true s.1 s.2.2 s'.1 s'.2.2 → Q  s') : fm_82 a1 a2 a3 Q s := by
  unfold fm_82
  have hI1 : iv_A (lf_up s.1 64 0 a1) s.2.2 := iv_w64 hI (by omega)
  have fr2 : lf_fq [64] 1000000 true s.1 s.2.2 (lf_up s.1 64 0 a1) s.2.2 := lf_fq_up (lf_fq_rf) rfl (fun h => absurd h (by decide))
  have hI3 : iv_A (lf_up (lf_up s.1 64 0 a1) 64 1 a2) s.2.2 := iv_w64 hI1 (by omega)
  have fr4 : lf_fq [64] 1000000 true s.1 s.2.2 (lf_up (lf_up s.1 64 0 a1) 64 1 a2) s.2.2 := lf_fq_up fr2 rfl (fun h => absurd h (by decide))
  refine sm_18 hI3 (show (-2147483648 : Int) ≤ a2 ∧ a2 ≤ (2147483647 : Int) from by omega) (fun z22 q5 => ?_)
  replace q5 : (z22 = true → (0 ≤ a2 ∧ a2 < (s.1 1 0))) ∧ (z22 = false → ¬ (0 ≤ a2 ∧ a2 < (s.1 1 0))) := q5
  have b6 : 0 ≤ s.1 1 0 ∧ s.1 1 0 ≤ 12 := (show 0 ≤ (lf_up (lf_up s.1 64 0 a1) 64 1 a2) 1 0 ∧ (lf_up (lf_up s.1 64 0 a1) 64 1 a2) 1 0 ≤ 12 from iv_r1_0 hI3)
  refine ⟨fun c7 => ?_, fun c7 => ?_⟩
  · skip
    have dc7 := q5.2 c7
    exact sm_82_p43 (fun t9 i9 f9 => hQ t9 i9 (lf_fq_tr fr4 f9)) hI3 (show (-1 : Int) ≤ a2 ∧ a2 ≤ (11 : Int) from by omega) (show (0 : Int) ≤ a3 ∧ a3 ≤ (1 : Int) from by omega) (show (2 : Int) ≤ 2 ∧ 2 ≤ (2 : Int) from by omega) (show (0 : Int) ≤ 0 ∧ 0 ≤ (3 : Int) from by omega)
  · skip
    have dc7 := q5.1 c7
    refine ⟨(show (0 : Int) ≤ a2 ∧ a2 < (12 : Int) from by omega), ?_⟩
    have b13 : 0 ≤ s.1 2 a2 ∧ s.1 2 a2 ≤ 3 := (show 0 ≤ (lf_up (lf_up s.1 64 0 a1) 64 1 a2) 2 a2 ∧ (lf_up (lf_up s.1 64 0 a1) 64 1 a2) 2 a2 ≤ 3 from iv_r2 hI3 _)
    exact sm_82_p43 (fun t9 i9 f9 => hQ t9 i9 (lf_fq_tr fr4 f9)) hI3 (show (-1 : Int) ≤ a2 ∧ a2 ≤ (11 : Int) from by omega) (show (0 : Int) ≤ a3 ∧ a3 ≤ (1 : Int) from by omega) (show (2 : Int) ≤ 2 ∧ 2 ≤ (2 : Int) from by omega) (show (0 : Int) ≤ s.1 2 a2 ∧ s.1 2 a2 ≤ (3 : Int) from by omega)
-- fm_84 Laws.answer 63 n i
-- fm_86 Laws.pop 63
theorem sm_86 {Q : Int → lf_Z → Prop} {s : lf_Z} (hI : iv_A s.1 s.2.2) (hQ : ∀ (r : Int) (s' : lf_Z), iv_A s'.1 s'.2.2 → lf_fq [63] 1000000 true s.1 s.2.2 s'.1 s'.2.2 → ((-2147483648) ≤ r ∧ r ≤ 2147483647) → Q r s') : fm_86 Q s := by
  unfold fm_86
  have b1 : 0 ≤ s.1 63 6 ∧ s.1 63 6 ≤ 300 := iv_r63_6 hI
  refine ⟨(show lf_R (s.1 63 6) from lf_Rof (by omega)), ?_⟩
  refine ⟨fun c2 => ?_, fun c2 => ?_⟩
  · skip
    replace c2 : s.1 63 6 ≠ 0 := c2
    have hI3 : iv_A (lf_up s.1 63 6 ((s.1 63 6) - 1)) s.2.2 := iv_w63_6 hI (by omega)
    have fr4 : lf_fq [63] 1000000 true s.1 s.2.2 (lf_up s.1 63 6 ((s.1 63 6) - 1)) s.2.2 := lf_fq_up (lf_fq_rf) rfl (fun h => absurd h (by decide))
    refine ⟨(show (0 : Int) ≤ (s.1 63 6) - 1 ∧ (s.1 63 6) - 1 < (300 : Int) from by omega), ?_⟩
    have b5 : (-2147483648) ≤ s.1 66 ((s.1 63 6) - 1) ∧ s.1 66 ((s.1 63 6) - 1) ≤ 2147483647 := (show (-2147483648) ≤ (lf_up s.1 63 6 ((s.1 63 6) - 1)) 66 ((s.1 63 6) - 1) ∧ (lf_up s.1 63 6 ((s.1 63 6) - 1)) 66 ((s.1 63 6) - 1) ≤ 2147483647 from iv_full hI3)
    exact hQ (s.1 66 ((s.1 63 6) - 1)) (lf_up s.1 63 6 ((s.1 63 6) - 1), s.2.1, s.2.2) hI3 fr4 (show (-2147483648 : Int) ≤ s.1 66 ((s.1 63 6) - 1) ∧ s.1 66 ((s.1 63 6) - 1) ≤ (2147483647 : Int) from by omega)
  · skip
    replace c2 : ¬ (s.1 63 6 ≠ 0) := c2
    exact hQ 0 s hI (lf_fq_rf) (show (-2147483648 : Int) ≤ 0 ∧ 0 ≤ (2147483647 : Int) from by omega)
-- fm_87 Laws.joined i i i
theorem sm_87_p310 {Q : Int → lf_Z → Prop} {x1 : Int} {x2 : Int} {s : lf_Z} (hQ : ∀ (r : Int), ((-2147483648) ≤ r ∧ r ≤ 2147483647) → Q r s) (hI : iv_A s.1 s.2.2) (bx1 : (-2147483648) ≤ x1 ∧ x1 ≤ 2147483647) (bx2 : (-2147483648) ≤ x2 ∧ x2 ≤ 2147483647) : fm_87_p310 Q x1 x2 s := by
  unfold fm_87_p310
  refine ⟨(show lf_R x1 from lf_Rof (by omega)), ?_⟩
  refine ⟨(show lf_R x2 from lf_Rof (by omega)), ?_⟩
  refine ⟨fun c2 => ?_, fun c2 => ?_⟩
  · skip
    replace c2 : x1 = x2 := c2
    exact hQ 0 (show (-2147483648 : Int) ≤ 0 ∧ 0 ≤ (2147483647 : Int) from by omega)
  · skip
    replace c2 : ¬ (x1 = x2) := c2
    exact hQ 1 (show (-2147483648 : Int) ≤ 1 ∧ 1 ≤ (2147483647 : Int) from by omega)
theorem sm_87 {a0 : Int} {a1 : Int} {a2 : Int} {Q : Int → lf_Z → Prop} {s : lf_Z} (hI : iv_A s.1 s.2.2) (ba0 : (-214748) ≤ a0 ∧ a0 ≤ 214748) (ba1 : (-2147483648) ≤ a1 ∧ a1 ≤ 2147483647) (ba2 : (-2147483648) ≤ a2 ∧ a2 ≤ 2147483647) (hQ : ∀ (r : Int), ((-2147483648) ≤ r ∧ r ≤ 2147483647) → Q r s) : fm_87 a0 a1 a2 Q s := by
  unfold fm_87
  refine ⟨(show lf_R a0 from lf_Rof (by omega)), ?_⟩
  refine ⟨fun c1 => ?_, fun c1 => ?_, fun c1 => ?_, fun c1 => ?_, fun c1 => ?_, fun c1 => ?_, fun c1 => ?_, fun c1 => ?_, fun c1 => ?_, fun c1 => ?_, fun c1 => ?_, fun c1 => ?_, fun c1 => ?_, fun c1 => ?_, fun c1 => ?_, fun c1 => ?_, fun c1 => ?_, fun c1 => ?_, fun c1 => ?_, fun c1 => ?_, fun c1 => ?_, fun c1 => ?_, fun c1 => ?_, fun c1 => ?_, fun c1 => ?_, fun c1 => ?_, fun c1 => ?_, fun c1 => ?_, fun c1 => ?_, fun c1 => ?_, fun c1 => ?_, fun c1 => ?_, fun c1 => ?_, fun c1 => ?_, fun c1 => ?_, fun c1 => ?_, fun c1 => ?_, fun c1 => ?_, fun c1 => ?_, fun c1 => ?_, fun c1 => ?_, fun c1 => ?_, fun c1 => ?_, fun c1 => ?_⟩
  · replace c1 : a0 < 4 ∨ 46 < a0 := c1
    exact sm_87_p310 hQ hI (show (-2147483648 : Int) ≤ a1 ∧ a1 ≤ (2147483647 : Int) from by omega) (show (-2147483648 : Int) ≤ a2 ∧ a2 ≤ (2147483647 : Int) from by omega)
  · replace c1 : a0 = 4 := c1
    refine ⟨(show lf_R a1 from lf_Rof (by omega)), ?_⟩
    refine ⟨(show lf_R a2 from lf_Rof (by omega)), ?_⟩
    refine ⟨fun c3 => ?_, fun c3 => ?_⟩
    · skip
      replace c3 : a2 ≤ a1 := c3
      exact hQ 0 (show (-2147483648 : Int) ≤ 0 ∧ 0 ≤ (2147483647 : Int) from by omega)
    · skip
      replace c3 : ¬ (a2 ≤ a1) := c3
      exact hQ 1 (show (-2147483648 : Int) ≤ 1 ∧ 1 ≤ (2147483647 : Int) from by omega)
  · replace c1 : a0 = 5 := c1
    refine ⟨(show lf_R a1 from lf_Rof (by omega)), ?_⟩
    refine ⟨(show lf_R a2 from lf_Rof (by omega)), ?_⟩
    refine ⟨fun c4 => ?_, fun c4 => ?_⟩
    · skip
      replace c4 : a2 < a1 := c4
      exact hQ 0 (show (-2147483648 : Int) ≤ 0 ∧ 0 ≤ (2147483647 : Int) from by omega)
    · skip
      replace c4 : ¬ (a2 < a1) := c4
      exact hQ 1 (show (-2147483648 : Int) ≤ 1 ∧ 1 ≤ (2147483647 : Int) from by omega)
  · replace c1 : a0 = 6 := c1
    refine ⟨(show lf_R a1 from lf_Rof (by omega)), ?_⟩
    refine ⟨(show lf_R a2 from lf_Rof (by omega)), ?_⟩
    refine ⟨fun c5 => ?_, fun c5 => ?_⟩
    · skip
      replace c5 : a1 ≤ a2 := c5
      exact hQ 0 (show (-2147483648 : Int) ≤ 0 ∧ 0 ≤ (2147483647 : Int) from by omega)
    · skip
      replace c5 : ¬ (a1 ≤ a2) := c5
      exact hQ 1 (show (-2147483648 : Int) ≤ 1 ∧ 1 ≤ (2147483647 : Int) from by omega)
  · replace c1 : a0 = 7 := c1
    refine ⟨(show lf_R a1 from lf_Rof (by omega)), ?_⟩
    refine ⟨(show lf_R a2 from lf_Rof (by omega)), ?_⟩
    refine ⟨fun c6 => ?_, fun c6 => ?_⟩
    · skip
      replace c6 : a1 < a2 := c6
      exact hQ 0 (show (-2147483648 : Int) ≤ 0 ∧ 0 ≤ (2147483647 : Int) from by omega)
    · skip
      replace c6 : ¬ (a1 < a2) := c6
      exact hQ 1 (show (-2147483648 : Int) ≤ 1 ∧ 1 ≤ (2147483647 : Int) from by omega)
  · replace c1 : a0 = 8 := c1
    refine ⟨(show lf_R a1 from lf_Rof (by omega)), ?_⟩
    refine ⟨(show lf_R a2 from lf_Rof (by omega)), ?_⟩
    refine ⟨fun c7 => ?_, fun c7 => ?_⟩
    · skip
      replace c7 : a1 ≠ a2 := c7
      exact hQ 0 (show (-2147483648 : Int) ≤ 0 ∧ 0 ≤ (2147483647 : Int) from by omega)
    · skip
      replace c7 : ¬ (a1 ≠ a2) := c7
      exact hQ 1 (show (-2147483648 : Int) ≤ 1 ∧ 1 ≤ (2147483647 : Int) from by omega)
  · replace c1 : a0 = 9 := c1
    exact sm_87_p310 hQ hI (show (-2147483648 : Int) ≤ a1 ∧ a1 ≤ (2147483647 : Int) from by omega) (show (-2147483648 : Int) ≤ a2 ∧ a2 ≤ (2147483647 : Int) from by omega)
  · replace c1 : a0 = 10 := c1
    have b8 : (-2147483648) ≤ lf_w (a1 + a2) ∧ lf_w (a1 + a2) ≤ 2147483647 := lf_wB
    refine ⟨(show lf_R (min 1000000 (lf_w (a1 + a2))) from lf_Rof (by omega)), ?_⟩
    exact hQ (max (-1000000) (min 1000000 (lf_w (a1 + a2)))) (show (-2147483648 : Int) ≤ max (-1000000) (min 1000000 (lf_w (a1 + a2))) ∧ max (-1000000) (min 1000000 (lf_w (a1 + a2))) ≤ (2147483647 : Int) from by omega)
  · replace c1 : a0 = 11 := c1
    have b9 : (-2147483648) ≤ lf_w (a1 - a2) ∧ lf_w (a1 - a2) ≤ 2147483647 := lf_wB
    refine ⟨(show lf_R (min 1000000 (lf_w (a1 - a2))) from lf_Rof (by omega)), ?_⟩
    exact hQ (max (-1000000) (min 1000000 (lf_w (a1 - a2)))) (show (-2147483648 : Int) ≤ max (-1000000) (min 1000000 (lf_w (a1 - a2))) ∧ max (-1000000) (min 1000000 (lf_w (a1 - a2))) ≤ (2147483647 : Int) from by omega)
  · replace c1 : a0 = 12 := c1
    refine ⟨(show lf_R a1 from lf_Rof (by omega)), ?_⟩
    refine ⟨(show lf_R a2 from lf_Rof (by omega)), ?_⟩
    have b10 : (-2147483648) ≤ lf_w (lf_wl (max (-1000000) (lf_wl (min 1000000 (lf_wl (a1 * a2)))))) ∧ lf_w (lf_wl (max (-1000000) (lf_wl (min 1000000 (lf_wl (a1 * a2)))))) ≤ 2147483647 := lf_wB
    exact hQ (lf_w (lf_wl (max (-1000000) (lf_wl (min 1000000 (lf_wl (a1 * a2))))))) (show (-2147483648 : Int) ≤ lf_w (lf_wl (max (-1000000) (lf_wl (min 1000000 (lf_wl (a1 * a2)))))) ∧ lf_w (lf_wl (max (-1000000) (lf_wl (min 1000000 (lf_wl (a1 * a2)))))) ≤ (2147483647 : Int) from by omega)
  · replace c1 : a0 = 13 := c1
    refine ⟨(show lf_R a2 from lf_Rof (by omega)), ?_⟩
    refine ⟨fun c11 => ?_, fun c11 => ?_⟩
    · skip
      replace c11 : a2 ≠ 0 := c11
      refine ⟨(show lf_R a1 from lf_Rof (by omega)), ?_⟩
      refine ⟨(show a2 ≠ 0 from by omega), ?_⟩
      have b12 : (-2147483648) ≤ lf_w (a1.tdiv a2) ∧ lf_w (a1.tdiv a2) ≤ 2147483647 := lf_wB
      exact hQ (lf_w (a1.tdiv a2)) (show (-2147483648 : Int) ≤ lf_w (a1.tdiv a2) ∧ lf_w (a1.tdiv a2) ≤ (2147483647 : Int) from by omega)
    · skip
      replace c11 : ¬ (a2 ≠ 0) := c11
      exact hQ 0 (show (-2147483648 : Int) ≤ 0 ∧ 0 ≤ (2147483647 : Int) from by omega)
  · replace c1 : a0 = 14 := c1
    exact sm_87_p310 hQ hI (show (-2147483648 : Int) ≤ a1 ∧ a1 ≤ (2147483647 : Int) from by omega) (show (-2147483648 : Int) ≤ a2 ∧ a2 ≤ (2147483647 : Int) from by omega)
  · replace c1 : a0 = 15 := c1
    exact sm_87_p310 hQ hI (show (-2147483648 : Int) ≤ a1 ∧ a1 ≤ (2147483647 : Int) from by omega) (show (-2147483648 : Int) ≤ a2 ∧ a2 ≤ (2147483647 : Int) from by omega)
  · replace c1 : a0 = 16 := c1
    exact sm_87_p310 hQ hI (show (-2147483648 : Int) ≤ a1 ∧ a1 ≤ (2147483647 : Int) from by omega) (show (-2147483648 : Int) ≤ a2 ∧ a2 ≤ (2147483647 : Int) from by omega)
  · replace c1 : a0 = 17 := c1
    exact sm_87_p310 hQ hI (show (-2147483648 : Int) ≤ a1 ∧ a1 ≤ (2147483647 : Int) from by omega) (show (-2147483648 : Int) ≤ a2 ∧ a2 ≤ (2147483647 : Int) from by omega)
  · replace c1 : a0 = 18 := c1
    exact sm_87_p310 hQ hI (show (-2147483648 : Int) ≤ a1 ∧ a1 ≤ (2147483647 : Int) from by omega) (show (-2147483648 : Int) ≤ a2 ∧ a2 ≤ (2147483647 : Int) from by omega)
  · replace c1 : a0 = 19 := c1
    exact sm_87_p310 hQ hI (show (-2147483648 : Int) ≤ a1 ∧ a1 ≤ (2147483647 : Int) from by omega) (show (-2147483648 : Int) ≤ a2 ∧ a2 ≤ (2147483647 : Int) from by omega)
  · replace c1 : a0 = 20 := c1
    exact sm_87_p310 hQ hI (show (-2147483648 : Int) ≤ a1 ∧ a1 ≤ (2147483647 : Int) from by omega) (show (-2147483648 : Int) ≤ a2 ∧ a2 ≤ (2147483647 : Int) from by omega)
  · replace c1 : a0 = 21 := c1
    exact sm_87_p310 hQ hI (show (-2147483648 : Int) ≤ a1 ∧ a1 ≤ (2147483647 : Int) from by omega) (show (-2147483648 : Int) ≤ a2 ∧ a2 ≤ (2147483647 : Int) from by omega)
  · replace c1 : a0 = 22 := c1
    exact sm_87_p310 hQ hI (show (-2147483648 : Int) ≤ a1 ∧ a1 ≤ (2147483647 : Int) from by omega) (show (-2147483648 : Int) ≤ a2 ∧ a2 ≤ (2147483647 : Int) from by omega)
  · replace c1 : a0 = 23 := c1
    exact sm_87_p310 hQ hI (show (-2147483648 : Int) ≤ a1 ∧ a1 ≤ (2147483647 : Int) from by omega) (show (-2147483648 : Int) ≤ a2 ∧ a2 ≤ (2147483647 : Int) from by omega)
  · replace c1 : a0 = 24 := c1
    exact sm_87_p310 hQ hI (show (-2147483648 : Int) ≤ a1 ∧ a1 ≤ (2147483647 : Int) from by omega) (show (-2147483648 : Int) ≤ a2 ∧ a2 ≤ (2147483647 : Int) from by omega)
  · replace c1 : a0 = 25 := c1
    exact sm_87_p310 hQ hI (show (-2147483648 : Int) ≤ a1 ∧ a1 ≤ (2147483647 : Int) from by omega) (show (-2147483648 : Int) ≤ a2 ∧ a2 ≤ (2147483647 : Int) from by omega)
  · replace c1 : a0 = 26 := c1
    exact sm_87_p310 hQ hI (show (-2147483648 : Int) ≤ a1 ∧ a1 ≤ (2147483647 : Int) from by omega) (show (-2147483648 : Int) ≤ a2 ∧ a2 ≤ (2147483647 : Int) from by omega)
  · replace c1 : a0 = 27 := c1
    exact sm_87_p310 hQ hI (show (-2147483648 : Int) ≤ a1 ∧ a1 ≤ (2147483647 : Int) from by omega) (show (-2147483648 : Int) ≤ a2 ∧ a2 ≤ (2147483647 : Int) from by omega)
  · replace c1 : a0 = 28 := c1
    exact sm_87_p310 hQ hI (show (-2147483648 : Int) ≤ a1 ∧ a1 ≤ (2147483647 : Int) from by omega) (show (-2147483648 : Int) ≤ a2 ∧ a2 ≤ (2147483647 : Int) from by omega)
  · replace c1 : a0 = 29 := c1
    exact sm_87_p310 hQ hI (show (-2147483648 : Int) ≤ a1 ∧ a1 ≤ (2147483647 : Int) from by omega) (show (-2147483648 : Int) ≤ a2 ∧ a2 ≤ (2147483647 : Int) from by omega)
  · replace c1 : a0 = 30 := c1
    exact sm_87_p310 hQ hI (show (-2147483648 : Int) ≤ a1 ∧ a1 ≤ (2147483647 : Int) from by omega) (show (-2147483648 : Int) ≤ a2 ∧ a2 ≤ (2147483647 : Int) from by omega)
  · replace c1 : a0 = 31 := c1
    exact sm_87_p310 hQ hI (show (-2147483648 : Int) ≤ a1 ∧ a1 ≤ (2147483647 : Int) from by omega) (show (-2147483648 : Int) ≤ a2 ∧ a2 ≤ (2147483647 : Int) from by omega)
  · replace c1 : a0 = 32 := c1
    exact sm_87_p310 hQ hI (show (-2147483648 : Int) ≤ a1 ∧ a1 ≤ (2147483647 : Int) from by omega) (show (-2147483648 : Int) ≤ a2 ∧ a2 ≤ (2147483647 : Int) from by omega)
  · replace c1 : a0 = 33 := c1
    exact sm_87_p310 hQ hI (show (-2147483648 : Int) ≤ a1 ∧ a1 ≤ (2147483647 : Int) from by omega) (show (-2147483648 : Int) ≤ a2 ∧ a2 ≤ (2147483647 : Int) from by omega)
  · replace c1 : a0 = 34 := c1
    exact sm_87_p310 hQ hI (show (-2147483648 : Int) ≤ a1 ∧ a1 ≤ (2147483647 : Int) from by omega) (show (-2147483648 : Int) ≤ a2 ∧ a2 ≤ (2147483647 : Int) from by omega)
  · replace c1 : a0 = 35 := c1
    exact sm_87_p310 hQ hI (show (-2147483648 : Int) ≤ a1 ∧ a1 ≤ (2147483647 : Int) from by omega) (show (-2147483648 : Int) ≤ a2 ∧ a2 ≤ (2147483647 : Int) from by omega)
  · replace c1 : a0 = 36 := c1
    exact sm_87_p310 hQ hI (show (-2147483648 : Int) ≤ a1 ∧ a1 ≤ (2147483647 : Int) from by omega) (show (-2147483648 : Int) ≤ a2 ∧ a2 ≤ (2147483647 : Int) from by omega)
  · replace c1 : a0 = 37 := c1
    exact sm_87_p310 hQ hI (show (-2147483648 : Int) ≤ a1 ∧ a1 ≤ (2147483647 : Int) from by omega) (show (-2147483648 : Int) ≤ a2 ∧ a2 ≤ (2147483647 : Int) from by omega)
  · replace c1 : a0 = 38 := c1
    exact sm_87_p310 hQ hI (show (-2147483648 : Int) ≤ a1 ∧ a1 ≤ (2147483647 : Int) from by omega) (show (-2147483648 : Int) ≤ a2 ∧ a2 ≤ (2147483647 : Int) from by omega)
  · replace c1 : a0 = 39 := c1
    exact sm_87_p310 hQ hI (show (-2147483648 : Int) ≤ a1 ∧ a1 ≤ (2147483647 : Int) from by omega) (show (-2147483648 : Int) ≤ a2 ∧ a2 ≤ (2147483647 : Int) from by omega)
  · replace c1 : a0 = 40 := c1
    exact sm_87_p310 hQ hI (show (-2147483648 : Int) ≤ a1 ∧ a1 ≤ (2147483647 : Int) from by omega) (show (-2147483648 : Int) ≤ a2 ∧ a2 ≤ (2147483647 : Int) from by omega)
  · replace c1 : a0 = 41 := c1
    exact sm_87_p310 hQ hI (show (-2147483648 : Int) ≤ a1 ∧ a1 ≤ (2147483647 : Int) from by omega) (show (-2147483648 : Int) ≤ a2 ∧ a2 ≤ (2147483647 : Int) from by omega)
  · replace c1 : a0 = 42 := c1
    exact sm_87_p310 hQ hI (show (-2147483648 : Int) ≤ a1 ∧ a1 ≤ (2147483647 : Int) from by omega) (show (-2147483648 : Int) ≤ a2 ∧ a2 ≤ (2147483647 : Int) from by omega)
  · replace c1 : a0 = 43 := c1
    exact sm_87_p310 hQ hI (show (-2147483648 : Int) ≤ a1 ∧ a1 ≤ (2147483647 : Int) from by omega) (show (-2147483648 : Int) ≤ a2 ∧ a2 ≤ (2147483647 : Int) from by omega)
  · replace c1 : a0 = 44 := c1
    exact sm_87_p310 hQ hI (show (-2147483648 : Int) ≤ a1 ∧ a1 ≤ (2147483647 : Int) from by omega) (show (-2147483648 : Int) ≤ a2 ∧ a2 ≤ (2147483647 : Int) from by omega)
  · replace c1 : a0 = 45 := c1
    have b13 : (-2147483648) ≤ lf_and a1 a2 ∧ lf_and a1 a2 ≤ 2147483647 := lf_andF
    exact hQ (lf_and a1 a2) (show (-2147483648 : Int) ≤ lf_and a1 a2 ∧ lf_and a1 a2 ≤ (2147483647 : Int) from by omega)
  · replace c1 : a0 = 46 := c1
    have b14 : (-2147483648) ≤ lf_or a1 a2 ∧ lf_or a1 a2 ≤ 2147483647 := lf_orB
    exact hQ (lf_or a1 a2) (show (-2147483648 : Int) ≤ lf_or a1 a2 ∧ lf_or a1 a2 ≤ (2147483647 : Int) from by omega)
-- fm_85 Laws.push 63 i
theorem sm_85 {a1 : Int} {Q : lf_Z → Prop} {s : lf_Z} (hI : iv_A s.1 s.2.2) (ba1 : (-2147483648) ≤ a1 ∧ a1 ≤ 2147483647) (hQ : ∀  (s' : lf_Z), iv_A s'.1 s'.2.2 → lf_fq [63, 66] 1000000 true s.1 s.2.2 s'.1 s'.2.2 → Q  s') : fm_85 a1 Q s := by
  unfold fm_85
  have b1 : 0 ≤ s.1 63 6 ∧ s.1 63 6 ≤ 300 := iv_r63_6 hI
  refine ⟨(show lf_R (s.1 63 6) from lf_Rof (by omega)), ?_⟩
  refine ⟨fun c2 => ?_, fun c2 => ?_⟩
  · skip
    replace c2 : 300 ≤ s.1 63 6 := c2
    exact hQ s hI (lf_fq_rf)
  · skip
    replace c2 : ¬ (300 ≤ s.1 63 6) := c2
    refine ⟨(show (0 : Int) ≤ s.1 63 6 ∧ s.1 63 6 < (300 : Int) from by omega), ?_⟩
    have hI3 : iv_A (lf_up s.1 66 (s.1 63 6) a1) s.2.2 := iv_w66 hI (by omega)
    have fr4 : lf_fq [63, 66] 1000000 true s.1 s.2.2 (lf_up s.1 66 (s.1 63 6) a1) s.2.2 := lf_fq_up (lf_fq_rf) rfl (fun h => absurd h (by decide))
    have hI5 : iv_A (lf_up (lf_up s.1 66 (s.1 63 6) a1) 63 6 ((s.1 63 6) + 1)) s.2.2 := iv_w63_6 hI3 (by omega)
    have fr6 : lf_fq [63, 66] 1000000 true s.1 s.2.2 (lf_up (lf_up s.1 66 (s.1 63 6) a1) 63 6 ((s.1 63 6) + 1)) s.2.2 := lf_fq_up fr4 rfl (fun h => absurd h (by decide))
    exact hQ (lf_up (lf_up s.1 66 (s.1 63 6) a1) 63 6 ((s.1 63 6) + 1), s.2.1, s.2.2) hI5 fr6
-- fm_84b Laws.answer 63 t i
theorem sm_84b_p311 {Q : Int → lf_Z → Prop} {s : lf_Z} (hQ : ∀ (r : Int) (s' : lf_Z), iv_A s'.1 s'.2.2 → lf_fq [63, 65, 66] 1000000 true s.1 s.2.2 s'.1 s'.2.2 → ((-2147483648) ≤ r ∧ r ≤ 2147483647) → Q r s') (hI : iv_A s.1 s.2.2) : fm_84b_p311 Q s := by
  unfold fm_84b_p311
  refine sm_86 hI (fun r25 s24 hI9 fr8 q10 => ?_)
  have fr11 : lf_fq [63, 65, 66] 1000000 true s.1 s.2.2 s24.1 s24.2.2 := lf_fq_tr (lf_fq_rf) (lf_fq_wk fr8 rfl (by decide) (by decide))
  exact hQ r25 s24 hI9 fr11 (show (-2147483648 : Int) ≤ r25 ∧ r25 ≤ (2147483647 : Int) from by omega)
theorem sm_84b_p305 {X29 : Int → Int → lf_Z → Prop} {Q : Int → lf_Z → Prop} {u1 : Nat} {x3 : Int} {x4 : Int} {x5 : Int} {s : lf_Z} (hQ : ∀ (r : Int) (s' : lf_Z), iv_A s'.1 s'.2.2 → lf_fq [63, 65, 66] 1000000 true s.1 s.2.2 s'.1 s'.2.2 → ((-2147483648) ≤ r ∧ r ≤ 2147483647) → Q r s') {M29 : Nat} (hX29 : ∀ (x4 : Int) (x5 : Int) (s' : lf_Z), iv_A s'.1 s'.2.2 → lf_fq [63, 65, 66] 1000000 true s.1 s.2.2 s'.1 s'.2.2 → (-2147483648) ≤ x4 ∧ x4 ≤ 2147483647 → 0 ≤ x5 ∧ x5 ≤ 300 → (300 - x5).toNat < M29 → X29 x4 x5 s') (hM29 : (300 - x5).toNat ≤ M29) (hI : iv_A s.1 s.2.2) (bx3 : 1 ≤ x3 ∧ x3 ≤ 300) (bx4 : (-9999) ≤ x4 ∧ x4 ≤ 9999) (bx5 : 0 ≤ x5 ∧ x5 ≤ 299) (htu1 : u1 < 4) : fm_84b_p305 X29 Q u1 x3 x4 x5 s := by
  unfold fm_84b_p305
  exact hX29 (x4) (x5 + 1) s hI (lf_fq_rf) (show (-2147483648 : Int) ≤ x4 ∧ x4 ≤ (2147483647 : Int) from by omega) (show (0 : Int) ≤ x5 + 1 ∧ x5 + 1 ≤ (300 : Int) from by omega) (show (300 - (x5 + 1)).toNat < M29 from by omega)
theorem sm_84b_p208 {X29 : Int → Int → lf_Z → Prop} {Q : Int → lf_Z → Prop} {u1 : Nat} {x3 : Int} {x4 : Int} {x5 : Int} {y1 : Int} {s : lf_Z} (hQ : ∀ (r : Int) (s' : lf_Z), iv_A s'.1 s'.2.2 → lf_fq [63, 65, 66] 1000000 true s.1 s.2.2 s'.1 s'.2.2 → ((-2147483648) ≤ r ∧ r ≤ 2147483647) → Q r s') {M29 : Nat} (hX29 : ∀ (x4 : Int) (x5 : Int) (s' : lf_Z), iv_A s'.1 s'.2.2 → lf_fq [63, 65, 66] 1000000 true s.1 s.2.2 s'.1 s'.2.2 → (-2147483648) ≤ x4 ∧ x4 ≤ 2147483647 → 0 ≤ x5 ∧ x5 ≤ 300 → (300 - x5).toNat < M29 → X29 x4 x5 s') (hM29 : (300 - x5).toNat ≤ M29) (hI : iv_A s.1 s.2.2) (bx3 : 1 ≤ x3 ∧ x3 ≤ 300) (bx4 : 1 ≤ x4 ∧ x4 ≤ 300) (bx5 : 0 ≤ x5 ∧ x5 ≤ 299) (by1 : (-2147483648) ≤ y1 ∧ y1 ≤ 2147483647) (htu1 : u1 < 4) : fm_84b_p208 X29 Q u1 x3 x4 x5 y1 s := by
  unfold fm_84b_p208
  refine sm_85 hI (show (-2147483648 : Int) ≤ y1 ∧ y1 ≤ (2147483647 : Int) from by omega) (fun s40 hI38 fr37 => ?_)
  have fr40 : lf_fq [63, 65, 66] 1000000 true s.1 s.2.2 s40.1 s40.2.2 := lf_fq_tr (lf_fq_rf) (lf_fq_wk fr37 rfl (by decide) (by decide))
  exact sm_84b_p305 (fun r9 t9 i9 f9 => hQ r9 t9 i9 (lf_fq_tr fr40 f9)) (fun p0 p1 t9 i9 f9 => hX29 p0 p1 t9 i9 (lf_fq_tr fr40 f9)) (show (300 - x5).toNat ≤ M29 from by omega) hI38 (show (1 : Int) ≤ x3 ∧ x3 ≤ (300 : Int) from by omega) (show (-9999 : Int) ≤ x4 ∧ x4 ≤ (9999 : Int) from by omega) (show (0 : Int) ≤ x5 ∧ x5 ≤ (299 : Int) from by omega) htu1
theorem sm_84b_p183 {X29 : Int → Int → lf_Z → Prop} {Q : Int → lf_Z → Prop} {u1 : Nat} {x3 : Int} {x4 : Int} {x5 : Int} {y1 : Int} {s : lf_Z} (hQ : ∀ (r : Int) (s' : lf_Z), iv_A s'.1 s'.2.2 → lf_fq [63, 65, 66] 1000000 true s.1 s.2.2 s'.1 s'.2.2 → ((-2147483648) ≤ r ∧ r ≤ 2147483647) → Q r s') {M29 : Nat} (hX29 : ∀ (x4 : Int) (x5 : Int) (s' : lf_Z), iv_A s'.1 s'.2.2 → lf_fq [63, 65, 66] 1000000 true s.1 s.2.2 s'.1 s'.2.2 → (-2147483648) ≤ x4 ∧ x4 ≤ 2147483647 → 0 ≤ x5 ∧ x5 ≤ 300 → (300 - x5).toNat < M29 → X29 x4 x5 s') (hM29 : (300 - x5).toNat ≤ M29) (hI : iv_A s.1 s.2.2) (bx3 : 1 ≤ x3 ∧ x3 ≤ 300) (bx4 : 1 ≤ x4 ∧ x4 ≤ 300) (bx5 : 0 ≤ x5 ∧ x5 ≤ 299) (by1 : (-2147483648) ≤ y1 ∧ y1 ≤ 2147483647) (htu1 : u1 < 4) : fm_84b_p183 X29 Q u1 x3 x4 x5 y1 s := by
  unfold fm_84b_p183
  refine sm_85 hI (show (-2147483648 : Int) ≤ y1 ∧ y1 ≤ (2147483647 : Int) from by omega) (fun s43 hI44 fr43 => ?_)
  have fr46 : lf_fq [63, 65, 66] 1000000 true s.1 s.2.2 s43.1 s43.2.2 := lf_fq_tr (lf_fq_rf) (lf_fq_wk fr43 rfl (by decide) (by decide))
  exact sm_84b_p305 (fun r9 t9 i9 f9 => hQ r9 t9 i9 (lf_fq_tr fr46 f9)) (fun p0 p1 t9 i9 f9 => hX29 p0 p1 t9 i9 (lf_fq_tr fr46 f9)) (show (300 - x5).toNat ≤ M29 from by omega) hI44 (show (1 : Int) ≤ x3 ∧ x3 ≤ (300 : Int) from by omega) (show (-9999 : Int) ≤ x4 ∧ x4 ≤ (9999 : Int) from by omega) (show (0 : Int) ≤ x5 ∧ x5 ≤ (299 : Int) from by omega) htu1
theorem sm_84b_p247 {X29 : Int → Int → lf_Z → Prop} {Q : Int → lf_Z → Prop} {u1 : Nat} {x3 : Int} {x5 : Int} {y0 : Int} {s : lf_Z} (hQ : ∀ (r : Int) (s' : lf_Z), iv_A s'.1 s'.2.2 → lf_fq [63, 65, 66] 1000000 true s.1 s.2.2 s'.1 s'.2.2 → ((-2147483648) ≤ r ∧ r ≤ 2147483647) → Q r s') {M29 : Nat} (hX29 : ∀ (x4 : Int) (x5 : Int) (s' : lf_Z), iv_A s'.1 s'.2.2 → lf_fq [63, 65, 66] 1000000 true s.1 s.2.2 s'.1 s'.2.2 → (-2147483648) ≤ x4 ∧ x4 ≤ 2147483647 → 0 ≤ x5 ∧ x5 ≤ 300 → (300 - x5).toNat < M29 → X29 x4 x5 s') (hM29 : (300 - x5).toNat ≤ M29) (hI : iv_A s.1 s.2.2) (bx3 : 1 ≤ x3 ∧ x3 ≤ 300) (bx5 : 0 ≤ x5 ∧ x5 ≤ 299) (by0 : (-9999) ≤ y0 ∧ y0 ≤ 9999) (htu1 : u1 < 4) : fm_84b_p247 X29 Q u1 x3 x5 y0 s := by
  unfold fm_84b_p247
  exact sm_84b_p305 hQ hX29 (show (300 - x5).toNat ≤ M29 from by omega) hI (show (1 : Int) ≤ x3 ∧ x3 ≤ (300 : Int) from by omega) (show (-9999 : Int) ≤ y0 ∧ y0 ≤ (9999 : Int) from by omega) (show (0 : Int) ≤ x5 ∧ x5 ≤ (299 : Int) from by omega) htu1
theorem sm_84b_p29 {X29 : Int → Int → lf_Z → Prop} {Q : Int → lf_Z → Prop} {u1 : Nat} {x3 : Int} {x4 : Int} {x5 : Int} {s : lf_Z} (hQ : ∀ (r : Int) (s' : lf_Z), iv_A s'.1 s'.2.2 → lf_fq [63, 65, 66] 1000000 true s.1 s.2.2 s'.1 s'.2.2 → ((-2147483648) ≤ r ∧ r ≤ 2147483647) → Q r s') {M29 : Nat} (hX29 : ∀ (x4 : Int) (x5 : Int) (s' : lf_Z), iv_A s'.1 s'.2.2 → lf_fq [63, 65, 66] 1000000 true s.1 s.2.2 s'.1 s'.2.2 → (-2147483648) ≤ x4 ∧ x4 ≤ 2147483647 → 0 ≤ x5 ∧ x5 ≤ 300 → (300 - x5).toNat < M29 → X29 x4 x5 s') (hM29 : (300 - x5).toNat ≤ M29) (hI : iv_A s.1 s.2.2) (bx3 : (-2147483648) ≤ x3 ∧ x3 ≤ 300) (bx4 : (-2147483648) ≤ x4 ∧ x4 ≤ 2147483647) (bx5 : 0 ≤ x5 ∧ x5 ≤ 300) (htu1 : u1 < 4) : fm_84b_p29 Q u1 x3 X29 x4 x5 s := by
  unfold fm_84b_p29
  refine ⟨(show lf_R x5 from lf_Rof (by omega)), ?_⟩
  refine ⟨fun c7 => ?_, fun c7 => ?_⟩
  · skip
    replace c7 : 300 ≤ x5 := c7
    exact sm_84b_p311 hQ hI
  · skip
    replace c7 : ¬ (300 ≤ x5) := c7
    refine ⟨(show lf_R x4 from lf_Rof (by omega)), ?_⟩
    refine ⟨fun c12 => ?_, fun c12 => ?_⟩
    · skip
      replace c12 : x4 < 0 := c12
      exact sm_84b_p311 hQ hI
    · skip
      replace c12 : ¬ (x4 < 0) := c12
      refine ⟨(show lf_R x3 from lf_Rof (by omega)), ?_⟩
      refine ⟨fun c13 => ?_, fun c13 => ?_⟩
      · skip
        replace c13 : x3 ≤ x4 := c13
        exact sm_84b_p311 hQ hI
      · skip
        replace c13 : ¬ (x3 ≤ x4) := c13
        refine ⟨(show (0 : Int) ≤ x4 ∧ x4 < (300 : Int) from by omega), ?_⟩
        have b14 : (-2147483648) ≤ s.1 (36 + 7 * u1) x4 ∧ s.1 (36 + 7 * u1) x4 ≤ 2147483647 := iv_full hI
        refine ⟨(show lf_R (s.1 (36 + 7 * u1) x4) from lf_Rof (by omega)), ?_⟩
        have b15 : (-214748) ≤ (s.1 (36 + 7 * u1) x4).tdiv 10000 ∧ (s.1 (36 + 7 * u1) x4).tdiv 10000 ≤ 214748 := lf_tdivB (p := -2147483648) (q := 2147483647) (by omega) (by omega) (by decide) (by decide) (by decide)
        have b16 : (-9999) ≤ (s.1 (36 + 7 * u1) x4).tmod 10000 ∧ (s.1 (36 + 7 * u1) x4).tmod 10000 ≤ 9999 := lf_tmodM (by omega) (by omega)
        have b17 : (s.1 (36 + 7 * u1) x4).tdiv 10000 ≤ 0 ∨ 0 ≤ (s.1 (36 + 7 * u1) x4).tmod 10000 := lf_tmS (by decide)
        refine ⟨(show lf_R ((s.1 (36 + 7 * u1) x4).tdiv 10000) from lf_Rof (by omega)), ?_⟩
        refine ⟨fun c18 => ?_, fun c18 => ?_, fun c18 => ?_, fun c18 => ?_, fun c18 => ?_, fun c18 => ?_, fun c18 => ?_, fun c18 => ?_, fun c18 => ?_⟩
        · replace c18 : (s.1 (36 + 7 * u1) x4).tdiv 10000 ≠ 2 ∧ (s.1 (36 + 7 * u1) x4).tdiv 10000 ≠ 3 ∧ (s.1 (36 + 7 * u1) x4).tdiv 10000 ≠ 17 ∧ (s.1 (36 + 7 * u1) x4).tdiv 10000 ≠ 18 ∧ (s.1 (36 + 7 * u1) x4).tdiv 10000 ≠ 38 ∧ (s.1 (36 + 7 * u1) x4).tdiv 10000 ≠ 39 ∧ (s.1 (36 + 7 * u1) x4).tdiv 10000 ≠ 43 ∧ (s.1 (36 + 7 * u1) x4).tdiv 10000 ≠ 44 := c18
          refine sm_86 hI (fun r32 s31 hI20 fr19 q21 => ?_)
          have fr22 : lf_fq [63, 65, 66] 1000000 true s.1 s.2.2 s31.1 s31.2.2 := lf_fq_tr (lf_fq_rf) (lf_fq_wk fr19 rfl (by decide) (by decide))
          refine sm_86 hI20 (fun r34 s33 hI24 fr23 q25 => ?_)
          have fr26 : lf_fq [63, 65, 66] 1000000 true s.1 s.2.2 s33.1 s33.2.2 := lf_fq_tr fr22 (lf_fq_wk fr23 rfl (by decide) (by decide))
          refine sm_87 hI24 (show (-214748 : Int) ≤ (s.1 (36 + 7 * u1) x4).tdiv 10000 ∧ (s.1 (36 + 7 * u1) x4).tdiv 10000 ≤ (214748 : Int) from by omega) (show (-2147483648 : Int) ≤ r34 ∧ r34 ≤ (2147483647 : Int) from by omega) (show (-2147483648 : Int) ≤ r32 ∧ r32 ≤ (2147483647 : Int) from by omega) (fun r36 q27 => ?_)
          refine sm_85 hI24 (show (-2147483648 : Int) ≤ r36 ∧ r36 ≤ (2147483647 : Int) from by omega) (fun s37 hI29 fr28 => ?_)
          have fr31 : lf_fq [63, 65, 66] 1000000 true s.1 s.2.2 s37.1 s37.2.2 := lf_fq_tr fr26 (lf_fq_wk fr28 rfl (by decide) (by decide))
          exact sm_84b_p305 (fun r9 t9 i9 f9 => hQ r9 t9 i9 (lf_fq_tr fr31 f9)) (fun p0 p1 t9 i9 f9 => hX29 p0 p1 t9 i9 (lf_fq_tr fr31 f9)) (show (300 - x5).toNat ≤ M29 from by omega) hI29 (show (1 : Int) ≤ x3 ∧ x3 ≤ (300 : Int) from by omega) (show (-9999 : Int) ≤ x4 + 1 ∧ x4 + 1 ≤ (9999 : Int) from by omega) (show (0 : Int) ≤ x5 ∧ x5 ≤ (299 : Int) from by omega) htu1
        · replace c18 : (s.1 (36 + 7 * u1) x4).tdiv 10000 = 2 := c18
          refine sm_85 hI (show (-2147483648 : Int) ≤ (s.1 (36 + 7 * u1) x4).tmod 10000 ∧ (s.1 (36 + 7 * u1) x4).tmod 10000 ≤ (2147483647 : Int) from by omega) (fun s38 hI33 fr32 => ?_)
          have fr35 : lf_fq [63, 65, 66] 1000000 true s.1 s.2.2 s38.1 s38.2.2 := lf_fq_tr (lf_fq_rf) (lf_fq_wk fr32 rfl (by decide) (by decide))
          exact sm_84b_p305 (fun r9 t9 i9 f9 => hQ r9 t9 i9 (lf_fq_tr fr35 f9)) (fun p0 p1 t9 i9 f9 => hX29 p0 p1 t9 i9 (lf_fq_tr fr35 f9)) (show (300 - x5).toNat ≤ M29 from by omega) hI33 (show (1 : Int) ≤ x3 ∧ x3 ≤ (300 : Int) from by omega) (show (-9999 : Int) ≤ x4 + 1 ∧ x4 + 1 ≤ (9999 : Int) from by omega) (show (0 : Int) ≤ x5 ∧ x5 ≤ (299 : Int) from by omega) htu1
        · replace c18 : (s.1 (36 + 7 * u1) x4).tdiv 10000 = 3 := c18
          refine ⟨(show lf_R ((s.1 (36 + 7 * u1) x4).tmod 10000) from lf_Rof (by omega)), ?_⟩
          refine ⟨fun c36 => ?_, fun c36 => ?_⟩
          · skip
            replace c36 : 8 ≤ (s.1 (36 + 7 * u1) x4).tmod 10000 := c36
            exact sm_84b_p208 hQ hX29 (show (300 - x5).toNat ≤ M29 from by omega) hI (show (1 : Int) ≤ x3 ∧ x3 ≤ (300 : Int) from by omega) (show (1 : Int) ≤ x4 + 1 ∧ x4 + 1 ≤ (300 : Int) from by omega) (show (0 : Int) ≤ x5 ∧ x5 ≤ (299 : Int) from by omega) (show (-2147483648 : Int) ≤ 0 ∧ 0 ≤ (2147483647 : Int) from by omega) htu1
          · skip
            replace c36 : ¬ (8 ≤ (s.1 (36 + 7 * u1) x4).tmod 10000) := c36
            refine ⟨(show (0 : Int) ≤ (s.1 (36 + 7 * u1) x4).tmod 10000 ∧ (s.1 (36 + 7 * u1) x4).tmod 10000 < (8 : Int) from by omega), ?_⟩
            have b41 : (-2147483648) ≤ s.1 65 ((s.1 (36 + 7 * u1) x4).tmod 10000) ∧ s.1 65 ((s.1 (36 + 7 * u1) x4).tmod 10000) ≤ 2147483647 := iv_full hI
            exact sm_84b_p208 hQ hX29 (show (300 - x5).toNat ≤ M29 from by omega) hI (show (1 : Int) ≤ x3 ∧ x3 ≤ (300 : Int) from by omega) (show (1 : Int) ≤ x4 + 1 ∧ x4 + 1 ≤ (300 : Int) from by omega) (show (0 : Int) ≤ x5 ∧ x5 ≤ (299 : Int) from by omega) (show (-2147483648 : Int) ≤ s.1 65 ((s.1 (36 + 7 * u1) x4).tmod 10000) ∧ s.1 65 ((s.1 (36 + 7 * u1) x4).tmod 10000) ≤ (2147483647 : Int) from by omega) htu1
        · replace c18 : (s.1 (36 + 7 * u1) x4).tdiv 10000 = 17 := c18
          refine ⟨(show lf_R ((s.1 (36 + 7 * u1) x4).tmod 10000) from lf_Rof (by omega)), ?_⟩
          refine ⟨fun c42 => ?_, fun c42 => ?_⟩
          · skip
            replace c42 : 11 ≤ (s.1 (36 + 7 * u1) x4).tmod 10000 := c42
            exact sm_84b_p183 hQ hX29 (show (300 - x5).toNat ≤ M29 from by omega) hI (show (1 : Int) ≤ x3 ∧ x3 ≤ (300 : Int) from by omega) (show (1 : Int) ≤ x4 + 1 ∧ x4 + 1 ≤ (300 : Int) from by omega) (show (0 : Int) ≤ x5 ∧ x5 ≤ (299 : Int) from by omega) (show (-2147483648 : Int) ≤ 0 ∧ 0 ≤ (2147483647 : Int) from by omega) htu1
          · skip
            replace c42 : ¬ (11 ≤ (s.1 (36 + 7 * u1) x4).tmod 10000) := c42
            refine ⟨(show (0 : Int) ≤ (s.1 (36 + 7 * u1) x4).tmod 10000 ∧ (s.1 (36 + 7 * u1) x4).tmod 10000 < (11 : Int) from by omega), ?_⟩
            have b47 : (-2147483648) ≤ s.1 64 ((s.1 (36 + 7 * u1) x4).tmod 10000) ∧ s.1 64 ((s.1 (36 + 7 * u1) x4).tmod 10000) ≤ 2147483647 := iv_full hI
            exact sm_84b_p183 hQ hX29 (show (300 - x5).toNat ≤ M29 from by omega) hI (show (1 : Int) ≤ x3 ∧ x3 ≤ (300 : Int) from by omega) (show (1 : Int) ≤ x4 + 1 ∧ x4 + 1 ≤ (300 : Int) from by omega) (show (0 : Int) ≤ x5 ∧ x5 ≤ (299 : Int) from by omega) (show (-2147483648 : Int) ≤ s.1 64 ((s.1 (36 + 7 * u1) x4).tmod 10000) ∧ s.1 64 ((s.1 (36 + 7 * u1) x4).tmod 10000) ≤ (2147483647 : Int) from by omega) htu1
        · replace c18 : (s.1 (36 + 7 * u1) x4).tdiv 10000 = 18 := c18
          refine sm_86 hI (fun r46 s45 hI49 fr48 q50 => ?_)
          have fr51 : lf_fq [63, 65, 66] 1000000 true s.1 s.2.2 s45.1 s45.2.2 := lf_fq_tr (lf_fq_rf) (lf_fq_wk fr48 rfl (by decide) (by decide))
          have b52 : (-2147483648) ≤ lf_w (-r46) ∧ lf_w (-r46) ≤ 2147483647 := lf_wB
          refine sm_85 hI49 (show (-2147483648 : Int) ≤ lf_w (-r46) ∧ lf_w (-r46) ≤ (2147483647 : Int) from by omega) (fun s47 hI54 fr53 => ?_)
          have fr56 : lf_fq [63, 65, 66] 1000000 true s.1 s.2.2 s47.1 s47.2.2 := lf_fq_tr fr51 (lf_fq_wk fr53 rfl (by decide) (by decide))
          exact sm_84b_p305 (fun r9 t9 i9 f9 => hQ r9 t9 i9 (lf_fq_tr fr56 f9)) (fun p0 p1 t9 i9 f9 => hX29 p0 p1 t9 i9 (lf_fq_tr fr56 f9)) (show (300 - x5).toNat ≤ M29 from by omega) hI54 (show (1 : Int) ≤ x3 ∧ x3 ≤ (300 : Int) from by omega) (show (-9999 : Int) ≤ x4 + 1 ∧ x4 + 1 ≤ (9999 : Int) from by omega) (show (0 : Int) ≤ x5 ∧ x5 ≤ (299 : Int) from by omega) htu1
        · replace c18 : (s.1 (36 + 7 * u1) x4).tdiv 10000 = 38 := c18
          refine sm_86 hI (fun r49 s48 hI58 fr57 q59 => ?_)
          have fr60 : lf_fq [63, 65, 66] 1000000 true s.1 s.2.2 s48.1 s48.2.2 := lf_fq_tr (lf_fq_rf) (lf_fq_wk fr57 rfl (by decide) (by decide))
          refine ⟨(show lf_R r49 from lf_Rof (by omega)), ?_⟩
          refine ⟨fun c61 => ?_, fun c61 => ?_⟩
          · skip
            replace c61 : r49 ≠ 0 := c61
            exact sm_84b_p247 (fun r9 t9 i9 f9 => hQ r9 t9 i9 (lf_fq_tr fr60 f9)) (fun p0 p1 t9 i9 f9 => hX29 p0 p1 t9 i9 (lf_fq_tr fr60 f9)) (show (300 - x5).toNat ≤ M29 from by omega) hI58 (show (1 : Int) ≤ x3 ∧ x3 ≤ (300 : Int) from by omega) (show (0 : Int) ≤ x5 ∧ x5 ≤ (299 : Int) from by omega) (show (-9999 : Int) ≤ x4 + 1 ∧ x4 + 1 ≤ (9999 : Int) from by omega) htu1
          · skip
            replace c61 : ¬ (r49 ≠ 0) := c61
            exact sm_84b_p247 (fun r9 t9 i9 f9 => hQ r9 t9 i9 (lf_fq_tr fr60 f9)) (fun p0 p1 t9 i9 f9 => hX29 p0 p1 t9 i9 (lf_fq_tr fr60 f9)) (show (300 - x5).toNat ≤ M29 from by omega) hI58 (show (1 : Int) ≤ x3 ∧ x3 ≤ (300 : Int) from by omega) (show (0 : Int) ≤ x5 ∧ x5 ≤ (299 : Int) from by omega) (show (-9999 : Int) ≤ (s.1 (36 + 7 * u1) x4).tmod 10000 ∧ (s.1 (36 + 7 * u1) x4).tmod 10000 ≤ (9999 : Int) from by omega) htu1
        · replace c18 : (s.1 (36 + 7 * u1) x4).tdiv 10000 = 39 := c18
          exact sm_84b_p305 hQ hX29 (show (300 - x5).toNat ≤ M29 from by omega) hI (show (1 : Int) ≤ x3 ∧ x3 ≤ (300 : Int) from by omega) (show (-9999 : Int) ≤ (s.1 (36 + 7 * u1) x4).tmod 10000 ∧ (s.1 (36 + 7 * u1) x4).tmod 10000 ≤ (9999 : Int) from by omega) (show (0 : Int) ≤ x5 ∧ x5 ≤ (299 : Int) from by omega) htu1
        · replace c18 : (s.1 (36 + 7 * u1) x4).tdiv 10000 = 43 := c18
          refine ⟨(show lf_R ((s.1 (36 + 7 * u1) x4).tmod 10000) from lf_Rof (by omega)), ?_⟩
          refine sm_86 hI (fun r53 s52 hI63 fr62 q64 => ?_)
          have fr65 : lf_fq [63, 65, 66] 1000000 true s.1 s.2.2 s52.1 s52.2.2 := lf_fq_tr (lf_fq_rf) (lf_fq_wk fr62 rfl (by decide) (by decide))
          refine ⟨(show (0 : Int) ≤ min ((s.1 (36 + 7 * u1) x4).tmod 10000) 7 ∧ min ((s.1 (36 + 7 * u1) x4).tmod 10000) 7 < (8 : Int) from by omega), ?_⟩
          have hI66 : iv_A (lf_up s52.1 65 (min ((s.1 (36 + 7 * u1) x4).tmod 10000) 7) r53) s52.2.2 := iv_w65 hI63 (by omega)
          have fr67 : lf_fq [63, 65, 66] 1000000 true s.1 s.2.2 (lf_up s52.1 65 (min ((s.1 (36 + 7 * u1) x4).tmod 10000) 7) r53) s52.2.2 := lf_fq_up fr65 rfl (fun h => absurd h (by decide))
          exact sm_84b_p305 (fun r9 t9 i9 f9 => hQ r9 t9 i9 (lf_fq_tr fr67 f9)) (fun p0 p1 t9 i9 f9 => hX29 p0 p1 t9 i9 (lf_fq_tr fr67 f9)) (show (300 - x5).toNat ≤ M29 from by omega) hI66 (show (1 : Int) ≤ x3 ∧ x3 ≤ (300 : Int) from by omega) (show (-9999 : Int) ≤ x4 + 1 ∧ x4 + 1 ≤ (9999 : Int) from by omega) (show (0 : Int) ≤ x5 ∧ x5 ≤ (299 : Int) from by omega) htu1
        · replace c18 : (s.1 (36 + 7 * u1) x4).tdiv 10000 = 44 := c18
          refine sm_86 hI (fun r56 s55 hI69 fr68 q70 => ?_)
          have fr71 : lf_fq [63, 65, 66] 1000000 true s.1 s.2.2 s55.1 s55.2.2 := lf_fq_tr (lf_fq_rf) (lf_fq_wk fr68 rfl (by decide) (by decide))
          have b72 : (-2147483648) ≤ lf_w (1 - r56) ∧ lf_w (1 - r56) ≤ 2147483647 := lf_wB
          refine sm_85 hI69 (show (-2147483648 : Int) ≤ lf_w (1 - r56) ∧ lf_w (1 - r56) ≤ (2147483647 : Int) from by omega) (fun s57 hI74 fr73 => ?_)
          have fr76 : lf_fq [63, 65, 66] 1000000 true s.1 s.2.2 s57.1 s57.2.2 := lf_fq_tr fr71 (lf_fq_wk fr73 rfl (by decide) (by decide))
          exact sm_84b_p305 (fun r9 t9 i9 f9 => hQ r9 t9 i9 (lf_fq_tr fr76 f9)) (fun p0 p1 t9 i9 f9 => hX29 p0 p1 t9 i9 (lf_fq_tr fr76 f9)) (show (300 - x5).toNat ≤ M29 from by omega) hI74 (show (1 : Int) ≤ x3 ∧ x3 ≤ (300 : Int) from by omega) (show (-9999 : Int) ≤ x4 + 1 ∧ x4 + 1 ≤ (9999 : Int) from by omega) (show (0 : Int) ≤ x5 ∧ x5 ≤ (299 : Int) from by omega) htu1
theorem sm_84b_p29L {Q : Int → lf_Z → Prop} {u1 : Nat} {x3 : Int} {x4 : Int} {x5 : Int} {s : lf_Z} (hQ : ∀ (r : Int) (s' : lf_Z), iv_A s'.1 s'.2.2 → lf_fq [63, 65, 66] 1000000 true s.1 s.2.2 s'.1 s'.2.2 → ((-2147483648) ≤ r ∧ r ≤ 2147483647) → Q r s') (hI : iv_A s.1 s.2.2) (bx3 : (-2147483648) ≤ x3 ∧ x3 ≤ 300) (bx4 : (-2147483648) ≤ x4 ∧ x4 ≤ 2147483647) (bx5 : 0 ≤ x5 ∧ x5 ≤ 300) (htu1 : u1 < 4) : fm_84b_p29L Q u1 x3 x4 x5 s := by
  intro X29 hX
  have key : ∀ (m9 : Nat) (x4 : Int) (x5 : Int) (s' : lf_Z), iv_A s'.1 s'.2.2 → lf_fq [63, 65, 66] 1000000 true s.1 s.2.2 s'.1 s'.2.2 → (-2147483648) ≤ x4 ∧ x4 ≤ 2147483647 → 0 ≤ x5 ∧ x5 ≤ 300 → (300 - x5).toNat < m9 → X29 x4 x5 s' := by
    intro m9
    induction m9 with
    | zero => intro x4 x5 s' _ _ bx4 bx5 h9; exact absurd h9 (Nat.not_lt_zero _)
    | succ m9 ih => intro x4 x5 s' i7 f7 bx4 bx5 h9; exact hX _ _ _ (sm_84b_p29 (fun r9 t9 i9 f9 => hQ r9 t9 i9 (lf_fq_tr f7 f9))   (fun x4' x5' t8 i8 f8 bx4' bx5' h8 => ih x4' x5' t8 i8 (lf_fq_tr f7 f8) bx4' bx5' (by omega)) (Nat.le_refl _)  i7  bx3 bx4 bx5 htu1 )
  exact key _ _ _ s hI lf_fq_rf bx4 bx5 (Nat.lt_succ_self _)
theorem sm_84b {t1 : Nat} {a2 : Int} {Q : Int → lf_Z → Prop} {s : lf_Z} (htt1 : t1 < 4) (hI : iv_A s.1 s.2.2) (ba2 : 0 ≤ a2 ∧ a2 ≤ 2) (hQ : ∀ (r : Int) (s' : lf_Z), iv_A s'.1 s'.2.2 → lf_fq [63, 65, 66] 1000000 true s.1 s.2.2 s'.1 s'.2.2 → ((-2147483648) ≤ r ∧ r ≤ 2147483647) → Q r s') : fm_84b t1 a2 Q s := by
  unfold fm_84b
  have hI1 : iv_A (lf_up s.1 63 6 0) s.2.2 := iv_w63_6 hI (by omega)
  have fr2 : lf_fq [63, 65, 66] 1000000 true s.1 s.2.2 (lf_up s.1 63 6 0) s.2.2 := lf_fq_up (lf_fq_rf) rfl (fun h => absurd h (by decide))
  refine ⟨(show (0 : Int) ≤ a2 ∧ a2 < (3 : Int) from by omega), ?_⟩
  have b3 : (-2147483648) ≤ (lf_up s.1 63 6 0) (38 + 7 * t1) a2 ∧ (lf_up s.1 63 6 0) (38 + 7 * t1) a2 ≤ 2147483647 := iv_full hI1
  have b4 : (lf_up s.1 63 6 0) (38 + 7 * t1) a2 = s.1 (38 + 7 * t1) a2 := lf_up_c (by omega)
  refine ⟨(show lf_R ((lf_up s.1 63 6 0) (38 + 7 * t1) a2) from lf_Rof (by omega)), ?_⟩
  have b5 : (-2147483648) ≤ (lf_up s.1 63 6 0) (37 + 7 * t1) a2 ∧ (lf_up s.1 63 6 0) (37 + 7 * t1) a2 ≤ 2147483647 := iv_full hI1
  have b6 : (lf_up s.1 63 6 0) (37 + 7 * t1) a2 = s.1 (37 + 7 * t1) a2 := lf_up_c (by omega)
  exact sm_84b_p29L (fun r9 t9 i9 f9 => hQ r9 t9 i9 (lf_fq_tr fr2 f9)) hI1 (show (-2147483648 : Int) ≤ min ((lf_up s.1 63 6 0) (38 + 7 * t1) a2) 300 ∧ min ((lf_up s.1 63 6 0) (38 + 7 * t1) a2) 300 ≤ (300 : Int) from by omega) (show (-2147483648 : Int) ≤ (lf_up s.1 63 6 0) (37 + 7 * t1) a2 ∧ (lf_up s.1 63 6 0) (37 + 7 * t1) a2 ≤ (2147483647 : Int) from by omega) (show (0 : Int) ≤ 0 ∧ 0 ≤ (300 : Int) from by omega) htt1
-- fm_91 Laws.chanceOf 63 i i i i i i
theorem sm_91_p118 {Q : Int → lf_Z → Prop} {x8 : Int} {s : lf_Z} (hQ : ∀ (r : Int) (s' : lf_Z), iv_A s'.1 s'.2.2 → lf_fq [63, 64, 65, 66] 1000000 true s.1 s.2.2 s'.1 s'.2.2 → (0 ≤ r ∧ r ≤ 1000000) → Q r s') (hI : iv_A s.1 s.2.2) (bx8 : (-2147483648) ≤ x8 ∧ x8 ≤ 2147483647) : fm_91_p118 Q x8 s := by
  unfold fm_91_p118
  refine ⟨(show lf_R x8 from lf_Rof (by omega)), ?_⟩
  refine ⟨fun c6 => ?_, fun c6 => ?_⟩
  · skip
    replace c6 : x8 ≤ 0 := c6
    exact hQ 5 s hI (lf_fq_rf) (show (0 : Int) ≤ 5 ∧ 5 ≤ (1000000 : Int) from by omega)
  · skip
    replace c6 : ¬ (x8 ≤ 0) := c6
    exact hQ 0 s hI (lf_fq_rf) (show (0 : Int) ≤ 0 ∧ 0 ≤ (1000000 : Int) from by omega)
theorem sm_91_p94 {X29 : Int → Int → Int → lf_Z → Prop} {Q : Int → lf_Z → Prop} {x1 : Int} {x2 : Int} {x3 : Int} {x4 : Int} {x5 : Int} {x7 : Int} {x8 : Int} {x9 : Int} {x10 : Int} {s : lf_Z} (hQ : ∀ (r : Int) (s' : lf_Z), iv_A s'.1 s'.2.2 → lf_fq [63, 64, 65, 66] 1000000 true s.1 s.2.2 s'.1 s'.2.2 → (0 ≤ r ∧ r ≤ 1000000) → Q r s') {M29 : Nat} (hX29 : ∀ (x8 : Int) (x9 : Int) (x10 : Int) (s' : lf_Z), iv_A s'.1 s'.2.2 → lf_fq [63, 64, 65, 66] 1000000 true s.1 s.2.2 s'.1 s'.2.2 → (-2147483648) ≤ x8 ∧ x8 ≤ 2147483647 → (-2147483648) ≤ x9 ∧ x9 ≤ 2147483647 → 0 ≤ x10 ∧ x10 ≤ 6 → (6 - x10).toNat < M29 → X29 x8 x9 x10 s') (hM29 : (6 - x10).toNat ≤ M29) (hI : iv_A s.1 s.2.2) (bx1 : (-2147483648) ≤ x1 ∧ x1 ≤ 2147483647) (bx2 : (-1) ≤ x2 ∧ x2 ≤ 11) (bx3 : 0 ≤ x3 ∧ x3 ≤ 15) (bx4 : 0 ≤ x4 ∧ x4 ≤ 1) (bx5 : 0 ≤ x5 ∧ x5 ≤ 1) (bx7 : 0 ≤ x7 ∧ x7 ≤ 11) (bx8 : (-2147483648) ≤ x8 ∧ x8 ≤ 2147483647) (bx9 : (-2147483648) ≤ x9 ∧ x9 ≤ 2147483647) (bx10 : 0 ≤ x10 ∧ x10 ≤ 5) : fm_91_p94 X29 Q x1 x2 x3 x4 x5 x7 x8 x9 x10 s := by
  unfold fm_91_p94
  exact hX29 (x8) (x9) (x10 + 1) s hI (lf_fq_rf) (show (-2147483648 : Int) ≤ x8 ∧ x8 ≤ (2147483647 : Int) from by omega) (show (-2147483648 : Int) ≤ x9 ∧ x9 ≤ (2147483647 : Int) from by omega) (show (0 : Int) ≤ x10 + 1 ∧ x10 + 1 ≤ (6 : Int) from by omega) (show (6 - (x10 + 1)).toNat < M29 from by omega)
theorem sm_91_p91 {X29 : Int → Int → Int → lf_Z → Prop} {Q : Int → lf_Z → Prop} {x1 : Int} {x2 : Int} {x3 : Int} {x4 : Int} {x5 : Int} {x7 : Int} {x8 : Int} {x10 : Int} {y0 : Int} {y1 : Int} {s : lf_Z} (hQ : ∀ (r : Int) (s' : lf_Z), iv_A s'.1 s'.2.2 → lf_fq [63, 64, 65, 66] 1000000 true s.1 s.2.2 s'.1 s'.2.2 → (0 ≤ r ∧ r ≤ 1000000) → Q r s') {M29 : Nat} (hX29 : ∀ (x8 : Int) (x9 : Int) (x10 : Int) (s' : lf_Z), iv_A s'.1 s'.2.2 → lf_fq [63, 64, 65, 66] 1000000 true s.1 s.2.2 s'.1 s'.2.2 → (-2147483648) ≤ x8 ∧ x8 ≤ 2147483647 → (-2147483648) ≤ x9 ∧ x9 ≤ 2147483647 → 0 ≤ x10 ∧ x10 ≤ 6 → (6 - x10).toNat < M29 → X29 x8 x9 x10 s') (hM29 : (6 - x10).toNat ≤ M29) (hI : iv_A s.1 s.2.2) (bx1 : (-2147483648) ≤ x1 ∧ x1 ≤ 2147483647) (bx2 : (-1) ≤ x2 ∧ x2 ≤ 11) (bx3 : 0 ≤ x3 ∧ x3 ≤ 15) (bx4 : 0 ≤ x4 ∧ x4 ≤ 1) (bx5 : 0 ≤ x5 ∧ x5 ≤ 1) (bx7 : 0 ≤ x7 ∧ x7 ≤ 11) (bx8 : (-2147483648) ≤ x8 ∧ x8 ≤ 2147483647) (bx10 : 0 ≤ x10 ∧ x10 ≤ 5) (by0 : (-2147483648) ≤ y0 ∧ y0 ≤ 2147483647) (by1 : 0 ≤ y1 ∧ y1 ≤ 1) : fm_91_p91 X29 Q x1 x2 x3 x4 x5 x7 x8 x10 y0 y1 s := by
  unfold fm_91_p91
  have b44 : (-2147483648) ≤ lf_w (y0 + y1) ∧ lf_w (y0 + y1) ≤ 2147483647 := lf_wB
  exact sm_91_p94 hQ hX29 (show (6 - x10).toNat ≤ M29 from by omega) hI (show (-2147483648 : Int) ≤ x1 ∧ x1 ≤ (2147483647 : Int) from by omega) (show (-1 : Int) ≤ x2 ∧ x2 ≤ (11 : Int) from by omega) (show (0 : Int) ≤ x3 ∧ x3 ≤ (15 : Int) from by omega) (show (0 : Int) ≤ x4 ∧ x4 ≤ (1 : Int) from by omega) (show (0 : Int) ≤ x5 ∧ x5 ≤ (1 : Int) from by omega) (show (0 : Int) ≤ x7 ∧ x7 ≤ (11 : Int) from by omega) (show (-2147483648 : Int) ≤ x8 ∧ x8 ≤ (2147483647 : Int) from by omega) (show (-2147483648 : Int) ≤ lf_w (y0 + y1) ∧ lf_w (y0 + y1) ≤ (2147483647 : Int) from by omega) (show (0 : Int) ≤ x10 ∧ x10 ≤ (5 : Int) from by omega)
theorem sm_91_p29 {X29 : Int → Int → Int → lf_Z → Prop} {Q : Int → lf_Z → Prop} {x1 : Int} {x2 : Int} {x3 : Int} {x4 : Int} {x5 : Int} {x7 : Int} {x8 : Int} {x9 : Int} {x10 : Int} {s : lf_Z} (hQ : ∀ (r : Int) (s' : lf_Z), iv_A s'.1 s'.2.2 → lf_fq [63, 64, 65, 66] 1000000 true s.1 s.2.2 s'.1 s'.2.2 → (0 ≤ r ∧ r ≤ 1000000) → Q r s') {M29 : Nat} (hX29 : ∀ (x8 : Int) (x9 : Int) (x10 : Int) (s' : lf_Z), iv_A s'.1 s'.2.2 → lf_fq [63, 64, 65, 66] 1000000 true s.1 s.2.2 s'.1 s'.2.2 → (-2147483648) ≤ x8 ∧ x8 ≤ 2147483647 → (-2147483648) ≤ x9 ∧ x9 ≤ 2147483647 → 0 ≤ x10 ∧ x10 ≤ 6 → (6 - x10).toNat < M29 → X29 x8 x9 x10 s') (hM29 : (6 - x10).toNat ≤ M29) (hI : iv_A s.1 s.2.2) (bx1 : (-2147483648) ≤ x1 ∧ x1 ≤ 2147483647) (bx2 : (-1) ≤ x2 ∧ x2 ≤ 11) (bx3 : 0 ≤ x3 ∧ x3 ≤ 15) (bx4 : 0 ≤ x4 ∧ x4 ≤ 1) (bx5 : 0 ≤ x5 ∧ x5 ≤ 1) (bx7 : 0 ≤ x7 ∧ x7 ≤ 11) (bx8 : (-2147483648) ≤ x8 ∧ x8 ≤ 2147483647) (bx9 : (-2147483648) ≤ x9 ∧ x9 ≤ 2147483647) (bx10 : 0 ≤ x10 ∧ x10 ≤ 6) : fm_91_p29 Q x1 x2 x3 x4 x5 x7 X29 x8 x9 x10 s := by
  unfold fm_91_p29
  have b4 : 0 ≤ s.1 1 2 ∧ s.1 1 2 ≤ 6 := iv_r1_2 hI
  refine ⟨(show lf_R x10 from lf_Rof (by omega)), ?_⟩
  refine ⟨(show lf_R (s.1 1 2) from lf_Rof (by omega)), ?_⟩
  refine ⟨fun c5 => ?_, fun c5 => ?_⟩
  · skip
    replace c5 : s.1 1 2 ≤ x10 := c5
    refine ⟨fun et26 => ?_, fun t26 et26 => ?_⟩
    · skip
      exact sm_91_p118 hQ hI (show (-2147483648 : Int) ≤ x8 ∧ x8 ≤ (2147483647 : Int) from by omega)
    · have htt26 : t26 < 4 := iv_t3 hI et26
      refine ⟨htt26, ?_⟩
      have n3t26 : s.2.2 3 ≠ none := lf_sn3 et26
      refine ⟨fun et28 => ?_, fun t28 et28 => ?_⟩
      · skip
        exact absurd et28 n3t26
      · have htt28 : t28 < 4 := iv_t3 hI et28
        refine ⟨htt28, ?_⟩
        refine sm_40 htt28 hI (show (0 : Int) ≤ 1 ∧ 1 ≤ (12 : Int) from by omega) (fun z30 => ?_)
        refine ⟨fun c8 => ?_, fun c8 => ?_⟩
        · skip
          refine sm_82 hI (show (-2147483648 : Int) ≤ x1 ∧ x1 ≤ (2147483647 : Int) from by omega) (show (-1 : Int) ≤ x2 ∧ x2 ≤ (11 : Int) from by omega) (show (0 : Int) ≤ x5 ∧ x5 ≤ (1 : Int) from by omega) (fun s31 hI10 fr9 => ?_)
          have fr12 : lf_fq [63, 64, 65, 66] 1000000 true s.1 s.2.2 s31.1 s31.2.2 := lf_fq_tr (lf_fq_rf) (lf_fq_wk fr9 rfl (by decide) (by decide))
          have n13 : s31.2.2 3 ≠ none := lf_fq_n3 fr9 rfl n3t26
          refine ⟨(show (0 : Int) ≤ x7 ∧ x7 < (12 : Int) from by omega), ?_⟩
          have b14 : 0 ≤ s31.1 2 x7 ∧ s31.1 2 x7 ≤ 3 := iv_r2 hI10 _
          have b15 : s31.1 2 x7 = s.1 2 x7 := congrFun (fr9.1 2 rfl) _
          have hI16 : iv_A (lf_up s31.1 64 5 (s31.1 2 x7)) s31.2.2 := iv_w64 hI10 (by omega)
          have fr17 : lf_fq [63, 64, 65, 66] 1000000 true s.1 s.2.2 (lf_up s31.1 64 5 (s31.1 2 x7)) s31.2.2 := lf_fq_up fr12 rfl (fun h => absurd h (by decide))
          have hI18 : iv_A (lf_up (lf_up s31.1 64 5 (s31.1 2 x7)) 64 6 x8) s31.2.2 := iv_w64 hI16 (by omega)
          have fr19 : lf_fq [63, 64, 65, 66] 1000000 true s.1 s.2.2 (lf_up (lf_up s31.1 64 5 (s31.1 2 x7)) 64 6 x8) s31.2.2 := lf_fq_up fr17 rfl (fun h => absurd h (by decide))
          have hI20 : iv_A (lf_up (lf_up (lf_up s31.1 64 5 (s31.1 2 x7)) 64 6 x8) 64 7 x9) s31.2.2 := iv_w64 hI18 (by omega)
          have fr21 : lf_fq [63, 64, 65, 66] 1000000 true s.1 s.2.2 (lf_up (lf_up (lf_up s31.1 64 5 (s31.1 2 x7)) 64 6 x8) 64 7 x9) s31.2.2 := lf_fq_up fr19 rfl (fun h => absurd h (by decide))
          have hI22 : iv_A (lf_up (lf_up (lf_up (lf_up s31.1 64 5 (s31.1 2 x7)) 64 6 x8) 64 7 x9) 64 8 x4) s31.2.2 := iv_w64 hI20 (by omega)
          have fr23 : lf_fq [63, 64, 65, 66] 1000000 true s.1 s.2.2 (lf_up (lf_up (lf_up (lf_up s31.1 64 5 (s31.1 2 x7)) 64 6 x8) 64 7 x9) 64 8 x4) s31.2.2 := lf_fq_up fr21 rfl (fun h => absurd h (by decide))
          have hI24 : iv_A (lf_up (lf_up (lf_up (lf_up (lf_up s31.1 64 5 (s31.1 2 x7)) 64 6 x8) 64 7 x9) 64 8 x4) 64 10 x3) s31.2.2 := iv_w64 hI22 (by omega)
          have fr25 : lf_fq [63, 64, 65, 66] 1000000 true s.1 s.2.2 (lf_up (lf_up (lf_up (lf_up (lf_up s31.1 64 5 (s31.1 2 x7)) 64 6 x8) 64 7 x9) 64 8 x4) 64 10 x3) s31.2.2 := lf_fq_up fr23 rfl (fun h => absurd h (by decide))
          refine ⟨fun et33 => ?_, fun t33 et33 => ?_⟩
          · skip
            exact absurd et33 n13
          · have htt33 : t33 < 4 := iv_t3 hI24 et33
            refine ⟨htt33, ?_⟩
            refine sm_84b htt33 hI24 (show (0 : Int) ≤ 1 ∧ 1 ≤ (2 : Int) from by omega) (fun r39 s38 hI33 fr32 q34 => ?_)
            have fr35 : lf_fq [63, 64, 65, 66] 1000000 true s.1 s.2.2 s38.1 s38.2.2 := lf_fq_tr fr25 (lf_fq_wk fr32 rfl (by decide) (by decide))
            have n36 : s38.2.2 3 ≠ none := lf_fq_n3 fr32 rfl n13
            refine sm_55 hI33 (show (-2147483648 : Int) ≤ r39 ∧ r39 ≤ (2147483647 : Int) from by omega) (show (0 : Int) ≤ 0 ∧ 0 ≤ (0 : Int) from by omega) (show (2 : Int) ≤ 10 ∧ 10 ≤ (1000000 : Int) from by omega) (fun r41 q37 => ?_)
            obtain ⟨q37, q37x⟩ := q37
            replace q37x : 0 ≤ r41 ∧ (r41 ≤ 10 ∨ r41 ≤ 0) := q37x
            exact hQ r41 s38 hI33 fr35 (show (0 : Int) ≤ r41 ∧ r41 ≤ (1000000 : Int) from by omega)
        · skip
          exact sm_91_p118 hQ hI (show (-2147483648 : Int) ≤ x8 ∧ x8 ≤ (2147483647 : Int) from by omega)
  · skip
    replace c5 : ¬ (s.1 1 2 ≤ x10) := c5
    refine ⟨(show (0 : Int) ≤ x10 ∧ x10 < (6 : Int) from by omega), ?_⟩
    have b38 : (-2147483648) ≤ s.1 19 x10 ∧ s.1 19 x10 ≤ 2147483647 := iv_full hI
    refine ⟨(show lf_R (s.1 19 x10) from lf_Rof (by omega)), ?_⟩
    refine ⟨(show lf_R x7 from lf_Rof (by omega)), ?_⟩
    refine ⟨fun c39 => ?_, fun c39 => ?_⟩
    · skip
      replace c39 : s.1 19 x10 ≠ x7 := c39
      exact sm_91_p94 hQ hX29 (show (6 - x10).toNat ≤ M29 from by omega) hI (show (-2147483648 : Int) ≤ x1 ∧ x1 ≤ (2147483647 : Int) from by omega) (show (-1 : Int) ≤ x2 ∧ x2 ≤ (11 : Int) from by omega) (show (0 : Int) ≤ x3 ∧ x3 ≤ (15 : Int) from by omega) (show (0 : Int) ≤ x4 ∧ x4 ≤ (1 : Int) from by omega) (show (0 : Int) ≤ x5 ∧ x5 ≤ (1 : Int) from by omega) (show (0 : Int) ≤ x7 ∧ x7 ≤ (11 : Int) from by omega) (show (-2147483648 : Int) ≤ x8 ∧ x8 ≤ (2147483647 : Int) from by omega) (show (-2147483648 : Int) ≤ x9 ∧ x9 ≤ (2147483647 : Int) from by omega) (show (0 : Int) ≤ x10 ∧ x10 ≤ (5 : Int) from by omega)
    · skip
      replace c39 : ¬ (s.1 19 x10 ≠ x7) := c39
      have b40 : 0 ≤ s.1 7 x10 ∧ s.1 7 x10 ≤ 9 := iv_r7 hI _
      have b41 : (-2147483648) ≤ lf_w (x8 + (s.1 7 x10)) ∧ lf_w (x8 + (s.1 7 x10)) ≤ 2147483647 := lf_wB
      have b42 : 0 ≤ s.1 9 x10 ∧ s.1 9 x10 ≤ 1 := iv_r9 hI _
      refine ⟨(show lf_R (s.1 9 x10) from lf_Rof (by omega)), ?_⟩
      refine ⟨fun c43 => ?_, fun c43 => ?_⟩
      · skip
        replace c43 : s.1 9 x10 = 0 := c43
        exact sm_91_p91 hQ hX29 (show (6 - x10).toNat ≤ M29 from by omega) hI (show (-2147483648 : Int) ≤ x1 ∧ x1 ≤ (2147483647 : Int) from by omega) (show (-1 : Int) ≤ x2 ∧ x2 ≤ (11 : Int) from by omega) (show (0 : Int) ≤ x3 ∧ x3 ≤ (15 : Int) from by omega) (show (0 : Int) ≤ x4 ∧ x4 ≤ (1 : Int) from by omega) (show (0 : Int) ≤ x5 ∧ x5 ≤ (1 : Int) from by omega) (show (0 : Int) ≤ x7 ∧ x7 ≤ (11 : Int) from by omega) (show (-2147483648 : Int) ≤ lf_w (x8 + (s.1 7 x10)) ∧ lf_w (x8 + (s.1 7 x10)) ≤ (2147483647 : Int) from by omega) (show (0 : Int) ≤ x10 ∧ x10 ≤ (5 : Int) from by omega) (show (-2147483648 : Int) ≤ x9 ∧ x9 ≤ (2147483647 : Int) from by omega) (show (0 : Int) ≤ 0 ∧ 0 ≤ (1 : Int) from by omega)
      · skip
        replace c43 : ¬ (s.1 9 x10 = 0) := c43
        exact sm_91_p91 hQ hX29 (show (6 - x10).toNat ≤ M29 from by omega) hI (show (-2147483648 : Int) ≤ x1 ∧ x1 ≤ (2147483647 : Int) from by omega) (show (-1 : Int) ≤ x2 ∧ x2 ≤ (11 : Int) from by omega) (show (0 : Int) ≤ x3 ∧ x3 ≤ (15 : Int) from by omega) (show (0 : Int) ≤ x4 ∧ x4 ≤ (1 : Int) from by omega) (show (0 : Int) ≤ x5 ∧ x5 ≤ (1 : Int) from by omega) (show (0 : Int) ≤ x7 ∧ x7 ≤ (11 : Int) from by omega) (show (-2147483648 : Int) ≤ lf_w (x8 + (s.1 7 x10)) ∧ lf_w (x8 + (s.1 7 x10)) ≤ (2147483647 : Int) from by omega) (show (0 : Int) ≤ x10 ∧ x10 ≤ (5 : Int) from by omega) (show (-2147483648 : Int) ≤ x9 ∧ x9 ≤ (2147483647 : Int) from by omega) (show (0 : Int) ≤ 1 ∧ 1 ≤ (1 : Int) from by omega)
theorem sm_91_p29L {Q : Int → lf_Z → Prop} {x1 : Int} {x2 : Int} {x3 : Int} {x4 : Int} {x5 : Int} {x7 : Int} {x8 : Int} {x9 : Int} {x10 : Int} {s : lf_Z} (hQ : ∀ (r : Int) (s' : lf_Z), iv_A s'.1 s'.2.2 → lf_fq [63, 64, 65, 66] 1000000 true s.1 s.2.2 s'.1 s'.2.2 → (0 ≤ r ∧ r ≤ 1000000) → Q r s') (hI : iv_A s.1 s.2.2) (bx1 : (-2147483648) ≤ x1 ∧ x1 ≤ 2147483647) (bx2 : (-1) ≤ x2 ∧ x2 ≤ 11) (bx3 : 0 ≤ x3 ∧ x3 ≤ 15) (bx4 : 0 ≤ x4 ∧ x4 ≤ 1) (bx5 : 0 ≤ x5 ∧ x5 ≤ 1) (bx7 : 0 ≤ x7 ∧ x7 ≤ 11) (bx8 : (-2147483648) ≤ x8 ∧ x8 ≤ 2147483647) (bx9 : (-2147483648) ≤ x9 ∧ x9 ≤ 2147483647) (bx10 : 0 ≤ x10 ∧ x10 ≤ 6) : fm_91_p29L Q x1 x2 x3 x4 x5 x7 x8 x9 x10 s := by
  intro X29 hX
  have key : ∀ (m9 : Nat) (x8 : Int) (x9 : Int) (x10 : Int) (s' : lf_Z), iv_A s'.1 s'.2.2 → lf_fq [63, 64, 65, 66] 1000000 true s.1 s.2.2 s'.1 s'.2.2 → (-2147483648) ≤ x8 ∧ x8 ≤ 2147483647 → (-2147483648) ≤ x9 ∧ x9 ≤ 2147483647 → 0 ≤ x10 ∧ x10 ≤ 6 → (6 - x10).toNat < m9 → X29 x8 x9 x10 s' := by
    intro m9
    induction m9 with
    | zero => intro x8 x9 x10 s' _ _ bx8 bx9 bx10 h9; exact absurd h9 (Nat.not_lt_zero _)
    | succ m9 ih => intro x8 x9 x10 s' i7 f7 bx8 bx9 bx10 h9; exact hX _ _ _ _ (sm_91_p29 (fun r9 t9 i9 f9 => hQ r9 t9 i9 (lf_fq_tr f7 f9))   (fun x8' x9' x10' t8 i8 f8 bx8' bx9' bx10' h8 => ih x8' x9' x10' t8 i8 (lf_fq_tr f7 f8) bx8' bx9' bx10' (by omega)) (Nat.le_refl _)  i7  bx1 bx2 bx3 bx4 bx5 bx7 bx8 bx9 bx10  )
  exact key _ _ _ _ s hI lf_fq_rf bx8 bx9 bx10 (Nat.lt_succ_self _)
theorem sm_91 {a1 : Int} {a2 : Int} {a3 : Int} {a4 : Int} {a5 : Int} {a6 : Int} {Q : Int → lf_Z → Prop} {s : lf_Z} (hI : iv_A s.1 s.2.2) (ba1 : (-2147483648) ≤ a1 ∧ a1 ≤ 2147483647) (ba2 : (-1) ≤ a2 ∧ a2 ≤ 11) (ba3 : 0 ≤ a3 ∧ a3 ≤ 15) (ba4 : 0 ≤ a4 ∧ a4 ≤ 1) (ba5 : 0 ≤ a5 ∧ a5 ≤ 1) (ba6 : (-2147483648) ≤ a6 ∧ a6 ≤ 2147483647) (hQ : ∀ (r : Int) (s' : lf_Z), iv_A s'.1 s'.2.2 → lf_fq [63, 64, 65, 66] 1000000 true s.1 s.2.2 s'.1 s'.2.2 → (0 ≤ r ∧ r ≤ 1000000) → Q r s') : fm_91 a1 a2 a3 a4 a5 a6 Q s := by
  unfold fm_91
  refine sm_78 hI (show (-1 : Int) ≤ a3 ∧ a3 ≤ (15 : Int) from by omega) (show (-2147483648 : Int) ≤ a2 ∧ a2 ≤ (2147483647 : Int) from by omega) (fun r22 q1 => ?_)
  obtain ⟨q1, q1x⟩ := q1
  have b2 : 0 ≤ s.1 1 1 ∧ s.1 1 1 ≤ 16 := iv_r1_1 hI
  replace q1x : r22 = iv_od (s.1 1 1) (s.1 4) (s.1 5) a3 a2 := q1x
  refine ⟨(show lf_R r22 from lf_Rof (by omega)), ?_⟩
  refine ⟨fun c3 => ?_, fun c3 => ?_⟩
  · skip
    replace c3 : r22 ≠ (-1) := c3
    exact sm_91_p29L hQ hI (show (-2147483648 : Int) ≤ a1 ∧ a1 ≤ (2147483647 : Int) from by omega) (show (-1 : Int) ≤ a2 ∧ a2 ≤ (11 : Int) from by omega) (show (0 : Int) ≤ a3 ∧ a3 ≤ (15 : Int) from by omega) (show (0 : Int) ≤ a4 ∧ a4 ≤ (1 : Int) from by omega) (show (0 : Int) ≤ a5 ∧ a5 ≤ (1 : Int) from by omega) (show (0 : Int) ≤ r22 ∧ r22 ≤ (11 : Int) from by omega) (show (-2147483648 : Int) ≤ a6 ∧ a6 ≤ (2147483647 : Int) from by omega) (show (-2147483648 : Int) ≤ 0 ∧ 0 ≤ (2147483647 : Int) from by omega) (show (0 : Int) ≤ 0 ∧ 0 ≤ (6 : Int) from by omega)
  · skip
    replace c3 : ¬ (r22 ≠ (-1)) := c3
    exact hQ 0 s hI (lf_fq_rf) (show (0 : Int) ≤ 0 ∧ 0 ≤ (1000000 : Int) from by omega)
-- fm_94 Stand.renew 15
theorem sm_94 {Q : lf_Z → Prop} {s : lf_Z} (hI : iv_A s.1 s.2.2) (hQ : ∀  (s' : lf_Z), iv_A s'.1 s'.2.2 → lf_fq [15] 1000000 true s.1 s.2.2 s'.1 s'.2.2 → Q  s') : fm_94 Q s := by
  unfold fm_94
  have b1 : (-2147483648) ≤ s.1 15 8 ∧ s.1 15 8 ≤ 2147483647 := iv_full hI
  have b2 : (-2147483648) ≤ lf_w ((s.1 15 8) * 239) ∧ lf_w ((s.1 15 8) * 239) ≤ 2147483647 := lf_wB
  have b3 : (-2147483648) ≤ lf_w ((lf_w ((s.1 15 8) * 239)) + 137) ∧ lf_w ((lf_w ((s.1 15 8) * 239)) + 137) ≤ 2147483647 := lf_wB
  have b4 : (-30202) ≤ (lf_w ((lf_w ((s.1 15 8) * 239)) + 137)).tmod 30203 ∧ (lf_w ((lf_w ((s.1 15 8) * 239)) + 137)).tmod 30203 ≤ 30202 := lf_tmodM (by omega) (by omega)
  have b5 : (lf_w ((lf_w ((s.1 15 8) * 239)) + 137)).tdiv 30203 ≤ 0 ∨ 0 ≤ (lf_w ((lf_w ((s.1 15 8) * 239)) + 137)).tmod 30203 := lf_tmS (by decide)
  have hI6 : iv_A (lf_up s.1 15 8 ((lf_w ((lf_w ((s.1 15 8) * 239)) + 137)).tmod 30203)) s.2.2 := iv_w15_8 hI (by omega)
  have fr7 : lf_fq [15] 1000000 true s.1 s.2.2 (lf_up s.1 15 8 ((lf_w ((lf_w ((s.1 15 8) * 239)) + 137)).tmod 30203)) s.2.2 := lf_fq_up (lf_fq_rf) rfl (fun h => absurd h (by decide))
  exact hQ (lf_up s.1 15 8 ((lf_w ((lf_w ((s.1 15 8) * 239)) + 137)).tmod 30203), s.2.1, s.2.2) hI6 fr7
-- fm_93 Stand.drawByTen 15
theorem sm_93 {Q : Int → lf_Z → Prop} {s : lf_Z} (hI : iv_A s.1 s.2.2) (hQ : ∀ (r : Int) (s' : lf_Z), iv_A s'.1 s'.2.2 → lf_fq [15] 1000000 true s.1 s.2.2 s'.1 s'.2.2 → ((-9) ≤ r ∧ r ≤ 9) → Q r s') : fm_93 Q s := by
  unfold fm_93
  have b1 : (-2147483648) ≤ s.1 15 8 ∧ s.1 15 8 ≤ 2147483647 := iv_full hI
  refine ⟨(show lf_R (s.1 15 8) from lf_Rof (by omega)), ?_⟩
  have b2 : (-9) ≤ (s.1 15 8).tmod 10 ∧ (s.1 15 8).tmod 10 ≤ 9 := lf_tmodM (by omega) (by omega)
  have b3 : (s.1 15 8).tdiv 10 ≤ 0 ∨ 0 ≤ (s.1 15 8).tmod 10 := lf_tmS (by decide)
  refine sm_94 hI (fun s22 hI5 fr4 => ?_)
  have fr7 : lf_fq [15] 1000000 true s.1 s.2.2 s22.1 s22.2.2 := lf_fq_tr (lf_fq_rf) (lf_fq_wk fr4 rfl (by decide) (by decide))
  exact hQ ((s.1 15 8).tmod 10) s22 hI5 fr7 (show (-9 : Int) ≤ (s.1 15 8).tmod 10 ∧ (s.1 15 8).tmod 10 ≤ (9 : Int) from by omega)
-- fm_92 Minutes.isTaken 67 i
theorem sm_92_p10 {Q : Bool → lf_Z → Prop} {x1 : Int} {s : lf_Z} (hQ : ∀ (z : Bool) (s' : lf_Z), iv_A s'.1 s'.2.2 → lf_fq [15] 1000000 true s.1 s.2.2 s'.1 s'.2.2 → Q z s') (hI : iv_A s.1 s.2.2) (bx1 : 0 ≤ x1 ∧ x1 ≤ 10) : fm_92_p10 Q x1 s := by
  unfold fm_92_p10
  refine ⟨(show lf_R x1 from lf_Rof (by omega)), ?_⟩
  refine ⟨fun c2 => ?_, fun c2 => ?_⟩
  · skip
    replace c2 : x1 ≠ 10 := c2
    exact hQ false s hI (lf_fq_rf)
  · skip
    replace c2 : ¬ (x1 ≠ 10) := c2
    exact hQ true s hI (lf_fq_rf)
theorem sm_92 {a1 : Int} {Q : Bool → lf_Z → Prop} {s : lf_Z} (hI : iv_A s.1 s.2.2) (ba1 : 0 ≤ a1 ∧ a1 ≤ 1000000) (hQ : ∀ (z : Bool) (s' : lf_Z), iv_A s'.1 s'.2.2 → lf_fq [15] 1000000 true s.1 s.2.2 s'.1 s'.2.2 → Q z s') : fm_92 a1 Q s := by
  unfold fm_92
  refine ⟨(show lf_R a1 from lf_Rof (by omega)), ?_⟩
  refine ⟨fun c1 => ?_, fun c1 => ?_⟩
  · skip
    replace c1 : a1 = 0 := c1
    exact sm_92_p10 hQ hI (show (0 : Int) ≤ a1 ∧ a1 ≤ (10 : Int) from by omega)
  · skip
    replace c1 : ¬ (a1 = 0) := c1
    refine ⟨fun c3 => ?_, fun c3 => ?_⟩
    · skip
      replace c3 : a1 ≠ 10 := c3
      refine sm_93 hI (fun r24 s23 hI5 fr4 q6 => ?_)
      have fr7 : lf_fq [15] 1000000 true s.1 s.2.2 s23.1 s23.2.2 := lf_fq_tr (lf_fq_rf) (lf_fq_wk fr4 rfl (by decide) (by decide))
      refine ⟨(show lf_R r24 from lf_Rof (by omega)), ?_⟩
      refine ⟨fun c8 => ?_, fun c8 => ?_⟩
      · skip
        replace c8 : a1 ≤ r24 := c8
        exact hQ false s23 hI5 fr7
      · skip
        replace c8 : ¬ (a1 ≤ r24) := c8
        exact hQ true s23 hI5 fr7
    · skip
      replace c3 : ¬ (a1 ≠ 10) := c3
      exact sm_92_p10 hQ hI (show (0 : Int) ≤ a1 ∧ a1 ≤ (10 : Int) from by omega)
-- fm_88 Minutes.moveOn 67 i
theorem sm_88_p153 {X12 : Int → lf_Z → Prop} {Q : lf_Z → Prop} {x1 : Int} {x2 : Int} {x3 : Int} {s : lf_Z} (hQ : ∀  (s' : lf_Z), iv_A s'.1 s'.2.2 → lf_fq [15, 17, 18, 63, 64, 65, 66] 1000000 true s.1 s.2.2 s'.1 s'.2.2 → Q  s') {M12 : Nat} (hX12 : ∀ (x3 : Int) (s' : lf_Z), iv_A s'.1 s'.2.2 → lf_fq [15, 17, 18, 63, 64, 65, 66] 1000000 true s.1 s.2.2 s'.1 s'.2.2 → 0 ≤ x3 ∧ x3 ≤ 4 → (4 - x3).toNat < M12 → X12 x3 s') (hM12 : (4 - x3).toNat ≤ M12) (hI : iv_A s.1 s.2.2) (bx1 : 0 ≤ x1 ∧ x1 ≤ 3) (bx2 : (-1) ≤ x2 ∧ x2 ≤ 11) (bx3 : 0 ≤ x3 ∧ x3 ≤ 3) : fm_88_p153 X12 Q x1 x2 x3 s := by
  unfold fm_88_p153
  exact hX12 (x3 + 1) s hI (lf_fq_rf) (show (0 : Int) ≤ x3 + 1 ∧ x3 + 1 ≤ (4 : Int) from by omega) (show (4 - (x3 + 1)).toNat < M12 from by omega)
theorem sm_88_p99 {X12 : Int → lf_Z → Prop} {Q : lf_Z → Prop} {x1 : Int} {x2 : Int} {x3 : Int} {x4 : Int} {x5 : Int} {y0 : Int} {s : lf_Z} (hQ : ∀  (s' : lf_Z), iv_A s'.1 s'.2.2 → lf_fq [15, 17, 18, 63, 64, 65, 66] 1000000 true s.1 s.2.2 s'.1 s'.2.2 → Q  s') {M12 : Nat} (hX12 : ∀ (x3 : Int) (s' : lf_Z), iv_A s'.1 s'.2.2 → lf_fq [15, 17, 18, 63, 64, 65, 66] 1000000 true s.1 s.2.2 s'.1 s'.2.2 → 0 ≤ x3 ∧ x3 ≤ 4 → (4 - x3).toNat < M12 → X12 x3 s') (hM12 : (4 - x3).toNat ≤ M12) (hI : iv_A s.1 s.2.2) (bx1 : 0 ≤ x1 ∧ x1 ≤ 3) (bx2 : (-1) ≤ x2 ∧ x2 ≤ 11) (bx3 : 0 ≤ x3 ∧ x3 ≤ 3) (bx4 : 0 ≤ x4 ∧ x4 ≤ 15) (bx5 : 0 ≤ x5 ∧ x5 ≤ 11) (by0 : 0 ≤ y0 ∧ y0 ≤ 1) : fm_88_p99 X12 Q x1 x2 x3 x4 x5 y0 s := by
  unfold fm_88_p99
  refine ⟨(show (0 : Int) ≤ x1 ∧ x1 < (4 : Int) from by omega), ?_⟩
  have b17 : (-2147483648) ≤ s.1 16 x1 ∧ s.1 16 x1 ≤ 2147483647 := iv_full hI
  refine sm_91 hI (show (-2147483648 : Int) ≤ s.1 16 x1 ∧ s.1 16 x1 ≤ (2147483647 : Int) from by omega) (show (-1 : Int) ≤ x2 ∧ x2 ≤ (11 : Int) from by omega) (show (0 : Int) ≤ x4 ∧ x4 ≤ (15 : Int) from by omega) (show (0 : Int) ≤ y0 ∧ y0 ≤ (1 : Int) from by omega) (show (0 : Int) ≤ 0 ∧ 0 ≤ (1 : Int) from by omega) (show (-2147483648 : Int) ≤ 0 ∧ 0 ≤ (2147483647 : Int) from by omega) (fun r39 s38 hI19 fr18 q20 => ?_)
  have fr21 : lf_fq [15, 17, 18, 63, 64, 65, 66] 1000000 true s.1 s.2.2 s38.1 s38.2.2 := lf_fq_tr (lf_fq_rf) (lf_fq_wk fr18 rfl (by decide) (by decide))
  refine sm_92 hI19 (show (0 : Int) ≤ r39 ∧ r39 ≤ (1000000 : Int) from by omega) (fun z41 s40 hI23 fr22 => ?_)
  have fr25 : lf_fq [15, 17, 18, 63, 64, 65, 66] 1000000 true s.1 s.2.2 s40.1 s40.2.2 := lf_fq_tr fr21 (lf_fq_wk fr22 rfl (by decide) (by decide))
  refine ⟨fun c26 => ?_, fun c26 => ?_⟩
  · skip
    exact sm_88_p153 (fun t9 i9 f9 => hQ t9 i9 (lf_fq_tr fr25 f9)) (fun p0 t9 i9 f9 => hX12 p0 t9 i9 (lf_fq_tr fr25 f9)) (show (4 - x3).toNat ≤ M12 from by omega) hI23 (show (0 : Int) ≤ x1 ∧ x1 ≤ (3 : Int) from by omega) (show (-1 : Int) ≤ x2 ∧ x2 ≤ (11 : Int) from by omega) (show (0 : Int) ≤ x3 ∧ x3 ≤ (3 : Int) from by omega)
  · skip
    have hI27 : iv_A (lf_up s40.1 18 x1 x2) s40.2.2 := iv_w18 hI23 (by omega)
    have fr28 : lf_fq [15, 17, 18, 63, 64, 65, 66] 1000000 true s.1 s.2.2 (lf_up s40.1 18 x1 x2) s40.2.2 := lf_fq_up fr25 rfl (fun h => absurd h (by decide))
    have b29 : (-2147483648) ≤ s40.1 16 x1 ∧ s40.1 16 x1 ≤ 2147483647 := (show (-2147483648) ≤ (lf_up s40.1 18 x1 x2) 16 x1 ∧ (lf_up s40.1 18 x1 x2) 16 x1 ≤ 2147483647 from iv_full hI27)
    have b30 : s40.1 16 x1 = s38.1 16 x1 := congrFun (fr22.1 16 rfl) _
    have b31 : s38.1 16 x1 = s.1 16 x1 := congrFun (fr18.1 16 rfl) _
    have hI32 : iv_A (lf_up (lf_up s40.1 18 x1 x2) 17 x1 x5) s40.2.2 := iv_w17 hI27 (by omega) (by omega)
    have fr33 : lf_fq [15, 17, 18, 63, 64, 65, 66] 1000000 true s.1 s.2.2 (lf_up (lf_up s40.1 18 x1 x2) 17 x1 x5) s40.2.2 := lf_fq_up fr28 rfl (fun h => absurd h (by decide))
    exact hQ (lf_up (lf_up s40.1 18 x1 x2) 17 x1 x5, s40.2.1, s40.2.2) hI32 fr33
theorem sm_88_p12 {X12 : Int → lf_Z → Prop} {Q : lf_Z → Prop} {x1 : Int} {x2 : Int} {x3 : Int} {s : lf_Z} (hQ : ∀  (s' : lf_Z), iv_A s'.1 s'.2.2 → lf_fq [15, 17, 18, 63, 64, 65, 66] 1000000 true s.1 s.2.2 s'.1 s'.2.2 → Q  s') {M12 : Nat} (hX12 : ∀ (x3 : Int) (s' : lf_Z), iv_A s'.1 s'.2.2 → lf_fq [15, 17, 18, 63, 64, 65, 66] 1000000 true s.1 s.2.2 s'.1 s'.2.2 → 0 ≤ x3 ∧ x3 ≤ 4 → (4 - x3).toNat < M12 → X12 x3 s') (hM12 : (4 - x3).toNat ≤ M12) (hI : iv_A s.1 s.2.2) (bx1 : 0 ≤ x1 ∧ x1 ≤ 3) (bx2 : (-1) ≤ x2 ∧ x2 ≤ 11) (bx3 : 0 ≤ x3 ∧ x3 ≤ 4) : fm_88_p12 Q x1 x2 X12 x3 s := by
  unfold fm_88_p12
  refine sm_76 hI (show (-2147483648 : Int) ≤ x2 ∧ x2 ≤ (2147483647 : Int) from by omega) (fun r23 q3 => ?_)
  refine ⟨(show lf_R x3 from lf_Rof (by omega)), ?_⟩
  refine ⟨(show lf_R r23 from lf_Rof (by omega)), ?_⟩
  refine ⟨fun c4 => ?_, fun c4 => ?_⟩
  · skip
    replace c4 : r23 ≤ x3 := c4
    exact hQ s hI (lf_fq_rf)
  · skip
    replace c4 : ¬ (r23 ≤ x3) := c4
    refine sm_77 hI (show (-2147483648 : Int) ≤ x2 ∧ x2 ≤ (2147483647 : Int) from by omega) (show (0 : Int) ≤ x3 ∧ x3 ≤ (3 : Int) from by omega) (fun r27 q5 => ?_)
    refine sm_78 hI (show (-1 : Int) ≤ r27 ∧ r27 ≤ (15 : Int) from by omega) (show (-2147483648 : Int) ≤ x2 ∧ x2 ≤ (2147483647 : Int) from by omega) (fun r29 q6 => ?_)
    obtain ⟨q6, q6x⟩ := q6
    have b7 : 0 ≤ s.1 1 1 ∧ s.1 1 1 ≤ 16 := iv_r1_1 hI
    replace q6x : r29 = iv_od (s.1 1 1) (s.1 4) (s.1 5) r27 x2 := q6x
    refine ⟨(show lf_R r29 from lf_Rof (by omega)), ?_⟩
    refine ⟨fun c8 => ?_, fun c8 => ?_⟩
    · skip
      replace c8 : r29 = (-1) := c8
      exact sm_88_p153 hQ hX12 (show (4 - x3).toNat ≤ M12 from by omega) hI (show (0 : Int) ≤ x1 ∧ x1 ≤ (3 : Int) from by omega) (show (-1 : Int) ≤ x2 ∧ x2 ≤ (11 : Int) from by omega) (show (0 : Int) ≤ x3 ∧ x3 ≤ (3 : Int) from by omega)
    · skip
      replace c8 : ¬ (r29 = (-1)) := c8
      refine sm_89 hI (show (-2147483648 : Int) ≤ r27 ∧ r27 ≤ (2147483647 : Int) from by omega) (fun z32 q9 => ?_)
      have b10 : 0 ≤ s.1 1 1 ∧ s.1 1 1 ≤ 16 := iv_r1_1 hI
      have b11 : 0 ≤ s.1 6 r27 ∧ s.1 6 r27 ≤ 1 := iv_r6 hI _
      refine ⟨fun c12 => ?_, fun c12 => ?_⟩
      · skip
        have dc12 := q9.2 c12
        exact sm_88_p153 hQ hX12 (show (4 - x3).toNat ≤ M12 from by omega) hI (show (0 : Int) ≤ x1 ∧ x1 ≤ (3 : Int) from by omega) (show (-1 : Int) ≤ x2 ∧ x2 ≤ (11 : Int) from by omega) (show (0 : Int) ≤ x3 ∧ x3 ≤ (3 : Int) from by omega)
      · skip
        have dc12 := q9.1 c12
        refine sm_90 hI (show (0 : Int) ≤ r27 ∧ r27 ≤ (15 : Int) from by omega) (fun z34 => ?_)
        refine ⟨fun c14 => ?_, fun c14 => ?_⟩
        · skip
          refine ⟨(show (0 : Int) ≤ x1 ∧ x1 < (4 : Int) from by omega), ?_⟩
          have b15 : (-1) ≤ s.1 18 x1 ∧ s.1 18 x1 ≤ 11 := iv_r18 hI _
          refine ⟨(show lf_R (s.1 18 x1) from lf_Rof (by omega)), ?_⟩
          refine ⟨fun c16 => ?_, fun c16 => ?_⟩
          · skip
            replace c16 : s.1 18 x1 ≠ r29 := c16
            exact sm_88_p99 hQ hX12 (show (4 - x3).toNat ≤ M12 from by omega) hI (show (0 : Int) ≤ x1 ∧ x1 ≤ (3 : Int) from by omega) (show (-1 : Int) ≤ x2 ∧ x2 ≤ (11 : Int) from by omega) (show (0 : Int) ≤ x3 ∧ x3 ≤ (3 : Int) from by omega) (show (0 : Int) ≤ r27 ∧ r27 ≤ (15 : Int) from by omega) (show (0 : Int) ≤ r29 ∧ r29 ≤ (11 : Int) from by omega) (show (0 : Int) ≤ 0 ∧ 0 ≤ (1 : Int) from by omega)
          · skip
            replace c16 : ¬ (s.1 18 x1 ≠ r29) := c16
            exact sm_88_p99 hQ hX12 (show (4 - x3).toNat ≤ M12 from by omega) hI (show (0 : Int) ≤ x1 ∧ x1 ≤ (3 : Int) from by omega) (show (-1 : Int) ≤ x2 ∧ x2 ≤ (11 : Int) from by omega) (show (0 : Int) ≤ x3 ∧ x3 ≤ (3 : Int) from by omega) (show (0 : Int) ≤ r27 ∧ r27 ≤ (15 : Int) from by omega) (show (0 : Int) ≤ r29 ∧ r29 ≤ (11 : Int) from by omega) (show (0 : Int) ≤ 1 ∧ 1 ≤ (1 : Int) from by omega)
        · skip
          exact sm_88_p153 hQ hX12 (show (4 - x3).toNat ≤ M12 from by omega) hI (show (0 : Int) ≤ x1 ∧ x1 ≤ (3 : Int) from by omega) (show (-1 : Int) ≤ x2 ∧ x2 ≤ (11 : Int) from by omega) (show (0 : Int) ≤ x3 ∧ x3 ≤ (3 : Int) from by omega)
theorem sm_88_p12L {Q : lf_Z → Prop} {x1 : Int} {x2 : Int} {x3 : Int} {s : lf_Z} (hQ : ∀  (s' : lf_Z), iv_A s'.1 s'.2.2 → lf_fq [15, 17, 18, 63, 64, 65, 66] 1000000 true s.1 s.2.2 s'.1 s'.2.2 → Q  s') (hI : iv_A s.1 s.2.2) (bx1 : 0 ≤ x1 ∧ x1 ≤ 3) (bx2 : (-1) ≤ x2 ∧ x2 ≤ 11) (bx3 : 0 ≤ x3 ∧ x3 ≤ 4) : fm_88_p12L Q x1 x2 x3 s := by
  intro X12 hX
  have key : ∀ (m9 : Nat) (x3 : Int) (s' : lf_Z), iv_A s'.1 s'.2.2 → lf_fq [15, 17, 18, 63, 64, 65, 66] 1000000 true s.1 s.2.2 s'.1 s'.2.2 → 0 ≤ x3 ∧ x3 ≤ 4 → (4 - x3).toNat < m9 → X12 x3 s' := by
    intro m9
    induction m9 with
    | zero => intro x3 s' _ _ bx3 h9; exact absurd h9 (Nat.not_lt_zero _)
    | succ m9 ih => intro x3 s' i7 f7 bx3 h9; exact hX _ _ (sm_88_p12 (fun t9 i9 f9 => hQ t9 i9 (lf_fq_tr f7 f9))   (fun x3' t8 i8 f8 bx3' h8 => ih x3' t8 i8 (lf_fq_tr f7 f8) bx3' (by omega)) (Nat.le_refl _)  i7  bx1 bx2 bx3  )
  exact key _ _ s hI lf_fq_rf bx3 (Nat.lt_succ_self _)
theorem sm_88 {a1 : Int} {Q : lf_Z → Prop} {s : lf_Z} (hI : iv_A s.1 s.2.2) (ba1 : 0 ≤ a1 ∧ a1 ≤ 3) (hQ : ∀  (s' : lf_Z), iv_A s'.1 s'.2.2 → lf_fq [15, 17, 18, 63, 64, 65, 66] 1000000 true s.1 s.2.2 s'.1 s'.2.2 → Q  s') : fm_88 a1 Q s := by
  unfold fm_88
  refine ⟨(show (0 : Int) ≤ a1 ∧ a1 < (4 : Int) from by omega), ?_⟩
  have b1 : (-1) ≤ s.1 17 a1 ∧ s.1 17 a1 ≤ 11 := iv_r17 hI _
  have b2 : s.1 16 a1 ≤ 0 ∨ 0 ≤ s.1 17 a1 := (by first | exact (show s.1 16 a1 ≤ 0 ∨ 0 ≤ s.1 17 a1 from iv_sp hI (by omega) (by omega)) | exact iv_sp hI (by omega) (by omega))
  exact sm_88_p12L hQ hI (show (0 : Int) ≤ a1 ∧ a1 ≤ (3 : Int) from by omega) (show (-1 : Int) ≤ s.1 17 a1 ∧ s.1 17 a1 ≤ (11 : Int) from by omega) (show (0 : Int) ≤ 0 ∧ 0 ≤ (4 : Int) from by omega)
