-- fm_57 Script.addClause t i i i
theorem sm_57 {t0 : Nat} {a1 : Int} {a2 : Int} {a3 : Int} {Q : lf_Z → Prop} {s : lf_Z} (htt0 : t0 < 4) (hI : iv_A s.1 s.2.2) (ba1 : 20 ≤ a1 ∧ a1 ≤ 32) (ba2 : 0 ≤ a2 ∧ a2 ≤ 9999) (ba3 : 0 ≤ a3 ∧ a3 ≤ 9999) (hQ : ∀  (s' : lf_Z), iv_A s'.1 s'.2.2 → lf_fq [35, 39, 40, 41, 42, 46, 47, 48, 49, 53, 54, 55, 56, 60, 61, 62] 1000000 true s.1 s.2.2 s'.1 s'.2.2 → Q  s') : fm_57 t0 a1 a2 a3 Q s := by
  unfold fm_57
  have b1 : 0 ≤ s.1 (35 + 7 * t0) 7 ∧ s.1 (35 + 7 * t0) 7 ≤ 24 := iv_rT_7 hI htt0
  refine ⟨(show lf_R (s.1 (35 + 7 * t0) 7) from lf_Rof (by omega)), ?_⟩
  refine ⟨fun c2 => ?_, fun c2 => ?_⟩
  · skip
    replace c2 : 24 ≤ s.1 (35 + 7 * t0) 7 := c2
    exact hQ s hI (lf_fq_rf)
  · skip
    replace c2 : ¬ (24 ≤ s.1 (35 + 7 * t0) 7) := c2
    refine ⟨(show (0 : Int) ≤ s.1 (35 + 7 * t0) 7 ∧ s.1 (35 + 7 * t0) 7 < (24 : Int) from by omega), ?_⟩
    have hI3 : iv_A (lf_up s.1 (39 + 7 * t0) (s.1 (35 + 7 * t0) 7) a1) s.2.2 := iv_wTA39 hI htt0 (by omega)
    have fr4 : lf_fq [35, 39, 40, 41, 42, 46, 47, 48, 49, 53, 54, 55, 56, 60, 61, 62] 1000000 true s.1 s.2.2 (lf_up s.1 (39 + 7 * t0) (s.1 (35 + 7 * t0) 7) a1) s.2.2 := lf_fq_upT (lf_fq_rf) htt0 rfl (by decide)
    have b5 : 0 ≤ (lf_up s.1 (39 + 7 * t0) (s.1 (35 + 7 * t0) 7) a1) (35 + 7 * t0) 7 ∧ (lf_up s.1 (39 + 7 * t0) (s.1 (35 + 7 * t0) 7) a1) (35 + 7 * t0) 7 ≤ 24 := iv_rT_7 hI3 htt0
    have b6 : (lf_up s.1 (39 + 7 * t0) (s.1 (35 + 7 * t0) 7) a1) (35 + 7 * t0) 7 = s.1 (35 + 7 * t0) 7 := lf_up_c (by omega)
    refine ⟨(show (0 : Int) ≤ (lf_up s.1 (39 + 7 * t0) (s.1 (35 + 7 * t0) 7) a1) (35 + 7 * t0) 7 ∧ (lf_up s.1 (39 + 7 * t0) (s.1 (35 + 7 * t0) 7) a1) (35 + 7 * t0) 7 < (24 : Int) from by omega), ?_⟩
    have hI7 : iv_A (lf_up (lf_up s.1 (39 + 7 * t0) (s.1 (35 + 7 * t0) 7) a1) (40 + 7 * t0) ((lf_up s.1 (39 + 7 * t0) (s.1 (35 + 7 * t0) 7) a1) (35 + 7 * t0) 7) a2) s.2.2 := iv_wTA40 hI3 htt0 (by omega)
    have fr8 : lf_fq [35, 39, 40, 41, 42, 46, 47, 48, 49, 53, 54, 55, 56, 60, 61, 62] 1000000 true s.1 s.2.2 (lf_up (lf_up s.1 (39 + 7 * t0) (s.1 (35 + 7 * t0) 7) a1) (40 + 7 * t0) ((lf_up s.1 (39 + 7 * t0) (s.1 (35 + 7 * t0) 7) a1) (35 + 7 * t0) 7) a2) s.2.2 := lf_fq_upT fr4 htt0 rfl (by decide)
    have b9 : 0 ≤ (lf_up (lf_up s.1 (39 + 7 * t0) (s.1 (35 + 7 * t0) 7) a1) (40 + 7 * t0) ((lf_up s.1 (39 + 7 * t0) (s.1 (35 + 7 * t0) 7) a1) (35 + 7 * t0) 7) a2) (35 + 7 * t0) 7 ∧ (lf_up (lf_up s.1 (39 + 7 * t0) (s.1 (35 + 7 * t0) 7) a1) (40 + 7 * t0) ((lf_up s.1 (39 + 7 * t0) (s.1 (35 + 7 * t0) 7) a1) (35 + 7 * t0) 7) a2) (35 + 7 * t0) 7 ≤ 24 := iv_rT_7 hI7 htt0
    have b10 : (lf_up (lf_up s.1 (39 + 7 * t0) (s.1 (35 + 7 * t0) 7) a1) (40 + 7 * t0) ((lf_up s.1 (39 + 7 * t0) (s.1 (35 + 7 * t0) 7) a1) (35 + 7 * t0) 7) a2) (35 + 7 * t0) 7 = (lf_up s.1 (39 + 7 * t0) (s.1 (35 + 7 * t0) 7) a1) (35 + 7 * t0) 7 := lf_up_c (by omega)
    refine ⟨(show (0 : Int) ≤ (lf_up (lf_up s.1 (39 + 7 * t0) (s.1 (35 + 7 * t0) 7) a1) (40 + 7 * t0) ((lf_up s.1 (39 + 7 * t0) (s.1 (35 + 7 * t0) 7) a1) (35 + 7 * t0) 7) a2) (35 + 7 * t0) 7 ∧ (lf_up (lf_up s.1 (39 + 7 * t0) (s.1 (35 + 7 * t0) 7) a1) (40 + 7 * t0) ((lf_up s.1 (39 + 7 * t0) (s.1 (35 + 7 * t0) 7) a1) (35 + 7 * t0) 7) a2) (35 + 7 * t0) 7 < (24 : Int) from by omega), ?_⟩
    have hI11 : iv_A (lf_up (lf_up (lf_up s.1 (39 + 7 * t0) (s.1 (35 + 7 * t0) 7) a1) (40 + 7 * t0) ((lf_up s.1 (39 + 7 * t0) (s.1 (35 + 7 * t0) 7) a1) (35 + 7 * t0) 7) a2) (41 + 7 * t0) ((lf_up (lf_up s.1 (39 + 7 * t0) (s.1 (35 + 7 * t0) 7) a1) (40 + 7 * t0) ((lf_up s.1 (39 + 7 * t0) (s.1 (35 + 7 * t0) 7) a1) (35 + 7 * t0) 7) a2) (35 + 7 * t0) 7) a3) s.2.2 := iv_wTA41 hI7 htt0 (by omega)
    have fr12 : lf_fq [35, 39, 40, 41, 42, 46, 47, 48, 49, 53, 54, 55, 56, 60, 61, 62] 1000000 true s.1 s.2.2 (lf_up (lf_up (lf_up s.1 (39 + 7 * t0) (s.1 (35 + 7 * t0) 7) a1) (40 + 7 * t0) ((lf_up s.1 (39 + 7 * t0) (s.1 (35 + 7 * t0) 7) a1) (35 + 7 * t0) 7) a2) (41 + 7 * t0) ((lf_up (lf_up s.1 (39 + 7 * t0) (s.1 (35 + 7 * t0) 7) a1) (40 + 7 * t0) ((lf_up s.1 (39 + 7 * t0) (s.1 (35 + 7 * t0) 7) a1) (35 + 7 * t0) 7) a2) (35 + 7 * t0) 7) a3) s.2.2 := lf_fq_upT fr8 htt0 rfl (by decide)
    have b13 : 0 ≤ (lf_up (lf_up (lf_up s.1 (39 + 7 * t0) (s.1 (35 + 7 * t0) 7) a1) (40 + 7 * t0) ((lf_up s.1 (39 + 7 * t0) (s.1 (35 + 7 * t0) 7) a1) (35 + 7 * t0) 7) a2) (41 + 7 * t0) ((lf_up (lf_up s.1 (39 + 7 * t0) (s.1 (35 + 7 * t0) 7) a1) (40 + 7 * t0) ((lf_up s.1 (39 + 7 * t0) (s.1 (35 + 7 * t0) 7) a1) (35 + 7 * t0) 7) a2) (35 + 7 * t0) 7) a3) (35 + 7 * t0) 7 ∧ (lf_up (lf_up (lf_up s.1 (39 + 7 * t0) (s.1 (35 + 7 * t0) 7) a1) (40 + 7 * t0) ((lf_up s.1 (39 + 7 * t0) (s.1 (35 + 7 * t0) 7) a1) (35 + 7 * t0) 7) a2) (41 + 7 * t0) ((lf_up (lf_up s.1 (39 + 7 * t0) (s.1 (35 + 7 * t0) 7) a1) (40 + 7 * t0) ((lf_up s.1 (39 + 7 * t0) (s.1 (35 + 7 * t0) 7) a1) (35 + 7 * t0) 7) a2) (35 + 7 * t0) 7) a3) (35 + 7 * t0) 7 ≤ 24 := iv_rT_7 hI11 htt0
    have b14 : (lf_up (lf_up (lf_up s.1 (39 + 7 * t0) (s.1 (35 + 7 * t0) 7) a1) (40 + 7 * t0) ((lf_up s.1 (39 + 7 * t0) (s.1 (35 + 7 * t0) 7) a1) (35 + 7 * t0) 7) a2) (41 + 7 * t0) ((lf_up (lf_up s.1 (39 + 7 * t0) (s.1 (35 + 7 * t0) 7) a1) (40 + 7 * t0) ((lf_up s.1 (39 + 7 * t0) (s.1 (35 + 7 * t0) 7) a1) (35 + 7 * t0) 7) a2) (35 + 7 * t0) 7) a3) (35 + 7 * t0) 7 = (lf_up (lf_up s.1 (39 + 7 * t0) (s.1 (35 + 7 * t0) 7) a1) (40 + 7 * t0) ((lf_up s.1 (39 + 7 * t0) (s.1 (35 + 7 * t0) 7) a1) (35 + 7 * t0) 7) a2) (35 + 7 * t0) 7 := lf_up_c (by omega)
    have hI15 : iv_A (lf_up (lf_up (lf_up (lf_up s.1 (39 + 7 * t0) (s.1 (35 + 7 * t0) 7) a1) (40 + 7 * t0) ((lf_up s.1 (39 + 7 * t0) (s.1 (35 + 7 * t0) 7) a1) (35 + 7 * t0) 7) a2) (41 + 7 * t0) ((lf_up (lf_up s.1 (39 + 7 * t0) (s.1 (35 + 7 * t0) 7) a1) (40 + 7 * t0) ((lf_up s.1 (39 + 7 * t0) (s.1 (35 + 7 * t0) 7) a1) (35 + 7 * t0) 7) a2) (35 + 7 * t0) 7) a3) (35 + 7 * t0) 7 (((lf_up (lf_up (lf_up s.1 (39 + 7 * t0) (s.1 (35 + 7 * t0) 7) a1) (40 + 7 * t0) ((lf_up s.1 (39 + 7 * t0) (s.1 (35 + 7 * t0) 7) a1) (35 + 7 * t0) 7) a2) (41 + 7 * t0) ((lf_up (lf_up s.1 (39 + 7 * t0) (s.1 (35 + 7 * t0) 7) a1) (40 + 7 * t0) ((lf_up s.1 (39 + 7 * t0) (s.1 (35 + 7 * t0) 7) a1) (35 + 7 * t0) 7) a2) (35 + 7 * t0) 7) a3) (35 + 7 * t0) 7) + 1)) s.2.2 := iv_wT_7 hI11 htt0 (by omega)
    have fr16 : lf_fq [35, 39, 40, 41, 42, 46, 47, 48, 49, 53, 54, 55, 56, 60, 61, 62] 1000000 true s.1 s.2.2 (lf_up (lf_up (lf_up (lf_up s.1 (39 + 7 * t0) (s.1 (35 + 7 * t0) 7) a1) (40 + 7 * t0) ((lf_up s.1 (39 + 7 * t0) (s.1 (35 + 7 * t0) 7) a1) (35 + 7 * t0) 7) a2) (41 + 7 * t0) ((lf_up (lf_up s.1 (39 + 7 * t0) (s.1 (35 + 7 * t0) 7) a1) (40 + 7 * t0) ((lf_up s.1 (39 + 7 * t0) (s.1 (35 + 7 * t0) 7) a1) (35 + 7 * t0) 7) a2) (35 + 7 * t0) 7) a3) (35 + 7 * t0) 7 (((lf_up (lf_up (lf_up s.1 (39 + 7 * t0) (s.1 (35 + 7 * t0) 7) a1) (40 + 7 * t0) ((lf_up s.1 (39 + 7 * t0) (s.1 (35 + 7 * t0) 7) a1) (35 + 7 * t0) 7) a2) (41 + 7 * t0) ((lf_up (lf_up s.1 (39 + 7 * t0) (s.1 (35 + 7 * t0) 7) a1) (40 + 7 * t0) ((lf_up s.1 (39 + 7 * t0) (s.1 (35 + 7 * t0) 7) a1) (35 + 7 * t0) 7) a2) (35 + 7 * t0) 7) a3) (35 + 7 * t0) 7) + 1)) s.2.2 := lf_fq_upT fr12 htt0 rfl (by decide)
    exact hQ (lf_up (lf_up (lf_up (lf_up s.1 (39 + 7 * t0) (s.1 (35 + 7 * t0) 7) a1) (40 + 7 * t0) ((lf_up s.1 (39 + 7 * t0) (s.1 (35 + 7 * t0) 7) a1) (35 + 7 * t0) 7) a2) (41 + 7 * t0) ((lf_up (lf_up s.1 (39 + 7 * t0) (s.1 (35 + 7 * t0) 7) a1) (40 + 7 * t0) ((lf_up s.1 (39 + 7 * t0) (s.1 (35 + 7 * t0) 7) a1) (35 + 7 * t0) 7) a2) (35 + 7 * t0) 7) a3) (35 + 7 * t0) 7 (((lf_up (lf_up (lf_up s.1 (39 + 7 * t0) (s.1 (35 + 7 * t0) 7) a1) (40 + 7 * t0) ((lf_up s.1 (39 + 7 * t0) (s.1 (35 + 7 * t0) 7) a1) (35 + 7 * t0) 7) a2) (41 + 7 * t0) ((lf_up (lf_up s.1 (39 + 7 * t0) (s.1 (35 + 7 * t0) 7) a1) (40 + 7 * t0) ((lf_up s.1 (39 + 7 * t0) (s.1 (35 + 7 * t0) 7) a1) (35 + 7 * t0) 7) a2) (35 + 7 * t0) 7) a3) (35 + 7 * t0) 7) + 1), s.2.1, s.2.2) hI15 fr16
-- fm_48 Reader.expect 31 i
theorem sm_48 {a1 : Int} {Q : lf_Z → Prop} {s : lf_Z} (hI : iv_A s.1 s.2.2) (ba1 : 0 ≤ a1 ∧ a1 ≤ 99) (hQ : ∀  (s' : lf_Z), iv_A s'.1 s'.2.2 → lf_fq [31] 1000000 true s.1 s.2.2 s'.1 s'.2.2 → Q  s') : fm_48 a1 Q s := by
  unfold fm_48
  have b1 : 0 ≤ s.1 31 8 ∧ s.1 31 8 ≤ 300 := iv_r31_8 hI
  refine ⟨(show lf_R (s.1 31 8) from lf_Rof (by omega)), ?_⟩
  refine ⟨(show lf_R a1 from lf_Rof (by omega)), ?_⟩
  refine ⟨fun c2 => ?_, fun c2 => ?_⟩
  · skip
    replace c2 : s.1 31 8 ≠ a1 := c2
    refine sm_39 hI (show (1 : Int) ≤ 1 ∧ 1 ≤ (6 : Int) from by omega) (fun s23 hI4 fr3 => ?_)
    have fr6 : lf_fq [31] 1000000 true s.1 s.2.2 s23.1 s23.2.2 := lf_fq_tr (lf_fq_rf) (lf_fq_wk fr3 rfl (by decide) (by decide))
    exact hQ s23 hI4 fr6
  · skip
    replace c2 : ¬ (s.1 31 8 ≠ a1) := c2
    refine sm_31 hI (fun s24 hI8 fr7 => ?_)
    have fr10 : lf_fq [31] 1000000 true s.1 s.2.2 s24.1 s24.2.2 := lf_fq_tr (lf_fq_rf) (lf_fq_wk fr7 rfl (by decide) (by decide))
    exact hQ s24 hI8 fr10
-- fm_58 Reader.readDeed 31 i
theorem sm_58_p68 {Q : lf_Z → Prop} {x1 : Int} {x3 : Int} {x4 : Int} {s : lf_Z} (hQ : ∀  (s' : lf_Z), iv_A s'.1 s'.2.2 → lf_fq [31, 35, 39, 40, 41, 42, 46, 47, 48, 49, 53, 54, 55, 56, 60, 61, 62] 1000000 true s.1 s.2.2 s'.1 s'.2.2 → Q  s') (hI : iv_A s.1 s.2.2) (n2 : s.2.2 2 ≠ none) (bx1 : 23 ≤ x1 ∧ x1 ≤ 32) (bx3 : 0 ≤ x3 ∧ x3 ≤ 9999) (bx4 : 0 ≤ x4 ∧ x4 ≤ 9999) : fm_58_p68 Q x1 x3 x4 s := by
  unfold fm_58_p68
  refine ⟨fun et26 => ?_, fun t26 et26 => ?_⟩
  · skip
    exact absurd et26 n2
  · have htt26 : t26 < 4 := iv_t2 hI et26
    refine ⟨htt26, ?_⟩
    refine sm_57 htt26 hI (show (20 : Int) ≤ x1 ∧ x1 ≤ (32 : Int) from by omega) (show (0 : Int) ≤ x3 ∧ x3 ≤ (9999 : Int) from by omega) (show (0 : Int) ≤ x4 ∧ x4 ≤ (9999 : Int) from by omega) (fun s27 hI11 fr10 => ?_)
    have fr13 : lf_fq [31, 35, 39, 40, 41, 42, 46, 47, 48, 49, 53, 54, 55, 56, 60, 61, 62] 1000000 true s.1 s.2.2 s27.1 s27.2.2 := lf_fq_tr (lf_fq_rf) (lf_fq_wk fr10 rfl (by decide) (by decide))
    have n14 : s27.2.2 2 ≠ none := lf_fq_n2 fr10 rfl n2
    exact hQ s27 hI11 fr13
theorem sm_58 {a1 : Int} {Q : lf_Z → Prop} {s : lf_Z} (hI : iv_A s.1 s.2.2) (n2 : s.2.2 2 ≠ none) (ba1 : 23 ≤ a1 ∧ a1 ≤ 32) (hQ : ∀  (s' : lf_Z), iv_A s'.1 s'.2.2 → lf_fq [31, 35, 39, 40, 41, 42, 46, 47, 48, 49, 53, 54, 55, 56, 60, 61, 62] 1000000 true s.1 s.2.2 s'.1 s'.2.2 → Q  s') : fm_58 a1 Q s := by
  unfold fm_58
  refine ⟨(show (0 : Int) ≤ (a1 - 23) * 5 ∧ (a1 - 23) * 5 < (50 : Int) from by omega), ?_⟩
  have b1 : 0 ≤ (px_sh ((a1 - 23) * 5).toNat).toInt ∧ (px_sh ((a1 - 23) * 5).toNat).toInt ≤ 99 := lf_px_shB
  refine ⟨(show (0 : Int) ≤ ((a1 - 23) * 5) + 1 ∧ ((a1 - 23) * 5) + 1 < (50 : Int) from by omega), ?_⟩
  have b2 : 0 ≤ (px_sh (((a1 - 23) * 5) + 1).toNat).toInt ∧ (px_sh (((a1 - 23) * 5) + 1).toNat).toInt ≤ 99 := lf_px_shB
  refine sm_44 hI (show (0 : Int) ≤ (px_sh ((a1 - 23) * 5).toNat).toInt ∧ (px_sh ((a1 - 23) * 5).toNat).toInt ≤ (99 : Int) from by omega) (show (0 : Int) ≤ (px_sh (((a1 - 23) * 5) + 1).toNat).toInt ∧ (px_sh (((a1 - 23) * 5) + 1).toNat).toInt ≤ (9999 : Int) from by omega) (fun r24 s23 hI4 fr3 q5 => ?_)
  have fr6 : lf_fq [31, 35, 39, 40, 41, 42, 46, 47, 48, 49, 53, 54, 55, 56, 60, 61, 62] 1000000 true s.1 s.2.2 s23.1 s23.2.2 := lf_fq_tr (lf_fq_rf) (lf_fq_wk fr3 rfl (by decide) (by decide))
  have n7 : s23.2.2 2 ≠ none := lf_fq_n2 fr3 rfl n2
  refine ⟨(show (0 : Int) ≤ ((a1 - 23) * 5) + 2 ∧ ((a1 - 23) * 5) + 2 < (50 : Int) from by omega), ?_⟩
  have b8 : 0 ≤ (px_sh (((a1 - 23) * 5) + 2).toNat).toInt ∧ (px_sh (((a1 - 23) * 5) + 2).toNat).toInt ≤ 99 := lf_px_shB
  refine ⟨fun c9 => ?_, fun c9 => ?_⟩
  · skip
    replace c9 : (px_sh (((a1 - 23) * 5) + 2).toNat).toInt = 0 := c9
    exact sm_58_p68 (fun t9 i9 f9 => hQ t9 i9 (lf_fq_tr fr6 f9)) hI4 n7 (show (23 : Int) ≤ a1 ∧ a1 ≤ (32 : Int) from by omega) (show (0 : Int) ≤ r24 ∧ r24 ≤ (9999 : Int) from by omega) (show (0 : Int) ≤ 0 ∧ 0 ≤ (9999 : Int) from by omega)
  · skip
    replace c9 : ¬ ((px_sh (((a1 - 23) * 5) + 2).toNat).toInt = 0) := c9
    refine sm_48 hI4 (show (0 : Int) ≤ (px_sh (((a1 - 23) * 5) + 2).toNat).toInt ∧ (px_sh (((a1 - 23) * 5) + 2).toNat).toInt ≤ (99 : Int) from by omega) (fun s28 hI16 fr15 => ?_)
    have fr18 : lf_fq [31, 35, 39, 40, 41, 42, 46, 47, 48, 49, 53, 54, 55, 56, 60, 61, 62] 1000000 true s.1 s.2.2 s28.1 s28.2.2 := lf_fq_tr fr6 (lf_fq_wk fr15 rfl (by decide) (by decide))
    have n19 : s28.2.2 2 ≠ none := lf_fq_n2 fr15 rfl n7
    refine ⟨(show (0 : Int) ≤ ((a1 - 23) * 5) + 3 ∧ ((a1 - 23) * 5) + 3 < (50 : Int) from by omega), ?_⟩
    have b20 : 0 ≤ (px_sh (((a1 - 23) * 5) + 3).toNat).toInt ∧ (px_sh (((a1 - 23) * 5) + 3).toNat).toInt ≤ 99 := lf_px_shB
    refine ⟨(show (0 : Int) ≤ ((a1 - 23) * 5) + 4 ∧ ((a1 - 23) * 5) + 4 < (50 : Int) from by omega), ?_⟩
    have b21 : 0 ≤ (px_sh (((a1 - 23) * 5) + 4).toNat).toInt ∧ (px_sh (((a1 - 23) * 5) + 4).toNat).toInt ≤ 99 := lf_px_shB
    refine sm_44 hI16 (show (0 : Int) ≤ (px_sh (((a1 - 23) * 5) + 3).toNat).toInt ∧ (px_sh (((a1 - 23) * 5) + 3).toNat).toInt ≤ (99 : Int) from by omega) (show (0 : Int) ≤ (px_sh (((a1 - 23) * 5) + 4).toNat).toInt ∧ (px_sh (((a1 - 23) * 5) + 4).toNat).toInt ≤ (9999 : Int) from by omega) (fun r32 s31 hI23 fr22 q24 => ?_)
    have fr25 : lf_fq [31, 35, 39, 40, 41, 42, 46, 47, 48, 49, 53, 54, 55, 56, 60, 61, 62] 1000000 true s.1 s.2.2 s31.1 s31.2.2 := lf_fq_tr fr18 (lf_fq_wk fr22 rfl (by decide) (by decide))
    have n26 : s31.2.2 2 ≠ none := lf_fq_n2 fr22 rfl n19
    exact sm_58_p68 (fun t9 i9 f9 => hQ t9 i9 (lf_fq_tr fr25 f9)) hI23 n26 (show (23 : Int) ≤ a1 ∧ a1 ≤ (32 : Int) from by omega) (show (0 : Int) ≤ r24 ∧ r24 ≤ (9999 : Int) from by omega) (show (0 : Int) ≤ r32 ∧ r32 ≤ (9999 : Int) from by omega)
-- fm_45 Script.addOrder t i i
theorem sm_45 {t0 : Nat} {a1 : Int} {a2 : Int} {Q : Int → lf_Z → Prop} {s : lf_Z} (htt0 : t0 < 4) (hI : iv_A s.1 s.2.2) (ba1 : 0 ≤ a1 ∧ a1 ≤ 300) (ba2 : 0 ≤ a2 ∧ a2 ≤ 1000000) (hQ : ∀ (r : Int) (s' : lf_Z), iv_A s'.1 s'.2.2 → lf_fq [35, 36, 42, 43, 49, 50, 56, 57] 1000000 true s.1 s.2.2 s'.1 s'.2.2 → ((-1) ≤ r ∧ r ≤ 299) → Q r s') : fm_45 t0 a1 a2 Q s := by
  unfold fm_45
  have b1 : 0 ≤ s.1 (35 + 7 * t0) 1 ∧ s.1 (35 + 7 * t0) 1 ≤ 300 := iv_rT_1 hI htt0
  refine ⟨(show lf_R (s.1 (35 + 7 * t0) 1) from lf_Rof (by omega)), ?_⟩
  refine ⟨fun c2 => ?_, fun c2 => ?_⟩
  · skip
    replace c2 : s.1 (35 + 7 * t0) 1 < 300 := c2
    refine ⟨(show (0 : Int) ≤ s.1 (35 + 7 * t0) 1 ∧ s.1 (35 + 7 * t0) 1 < (300 : Int) from by omega), ?_⟩
    have hI3 : iv_A (lf_up s.1 (36 + 7 * t0) (s.1 (35 + 7 * t0) 1) ((a1 * 10000) + a2)) s.2.2 := iv_wTA36 hI htt0 (by omega)
    have fr4 : lf_fq [35, 36, 42, 43, 49, 50, 56, 57] 1000000 true s.1 s.2.2 (lf_up s.1 (36 + 7 * t0) (s.1 (35 + 7 * t0) 1) ((a1 * 10000) + a2)) s.2.2 := lf_fq_upT (lf_fq_rf) htt0 rfl (by decide)
    have b5 : 0 ≤ (lf_up s.1 (36 + 7 * t0) (s.1 (35 + 7 * t0) 1) ((a1 * 10000) + a2)) (35 + 7 * t0) 1 ∧ (lf_up s.1 (36 + 7 * t0) (s.1 (35 + 7 * t0) 1) ((a1 * 10000) + a2)) (35 + 7 * t0) 1 ≤ 300 := iv_rT_1 hI3 htt0
    have b6 : (lf_up s.1 (36 + 7 * t0) (s.1 (35 + 7 * t0) 1) ((a1 * 10000) + a2)) (35 + 7 * t0) 1 = s.1 (35 + 7 * t0) 1 := lf_up_c (by omega)
    have hI7 : iv_A (lf_up (lf_up s.1 (36 + 7 * t0) (s.1 (35 + 7 * t0) 1) ((a1 * 10000) + a2)) (35 + 7 * t0) 1 (((lf_up s.1 (36 + 7 * t0) (s.1 (35 + 7 * t0) 1) ((a1 * 10000) + a2)) (35 + 7 * t0) 1) + 1)) s.2.2 := iv_wT_1 hI3 htt0 (by omega)
    have fr8 : lf_fq [35, 36, 42, 43, 49, 50, 56, 57] 1000000 true s.1 s.2.2 (lf_up (lf_up s.1 (36 + 7 * t0) (s.1 (35 + 7 * t0) 1) ((a1 * 10000) + a2)) (35 + 7 * t0) 1 (((lf_up s.1 (36 + 7 * t0) (s.1 (35 + 7 * t0) 1) ((a1 * 10000) + a2)) (35 + 7 * t0) 1) + 1)) s.2.2 := lf_fq_upT fr4 htt0 rfl (by decide)
    have b9 : 0 ≤ (lf_up (lf_up s.1 (36 + 7 * t0) (s.1 (35 + 7 * t0) 1) ((a1 * 10000) + a2)) (35 + 7 * t0) 1 (((lf_up s.1 (36 + 7 * t0) (s.1 (35 + 7 * t0) 1) ((a1 * 10000) + a2)) (35 + 7 * t0) 1) + 1)) (35 + 7 * t0) 1 ∧ (lf_up (lf_up s.1 (36 + 7 * t0) (s.1 (35 + 7 * t0) 1) ((a1 * 10000) + a2)) (35 + 7 * t0) 1 (((lf_up s.1 (36 + 7 * t0) (s.1 (35 + 7 * t0) 1) ((a1 * 10000) + a2)) (35 + 7 * t0) 1) + 1)) (35 + 7 * t0) 1 ≤ 300 := iv_rT_1 hI7 htt0
    have b10 : (lf_up (lf_up s.1 (36 + 7 * t0) (s.1 (35 + 7 * t0) 1) ((a1 * 10000) + a2)) (35 + 7 * t0) 1 (((lf_up s.1 (36 + 7 * t0) (s.1 (35 + 7 * t0) 1) ((a1 * 10000) + a2)) (35 + 7 * t0) 1) + 1)) (35 + 7 * t0) 1 = ((lf_up s.1 (36 + 7 * t0) (s.1 (35 + 7 * t0) 1) ((a1 * 10000) + a2)) (35 + 7 * t0) 1) + 1 := lf_up_s
    exact hQ (((lf_up (lf_up s.1 (36 + 7 * t0) (s.1 (35 + 7 * t0) 1) ((a1 * 10000) + a2)) (35 + 7 * t0) 1 (((lf_up s.1 (36 + 7 * t0) (s.1 (35 + 7 * t0) 1) ((a1 * 10000) + a2)) (35 + 7 * t0) 1) + 1)) (35 + 7 * t0) 1) - 1) (lf_up (lf_up s.1 (36 + 7 * t0) (s.1 (35 + 7 * t0) 1) ((a1 * 10000) + a2)) (35 + 7 * t0) 1 (((lf_up s.1 (36 + 7 * t0) (s.1 (35 + 7 * t0) 1) ((a1 * 10000) + a2)) (35 + 7 * t0) 1) + 1), s.2.1, s.2.2) hI7 fr8 (show (-1 : Int) ≤ ((lf_up (lf_up s.1 (36 + 7 * t0) (s.1 (35 + 7 * t0) 1) ((a1 * 10000) + a2)) (35 + 7 * t0) 1 (((lf_up s.1 (36 + 7 * t0) (s.1 (35 + 7 * t0) 1) ((a1 * 10000) + a2)) (35 + 7 * t0) 1) + 1)) (35 + 7 * t0) 1) - 1 ∧ ((lf_up (lf_up s.1 (36 + 7 * t0) (s.1 (35 + 7 * t0) 1) ((a1 * 10000) + a2)) (35 + 7 * t0) 1 (((lf_up s.1 (36 + 7 * t0) (s.1 (35 + 7 * t0) 1) ((a1 * 10000) + a2)) (35 + 7 * t0) 1) + 1)) (35 + 7 * t0) 1) - 1 ≤ (299 : Int) from by omega)
  · skip
    replace c2 : ¬ (s.1 (35 + 7 * t0) 1 < 300) := c2
    exact hQ (-1) s hI (lf_fq_rf) (show (-1 : Int) ≤ (-1) ∧ (-1) ≤ (299 : Int) from by omega)
-- fm_56 Reader.readName 31
theorem sm_56_p53 {Q : lf_Z → Prop} {x1 : Int} {s : lf_Z} (hQ : ∀  (s' : lf_Z), iv_A s'.1 s'.2.2 → lf_fq [31, 35, 36, 42, 43, 49, 50, 56, 57] 1000000 true s.1 s.2.2 s'.1 s'.2.2 → Q  s') (hI : iv_A s.1 s.2.2) (n2 : s.2.2 2 ≠ none) (bx1 : 0 ≤ x1 ∧ x1 ≤ 10) : fm_56_p53 Q x1 s := by
  unfold fm_56_p53
  refine ⟨(show (0 : Int) ≤ x1 ∧ x1 < (11 : Int) from by omega), ?_⟩
  have b5 : 0 ≤ (px_lw (x1).toNat).toInt ∧ (px_lw (x1).toNat).toInt ≤ 99 := lf_px_lwB
  have b6 : 0 ≤ s.1 31 6 ∧ s.1 31 6 ≤ 2 := iv_r31_6 hI
  have b7 : 0 ≤ lf_shr ((px_lw (x1).toNat).toInt) (s.1 31 6) ∧ lf_shr ((px_lw (x1).toNat).toInt) (s.1 31 6) ≤ 99 := lf_shrP (by omega) (by omega)
  have b8 : 0 ≤ lf_and (lf_shr ((px_lw (x1).toNat).toInt) (s.1 31 6)) 1 ∧ lf_and (lf_shr ((px_lw (x1).toNat).toInt) (s.1 31 6)) 1 ≤ 1 := lf_andB (by omega) (by omega)
  refine ⟨fun c9 => ?_, fun c9 => ?_⟩
  · skip
    replace c9 : lf_and (lf_shr ((px_lw (x1).toNat).toInt) (s.1 31 6)) 1 ≠ 0 := c9
    refine ⟨fun et24 => ?_, fun t24 et24 => ?_⟩
    · skip
      exact absurd et24 n2
    · have htt24 : t24 < 4 := iv_t2 hI et24
      refine ⟨htt24, ?_⟩
      refine sm_45 htt24 hI (show (0 : Int) ≤ 17 ∧ 17 ≤ (300 : Int) from by omega) (show (0 : Int) ≤ x1 ∧ x1 ≤ (1000000 : Int) from by omega) (fun r26 s25 hI11 fr10 q12 => ?_)
      have fr13 : lf_fq [31, 35, 36, 42, 43, 49, 50, 56, 57] 1000000 true s.1 s.2.2 s25.1 s25.2.2 := lf_fq_tr (lf_fq_rf) (lf_fq_wk fr10 rfl (by decide) (by decide))
      have n14 : s25.2.2 2 ≠ none := lf_fq_n2 fr10 rfl n2
      refine sm_31 hI11 (fun s27 hI16 fr15 => ?_)
      have fr18 : lf_fq [31, 35, 36, 42, 43, 49, 50, 56, 57] 1000000 true s.1 s.2.2 s27.1 s27.2.2 := lf_fq_tr fr13 (lf_fq_wk fr15 rfl (by decide) (by decide))
      have n19 : s27.2.2 2 ≠ none := lf_fq_n2 fr15 rfl n14
      exact hQ s27 hI16 fr18
  · skip
    replace c9 : ¬ (lf_and (lf_shr ((px_lw (x1).toNat).toInt) (s.1 31 6)) 1 ≠ 0) := c9
    refine sm_39 hI (show (1 : Int) ≤ 5 ∧ 5 ≤ (6 : Int) from by omega) (fun s28 hI21 fr20 => ?_)
    have fr23 : lf_fq [31, 35, 36, 42, 43, 49, 50, 56, 57] 1000000 true s.1 s.2.2 s28.1 s28.2.2 := lf_fq_tr (lf_fq_rf) (lf_fq_wk fr20 rfl (by decide) (by decide))
    have n24 : s28.2.2 2 ≠ none := lf_fq_n2 fr20 rfl n2
    exact hQ s28 hI21 fr23
theorem sm_56_p21 {Q : lf_Z → Prop} {y0 : Int} {s : lf_Z} (hQ : ∀  (s' : lf_Z), iv_A s'.1 s'.2.2 → lf_fq [31, 35, 36, 42, 43, 49, 50, 56, 57] 1000000 true s.1 s.2.2 s'.1 s'.2.2 → Q  s') (hI : iv_A s.1 s.2.2) (n2 : s.2.2 2 ≠ none) (by0 : (-47) ≤ y0 ∧ y0 ≤ 253) (kv0 : (s.1 31 8 = 24 ∧ y0 = 10) ∨ (s.1 31 8 ≠ 24 ∧ y0 = s.1 31 8 - 47)) : fm_56_p21 Q y0 s := by
  unfold fm_56_p21
  have b3 : 0 ≤ s.1 31 8 ∧ s.1 31 8 ≤ 300 := iv_r31_8 hI
  refine ⟨(show lf_R (s.1 31 8) from lf_Rof (by omega)), ?_⟩
  refine ⟨fun c4 => ?_, fun c4 => ?_⟩
  · skip
    replace c4 : s.1 31 8 = 24 := c4
    exact sm_56_p53 hQ hI n2 (show (0 : Int) ≤ y0 ∧ y0 ≤ (10 : Int) from by omega)
  · skip
    replace c4 : ¬ (s.1 31 8 = 24) := c4
    refine sm_15 hI (show (-2147483648 : Int) ≤ s.1 31 8 ∧ s.1 31 8 ≤ (2147483647 : Int) from by omega) (show (-1 : Int) ≤ 47 ∧ 47 ≤ (99 : Int) from by omega) (show (-2147483648 : Int) ≤ 56 ∧ 56 ≤ (2147483647 : Int) from by omega) (fun z30 q25 => ?_)
    refine ⟨fun c26 => ?_, fun c26 => ?_⟩
    · skip
      have dc26 := q25.1 c26
      exact sm_56_p53 hQ hI n2 (show (0 : Int) ≤ y0 ∧ y0 ≤ (10 : Int) from by omega)
    · skip
      have dc26 := q25.2 c26
      refine sm_39 hI (show (1 : Int) ≤ 1 ∧ 1 ≤ (6 : Int) from by omega) (fun s31 hI28 fr27 => ?_)
      have fr30 : lf_fq [31, 35, 36, 42, 43, 49, 50, 56, 57] 1000000 true s.1 s.2.2 s31.1 s31.2.2 := lf_fq_tr (lf_fq_rf) (lf_fq_wk fr27 rfl (by decide) (by decide))
      have n31 : s31.2.2 2 ≠ none := lf_fq_n2 fr27 rfl n2
      exact hQ s31 hI28 fr30
theorem sm_56 {Q : lf_Z → Prop} {s : lf_Z} (hI : iv_A s.1 s.2.2) (n2 : s.2.2 2 ≠ none) (hQ : ∀  (s' : lf_Z), iv_A s'.1 s'.2.2 → lf_fq [31, 35, 36, 42, 43, 49, 50, 56, 57] 1000000 true s.1 s.2.2 s'.1 s'.2.2 → Q  s') : fm_56 Q s := by
  unfold fm_56
  have b1 : 0 ≤ s.1 31 8 ∧ s.1 31 8 ≤ 300 := iv_r31_8 hI
  refine ⟨(show lf_R (s.1 31 8) from lf_Rof (by omega)), ?_⟩
  refine ⟨fun c2 => ?_, fun c2 => ?_⟩
  · skip
    replace c2 : s.1 31 8 ≠ 24 := c2
    exact sm_56_p21 hQ hI n2 (show (-47 : Int) ≤ (s.1 31 8) - 47 ∧ (s.1 31 8) - 47 ≤ (253 : Int) from by omega) (show ((s.1 31 8) = 24 ∧ ((s.1 31 8) - 47) = 10) ∨ ((s.1 31 8) ≠ 24 ∧ ((s.1 31 8) - 47) = (s.1 31 8) - 47) from by omega)
  · skip
    replace c2 : ¬ (s.1 31 8 ≠ 24) := c2
    exact sm_56_p21 hQ hI n2 (show (-47 : Int) ≤ 10 ∧ 10 ≤ (253 : Int) from by omega) (show ((s.1 31 8) = 24 ∧ 10 = 10) ∨ ((s.1 31 8) ≠ 24 ∧ 10 = (s.1 31 8) - 47) from by omega)
-- fm_46 Reader.readLetter 31
theorem sm_46_p26 {Q : lf_Z → Prop} {y0 : Int} {s : lf_Z} (hQ : ∀  (s' : lf_Z), iv_A s'.1 s'.2.2 → lf_fq [31, 35, 36, 42, 43, 49, 50, 56, 57] 1000000 true s.1 s.2.2 s'.1 s'.2.2 → Q  s') (hI : iv_A s.1 s.2.2) (n2 : s.2.2 2 ≠ none) (by0 : (-1) ≤ y0 ∧ y0 ≤ 7) : fm_46_p26 Q y0 s := by
  unfold fm_46_p26
  refine ⟨(show lf_R y0 from lf_Rof (by omega)), ?_⟩
  refine ⟨fun c4 => ?_, fun c4 => ?_⟩
  · skip
    replace c4 : y0 ≠ (-1) := c4
    refine ⟨fun et24 => ?_, fun t24 et24 => ?_⟩
    · skip
      exact absurd et24 n2
    · have htt24 : t24 < 4 := iv_t2 hI et24
      refine ⟨htt24, ?_⟩
      refine sm_45 htt24 hI (show (0 : Int) ≤ 3 ∧ 3 ≤ (300 : Int) from by omega) (show (0 : Int) ≤ y0 ∧ y0 ≤ (1000000 : Int) from by omega) (fun r26 s25 hI6 fr5 q7 => ?_)
      have fr8 : lf_fq [31, 35, 36, 42, 43, 49, 50, 56, 57] 1000000 true s.1 s.2.2 s25.1 s25.2.2 := lf_fq_tr (lf_fq_rf) (lf_fq_wk fr5 rfl (by decide) (by decide))
      have n9 : s25.2.2 2 ≠ none := lf_fq_n2 fr5 rfl n2
      refine sm_31 hI6 (fun s27 hI11 fr10 => ?_)
      have fr13 : lf_fq [31, 35, 36, 42, 43, 49, 50, 56, 57] 1000000 true s.1 s.2.2 s27.1 s27.2.2 := lf_fq_tr fr8 (lf_fq_wk fr10 rfl (by decide) (by decide))
      have n14 : s27.2.2 2 ≠ none := lf_fq_n2 fr10 rfl n9
      exact hQ s27 hI11 fr13
  · skip
    replace c4 : ¬ (y0 ≠ (-1)) := c4
    refine sm_39 hI (show (1 : Int) ≤ 5 ∧ 5 ≤ (6 : Int) from by omega) (fun s28 hI16 fr15 => ?_)
    have fr18 : lf_fq [31, 35, 36, 42, 43, 49, 50, 56, 57] 1000000 true s.1 s.2.2 s28.1 s28.2.2 := lf_fq_tr (lf_fq_rf) (lf_fq_wk fr15 rfl (by decide) (by decide))
    have n19 : s28.2.2 2 ≠ none := lf_fq_n2 fr15 rfl n2
    exact hQ s28 hI16 fr18
theorem sm_46 {Q : lf_Z → Prop} {s : lf_Z} (hI : iv_A s.1 s.2.2) (n2 : s.2.2 2 ≠ none) (hQ : ∀  (s' : lf_Z), iv_A s'.1 s'.2.2 → lf_fq [31, 35, 36, 42, 43, 49, 50, 56, 57] 1000000 true s.1 s.2.2 s'.1 s'.2.2 → Q  s') : fm_46 Q s := by
  unfold fm_46
  have b1 : (-2147483648) ≤ s.1 31 10 ∧ s.1 31 10 ≤ 2147483647 := iv_full hI
  refine sm_15 hI (show (-2147483648 : Int) ≤ s.1 31 10 ∧ s.1 31 10 ≤ (2147483647 : Int) from by omega) (show (-1 : Int) ≤ 0 ∧ 0 ≤ (99 : Int) from by omega) (show (-2147483648 : Int) ≤ 25 ∧ 25 ≤ (2147483647 : Int) from by omega) (fun z22 q2 => ?_)
  refine ⟨fun c3 => ?_, fun c3 => ?_⟩
  · skip
    have dc3 := q2.2 c3
    exact sm_46_p26 hQ hI n2 (show (-1 : Int) ≤ (-1) ∧ (-1) ≤ (7 : Int) from by omega)
  · skip
    have dc3 := q2.1 c3
    refine ⟨(show (0 : Int) ≤ s.1 31 10 ∧ s.1 31 10 < (26 : Int) from by omega), ?_⟩
    have b20 : (-1) ≤ s.1 33 (s.1 31 10) ∧ s.1 33 (s.1 31 10) ≤ 7 := iv_r33 hI _
    exact sm_46_p26 hQ hI n2 (show (-1 : Int) ≤ s.1 33 (s.1 31 10) ∧ s.1 33 (s.1 31 10) ≤ (7 : Int) from by omega)
-- fm_47 Reader.enter 31 i
theorem sm_47 {a1 : Int} {Q : Bool → lf_Z → Prop} {s : lf_Z} (hI : iv_A s.1 s.2.2) (ba1 : 0 ≤ a1 ∧ a1 ≤ 8) (hQ : ∀ (z : Bool) (s' : lf_Z), iv_A s'.1 s'.2.2 → lf_fq [31] 1000000 true s.1 s.2.2 s'.1 s'.2.2 → ((z = true → (a1 < 8)) ∧ (z = false → ¬ (a1 < 8))) → Q z s') : fm_47 a1 Q s := by
  unfold fm_47
  refine ⟨(show lf_R a1 from lf_Rof (by omega)), ?_⟩
  refine ⟨fun c1 => ?_, fun c1 => ?_⟩
  · skip
    replace c1 : a1 < 8 := c1
    refine sm_31 hI (fun s22 hI3 fr2 => ?_)
    have fr5 : lf_fq [31] 1000000 true s.1 s.2.2 s22.1 s22.2.2 := lf_fq_tr (lf_fq_rf) (lf_fq_wk fr2 rfl (by decide) (by decide))
    exact hQ true s22 hI3 fr5 (lf_pt (by omega))
  · skip
    replace c1 : ¬ (a1 < 8) := c1
    refine sm_39 hI (show (1 : Int) ≤ 3 ∧ 3 ≤ (6 : Int) from by omega) (fun s23 hI7 fr6 => ?_)
    have fr9 : lf_fq [31] 1000000 true s.1 s.2.2 s23.1 s23.2.2 := lf_fq_tr (lf_fq_rf) (lf_fq_wk fr6 rfl (by decide) (by decide))
    exact hQ false s23 hI7 fr9 (lf_pf (by omega))
-- fm_53 Script.leadToHere t i
theorem sm_53 {t0 : Nat} {a1 : Int} {Q : lf_Z → Prop} {s : lf_Z} (htt0 : t0 < 4) (hI : iv_A s.1 s.2.2) (ba1 : (-1) ≤ a1 ∧ a1 ≤ 299) (hQ : ∀  (s' : lf_Z), iv_A s'.1 s'.2.2 → lf_fq [36, 43, 50, 57] 1000000 true s.1 s.2.2 s'.1 s'.2.2 → Q  s') : fm_53 t0 a1 Q s := by
  unfold fm_53
  refine ⟨(show lf_R a1 from lf_Rof (by omega)), ?_⟩
  refine ⟨fun c1 => ?_, fun c1 => ?_⟩
  · skip
    replace c1 : a1 < 0 := c1
    exact hQ s hI (lf_fq_rf)
  · skip
    replace c1 : ¬ (a1 < 0) := c1
    have b2 : 0 ≤ s.1 (35 + 7 * t0) 1 ∧ s.1 (35 + 7 * t0) 1 ≤ 300 := iv_rT_1 hI htt0
    refine ⟨(show lf_R (s.1 (35 + 7 * t0) 1) from lf_Rof (by omega)), ?_⟩
    refine ⟨fun c3 => ?_, fun c3 => ?_⟩
    · skip
      replace c3 : s.1 (35 + 7 * t0) 1 ≤ a1 := c3
      exact hQ s hI (lf_fq_rf)
    · skip
      replace c3 : ¬ (s.1 (35 + 7 * t0) 1 ≤ a1) := c3
      refine ⟨(show (0 : Int) ≤ a1 ∧ a1 < (300 : Int) from by omega), ?_⟩
      have b4 : (-2147483648) ≤ s.1 (36 + 7 * t0) a1 ∧ s.1 (36 + 7 * t0) a1 ≤ 2147483647 := iv_full hI
      have b5 : (-2147483648) ≤ lf_w ((s.1 (36 + 7 * t0) a1) + (s.1 (35 + 7 * t0) 1)) ∧ lf_w ((s.1 (36 + 7 * t0) a1) + (s.1 (35 + 7 * t0) 1)) ≤ 2147483647 := lf_wB
      have hI6 : iv_A (lf_up s.1 (36 + 7 * t0) a1 (lf_w ((s.1 (36 + 7 * t0) a1) + (s.1 (35 + 7 * t0) 1)))) s.2.2 := iv_wTA36 hI htt0 (by omega)
      have fr7 : lf_fq [36, 43, 50, 57] 1000000 true s.1 s.2.2 (lf_up s.1 (36 + 7 * t0) a1 (lf_w ((s.1 (36 + 7 * t0) a1) + (s.1 (35 + 7 * t0) 1)))) s.2.2 := lf_fq_upT (lf_fq_rf) htt0 rfl (by decide)
      exact hQ (lf_up s.1 (36 + 7 * t0) a1 (lf_w ((s.1 (36 + 7 * t0) a1) + (s.1 (35 + 7 * t0) 1))), s.2.1, s.2.2) hI6 fr7
-- fm_55 ElevenBullocks.cut i i i
theorem sm_55 {a0 : Int} {a1 : Int} {a2 : Int} {Q : Int → lf_Z → Prop} {s : lf_Z} (hI : iv_A s.1 s.2.2) (ba0 : (-2147483648) ≤ a0 ∧ a0 ≤ 2147483647) (ba1 : 0 ≤ a1 ∧ a1 ≤ 0) (ba2 : 2 ≤ a2 ∧ a2 ≤ 1000000) (hQ : ∀ (r : Int), ((0 ≤ r ∧ r ≤ 1000000) ∧ (a1 ≤ r ∧ (r ≤ a2 ∨ r ≤ a1))) → Q r s) : fm_55 a0 a1 a2 Q s := by
  unfold fm_55
  refine ⟨(show lf_R a2 from lf_Rof (by omega)), ?_⟩
  refine ⟨(show lf_R a0 from lf_Rof (by omega)), ?_⟩
  refine ⟨(show lf_R a1 from lf_Rof (by omega)), ?_⟩
  refine ⟨(show lf_R (min a2 a0) from lf_Rof (by omega)), ?_⟩
  exact hQ (max a1 (min a2 a0)) ⟨(show (0 : Int) ≤ max a1 (min a2 a0) ∧ max a1 (min a2 a0) ≤ (1000000 : Int) from by omega), (show a1 ≤ max a1 (min a2 a0) ∧ (max a1 (min a2 a0) ≤ a2 ∨ max a1 (min a2 a0) ≤ a1) from by omega)⟩
-- fm_41 Reader.readSum 31 i
theorem sm_41_p32 {R42 : Int → (lf_Z → Prop) → lf_Z → Prop} {X7 : Int → lf_Z → Prop} {Q : lf_Z → Prop} {x1 : Int} {x2 : Int} {s : lf_Z} {MR : Nat} (hQ : ∀  (s' : lf_Z), iv_A s'.1 s'.2.2 → lf_fq [31, 33, 35, 36, 42, 43, 49, 50, 56, 57] 1000000 true s.1 s.2.2 s'.1 s'.2.2 → Q  s') (hR42 : ∀ {a1 : Int} {Q : lf_Z → Prop} {s : lf_Z}, (20 * (9 - a1) + 2).toNat < MR → iv_A s.1 s.2.2 → s.2.2 2 ≠ none → 0 ≤ a1 ∧ a1 ≤ 8 → (∀  (s' : lf_Z), iv_A s'.1 s'.2.2 → lf_fq [31, 33, 35, 36, 42, 43, 49, 50, 56, 57] 1000000 true s.1 s.2.2 s'.1 s'.2.2 → Q  s') → R42 a1 Q s) {M7 : Nat} (hX7 : ∀ (x2 : Int) (s' : lf_Z), iv_A s'.1 s'.2.2 → lf_fq [31, 33, 35, 36, 42, 43, 49, 50, 56, 57] 1000000 true s.1 s.2.2 s'.1 s'.2.2 → s'.2.2 2 ≠ none → 0 ≤ x2 ∧ x2 ≤ 300 → (300 - x2).toNat < M7 → X7 x2 s') (hM7 : (300 - x2).toNat ≤ M7) (hMR : (20 * (9 - x1) + 3).toNat ≤ MR) (hI : iv_A s.1 s.2.2) (n2 : s.2.2 2 ≠ none) (bx1 : 0 ≤ x1 ∧ x1 ≤ 8) (bx2 : 0 ≤ x2 ∧ x2 ≤ 299) : fm_41_p32 R42 X7 Q x1 x2 s := by
  unfold fm_41_p32
  have b9 : 0 ≤ s.1 31 8 ∧ s.1 31 8 ≤ 300 := iv_r31_8 hI
  refine sm_31 hI (fun s24 hI11 fr10 => ?_)
  have fr13 : lf_fq [31, 33, 35, 36, 42, 43, 49, 50, 56, 57] 1000000 true s.1 s.2.2 s24.1 s24.2.2 := lf_fq_tr (lf_fq_rf) (lf_fq_wk fr10 rfl (by decide) (by decide))
  have n14 : s24.2.2 2 ≠ none := lf_fq_n2 fr10 rfl n2
  refine hR42 (show (20 * (9 - x1) + 2).toNat < MR from by omega) hI11 n14 (show (0 : Int) ≤ x1 ∧ x1 ≤ (8 : Int) from by omega) (fun s25 hI16 fr15 => ?_)
  have fr18 : lf_fq [31, 33, 35, 36, 42, 43, 49, 50, 56, 57] 1000000 true s.1 s.2.2 s25.1 s25.2.2 := lf_fq_tr fr13 (lf_fq_wk fr15 rfl (by decide) (by decide))
  have n19 : s25.2.2 2 ≠ none := lf_fq_n2 fr15 rfl n14
  refine ⟨fun et26 => ?_, fun t26 et26 => ?_⟩
  · skip
    exact absurd et26 n19
  · have htt26 : t26 < 4 := iv_t2 hI16 et26
    refine ⟨htt26, ?_⟩
    refine sm_45 htt26 hI16 (show (0 : Int) ≤ s.1 31 8 ∧ s.1 31 8 ≤ (300 : Int) from by omega) (show (0 : Int) ≤ 0 ∧ 0 ≤ (1000000 : Int) from by omega) (fun r28 s27 hI21 fr20 q22 => ?_)
    have fr23 : lf_fq [31, 33, 35, 36, 42, 43, 49, 50, 56, 57] 1000000 true s.1 s.2.2 s27.1 s27.2.2 := lf_fq_tr fr18 (lf_fq_wk fr20 rfl (by decide) (by decide))
    have n24 : s27.2.2 2 ≠ none := lf_fq_n2 fr20 rfl n19
    exact hX7 (x2 + 1) s27 hI21 fr23 n24 (show (0 : Int) ≤ x2 + 1 ∧ x2 + 1 ≤ (300 : Int) from by omega) (show (300 - (x2 + 1)).toNat < M7 from by omega)
theorem sm_41_p7 {R42 : Int → (lf_Z → Prop) → lf_Z → Prop} {X7 : Int → lf_Z → Prop} {Q : lf_Z → Prop} {x1 : Int} {x2 : Int} {s : lf_Z} {MR : Nat} (hQ : ∀  (s' : lf_Z), iv_A s'.1 s'.2.2 → lf_fq [31, 33, 35, 36, 42, 43, 49, 50, 56, 57] 1000000 true s.1 s.2.2 s'.1 s'.2.2 → Q  s') (hR42 : ∀ {a1 : Int} {Q : lf_Z → Prop} {s : lf_Z}, (20 * (9 - a1) + 2).toNat < MR → iv_A s.1 s.2.2 → s.2.2 2 ≠ none → 0 ≤ a1 ∧ a1 ≤ 8 → (∀  (s' : lf_Z), iv_A s'.1 s'.2.2 → lf_fq [31, 33, 35, 36, 42, 43, 49, 50, 56, 57] 1000000 true s.1 s.2.2 s'.1 s'.2.2 → Q  s') → R42 a1 Q s) {M7 : Nat} (hX7 : ∀ (x2 : Int) (s' : lf_Z), iv_A s'.1 s'.2.2 → lf_fq [31, 33, 35, 36, 42, 43, 49, 50, 56, 57] 1000000 true s.1 s.2.2 s'.1 s'.2.2 → s'.2.2 2 ≠ none → 0 ≤ x2 ∧ x2 ≤ 300 → (300 - x2).toNat < M7 → X7 x2 s') (hM7 : (300 - x2).toNat ≤ M7) (hMR : (20 * (9 - x1) + 3).toNat ≤ MR) (hI : iv_A s.1 s.2.2) (n2 : s.2.2 2 ≠ none) (bx1 : 0 ≤ x1 ∧ x1 ≤ 8) (bx2 : 0 ≤ x2 ∧ x2 ≤ 300) : fm_41_p7 R42 Q x1 X7 x2 s := by
  unfold fm_41_p7
  refine ⟨(show lf_R x2 from lf_Rof (by omega)), ?_⟩
  refine ⟨fun c6 => ?_, fun c6 => ?_⟩
  · skip
    replace c6 : 300 ≤ x2 := c6
    exact hQ s hI (lf_fq_rf)
  · skip
    replace c6 : ¬ (300 ≤ x2) := c6
    have b7 : 0 ≤ s.1 31 8 ∧ s.1 31 8 ≤ 300 := iv_r31_8 hI
    refine ⟨(show lf_R (s.1 31 8) from lf_Rof (by omega)), ?_⟩
    refine ⟨fun c8 => ?_, fun c8 => ?_⟩
    · skip
      replace c8 : s.1 31 8 = 10 := c8
      exact sm_41_p32 hQ hR42 hX7 (show (300 - x2).toNat ≤ M7 from by omega) (show (20 * (9 - x1) + 3).toNat ≤ MR from by omega) hI n2 (show (0 : Int) ≤ x1 ∧ x1 ≤ (8 : Int) from by omega) (show (0 : Int) ≤ x2 ∧ x2 ≤ (299 : Int) from by omega)
    · skip
      replace c8 : ¬ (s.1 31 8 = 10) := c8
      refine ⟨fun c25 => ?_, fun c25 => ?_⟩
      · skip
        replace c25 : s.1 31 8 ≠ 11 := c25
        exact hQ s hI (lf_fq_rf)
      · skip
        replace c25 : ¬ (s.1 31 8 ≠ 11) := c25
        exact sm_41_p32 hQ hR42 hX7 (show (300 - x2).toNat ≤ M7 from by omega) (show (20 * (9 - x1) + 3).toNat ≤ MR from by omega) hI n2 (show (0 : Int) ≤ x1 ∧ x1 ≤ (8 : Int) from by omega) (show (0 : Int) ≤ x2 ∧ x2 ≤ (299 : Int) from by omega)
theorem sm_41_p7L {R42 : Int → (lf_Z → Prop) → lf_Z → Prop} {Q : lf_Z → Prop} {x1 : Int} {x2 : Int} {s : lf_Z} {MR : Nat} (hQ : ∀  (s' : lf_Z), iv_A s'.1 s'.2.2 → lf_fq [31, 33, 35, 36, 42, 43, 49, 50, 56, 57] 1000000 true s.1 s.2.2 s'.1 s'.2.2 → Q  s') (hR42 : ∀ {a1 : Int} {Q : lf_Z → Prop} {s : lf_Z}, (20 * (9 - a1) + 2).toNat < MR → iv_A s.1 s.2.2 → s.2.2 2 ≠ none → 0 ≤ a1 ∧ a1 ≤ 8 → (∀  (s' : lf_Z), iv_A s'.1 s'.2.2 → lf_fq [31, 33, 35, 36, 42, 43, 49, 50, 56, 57] 1000000 true s.1 s.2.2 s'.1 s'.2.2 → Q  s') → R42 a1 Q s) (hMR : (20 * (9 - x1) + 3).toNat ≤ MR) (hI : iv_A s.1 s.2.2) (n2 : s.2.2 2 ≠ none) (bx1 : 0 ≤ x1 ∧ x1 ≤ 8) (bx2 : 0 ≤ x2 ∧ x2 ≤ 300) : fm_41_p7L R42 Q x1 x2 s := by
  intro X7 hX
  have key : ∀ (m9 : Nat) (x2 : Int) (s' : lf_Z), iv_A s'.1 s'.2.2 → lf_fq [31, 33, 35, 36, 42, 43, 49, 50, 56, 57] 1000000 true s.1 s.2.2 s'.1 s'.2.2 → s'.2.2 2 ≠ none → 0 ≤ x2 ∧ x2 ≤ 300 → (300 - x2).toNat < m9 → X7 x2 s' := by
    intro m9
    induction m9 with
    | zero => intro x2 s' _ _ n2 bx2 h9; exact absurd h9 (Nat.not_lt_zero _)
    | succ m9 ih => intro x2 s' i7 f7 n2 bx2 h9; exact hX _ _ (sm_41_p7 (fun t9 i9 f9 => hQ t9 i9 (lf_fq_tr f7 f9)) hR42  (fun x2' t8 i8 f8 n2' bx2' h8 => ih x2' t8 i8 (lf_fq_tr f7 f8) n2' bx2' (by omega)) (Nat.le_refl _) hMR i7 n2 bx1 bx2  )
  exact key _ _ s hI lf_fq_rf n2 bx2 (Nat.lt_succ_self _)
theorem sm_41 {R42 : Int → (lf_Z → Prop) → lf_Z → Prop} {a1 : Int} {Q : lf_Z → Prop} {s : lf_Z} {MR : Nat} (hR42 : ∀ {a1 : Int} {Q : lf_Z → Prop} {s : lf_Z}, (20 * (9 - a1) + 2).toNat < MR → iv_A s.1 s.2.2 → s.2.2 2 ≠ none → 0 ≤ a1 ∧ a1 ≤ 8 → (∀  (s' : lf_Z), iv_A s'.1 s'.2.2 → lf_fq [31, 33, 35, 36, 42, 43, 49, 50, 56, 57] 1000000 true s.1 s.2.2 s'.1 s'.2.2 → Q  s') → R42 a1 Q s) (hMR : (20 * (9 - a1) + 3).toNat ≤ MR) (hI : iv_A s.1 s.2.2) (n2 : s.2.2 2 ≠ none) (ba1 : 0 ≤ a1 ∧ a1 ≤ 8) (hQ : ∀  (s' : lf_Z), iv_A s'.1 s'.2.2 → lf_fq [31, 33, 35, 36, 42, 43, 49, 50, 56, 57] 1000000 true s.1 s.2.2 s'.1 s'.2.2 → Q  s') : fm_41 R42 a1 Q s := by
  unfold fm_41
  refine hR42 (show (20 * (9 - a1) + 2).toNat < MR from by omega) hI n2 (show (0 : Int) ≤ a1 ∧ a1 ≤ (8 : Int) from by omega) (fun s21 hI2 fr1 => ?_)
  have fr4 : lf_fq [31, 33, 35, 36, 42, 43, 49, 50, 56, 57] 1000000 true s.1 s.2.2 s21.1 s21.2.2 := lf_fq_tr (lf_fq_rf) (lf_fq_wk fr1 rfl (by decide) (by decide))
  have n5 : s21.2.2 2 ≠ none := lf_fq_n2 fr1 rfl n2
  exact sm_41_p7L (fun t9 i9 f9 => hQ t9 i9 (lf_fq_tr fr4 f9)) hR42 (show (20 * (9 - a1) + 3).toNat ≤ MR from by omega) hI2 n5 (show (0 : Int) ≤ a1 ∧ a1 ≤ (8 : Int) from by omega) (show (0 : Int) ≤ 0 ∧ 0 ≤ (300 : Int) from by omega)
-- fm_42 Reader.readProduct 31 i
theorem sm_42_p32 {R43 : Int → (lf_Z → Prop) → lf_Z → Prop} {X7 : Int → lf_Z → Prop} {Q : lf_Z → Prop} {x1 : Int} {x2 : Int} {s : lf_Z} {MR : Nat} (hQ : ∀  (s' : lf_Z), iv_A s'.1 s'.2.2 → lf_fq [31, 33, 35, 36, 42, 43, 49, 50, 56, 57] 1000000 true s.1 s.2.2 s'.1 s'.2.2 → Q  s') (hR43 : ∀ {a1 : Int} {Q : lf_Z → Prop} {s : lf_Z}, (20 * (9 - a1) + 1).toNat < MR → iv_A s.1 s.2.2 → s.2.2 2 ≠ none → 0 ≤ a1 ∧ a1 ≤ 8 → (∀  (s' : lf_Z), iv_A s'.1 s'.2.2 → lf_fq [31, 33, 35, 36, 42, 43, 49, 50, 56, 57] 1000000 true s.1 s.2.2 s'.1 s'.2.2 → Q  s') → R43 a1 Q s) {M7 : Nat} (hX7 : ∀ (x2 : Int) (s' : lf_Z), iv_A s'.1 s'.2.2 → lf_fq [31, 33, 35, 36, 42, 43, 49, 50, 56, 57] 1000000 true s.1 s.2.2 s'.1 s'.2.2 → s'.2.2 2 ≠ none → 0 ≤ x2 ∧ x2 ≤ 300 → (300 - x2).toNat < M7 → X7 x2 s') (hM7 : (300 - x2).toNat ≤ M7) (hMR : (20 * (9 - x1) + 2).toNat ≤ MR) (hI : iv_A s.1 s.2.2) (n2 : s.2.2 2 ≠ none) (bx1 : 0 ≤ x1 ∧ x1 ≤ 8) (bx2 : 0 ≤ x2 ∧ x2 ≤ 299) : fm_42_p32 R43 X7 Q x1 x2 s := by
  unfold fm_42_p32
  have b9 : 0 ≤ s.1 31 8 ∧ s.1 31 8 ≤ 300 := iv_r31_8 hI
  refine sm_31 hI (fun s24 hI11 fr10 => ?_)
  have fr13 : lf_fq [31, 33, 35, 36, 42, 43, 49, 50, 56, 57] 1000000 true s.1 s.2.2 s24.1 s24.2.2 := lf_fq_tr (lf_fq_rf) (lf_fq_wk fr10 rfl (by decide) (by decide))
  have n14 : s24.2.2 2 ≠ none := lf_fq_n2 fr10 rfl n2
  refine hR43 (show (20 * (9 - x1) + 1).toNat < MR from by omega) hI11 n14 (show (0 : Int) ≤ x1 ∧ x1 ≤ (8 : Int) from by omega) (fun s25 hI16 fr15 => ?_)
  have fr18 : lf_fq [31, 33, 35, 36, 42, 43, 49, 50, 56, 57] 1000000 true s.1 s.2.2 s25.1 s25.2.2 := lf_fq_tr fr13 (lf_fq_wk fr15 rfl (by decide) (by decide))
  have n19 : s25.2.2 2 ≠ none := lf_fq_n2 fr15 rfl n14
  refine ⟨fun et26 => ?_, fun t26 et26 => ?_⟩
  · skip
    exact absurd et26 n19
  · have htt26 : t26 < 4 := iv_t2 hI16 et26
    refine ⟨htt26, ?_⟩
    refine sm_45 htt26 hI16 (show (0 : Int) ≤ s.1 31 8 ∧ s.1 31 8 ≤ (300 : Int) from by omega) (show (0 : Int) ≤ 0 ∧ 0 ≤ (1000000 : Int) from by omega) (fun r28 s27 hI21 fr20 q22 => ?_)
    have fr23 : lf_fq [31, 33, 35, 36, 42, 43, 49, 50, 56, 57] 1000000 true s.1 s.2.2 s27.1 s27.2.2 := lf_fq_tr fr18 (lf_fq_wk fr20 rfl (by decide) (by decide))
    have n24 : s27.2.2 2 ≠ none := lf_fq_n2 fr20 rfl n19
    exact hX7 (x2 + 1) s27 hI21 fr23 n24 (show (0 : Int) ≤ x2 + 1 ∧ x2 + 1 ≤ (300 : Int) from by omega) (show (300 - (x2 + 1)).toNat < M7 from by omega)
theorem sm_42_p7 {R43 : Int → (lf_Z → Prop) → lf_Z → Prop} {X7 : Int → lf_Z → Prop} {Q : lf_Z → Prop} {x1 : Int} {x2 : Int} {s : lf_Z} {MR : Nat} (hQ : ∀  (s' : lf_Z), iv_A s'.1 s'.2.2 → lf_fq [31, 33, 35, 36, 42, 43, 49, 50, 56, 57] 1000000 true s.1 s.2.2 s'.1 s'.2.2 → Q  s') (hR43 : ∀ {a1 : Int} {Q : lf_Z → Prop} {s : lf_Z}, (20 * (9 - a1) + 1).toNat < MR → iv_A s.1 s.2.2 → s.2.2 2 ≠ none → 0 ≤ a1 ∧ a1 ≤ 8 → (∀  (s' : lf_Z), iv_A s'.1 s'.2.2 → lf_fq [31, 33, 35, 36, 42, 43, 49, 50, 56, 57] 1000000 true s.1 s.2.2 s'.1 s'.2.2 → Q  s') → R43 a1 Q s) {M7 : Nat} (hX7 : ∀ (x2 : Int) (s' : lf_Z), iv_A s'.1 s'.2.2 → lf_fq [31, 33, 35, 36, 42, 43, 49, 50, 56, 57] 1000000 true s.1 s.2.2 s'.1 s'.2.2 → s'.2.2 2 ≠ none → 0 ≤ x2 ∧ x2 ≤ 300 → (300 - x2).toNat < M7 → X7 x2 s') (hM7 : (300 - x2).toNat ≤ M7) (hMR : (20 * (9 - x1) + 2).toNat ≤ MR) (hI : iv_A s.1 s.2.2) (n2 : s.2.2 2 ≠ none) (bx1 : 0 ≤ x1 ∧ x1 ≤ 8) (bx2 : 0 ≤ x2 ∧ x2 ≤ 300) : fm_42_p7 R43 Q x1 X7 x2 s := by
  unfold fm_42_p7
  refine ⟨(show lf_R x2 from lf_Rof (by omega)), ?_⟩
  refine ⟨fun c6 => ?_, fun c6 => ?_⟩
  · skip
    replace c6 : 300 ≤ x2 := c6
    exact hQ s hI (lf_fq_rf)
  · skip
    replace c6 : ¬ (300 ≤ x2) := c6
    have b7 : 0 ≤ s.1 31 8 ∧ s.1 31 8 ≤ 300 := iv_r31_8 hI
    refine ⟨(show lf_R (s.1 31 8) from lf_Rof (by omega)), ?_⟩
    refine ⟨fun c8 => ?_, fun c8 => ?_⟩
    · skip
      replace c8 : s.1 31 8 = 12 := c8
      exact sm_42_p32 hQ hR43 hX7 (show (300 - x2).toNat ≤ M7 from by omega) (show (20 * (9 - x1) + 2).toNat ≤ MR from by omega) hI n2 (show (0 : Int) ≤ x1 ∧ x1 ≤ (8 : Int) from by omega) (show (0 : Int) ≤ x2 ∧ x2 ≤ (299 : Int) from by omega)
    · skip
      replace c8 : ¬ (s.1 31 8 = 12) := c8
      refine ⟨fun c25 => ?_, fun c25 => ?_⟩
      · skip
        replace c25 : s.1 31 8 ≠ 13 := c25
        exact hQ s hI (lf_fq_rf)
      · skip
        replace c25 : ¬ (s.1 31 8 ≠ 13) := c25
        exact sm_42_p32 hQ hR43 hX7 (show (300 - x2).toNat ≤ M7 from by omega) (show (20 * (9 - x1) + 2).toNat ≤ MR from by omega) hI n2 (show (0 : Int) ≤ x1 ∧ x1 ≤ (8 : Int) from by omega) (show (0 : Int) ≤ x2 ∧ x2 ≤ (299 : Int) from by omega)
theorem sm_42_p7L {R43 : Int → (lf_Z → Prop) → lf_Z → Prop} {Q : lf_Z → Prop} {x1 : Int} {x2 : Int} {s : lf_Z} {MR : Nat} (hQ : ∀  (s' : lf_Z), iv_A s'.1 s'.2.2 → lf_fq [31, 33, 35, 36, 42, 43, 49, 50, 56, 57] 1000000 true s.1 s.2.2 s'.1 s'.2.2 → Q  s') (hR43 : ∀ {a1 : Int} {Q : lf_Z → Prop} {s : lf_Z}, (20 * (9 - a1) + 1).toNat < MR → iv_A s.1 s.2.2 → s.2.2 2 ≠ none → 0 ≤ a1 ∧ a1 ≤ 8 → (∀  (s' : lf_Z), iv_A s'.1 s'.2.2 → lf_fq [31, 33, 35, 36, 42, 43, 49, 50, 56, 57] 1000000 true s.1 s.2.2 s'.1 s'.2.2 → Q  s') → R43 a1 Q s) (hMR : (20 * (9 - x1) + 2).toNat ≤ MR) (hI : iv_A s.1 s.2.2) (n2 : s.2.2 2 ≠ none) (bx1 : 0 ≤ x1 ∧ x1 ≤ 8) (bx2 : 0 ≤ x2 ∧ x2 ≤ 300) : fm_42_p7L R43 Q x1 x2 s := by
  intro X7 hX
  have key : ∀ (m9 : Nat) (x2 : Int) (s' : lf_Z), iv_A s'.1 s'.2.2 → lf_fq [31, 33, 35, 36, 42, 43, 49, 50, 56, 57] 1000000 true s.1 s.2.2 s'.1 s'.2.2 → s'.2.2 2 ≠ none → 0 ≤ x2 ∧ x2 ≤ 300 → (300 - x2).toNat < m9 → X7 x2 s' := by
    intro m9
    induction m9 with
    | zero => intro x2 s' _ _ n2 bx2 h9; exact absurd h9 (Nat.not_lt_zero _)
    | succ m9 ih => intro x2 s' i7 f7 n2 bx2 h9; exact hX _ _ (sm_42_p7 (fun t9 i9 f9 => hQ t9 i9 (lf_fq_tr f7 f9)) hR43  (fun x2' t8 i8 f8 n2' bx2' h8 => ih x2' t8 i8 (lf_fq_tr f7 f8) n2' bx2' (by omega)) (Nat.le_refl _) hMR i7 n2 bx1 bx2  )
  exact key _ _ s hI lf_fq_rf n2 bx2 (Nat.lt_succ_self _)
theorem sm_42 {R43 : Int → (lf_Z → Prop) → lf_Z → Prop} {a1 : Int} {Q : lf_Z → Prop} {s : lf_Z} {MR : Nat} (hR43 : ∀ {a1 : Int} {Q : lf_Z → Prop} {s : lf_Z}, (20 * (9 - a1) + 1).toNat < MR → iv_A s.1 s.2.2 → s.2.2 2 ≠ none → 0 ≤ a1 ∧ a1 ≤ 8 → (∀  (s' : lf_Z), iv_A s'.1 s'.2.2 → lf_fq [31, 33, 35, 36, 42, 43, 49, 50, 56, 57] 1000000 true s.1 s.2.2 s'.1 s'.2.2 → Q  s') → R43 a1 Q s) (hMR : (20 * (9 - a1) + 2).toNat ≤ MR) (hI : iv_A s.1 s.2.2) (n2 : s.2.2 2 ≠ none) (ba1 : 0 ≤ a1 ∧ a1 ≤ 8) (hQ : ∀  (s' : lf_Z), iv_A s'.1 s'.2.2 → lf_fq [31, 33, 35, 36, 42, 43, 49, 50, 56, 57] 1000000 true s.1 s.2.2 s'.1 s'.2.2 → Q  s') : fm_42 R43 a1 Q s := by
  unfold fm_42
  refine hR43 (show (20 * (9 - a1) + 1).toNat < MR from by omega) hI n2 (show (0 : Int) ≤ a1 ∧ a1 ≤ (8 : Int) from by omega) (fun s21 hI2 fr1 => ?_)
  have fr4 : lf_fq [31, 33, 35, 36, 42, 43, 49, 50, 56, 57] 1000000 true s.1 s.2.2 s21.1 s21.2.2 := lf_fq_tr (lf_fq_rf) (lf_fq_wk fr1 rfl (by decide) (by decide))
  have n5 : s21.2.2 2 ≠ none := lf_fq_n2 fr1 rfl n2
  exact sm_42_p7L (fun t9 i9 f9 => hQ t9 i9 (lf_fq_tr fr4 f9)) hR43 (show (20 * (9 - a1) + 2).toNat ≤ MR from by omega) hI2 n5 (show (0 : Int) ≤ a1 ∧ a1 ≤ (8 : Int) from by omega) (show (0 : Int) ≤ 0 ∧ 0 ≤ (300 : Int) from by omega)
-- fm_43 Reader.readOne 31 i
theorem sm_43 {R41 : Int → (lf_Z → Prop) → lf_Z → Prop} {R43 : Int → (lf_Z → Prop) → lf_Z → Prop} {R49 : Int → (lf_Z → Prop) → lf_Z → Prop} {R54 : Int → (lf_Z → Prop) → lf_Z → Prop} {a1 : Int} {Q : lf_Z → Prop} {s : lf_Z} {MR : Nat} (hR41 : ∀ {a1 : Int} {Q : lf_Z → Prop} {s : lf_Z}, (20 * (9 - a1) + 3).toNat < MR → iv_A s.1 s.2.2 → s.2.2 2 ≠ none → 0 ≤ a1 ∧ a1 ≤ 8 → (∀  (s' : lf_Z), iv_A s'.1 s'.2.2 → lf_fq [31, 33, 35, 36, 42, 43, 49, 50, 56, 57] 1000000 true s.1 s.2.2 s'.1 s'.2.2 → Q  s') → R41 a1 Q s) (hR43 : ∀ {a1 : Int} {Q : lf_Z → Prop} {s : lf_Z}, (20 * (9 - a1) + 1).toNat < MR → iv_A s.1 s.2.2 → s.2.2 2 ≠ none → 0 ≤ a1 ∧ a1 ≤ 8 → (∀  (s' : lf_Z), iv_A s'.1 s'.2.2 → lf_fq [31, 33, 35, 36, 42, 43, 49, 50, 56, 57] 1000000 true s.1 s.2.2 s'.1 s'.2.2 → Q  s') → R43 a1 Q s) (hR49 : ∀ {a1 : Int} {Q : lf_Z → Prop} {s : lf_Z}, (20 * (9 - a1) + 7).toNat < MR → iv_A s.1 s.2.2 → s.2.2 2 ≠ none → 1 ≤ a1 ∧ a1 ≤ 8 → (∀  (s' : lf_Z), iv_A s'.1 s'.2.2 → lf_fq [31, 33, 35, 36, 42, 43, 49, 50, 56, 57] 1000000 true s.1 s.2.2 s'.1 s'.2.2 → Q  s') → R49 a1 Q s) (hR54 : ∀ {a1 : Int} {Q : lf_Z → Prop} {s : lf_Z}, (20 * (9 - a1) + 7).toNat < MR → iv_A s.1 s.2.2 → s.2.2 2 ≠ none → 1 ≤ a1 ∧ a1 ≤ 8 → (∀  (s' : lf_Z), iv_A s'.1 s'.2.2 → lf_fq [31, 33, 35, 36, 42, 43, 49, 50, 56, 57] 1000000 true s.1 s.2.2 s'.1 s'.2.2 → Q  s') → R54 a1 Q s) (hMR : (20 * (9 - a1) + 1).toNat ≤ MR) (hI : iv_A s.1 s.2.2) (n2 : s.2.2 2 ≠ none) (ba1 : 0 ≤ a1 ∧ a1 ≤ 8) (hQ : ∀  (s' : lf_Z), iv_A s'.1 s'.2.2 → lf_fq [31, 33, 35, 36, 42, 43, 49, 50, 56, 57] 1000000 true s.1 s.2.2 s'.1 s'.2.2 → Q  s') : fm_43 R41 R43 R49 R54 a1 Q s := by
  unfold fm_43
  have b1 : 0 ≤ s.1 31 8 ∧ s.1 31 8 ≤ 300 := iv_r31_8 hI
  refine ⟨(show lf_R (s.1 31 8) from lf_Rof (by omega)), ?_⟩
  refine ⟨fun c2 => ?_, fun c2 => ?_, fun c2 => ?_, fun c2 => ?_, fun c2 => ?_, fun c2 => ?_, fun c2 => ?_⟩
  · replace c2 : s.1 31 8 ≠ 2 ∧ s.1 31 8 ≠ 3 ∧ s.1 31 8 ≠ 11 ∧ s.1 31 8 ≠ 14 ∧ s.1 31 8 ≠ 37 ∧ s.1 31 8 ≠ 41 := c2
    refine sm_56 hI n2 (fun s22 hI4 fr3 => ?_)
    have fr6 : lf_fq [31, 33, 35, 36, 42, 43, 49, 50, 56, 57] 1000000 true s.1 s.2.2 s22.1 s22.2.2 := lf_fq_tr (lf_fq_rf) (lf_fq_wk fr3 rfl (by decide) (by decide))
    have n7 : s22.2.2 2 ≠ none := lf_fq_n2 fr3 rfl n2
    exact hQ s22 hI4 fr6
  · replace c2 : s.1 31 8 = 2 := c2
    refine ⟨fun et23 => ?_, fun t23 et23 => ?_⟩
    · skip
      exact absurd et23 n2
    · have htt23 : t23 < 4 := iv_t2 hI et23
      refine ⟨htt23, ?_⟩
      refine sm_44 hI (show (0 : Int) ≤ 0 ∧ 0 ≤ (99 : Int) from by omega) (show (0 : Int) ≤ 9999 ∧ 9999 ≤ (9999 : Int) from by omega) (fun r27 s26 hI14 fr13 q15 => ?_)
      have fr16 : lf_fq [31, 33, 35, 36, 42, 43, 49, 50, 56, 57] 1000000 true s.1 s.2.2 s26.1 s26.2.2 := lf_fq_tr (lf_fq_rf) (lf_fq_wk fr13 rfl (by decide) (by decide))
      have n17 : s26.2.2 2 ≠ none := lf_fq_n2 fr13 rfl n2
      refine sm_45 htt23 hI14 (show (0 : Int) ≤ 2 ∧ 2 ≤ (300 : Int) from by omega) (show (0 : Int) ≤ r27 ∧ r27 ≤ (1000000 : Int) from by omega) (fun r29 s28 hI19 fr18 q20 => ?_)
      have fr21 : lf_fq [31, 33, 35, 36, 42, 43, 49, 50, 56, 57] 1000000 true s.1 s.2.2 s28.1 s28.2.2 := lf_fq_tr fr16 (lf_fq_wk fr18 rfl (by decide) (by decide))
      have n22 : s28.2.2 2 ≠ none := lf_fq_n2 fr18 rfl n17
      exact hQ s28 hI19 fr21
  · replace c2 : s.1 31 8 = 3 := c2
    refine sm_46 hI n2 (fun s30 hI24 fr23 => ?_)
    have fr26 : lf_fq [31, 33, 35, 36, 42, 43, 49, 50, 56, 57] 1000000 true s.1 s.2.2 s30.1 s30.2.2 := lf_fq_tr (lf_fq_rf) (lf_fq_wk fr23 rfl (by decide) (by decide))
    have n27 : s30.2.2 2 ≠ none := lf_fq_n2 fr23 rfl n2
    exact hQ s30 hI24 fr26
  · replace c2 : s.1 31 8 = 11 := c2
    refine sm_47 hI (show (0 : Int) ≤ a1 ∧ a1 ≤ (8 : Int) from by omega) (fun z32 s31 hI29 fr28 q30 => ?_)
    have fr31 : lf_fq [31, 33, 35, 36, 42, 43, 49, 50, 56, 57] 1000000 true s.1 s.2.2 s31.1 s31.2.2 := lf_fq_tr (lf_fq_rf) (lf_fq_wk fr28 rfl (by decide) (by decide))
    have n32 : s31.2.2 2 ≠ none := lf_fq_n2 fr28 rfl n2
    refine ⟨fun c33 => ?_, fun c33 => ?_⟩
    · skip
      have dc33 := q30.2 c33
      exact hQ s31 hI29 fr31
    · skip
      have dc33 := q30.1 c33
      refine hR43 (show (20 * (9 - (a1 + 1)) + 1).toNat < MR from by omega) hI29 n32 (show (0 : Int) ≤ a1 + 1 ∧ a1 + 1 ≤ (8 : Int) from by omega) (fun s33 hI35 fr34 => ?_)
      have fr37 : lf_fq [31, 33, 35, 36, 42, 43, 49, 50, 56, 57] 1000000 true s.1 s.2.2 s33.1 s33.2.2 := lf_fq_tr fr31 (lf_fq_wk fr34 rfl (by decide) (by decide))
      have n38 : s33.2.2 2 ≠ none := lf_fq_n2 fr34 rfl n32
      refine ⟨fun et34 => ?_, fun t34 et34 => ?_⟩
      · skip
        exact absurd et34 n38
      · have htt34 : t34 < 4 := iv_t2 hI35 et34
        refine ⟨htt34, ?_⟩
        refine sm_45 htt34 hI35 (show (0 : Int) ≤ 18 ∧ 18 ≤ (300 : Int) from by omega) (show (0 : Int) ≤ 0 ∧ 0 ≤ (1000000 : Int) from by omega) (fun r36 s35 hI40 fr39 q41 => ?_)
        have fr42 : lf_fq [31, 33, 35, 36, 42, 43, 49, 50, 56, 57] 1000000 true s.1 s.2.2 s35.1 s35.2.2 := lf_fq_tr fr37 (lf_fq_wk fr39 rfl (by decide) (by decide))
        have n43 : s35.2.2 2 ≠ none := lf_fq_n2 fr39 rfl n38
        exact hQ s35 hI40 fr42
  · replace c2 : s.1 31 8 = 14 := c2
    refine sm_47 hI (show (0 : Int) ≤ a1 ∧ a1 ≤ (8 : Int) from by omega) (fun z38 s37 hI45 fr44 q46 => ?_)
    have fr47 : lf_fq [31, 33, 35, 36, 42, 43, 49, 50, 56, 57] 1000000 true s.1 s.2.2 s37.1 s37.2.2 := lf_fq_tr (lf_fq_rf) (lf_fq_wk fr44 rfl (by decide) (by decide))
    have n48 : s37.2.2 2 ≠ none := lf_fq_n2 fr44 rfl n2
    refine ⟨fun c49 => ?_, fun c49 => ?_⟩
    · skip
      have dc49 := q46.2 c49
      exact hQ s37 hI45 fr47
    · skip
      have dc49 := q46.1 c49
      refine hR41 (show (20 * (9 - (a1 + 1)) + 3).toNat < MR from by omega) hI45 n48 (show (0 : Int) ≤ a1 + 1 ∧ a1 + 1 ≤ (8 : Int) from by omega) (fun s39 hI51 fr50 => ?_)
      have fr53 : lf_fq [31, 33, 35, 36, 42, 43, 49, 50, 56, 57] 1000000 true s.1 s.2.2 s39.1 s39.2.2 := lf_fq_tr fr47 (lf_fq_wk fr50 rfl (by decide) (by decide))
      have n54 : s39.2.2 2 ≠ none := lf_fq_n2 fr50 rfl n48
      refine sm_48 hI51 (show (0 : Int) ≤ 15 ∧ 15 ≤ (99 : Int) from by omega) (fun s40 hI56 fr55 => ?_)
      have fr58 : lf_fq [31, 33, 35, 36, 42, 43, 49, 50, 56, 57] 1000000 true s.1 s.2.2 s40.1 s40.2.2 := lf_fq_tr fr53 (lf_fq_wk fr55 rfl (by decide) (by decide))
      have n59 : s40.2.2 2 ≠ none := lf_fq_n2 fr55 rfl n54
      exact hQ s40 hI56 fr58
  · replace c2 : s.1 31 8 = 37 := c2
    refine sm_47 hI (show (0 : Int) ≤ a1 ∧ a1 ≤ (8 : Int) from by omega) (fun z42 s41 hI61 fr60 q62 => ?_)
    have fr63 : lf_fq [31, 33, 35, 36, 42, 43, 49, 50, 56, 57] 1000000 true s.1 s.2.2 s41.1 s41.2.2 := lf_fq_tr (lf_fq_rf) (lf_fq_wk fr60 rfl (by decide) (by decide))
    have n64 : s41.2.2 2 ≠ none := lf_fq_n2 fr60 rfl n2
    refine ⟨fun c65 => ?_, fun c65 => ?_⟩
    · skip
      have dc65 := q62.2 c65
      exact hQ s41 hI61 fr63
    · skip
      have dc65 := q62.1 c65
      refine hR49 (show (20 * (9 - (a1 + 1)) + 7).toNat < MR from by omega) hI61 n64 (show (1 : Int) ≤ a1 + 1 ∧ a1 + 1 ≤ (8 : Int) from by omega) (fun s43 hI67 fr66 => ?_)
      have fr69 : lf_fq [31, 33, 35, 36, 42, 43, 49, 50, 56, 57] 1000000 true s.1 s.2.2 s43.1 s43.2.2 := lf_fq_tr fr63 (lf_fq_wk fr66 rfl (by decide) (by decide))
      have n70 : s43.2.2 2 ≠ none := lf_fq_n2 fr66 rfl n64
      exact hQ s43 hI67 fr69
  · replace c2 : s.1 31 8 = 41 := c2
    refine sm_47 hI (show (0 : Int) ≤ a1 ∧ a1 ≤ (8 : Int) from by omega) (fun z45 s44 hI72 fr71 q73 => ?_)
    have fr74 : lf_fq [31, 33, 35, 36, 42, 43, 49, 50, 56, 57] 1000000 true s.1 s.2.2 s44.1 s44.2.2 := lf_fq_tr (lf_fq_rf) (lf_fq_wk fr71 rfl (by decide) (by decide))
    have n75 : s44.2.2 2 ≠ none := lf_fq_n2 fr71 rfl n2
    refine ⟨fun c76 => ?_, fun c76 => ?_⟩
    · skip
      have dc76 := q73.2 c76
      exact hQ s44 hI72 fr74
    · skip
      have dc76 := q73.1 c76
      refine hR54 (show (20 * (9 - (a1 + 1)) + 7).toNat < MR from by omega) hI72 n75 (show (1 : Int) ≤ a1 + 1 ∧ a1 + 1 ≤ (8 : Int) from by omega) (fun s46 hI78 fr77 => ?_)
      have fr80 : lf_fq [31, 33, 35, 36, 42, 43, 49, 50, 56, 57] 1000000 true s.1 s.2.2 s46.1 s46.2.2 := lf_fq_tr fr74 (lf_fq_wk fr77 rfl (by decide) (by decide))
      have n81 : s46.2.2 2 ≠ none := lf_fq_n2 fr77 rfl n75
      exact hQ s46 hI78 fr80
-- fm_49 Reader.readIf 31 i
theorem sm_49 {R41 : Int → (lf_Z → Prop) → lf_Z → Prop} {R50 : Int → (lf_Z → Prop) → lf_Z → Prop} {a1 : Int} {Q : lf_Z → Prop} {s : lf_Z} {MR : Nat} (hR41 : ∀ {a1 : Int} {Q : lf_Z → Prop} {s : lf_Z}, (20 * (9 - a1) + 3).toNat < MR → iv_A s.1 s.2.2 → s.2.2 2 ≠ none → 0 ≤ a1 ∧ a1 ≤ 8 → (∀  (s' : lf_Z), iv_A s'.1 s'.2.2 → lf_fq [31, 33, 35, 36, 42, 43, 49, 50, 56, 57] 1000000 true s.1 s.2.2 s'.1 s'.2.2 → Q  s') → R41 a1 Q s) (hR50 : ∀ {a1 : Int} {Q : lf_Z → Prop} {s : lf_Z}, (20 * (9 - a1) + 6).toNat < MR → iv_A s.1 s.2.2 → s.2.2 2 ≠ none → 1 ≤ a1 ∧ a1 ≤ 8 → (∀  (s' : lf_Z), iv_A s'.1 s'.2.2 → lf_fq [31, 33, 35, 36, 42, 43, 49, 50, 56, 57] 1000000 true s.1 s.2.2 s'.1 s'.2.2 → Q  s') → R50 a1 Q s) (hMR : (20 * (9 - a1) + 7).toNat ≤ MR) (hI : iv_A s.1 s.2.2) (n2 : s.2.2 2 ≠ none) (ba1 : 1 ≤ a1 ∧ a1 ≤ 8) (hQ : ∀  (s' : lf_Z), iv_A s'.1 s'.2.2 → lf_fq [31, 33, 35, 36, 42, 43, 49, 50, 56, 57] 1000000 true s.1 s.2.2 s'.1 s'.2.2 → Q  s') : fm_49 R41 R50 a1 Q s := by
  unfold fm_49
  refine hR50 (show (20 * (9 - a1) + 6).toNat < MR from by omega) hI n2 (show (1 : Int) ≤ a1 ∧ a1 ≤ (8 : Int) from by omega) (fun s21 hI2 fr1 => ?_)
  have fr4 : lf_fq [31, 33, 35, 36, 42, 43, 49, 50, 56, 57] 1000000 true s.1 s.2.2 s21.1 s21.2.2 := lf_fq_tr (lf_fq_rf) (lf_fq_wk fr1 rfl (by decide) (by decide))
  have n5 : s21.2.2 2 ≠ none := lf_fq_n2 fr1 rfl n2
  refine sm_48 hI2 (show (0 : Int) ≤ 38 ∧ 38 ≤ (99 : Int) from by omega) (fun s22 hI7 fr6 => ?_)
  have fr9 : lf_fq [31, 33, 35, 36, 42, 43, 49, 50, 56, 57] 1000000 true s.1 s.2.2 s22.1 s22.2.2 := lf_fq_tr fr4 (lf_fq_wk fr6 rfl (by decide) (by decide))
  have n10 : s22.2.2 2 ≠ none := lf_fq_n2 fr6 rfl n5
  refine ⟨fun et23 => ?_, fun t23 et23 => ?_⟩
  · skip
    exact absurd et23 n10
  · have htt23 : t23 < 4 := iv_t2 hI7 et23
    refine ⟨htt23, ?_⟩
    refine sm_45 htt23 hI7 (show (0 : Int) ≤ 38 ∧ 38 ≤ (300 : Int) from by omega) (show (0 : Int) ≤ 0 ∧ 0 ≤ (1000000 : Int) from by omega) (fun r25 s24 hI12 fr11 q13 => ?_)
    have fr14 : lf_fq [31, 33, 35, 36, 42, 43, 49, 50, 56, 57] 1000000 true s.1 s.2.2 s24.1 s24.2.2 := lf_fq_tr fr9 (lf_fq_wk fr11 rfl (by decide) (by decide))
    have n15 : s24.2.2 2 ≠ none := lf_fq_n2 fr11 rfl n10
    refine hR41 (show (20 * (9 - a1) + 3).toNat < MR from by omega) hI12 n15 (show (0 : Int) ≤ a1 ∧ a1 ≤ (8 : Int) from by omega) (fun s26 hI17 fr16 => ?_)
    have fr19 : lf_fq [31, 33, 35, 36, 42, 43, 49, 50, 56, 57] 1000000 true s.1 s.2.2 s26.1 s26.2.2 := lf_fq_tr fr14 (lf_fq_wk fr16 rfl (by decide) (by decide))
    have n20 : s26.2.2 2 ≠ none := lf_fq_n2 fr16 rfl n15
    refine sm_48 hI17 (show (0 : Int) ≤ 39 ∧ 39 ≤ (99 : Int) from by omega) (fun s27 hI22 fr21 => ?_)
    have fr24 : lf_fq [31, 33, 35, 36, 42, 43, 49, 50, 56, 57] 1000000 true s.1 s.2.2 s27.1 s27.2.2 := lf_fq_tr fr19 (lf_fq_wk fr21 rfl (by decide) (by decide))
    have n25 : s27.2.2 2 ≠ none := lf_fq_n2 fr21 rfl n20
    refine ⟨fun et28 => ?_, fun t28 et28 => ?_⟩
    · skip
      exact absurd et28 n25
    · have htt28 : t28 < 4 := iv_t2 hI22 et28
      refine ⟨htt28, ?_⟩
      refine sm_45 htt28 hI22 (show (0 : Int) ≤ 39 ∧ 39 ≤ (300 : Int) from by omega) (show (0 : Int) ≤ 0 ∧ 0 ≤ (1000000 : Int) from by omega) (fun r30 s29 hI27 fr26 q28 => ?_)
      have fr29 : lf_fq [31, 33, 35, 36, 42, 43, 49, 50, 56, 57] 1000000 true s.1 s.2.2 s29.1 s29.2.2 := lf_fq_tr fr24 (lf_fq_wk fr26 rfl (by decide) (by decide))
      have n30 : s29.2.2 2 ≠ none := lf_fq_n2 fr26 rfl n25
      refine ⟨fun et31 => ?_, fun t31 et31 => ?_⟩
      · skip
        exact absurd et31 n30
      · have htt31 : t31 < 4 := iv_t2 hI27 et31
        refine ⟨htt31, ?_⟩
        refine sm_53 htt31 hI27 (show (-1 : Int) ≤ r25 ∧ r25 ≤ (299 : Int) from by omega) (fun s32 hI32 fr31 => ?_)
        have fr34 : lf_fq [31, 33, 35, 36, 42, 43, 49, 50, 56, 57] 1000000 true s.1 s.2.2 s32.1 s32.2.2 := lf_fq_tr fr29 (lf_fq_wk fr31 rfl (by decide) (by decide))
        have n35 : s32.2.2 2 ≠ none := lf_fq_n2 fr31 rfl n30
        refine hR41 (show (20 * (9 - a1) + 3).toNat < MR from by omega) hI32 n35 (show (0 : Int) ≤ a1 ∧ a1 ≤ (8 : Int) from by omega) (fun s33 hI37 fr36 => ?_)
        have fr39 : lf_fq [31, 33, 35, 36, 42, 43, 49, 50, 56, 57] 1000000 true s.1 s.2.2 s33.1 s33.2.2 := lf_fq_tr fr34 (lf_fq_wk fr36 rfl (by decide) (by decide))
        have n40 : s33.2.2 2 ≠ none := lf_fq_n2 fr36 rfl n35
        refine ⟨fun et34 => ?_, fun t34 et34 => ?_⟩
        · skip
          exact absurd et34 n40
        · have htt34 : t34 < 4 := iv_t2 hI37 et34
          refine ⟨htt34, ?_⟩
          refine sm_53 htt34 hI37 (show (-1 : Int) ≤ r30 ∧ r30 ≤ (299 : Int) from by omega) (fun s35 hI42 fr41 => ?_)
          have fr44 : lf_fq [31, 33, 35, 36, 42, 43, 49, 50, 56, 57] 1000000 true s.1 s.2.2 s35.1 s35.2.2 := lf_fq_tr fr39 (lf_fq_wk fr41 rfl (by decide) (by decide))
          have n45 : s35.2.2 2 ≠ none := lf_fq_n2 fr41 rfl n40
          refine sm_48 hI42 (show (0 : Int) ≤ 40 ∧ 40 ≤ (99 : Int) from by omega) (fun s36 hI47 fr46 => ?_)
          have fr49 : lf_fq [31, 33, 35, 36, 42, 43, 49, 50, 56, 57] 1000000 true s.1 s.2.2 s36.1 s36.2.2 := lf_fq_tr fr44 (lf_fq_wk fr46 rfl (by decide) (by decide))
          have n50 : s36.2.2 2 ≠ none := lf_fq_n2 fr46 rfl n45
          exact hQ s36 hI47 fr49
-- fm_54 Reader.readLet 31 i
theorem sm_54_p29 {R41 : Int → (lf_Z → Prop) → lf_Z → Prop} {Q : lf_Z → Prop} {x1 : Int} {y0 : Int} {s : lf_Z} {MR : Nat} (hQ : ∀  (s' : lf_Z), iv_A s'.1 s'.2.2 → lf_fq [31, 33, 35, 36, 42, 43, 49, 50, 56, 57] 1000000 true s.1 s.2.2 s'.1 s'.2.2 → Q  s') (hR41 : ∀ {a1 : Int} {Q : lf_Z → Prop} {s : lf_Z}, (20 * (9 - a1) + 3).toNat < MR → iv_A s.1 s.2.2 → s.2.2 2 ≠ none → 0 ≤ a1 ∧ a1 ≤ 8 → (∀  (s' : lf_Z), iv_A s'.1 s'.2.2 → lf_fq [31, 33, 35, 36, 42, 43, 49, 50, 56, 57] 1000000 true s.1 s.2.2 s'.1 s'.2.2 → Q  s') → R41 a1 Q s) (hMR : (20 * (9 - x1) + 7).toNat ≤ MR) (hI : iv_A s.1 s.2.2) (n2 : s.2.2 2 ≠ none) (bx1 : 1 ≤ x1 ∧ x1 ≤ 8) (by0 : 0 ≤ y0 ∧ y0 ≤ 25) : fm_54_p29 R41 Q x1 y0 s := by
  unfold fm_54_p29
  refine sm_55 hI (show (-2147483648 : Int) ≤ x1 - 1 ∧ x1 - 1 ≤ (2147483647 : Int) from by omega) (show (0 : Int) ≤ 0 ∧ 0 ≤ (0 : Int) from by omega) (show (2 : Int) ≤ 7 ∧ 7 ≤ (1000000 : Int) from by omega) (fun r23 q3 => ?_)
  obtain ⟨q3, q3x⟩ := q3
  replace q3x : 0 ≤ r23 ∧ (r23 ≤ 7 ∨ r23 ≤ 0) := q3x
  refine sm_48 hI (show (0 : Int) ≤ 3 ∧ 3 ≤ (99 : Int) from by omega) (fun s24 hI5 fr4 => ?_)
  have fr7 : lf_fq [31, 33, 35, 36, 42, 43, 49, 50, 56, 57] 1000000 true s.1 s.2.2 s24.1 s24.2.2 := lf_fq_tr (lf_fq_rf) (lf_fq_wk fr4 rfl (by decide) (by decide))
  have n8 : s24.2.2 2 ≠ none := lf_fq_n2 fr4 rfl n2
  refine sm_48 hI5 (show (0 : Int) ≤ 42 ∧ 42 ≤ (99 : Int) from by omega) (fun s25 hI10 fr9 => ?_)
  have fr12 : lf_fq [31, 33, 35, 36, 42, 43, 49, 50, 56, 57] 1000000 true s.1 s.2.2 s25.1 s25.2.2 := lf_fq_tr fr7 (lf_fq_wk fr9 rfl (by decide) (by decide))
  have n13 : s25.2.2 2 ≠ none := lf_fq_n2 fr9 rfl n8
  refine hR41 (show (20 * (9 - x1) + 3).toNat < MR from by omega) hI10 n13 (show (0 : Int) ≤ x1 ∧ x1 ≤ (8 : Int) from by omega) (fun s26 hI15 fr14 => ?_)
  have fr17 : lf_fq [31, 33, 35, 36, 42, 43, 49, 50, 56, 57] 1000000 true s.1 s.2.2 s26.1 s26.2.2 := lf_fq_tr fr12 (lf_fq_wk fr14 rfl (by decide) (by decide))
  have n18 : s26.2.2 2 ≠ none := lf_fq_n2 fr14 rfl n13
  refine sm_48 hI15 (show (0 : Int) ≤ 43 ∧ 43 ≤ (99 : Int) from by omega) (fun s27 hI20 fr19 => ?_)
  have fr22 : lf_fq [31, 33, 35, 36, 42, 43, 49, 50, 56, 57] 1000000 true s.1 s.2.2 s27.1 s27.2.2 := lf_fq_tr fr17 (lf_fq_wk fr19 rfl (by decide) (by decide))
  have n23 : s27.2.2 2 ≠ none := lf_fq_n2 fr19 rfl n18
  refine ⟨fun et28 => ?_, fun t28 et28 => ?_⟩
  · skip
    exact absurd et28 n23
  · have htt28 : t28 < 4 := iv_t2 hI20 et28
    refine ⟨htt28, ?_⟩
    refine sm_45 htt28 hI20 (show (0 : Int) ≤ 43 ∧ 43 ≤ (300 : Int) from by omega) (show (0 : Int) ≤ r23 ∧ r23 ≤ (1000000 : Int) from by omega) (fun r30 s29 hI25 fr24 q26 => ?_)
    have fr27 : lf_fq [31, 33, 35, 36, 42, 43, 49, 50, 56, 57] 1000000 true s.1 s.2.2 s29.1 s29.2.2 := lf_fq_tr fr22 (lf_fq_wk fr24 rfl (by decide) (by decide))
    have n28 : s29.2.2 2 ≠ none := lf_fq_n2 fr24 rfl n23
    refine ⟨(show (0 : Int) ≤ y0 ∧ y0 < (26 : Int) from by omega), ?_⟩
    have b29 : (-1) ≤ s29.1 33 y0 ∧ s29.1 33 y0 ≤ 7 := iv_r33 hI25 _
    have b30 : s29.1 33 y0 = s27.1 33 y0 := congrFun (fr24.1 33 rfl) _
    have b31 : s27.1 33 y0 = s26.1 33 y0 := congrFun (fr19.1 33 rfl) _
    have hI32 : iv_A (lf_up s29.1 33 y0 r23) s29.2.2 := iv_w33 hI25 (by omega)
    have fr33 : lf_fq [31, 33, 35, 36, 42, 43, 49, 50, 56, 57] 1000000 true s.1 s.2.2 (lf_up s29.1 33 y0 r23) s29.2.2 := lf_fq_up fr27 rfl (fun h => absurd h (by decide))
    refine hR41 (show (20 * (9 - x1) + 3).toNat < MR from by omega) hI32 n28 (show (0 : Int) ≤ x1 ∧ x1 ≤ (8 : Int) from by omega) (fun s32 hI35 fr34 => ?_)
    have fr37 : lf_fq [31, 33, 35, 36, 42, 43, 49, 50, 56, 57] 1000000 true s.1 s.2.2 s32.1 s32.2.2 := lf_fq_tr fr33 (lf_fq_wk fr34 rfl (by decide) (by decide))
    have n38 : s32.2.2 2 ≠ none := lf_fq_n2 fr34 rfl n28
    have hI39 : iv_A (lf_up s32.1 33 y0 (s29.1 33 y0)) s32.2.2 := iv_w33 hI35 (by omega)
    have fr40 : lf_fq [31, 33, 35, 36, 42, 43, 49, 50, 56, 57] 1000000 true s.1 s.2.2 (lf_up s32.1 33 y0 (s29.1 33 y0)) s32.2.2 := lf_fq_up fr37 rfl (fun h => absurd h (by decide))
    refine sm_48 hI39 (show (0 : Int) ≤ 40 ∧ 40 ≤ (99 : Int) from by omega) (fun s33 hI42 fr41 => ?_)
    have fr44 : lf_fq [31, 33, 35, 36, 42, 43, 49, 50, 56, 57] 1000000 true s.1 s.2.2 s33.1 s33.2.2 := lf_fq_tr fr40 (lf_fq_wk fr41 rfl (by decide) (by decide))
    have n45 : s33.2.2 2 ≠ none := lf_fq_n2 fr41 rfl n38
    exact hQ s33 hI42 fr44
theorem sm_54_p28 {R41 : Int → (lf_Z → Prop) → lf_Z → Prop} {Q : lf_Z → Prop} {x1 : Int} {s : lf_Z} {MR : Nat} (hQ : ∀  (s' : lf_Z), iv_A s'.1 s'.2.2 → lf_fq [31, 33, 35, 36, 42, 43, 49, 50, 56, 57] 1000000 true s.1 s.2.2 s'.1 s'.2.2 → Q  s') (hR41 : ∀ {a1 : Int} {Q : lf_Z → Prop} {s : lf_Z}, (20 * (9 - a1) + 3).toNat < MR → iv_A s.1 s.2.2 → s.2.2 2 ≠ none → 0 ≤ a1 ∧ a1 ≤ 8 → (∀  (s' : lf_Z), iv_A s'.1 s'.2.2 → lf_fq [31, 33, 35, 36, 42, 43, 49, 50, 56, 57] 1000000 true s.1 s.2.2 s'.1 s'.2.2 → Q  s') → R41 a1 Q s) (hMR : (20 * (9 - x1) + 7).toNat ≤ MR) (hI : iv_A s.1 s.2.2) (n2 : s.2.2 2 ≠ none) (bx1 : 1 ≤ x1 ∧ x1 ≤ 8) : fm_54_p28 R41 Q x1 s := by
  unfold fm_54_p28
  exact sm_54_p29 hQ hR41 (show (20 * (9 - x1) + 7).toNat ≤ MR from by omega) hI n2 (show (1 : Int) ≤ x1 ∧ x1 ≤ (8 : Int) from by omega) (show (0 : Int) ≤ 0 ∧ 0 ≤ (25 : Int) from by omega)
theorem sm_54 {R41 : Int → (lf_Z → Prop) → lf_Z → Prop} {a1 : Int} {Q : lf_Z → Prop} {s : lf_Z} {MR : Nat} (hR41 : ∀ {a1 : Int} {Q : lf_Z → Prop} {s : lf_Z}, (20 * (9 - a1) + 3).toNat < MR → iv_A s.1 s.2.2 → s.2.2 2 ≠ none → 0 ≤ a1 ∧ a1 ≤ 8 → (∀  (s' : lf_Z), iv_A s'.1 s'.2.2 → lf_fq [31, 33, 35, 36, 42, 43, 49, 50, 56, 57] 1000000 true s.1 s.2.2 s'.1 s'.2.2 → Q  s') → R41 a1 Q s) (hMR : (20 * (9 - a1) + 7).toNat ≤ MR) (hI : iv_A s.1 s.2.2) (n2 : s.2.2 2 ≠ none) (ba1 : 1 ≤ a1 ∧ a1 ≤ 8) (hQ : ∀  (s' : lf_Z), iv_A s'.1 s'.2.2 → lf_fq [31, 33, 35, 36, 42, 43, 49, 50, 56, 57] 1000000 true s.1 s.2.2 s'.1 s'.2.2 → Q  s') : fm_54 R41 a1 Q s := by
  unfold fm_54
  have b1 : 0 ≤ s.1 31 8 ∧ s.1 31 8 ≤ 300 := iv_r31_8 hI
  refine ⟨(show lf_R (s.1 31 8) from lf_Rof (by omega)), ?_⟩
  refine ⟨fun c2 => ?_, fun c2 => ?_⟩
  · skip
    replace c2 : s.1 31 8 ≠ 3 := c2
    exact sm_54_p28 hQ hR41 (show (20 * (9 - a1) + 7).toNat ≤ MR from by omega) hI n2 (show (1 : Int) ≤ a1 ∧ a1 ≤ (8 : Int) from by omega)
  · skip
    replace c2 : ¬ (s.1 31 8 ≠ 3) := c2
    have b46 : (-2147483648) ≤ s.1 31 10 ∧ s.1 31 10 ≤ 2147483647 := iv_full hI
    refine sm_15 hI (show (-2147483648 : Int) ≤ s.1 31 10 ∧ s.1 31 10 ≤ (2147483647 : Int) from by omega) (show (-1 : Int) ≤ 0 ∧ 0 ≤ (99 : Int) from by omega) (show (-2147483648 : Int) ≤ 25 ∧ 25 ≤ (2147483647 : Int) from by omega) (fun z35 q47 => ?_)
    refine ⟨fun c48 => ?_, fun c48 => ?_⟩
    · skip
      have dc48 := q47.2 c48
      exact sm_54_p28 hQ hR41 (show (20 * (9 - a1) + 7).toNat ≤ MR from by omega) hI n2 (show (1 : Int) ≤ a1 ∧ a1 ≤ (8 : Int) from by omega)
    · skip
      have dc48 := q47.1 c48
      exact sm_54_p29 hQ hR41 (show (20 * (9 - a1) + 7).toNat ≤ MR from by omega) hI n2 (show (1 : Int) ≤ a1 ∧ a1 ≤ (8 : Int) from by omega) (show (0 : Int) ≤ s.1 31 10 ∧ s.1 31 10 ≤ (25 : Int) from by omega)
-- fm_50 Reader.readEither 31 i
theorem sm_50_p7 {R51 : Int → (lf_Z → Prop) → lf_Z → Prop} {X7 : Int → lf_Z → Prop} {Q : lf_Z → Prop} {x1 : Int} {x2 : Int} {s : lf_Z} {MR : Nat} (hQ : ∀  (s' : lf_Z), iv_A s'.1 s'.2.2 → lf_fq [31, 33, 35, 36, 42, 43, 49, 50, 56, 57] 1000000 true s.1 s.2.2 s'.1 s'.2.2 → Q  s') (hR51 : ∀ {a1 : Int} {Q : lf_Z → Prop} {s : lf_Z}, (20 * (9 - a1) + 5).toNat < MR → iv_A s.1 s.2.2 → s.2.2 2 ≠ none → 1 ≤ a1 ∧ a1 ≤ 8 → (∀  (s' : lf_Z), iv_A s'.1 s'.2.2 → lf_fq [31, 33, 35, 36, 42, 43, 49, 50, 56, 57] 1000000 true s.1 s.2.2 s'.1 s'.2.2 → Q  s') → R51 a1 Q s) {M7 : Nat} (hX7 : ∀ (x2 : Int) (s' : lf_Z), iv_A s'.1 s'.2.2 → lf_fq [31, 33, 35, 36, 42, 43, 49, 50, 56, 57] 1000000 true s.1 s.2.2 s'.1 s'.2.2 → s'.2.2 2 ≠ none → 0 ≤ x2 ∧ x2 ≤ 300 → (300 - x2).toNat < M7 → X7 x2 s') (hM7 : (300 - x2).toNat ≤ M7) (hMR : (20 * (9 - x1) + 6).toNat ≤ MR) (hI : iv_A s.1 s.2.2) (n2 : s.2.2 2 ≠ none) (bx1 : 1 ≤ x1 ∧ x1 ≤ 8) (bx2 : 0 ≤ x2 ∧ x2 ≤ 300) : fm_50_p7 R51 Q x1 X7 x2 s := by
  unfold fm_50_p7
  refine ⟨(show lf_R x2 from lf_Rof (by omega)), ?_⟩
  refine ⟨fun c6 => ?_, fun c6 => ?_⟩
  · skip
    replace c6 : 300 ≤ x2 := c6
    exact hQ s hI (lf_fq_rf)
  · skip
    replace c6 : ¬ (300 ≤ x2) := c6
    have b7 : 0 ≤ s.1 31 8 ∧ s.1 31 8 ≤ 300 := iv_r31_8 hI
    refine ⟨(show lf_R (s.1 31 8) from lf_Rof (by omega)), ?_⟩
    refine ⟨fun c8 => ?_, fun c8 => ?_⟩
    · skip
      replace c8 : s.1 31 8 ≠ 46 := c8
      exact hQ s hI (lf_fq_rf)
    · skip
      replace c8 : ¬ (s.1 31 8 ≠ 46) := c8
      refine sm_31 hI (fun s24 hI10 fr9 => ?_)
      have fr12 : lf_fq [31, 33, 35, 36, 42, 43, 49, 50, 56, 57] 1000000 true s.1 s.2.2 s24.1 s24.2.2 := lf_fq_tr (lf_fq_rf) (lf_fq_wk fr9 rfl (by decide) (by decide))
      have n13 : s24.2.2 2 ≠ none := lf_fq_n2 fr9 rfl n2
      refine hR51 (show (20 * (9 - x1) + 5).toNat < MR from by omega) hI10 n13 (show (1 : Int) ≤ x1 ∧ x1 ≤ (8 : Int) from by omega) (fun s25 hI15 fr14 => ?_)
      have fr17 : lf_fq [31, 33, 35, 36, 42, 43, 49, 50, 56, 57] 1000000 true s.1 s.2.2 s25.1 s25.2.2 := lf_fq_tr fr12 (lf_fq_wk fr14 rfl (by decide) (by decide))
      have n18 : s25.2.2 2 ≠ none := lf_fq_n2 fr14 rfl n13
      refine ⟨fun et26 => ?_, fun t26 et26 => ?_⟩
      · skip
        exact absurd et26 n18
      · have htt26 : t26 < 4 := iv_t2 hI15 et26
        refine ⟨htt26, ?_⟩
        refine sm_45 htt26 hI15 (show (0 : Int) ≤ 46 ∧ 46 ≤ (300 : Int) from by omega) (show (0 : Int) ≤ 0 ∧ 0 ≤ (1000000 : Int) from by omega) (fun r28 s27 hI20 fr19 q21 => ?_)
        have fr22 : lf_fq [31, 33, 35, 36, 42, 43, 49, 50, 56, 57] 1000000 true s.1 s.2.2 s27.1 s27.2.2 := lf_fq_tr fr17 (lf_fq_wk fr19 rfl (by decide) (by decide))
        have n23 : s27.2.2 2 ≠ none := lf_fq_n2 fr19 rfl n18
        exact hX7 (x2 + 1) s27 hI20 fr22 n23 (show (0 : Int) ≤ x2 + 1 ∧ x2 + 1 ≤ (300 : Int) from by omega) (show (300 - (x2 + 1)).toNat < M7 from by omega)
theorem sm_50_p7L {R51 : Int → (lf_Z → Prop) → lf_Z → Prop} {Q : lf_Z → Prop} {x1 : Int} {x2 : Int} {s : lf_Z} {MR : Nat} (hQ : ∀  (s' : lf_Z), iv_A s'.1 s'.2.2 → lf_fq [31, 33, 35, 36, 42, 43, 49, 50, 56, 57] 1000000 true s.1 s.2.2 s'.1 s'.2.2 → Q  s') (hR51 : ∀ {a1 : Int} {Q : lf_Z → Prop} {s : lf_Z}, (20 * (9 - a1) + 5).toNat < MR → iv_A s.1 s.2.2 → s.2.2 2 ≠ none → 1 ≤ a1 ∧ a1 ≤ 8 → (∀  (s' : lf_Z), iv_A s'.1 s'.2.2 → lf_fq [31, 33, 35, 36, 42, 43, 49, 50, 56, 57] 1000000 true s.1 s.2.2 s'.1 s'.2.2 → Q  s') → R51 a1 Q s) (hMR : (20 * (9 - x1) + 6).toNat ≤ MR) (hI : iv_A s.1 s.2.2) (n2 : s.2.2 2 ≠ none) (bx1 : 1 ≤ x1 ∧ x1 ≤ 8) (bx2 : 0 ≤ x2 ∧ x2 ≤ 300) : fm_50_p7L R51 Q x1 x2 s := by
  intro X7 hX
  have key : ∀ (m9 : Nat) (x2 : Int) (s' : lf_Z), iv_A s'.1 s'.2.2 → lf_fq [31, 33, 35, 36, 42, 43, 49, 50, 56, 57] 1000000 true s.1 s.2.2 s'.1 s'.2.2 → s'.2.2 2 ≠ none → 0 ≤ x2 ∧ x2 ≤ 300 → (300 - x2).toNat < m9 → X7 x2 s' := by
    intro m9
    induction m9 with
    | zero => intro x2 s' _ _ n2 bx2 h9; exact absurd h9 (Nat.not_lt_zero _)
    | succ m9 ih => intro x2 s' i7 f7 n2 bx2 h9; exact hX _ _ (sm_50_p7 (fun t9 i9 f9 => hQ t9 i9 (lf_fq_tr f7 f9)) hR51  (fun x2' t8 i8 f8 n2' bx2' h8 => ih x2' t8 i8 (lf_fq_tr f7 f8) n2' bx2' (by omega)) (Nat.le_refl _) hMR i7 n2 bx1 bx2  )
  exact key _ _ s hI lf_fq_rf n2 bx2 (Nat.lt_succ_self _)
theorem sm_50 {R51 : Int → (lf_Z → Prop) → lf_Z → Prop} {a1 : Int} {Q : lf_Z → Prop} {s : lf_Z} {MR : Nat} (hR51 : ∀ {a1 : Int} {Q : lf_Z → Prop} {s : lf_Z}, (20 * (9 - a1) + 5).toNat < MR → iv_A s.1 s.2.2 → s.2.2 2 ≠ none → 1 ≤ a1 ∧ a1 ≤ 8 → (∀  (s' : lf_Z), iv_A s'.1 s'.2.2 → lf_fq [31, 33, 35, 36, 42, 43, 49, 50, 56, 57] 1000000 true s.1 s.2.2 s'.1 s'.2.2 → Q  s') → R51 a1 Q s) (hMR : (20 * (9 - a1) + 6).toNat ≤ MR) (hI : iv_A s.1 s.2.2) (n2 : s.2.2 2 ≠ none) (ba1 : 1 ≤ a1 ∧ a1 ≤ 8) (hQ : ∀  (s' : lf_Z), iv_A s'.1 s'.2.2 → lf_fq [31, 33, 35, 36, 42, 43, 49, 50, 56, 57] 1000000 true s.1 s.2.2 s'.1 s'.2.2 → Q  s') : fm_50 R51 a1 Q s := by
  unfold fm_50
  refine hR51 (show (20 * (9 - a1) + 5).toNat < MR from by omega) hI n2 (show (1 : Int) ≤ a1 ∧ a1 ≤ (8 : Int) from by omega) (fun s21 hI2 fr1 => ?_)
  have fr4 : lf_fq [31, 33, 35, 36, 42, 43, 49, 50, 56, 57] 1000000 true s.1 s.2.2 s21.1 s21.2.2 := lf_fq_tr (lf_fq_rf) (lf_fq_wk fr1 rfl (by decide) (by decide))
  have n5 : s21.2.2 2 ≠ none := lf_fq_n2 fr1 rfl n2
  exact sm_50_p7L (fun t9 i9 f9 => hQ t9 i9 (lf_fq_tr fr4 f9)) hR51 (show (20 * (9 - a1) + 6).toNat ≤ MR from by omega) hI2 n5 (show (1 : Int) ≤ a1 ∧ a1 ≤ (8 : Int) from by omega) (show (0 : Int) ≤ 0 ∧ 0 ≤ (300 : Int) from by omega)
-- fm_51 Reader.readBoth 31 i
theorem sm_51_p7 {R52 : Int → (lf_Z → Prop) → lf_Z → Prop} {X7 : Int → lf_Z → Prop} {Q : lf_Z → Prop} {x1 : Int} {x2 : Int} {s : lf_Z} {MR : Nat} (hQ : ∀  (s' : lf_Z), iv_A s'.1 s'.2.2 → lf_fq [31, 33, 35, 36, 42, 43, 49, 50, 56, 57] 1000000 true s.1 s.2.2 s'.1 s'.2.2 → Q  s') (hR52 : ∀ {a1 : Int} {Q : lf_Z → Prop} {s : lf_Z}, (20 * (9 - a1) + 4).toNat < MR → iv_A s.1 s.2.2 → s.2.2 2 ≠ none → 1 ≤ a1 ∧ a1 ≤ 8 → (∀  (s' : lf_Z), iv_A s'.1 s'.2.2 → lf_fq [31, 33, 35, 36, 42, 43, 49, 50, 56, 57] 1000000 true s.1 s.2.2 s'.1 s'.2.2 → Q  s') → R52 a1 Q s) {M7 : Nat} (hX7 : ∀ (x2 : Int) (s' : lf_Z), iv_A s'.1 s'.2.2 → lf_fq [31, 33, 35, 36, 42, 43, 49, 50, 56, 57] 1000000 true s.1 s.2.2 s'.1 s'.2.2 → s'.2.2 2 ≠ none → 0 ≤ x2 ∧ x2 ≤ 300 → (300 - x2).toNat < M7 → X7 x2 s') (hM7 : (300 - x2).toNat ≤ M7) (hMR : (20 * (9 - x1) + 5).toNat ≤ MR) (hI : iv_A s.1 s.2.2) (n2 : s.2.2 2 ≠ none) (bx1 : 1 ≤ x1 ∧ x1 ≤ 8) (bx2 : 0 ≤ x2 ∧ x2 ≤ 300) : fm_51_p7 R52 Q x1 X7 x2 s := by
  unfold fm_51_p7
  refine ⟨(show lf_R x2 from lf_Rof (by omega)), ?_⟩
  refine ⟨fun c6 => ?_, fun c6 => ?_⟩
  · skip
    replace c6 : 300 ≤ x2 := c6
    exact hQ s hI (lf_fq_rf)
  · skip
    replace c6 : ¬ (300 ≤ x2) := c6
    have b7 : 0 ≤ s.1 31 8 ∧ s.1 31 8 ≤ 300 := iv_r31_8 hI
    refine ⟨(show lf_R (s.1 31 8) from lf_Rof (by omega)), ?_⟩
    refine ⟨fun c8 => ?_, fun c8 => ?_⟩
    · skip
      replace c8 : s.1 31 8 ≠ 45 := c8
      exact hQ s hI (lf_fq_rf)
    · skip
      replace c8 : ¬ (s.1 31 8 ≠ 45) := c8
      refine sm_31 hI (fun s24 hI10 fr9 => ?_)
      have fr12 : lf_fq [31, 33, 35, 36, 42, 43, 49, 50, 56, 57] 1000000 true s.1 s.2.2 s24.1 s24.2.2 := lf_fq_tr (lf_fq_rf) (lf_fq_wk fr9 rfl (by decide) (by decide))
      have n13 : s24.2.2 2 ≠ none := lf_fq_n2 fr9 rfl n2
      refine hR52 (show (20 * (9 - x1) + 4).toNat < MR from by omega) hI10 n13 (show (1 : Int) ≤ x1 ∧ x1 ≤ (8 : Int) from by omega) (fun s25 hI15 fr14 => ?_)
      have fr17 : lf_fq [31, 33, 35, 36, 42, 43, 49, 50, 56, 57] 1000000 true s.1 s.2.2 s25.1 s25.2.2 := lf_fq_tr fr12 (lf_fq_wk fr14 rfl (by decide) (by decide))
      have n18 : s25.2.2 2 ≠ none := lf_fq_n2 fr14 rfl n13
      refine ⟨fun et26 => ?_, fun t26 et26 => ?_⟩
      · skip
        exact absurd et26 n18
      · have htt26 : t26 < 4 := iv_t2 hI15 et26
        refine ⟨htt26, ?_⟩
        refine sm_45 htt26 hI15 (show (0 : Int) ≤ 45 ∧ 45 ≤ (300 : Int) from by omega) (show (0 : Int) ≤ 0 ∧ 0 ≤ (1000000 : Int) from by omega) (fun r28 s27 hI20 fr19 q21 => ?_)
        have fr22 : lf_fq [31, 33, 35, 36, 42, 43, 49, 50, 56, 57] 1000000 true s.1 s.2.2 s27.1 s27.2.2 := lf_fq_tr fr17 (lf_fq_wk fr19 rfl (by decide) (by decide))
        have n23 : s27.2.2 2 ≠ none := lf_fq_n2 fr19 rfl n18
        exact hX7 (x2 + 1) s27 hI20 fr22 n23 (show (0 : Int) ≤ x2 + 1 ∧ x2 + 1 ≤ (300 : Int) from by omega) (show (300 - (x2 + 1)).toNat < M7 from by omega)
theorem sm_51_p7L {R52 : Int → (lf_Z → Prop) → lf_Z → Prop} {Q : lf_Z → Prop} {x1 : Int} {x2 : Int} {s : lf_Z} {MR : Nat} (hQ : ∀  (s' : lf_Z), iv_A s'.1 s'.2.2 → lf_fq [31, 33, 35, 36, 42, 43, 49, 50, 56, 57] 1000000 true s.1 s.2.2 s'.1 s'.2.2 → Q  s') (hR52 : ∀ {a1 : Int} {Q : lf_Z → Prop} {s : lf_Z}, (20 * (9 - a1) + 4).toNat < MR → iv_A s.1 s.2.2 → s.2.2 2 ≠ none → 1 ≤ a1 ∧ a1 ≤ 8 → (∀  (s' : lf_Z), iv_A s'.1 s'.2.2 → lf_fq [31, 33, 35, 36, 42, 43, 49, 50, 56, 57] 1000000 true s.1 s.2.2 s'.1 s'.2.2 → Q  s') → R52 a1 Q s) (hMR : (20 * (9 - x1) + 5).toNat ≤ MR) (hI : iv_A s.1 s.2.2) (n2 : s.2.2 2 ≠ none) (bx1 : 1 ≤ x1 ∧ x1 ≤ 8) (bx2 : 0 ≤ x2 ∧ x2 ≤ 300) : fm_51_p7L R52 Q x1 x2 s := by
  intro X7 hX
  have key : ∀ (m9 : Nat) (x2 : Int) (s' : lf_Z), iv_A s'.1 s'.2.2 → lf_fq [31, 33, 35, 36, 42, 43, 49, 50, 56, 57] 1000000 true s.1 s.2.2 s'.1 s'.2.2 → s'.2.2 2 ≠ none → 0 ≤ x2 ∧ x2 ≤ 300 → (300 - x2).toNat < m9 → X7 x2 s' := by
    intro m9
    induction m9 with
    | zero => intro x2 s' _ _ n2 bx2 h9; exact absurd h9 (Nat.not_lt_zero _)
    | succ m9 ih => intro x2 s' i7 f7 n2 bx2 h9; exact hX _ _ (sm_51_p7 (fun t9 i9 f9 => hQ t9 i9 (lf_fq_tr f7 f9)) hR52  (fun x2' t8 i8 f8 n2' bx2' h8 => ih x2' t8 i8 (lf_fq_tr f7 f8) n2' bx2' (by omega)) (Nat.le_refl _) hMR i7 n2 bx1 bx2  )
  exact key _ _ s hI lf_fq_rf n2 bx2 (Nat.lt_succ_self _)
theorem sm_51 {R52 : Int → (lf_Z → Prop) → lf_Z → Prop} {a1 : Int} {Q : lf_Z → Prop} {s : lf_Z} {MR : Nat} (hR52 : ∀ {a1 : Int} {Q : lf_Z → Prop} {s : lf_Z}, (20 * (9 - a1) + 4).toNat < MR → iv_A s.1 s.2.2 → s.2.2 2 ≠ none → 1 ≤ a1 ∧ a1 ≤ 8 → (∀  (s' : lf_Z), iv_A s'.1 s'.2.2 → lf_fq [31, 33, 35, 36, 42, 43, 49, 50, 56, 57] 1000000 true s.1 s.2.2 s'.1 s'.2.2 → Q  s') → R52 a1 Q s) (hMR : (20 * (9 - a1) + 5).toNat ≤ MR) (hI : iv_A s.1 s.2.2) (n2 : s.2.2 2 ≠ none) (ba1 : 1 ≤ a1 ∧ a1 ≤ 8) (hQ : ∀  (s' : lf_Z), iv_A s'.1 s'.2.2 → lf_fq [31, 33, 35, 36, 42, 43, 49, 50, 56, 57] 1000000 true s.1 s.2.2 s'.1 s'.2.2 → Q  s') : fm_51 R52 a1 Q s := by
  unfold fm_51
  refine hR52 (show (20 * (9 - a1) + 4).toNat < MR from by omega) hI n2 (show (1 : Int) ≤ a1 ∧ a1 ≤ (8 : Int) from by omega) (fun s21 hI2 fr1 => ?_)
  have fr4 : lf_fq [31, 33, 35, 36, 42, 43, 49, 50, 56, 57] 1000000 true s.1 s.2.2 s21.1 s21.2.2 := lf_fq_tr (lf_fq_rf) (lf_fq_wk fr1 rfl (by decide) (by decide))
  have n5 : s21.2.2 2 ≠ none := lf_fq_n2 fr1 rfl n2
  exact sm_51_p7L (fun t9 i9 f9 => hQ t9 i9 (lf_fq_tr fr4 f9)) hR52 (show (20 * (9 - a1) + 5).toNat ≤ MR from by omega) hI2 n5 (show (1 : Int) ≤ a1 ∧ a1 ≤ (8 : Int) from by omega) (show (0 : Int) ≤ 0 ∧ 0 ≤ (300 : Int) from by omega)
