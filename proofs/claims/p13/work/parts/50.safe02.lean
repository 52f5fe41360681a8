-- fm_57 Script.addClause t i i i
theorem sm_57 {t0 : Nat} {a1 : Int} {a2 : Int} {a3 : Int} {Q : lf_Z → Prop} {s : lf_Z} (htt0 : t0 < 4) (hI : iv_A s.1 s.2.2) (ba1 : 20 ≤ a1 ∧ a1 ≤ 32) (ba2 : 0 ≤ a2 ∧ a2 ≤ 9999) (ba3 : 0 ≤ a3 ∧ a3 ≤ 9999) (hQ : ∀  (s' : lf_Z), iv_A s'.1 s'.2.2 → lf_fq [35, 39, 40, 41, 42, 46, 47, 48, 49, 53, 54, 55, 56, 60, 61, 62] 1000000 true s.1 s.2.2 s'.1 s'.2.2 → Q  s') : fm_57 t0 a1 a2 a3 Q s := by
  unfold fm_57
  have b1 : 0 ≤ s.1 (35 + 7 * t0) 7 ∧ s.1 (35 + 7 * t0) 7 ≤ 24 := iv_rT_7 hI htt0
  refine ⟨(show lf_R (s.1 (35 + 7 * t0) 7) from lf_Rof (by omega)), ?_⟩
  refine ⟨fun c2 => ?_, fun c2 => ?_⟩
  · skip
    replace c2 : 24 ≤ s.1 (35 + 7 * t0) 7 := c2
    exact hQ s hI (lf_fq_rf)
  · skip
    replace c2 : ¬ (24 ≤ s.1 (35 + 7 * t0) 7) := c2
    refine ⟨(show (0 : Int) ≤ s.1 (35 + 7 * t0) 7 ∧ s.1 (35 + 7 * t0) 7 < (24 : Int) from by omega), ?_⟩
    have hI3 : iv_A (lf_up s.1 (39 + 7 * t0) (s.1 (35 + 7 * t0) 7) a1) s.2.2 := iv_wTA39 hI htt0 (by omega)
    have fr4 : lf_fq [35, 39, 40, 41, 42, 46, 47, 48, 49, 53, 54, 55, 56, 60, 61, 62] 1000000 true s.1 s.2.2 (lf_up s.1 (39 + 7 * t0) (s.1 (35 + 7 * t0) 7) a1) s.2.2 := lf_fq_upT (lf_fq_rf) htt0 rfl (by decide)
    have b5 : 0 ≤ (lf_up s.1 (39 + 7 * t0) (s.1 (35 + 7 * t0) 7) a1) (35 + 7 * t0) 7 ∧ (lf_up s.1 (39 + 7 * t0) (s.1 (35 + 7 * t0) 7) a1) (35 + 7 * t0) 7 ≤ 24 := iv_rT_7 hI3 htt0
    have b6 : (lf_up s.1 (39 + 7 * t0) (s.1 (35 + 7 * t0) 7) a1) (35 + 7 * t0) 7 = s.1 (35 + 7 * t0) 7 := lf_up_c (by omega)
    refine ⟨(show (0 : Int) ≤ (lf_up s.1 (39 + 7 * t0) (s.1 (35 + 7 * t0) 7) a1) (35 + 7 * t0) 7 ∧ (lf_up s.1 (39 + 7 * t0) (s.1 (35 + 7 * t0) 7) a1) (35 + 7 * t0) 7 < (24 : Int) from by omega), ?_⟩
    have hI7 : iv_A (lf_up (lf_up s.1 (39 + 7 * t0) (s.1 (35 + 7 * t0) 7) a1) (40 + 7 * t0) ((lf_up s.1 (39 + 7 * t0) (s.1 (35 + 7 * t0) 7) a1) (35 + 7 * t0) 7) a2) s.2.2 := iv_wTA40 hI3 htt0 (by omega)
    have fr8 : lf_fq [35, 39, 40, 41, 42, 46, 47, 48, 49, 53, 54, 55, 56, 60, 61, 62] 1000000 true s.1 s.2.2 (lf_up (lf_up s.1 (39 + 7 * t0) (s.1 (35 + 7 * t0) 7) a1) (40 + 7 * t0) ((lf_up s.1 (39 + 7 * t0) (s.1 (35 + 7 * t0) 7) a1) (35 + 7 * t0) 7) a2) s.2.2 := lf_fq_upT fr4 htt0 rfl (by decide)
    have b9 : 0 ≤ (lf_up (lf_up s.1 (39 + 7 * t0) (s.1 (35 + 7 * t0) 7) a1) (40 + 7 * t0) ((lf_up s.1 (39 + 7 * t0) (s.1 (35 + 7 * t0) 7) a1) (35 + 7 * t0) 7) a2) (35 + 7 * t0) 7 ∧ (lf_up (lf_up s.1 (39 + 7 * t0) (s.1 (35 + 7 * t0) 7) a1) (40 + 7 * t0) ((lf_up s.1 (39 + 7 * t0) (s.1 (35 + 7 * t0) 7) a1) (35 + 7 * t0) 7) a2) (35 + 7 * t0) 7 ≤ 24 := iv_rT_7 hI7 htt0
    have b10 : (lf_up (lf_up s.1 (39 + 7 * t0) (s.1 (35 + 7 * t0) 7) a1) (40 + 7 * t0) ((lf_up s.1 (39 + 7 * t0) (s.1 (35 + 7 * t0) 7) a1) (35 + 7 * t0) 7) a2) (35 + 7 * t0) 7 = (lf_up s.1 (39 + 7 * t0) (s.1 (35 + 7 * t0) 7) a1) (35 + 7 * t0) 7 := lf_up_c (by omega)
    refine ⟨(show (0 : Int) ≤ (lf_up (lf_up s.1 (39 + 7 * t0) (s.1 (35 + 7 * t0) 7) a1) (40 + 7 * t0) ((lf_up s.1 (39 + 7 * t0) (s.1 (35 + 7 * t0) 7) a1) (35 + 7 * t0) 7) a2) (35 + 7 * t0) 7 ∧ (lf_up (lf_up s.1 (39 + 7 * t0) (s.1 (35 + 7 * t0) 7) a1) (40 + 7 * t0) ((lf_up s.1 (39 + 7 * t0) (s.1 (35 + 7 * t0) 7) a1) (35 + 7 * t0) 7) a2) (35 + 7 * t0) 7 < (24 : Int) from by omega), ?_⟩
    have hI11 : iv_A (lf_up (lf_up (lf_up s.1 (39 + 7 * t0) (s.1 (35 + 7 * t0) 7) a1) (40 + 7 * t0) ((lf_up s.1 (39 + 7 * t0) (s.1 (35 + 7 * t0) 7) a1) (35 + 7 * t0) 7) a2) (41 + 7 * t0) ((lf_up (lf_up s.1 (39 + 7 * t0) (s.1 (35 + 7 * t0) 7) a1) (40 + 7 * t0) ((lf_up s.1 (39 + 7 * t0) (s.1 (35 + 7 * t0) 7) a1) (35 + 7 * t0) 7) a2) (35 + 7 * t0) 7) a3) s.2.2 := iv_wTA41 hI7 htt0 (by omega)
    have fr12 : lf_fq [35, 39, 40, 41, 42, 46, 47, 48, 49, 53, 54, 55, 56, 60, 61, 62] 1000000 true s.1 s.2.2 (lf_up (lf_up (lf_up s.1 (39 + 7 * t0) (s.1 (35 + 7 * t0) 7) a1) (40 + 7 * t0) ((lf_up s.1 (39 + 7 * t0) (s.1 (35 + 7 * t0) 7) a1) (35 + 7 * t0) 7) a2) (41 + 7 * t0) ((lf_up (lf_up s.1 (39 + 7 * t0) (s.1 (35 + 7 * t0) 7) a1) (40 + 7 * t0) ((lf_up s.1 (39 + 7 * t0) (s.1 (35 + 7 * t0) 7) a1) (35 + 7 * t0) 7) a2) (35 + 7 * t0) 7) a3) s.2.2 := lf_fq_upT fr8 htt0 rfl (by decide)
    have b13 : 0 ≤ (lf_up (lf_up (lf_up s.1 (39 + 7 * t0) (s.1 (35 + 7 * t0) 7) a1) (40 + 7 * t0) ((lf_up s.1 (39 + 7 * t0) (s.1 (35 + 7 * t0) 7) a1) (35 + 7 * t0) 7) a2) (41 + 7 * t0) ((lf_up (lf_up s.1 (39 + 7 * t0) (s.1 (35 + 7 * t0) 7) a1) (40 + 7 * t0) ((lf_up s.1 (39 + 7 * t0) (s.1 (35 + 7 * t0) 7) a1) (35 + 7 * t0) 7) a2) (35 + 7 * t0) 7) a3) (35 + 7 * t0) 7 ∧ (lf_up (lf_up (lf_up s.1 (39 + 7 * t0) (s.1 (35 + 7 * t0) 7) a1) (40 + 7 * t0) ((lf_up s.1 (39 + 7 * t0) (s.1 (35 + 7 * t0) 7) a1) (35 + 7 * t0) 7) a2) (41 + 7 * t0) ((lf_up (lf_up s.1 (39 + 7 * t0) (s.1 (35 + 7 * t0) 7) a1) (40 + 7 * t0) ((lf_up s.1 (39 + 7 * t0) (s.1 (35 + 7 * t0) 7) a1) (35 + 7 * t0) 7) a2) (35 + 7 * t0) 7) a3) (35 + 7 * t0) 7 ≤ 24 := iv_rT_7 hI11 htt0
    have b14 : (lf_up (lf_up (lf_up s.1 (39 + 7 * t0) (s.1 (35 + 7 * t0) 7) a1) (40 + 7 * t0) ((lf_up s.1 (39 + 7 * t0) (s.1 (35 + 7 * t0) 7) a1) (35 + 7 * t0) 7) a2) (41 + 7 * t0) ((lf_up (lf_up s.1 (39 + 7 * t0) (s.1 (35 + 7 * t0) 7) a1) (40 + 7 * t0) ((lf_up s.1 (39 + 7 * t0) (s.1 (35 + 7 * t0) 7) a1) (35 + 7 * t0) 7) a2) (35 + 7 * t0) 7) a3) (35 + 7 * t0) 7 = (lf_up (lf_up s.1 (39 + 7 * t0) (s.1 (35 + 7 * t0) 7) a1) (40 + 7 * t0) ((lf_up s.1 (39 + 7 * t0) (s.1 (35 + 7 * t0) 7) a1) (35 + 7 * t0) 7) a2) (35 + 7 * t0) 7 := lf_up_c (by omega)
    have hI15 : iv_A (lf_up (lf_up (lf_up (lf_up s.1 (39 + 7 * t0) (s.1 (35 + 7 * t0) 7) a1) (40 + 7 * t0) ((lf_up s.1 (39 + 7 * t0) (s.1 (35 + 7 * t0) 7) a1) (35 + 7 * t0) 7) a2) (41 + 7 * t0) ((lf_up (lf_up s.1 (39 + 7 * t0) (s.1 (35 + 7 * t0) 7) a1) (40 + 7 * t0) ((lf_up s.1 (39 + 7 * t0) (s.1 (35 + 7 * t0) 7) a1) (35 + 7 * t0) 7) a2) (35 + 7 * t0) 7) a3) (35 + 7 * t0) 7 (((lf_up (lf_up (lf_up s.1 (39 + 7 * t0) (s.1 (35 + 7 * t0) 7) a1) (40 + 7 * t0) ((lf_up s.1 (39 + 7 * t0) (s.1 (35 + 7 * t0) 7) a1) (35 + 7 * t0) 7) a2) (41 + 7 * t0) ((lf_up (lf_up s.1 (39 + 7 * t0) (s.1 (35 + 7 * t0) 7) a1) (40 + 7 * t0) ((lf_up s.1 (39 + 7 * t0) (s.1 (35 + 7 * t0) 7) a1) (35 + 7 * t0) 7) a2) (35 + 7 * t0) 7) a3) (35 + 7 * t0) 7) + 1)) s.2.2 := iv_wT_7 hI11 htt0 (by omega)
    have fr16 : lf_fq [35, 39, 40, 41, 42, 46, 47, 48, 49, 53, 54, 55, 56, 60, 61, 62] 1000000 true s.1 s.2.2 (lf_up (lf_up (lf_up (lf_up s.1 (39 + 7 * t0) (s.1 (35 + 7 * t0) 7) a1) (40 + 7 * t0) ((lf_up s.1 (39 + 7 * t0) (s.1 (35 + 7 * t0) 7) a1) (35 + 7 * t0) 7) a2) (41 + 7 * t0) ((lf_up (lf_up s.1 (39 + 7 * t0) (s.1 (35 + 7 * t0) 7) a1) (40 + 7 * t0) ((lf_up s.1 (39 + 7 * t0) (s.1 (35 + 7 * t0) 7) a1) (35 + 7 * t0) 7) a2) (35 + 7 * t0) 7) a3) (35 + 7 * t0) 7 (((lf_up (lf_up (lf_up s.1 (39 + 7 * t0) (s.1 (35 + 7 * t0) 7) a1) (40 + 7 * t0) ((lf_up s.1 (39 + 7 * t0) (s.1 (35 + 7 * t0) 7) a1) (35 + 7 * t0) 7) a2) (41 + 7 * t0) ((lf_up (lf_up s.1 (39 + 7 * t0) (s.1 (35 + 7 * t0) 7) a1) (40 + 7 * t0) ((lf_up s.1 (39 + 7 * t0) (s.1 (35 + 7 * t0) 7) a1) (35 + 7 * t0) 7) a2) (35 + 7 * t0) 7) a3) (35 + 7 * t0) 7) + 1)) s.2.2 := lf_fq_upT fr12 htt0 rfl (by decide)
    exact hQ (lf_up (lf_up (lf_up (lf_up s.1 (39 + 7 * t0) (s.1 (35 + 7 * t0) 7) a1) (40 + 7 * t0) ((lf_up s.1 (39 + 7 * t0) (s.1 (35 + 7 * t0) 7) a1) (35 + 7 * t0) 7) a2) (41 + 7 * t0) ((lf_up (lf_up s.1 (39 + 7 * t0) (s.1 (35 + 7 * t0) 7) a1) (40 + 7 * t0) ((lf_up s.1 (39 + 7 * t0) (s.1 (35 + 7 * t0) 7) a1) (35 + 7 * t0) 7) a2) (35 + 7 * t0) 7) a3) (35 + 7 * t0) 7 (((lf_up (lf_up (lf_up s.1 (39 + 7 * t0) (s.1 (35 + 7 * t0) 7) a1) (40 + 7 * t0) ((lf_up s.1 (39 + 7 * t0) (s.1 (35 + 7 * t0) 7) a1) (35 + 7 * t0) 7) a2) (41 + 7 * t0) ((lf_up (lf_up s.1 (39 + 7 * t0) (s.1 (35 + 7 * t0) 7) a1) (40 + 7 * t0) ((lf_up s.1 (39 + 7 * t0) (s.1 (35 + 7 * t0) 7) a1) (35 + 7 * t0) 7) a2) (35 + 7 * t0) 7) a3) (35 + 7 * t0) 7) + 1), s.2.1, s.2.2) hI15 fr16
-- fm_48 Reader.expect 31 i
theorem sm_48 {a1 : Int} {Q : lf_Z → Prop} {s : lf_Z} (hI : iv_A s.1 s.2.2) (ba1 : 0 ≤ a1 ∧ a1 ≤ 99) (hQ : ∀  (s' : lf_Z), iv_A s'.1 s'.2.2 → lf_fq [31] 1000000 true s.1 s.2.2 s'.1 s'.2.2 → Q  s') : fm_48 a1 Q s := by
  unfold fm_48
  have b1 : 0 ≤ s.1 31 8 ∧ s.1 31 8 ≤ 300 := iv_r31_8 hI
  refine ⟨(show lf_R (s.1 31 8) from lf_Rof (by omega)), ?_⟩
  refine ⟨(show lf_R a1 from lf_Rof (by omega)), ?_⟩
  refine ⟨fun c2 => ?_, fun c2 => ?_⟩
  · skip
    replace c2 : s.1 31 8 ≠ a1 := c2
    refine sm_39 hI (show (1 : Int) ≤ 1 ∧ 1 ≤ (6 : Int) from by omega) (fun s23 hI4 fr3 => ?_)
    have fr6 : lf_fq [31] 1000000 true s.1 s.2.2 s23.1 s23.2.2 := lf_fq_tr (lf_fq_rf) (lf_fq_wk fr3 rfl (by decide) (by decide))
    exact hQ s23 hI4 fr6
  · skip
    replace c2 : ¬ (s.1 31 8 ≠ a1) := c2
    refine sm_31 hI (fun s24 hI8 fr7 => ?_)
    have fr10 : lf_fq [31] 1000000 true s.1 s.2.2 s24.1 s24.2.2 := lf_fq_tr (lf_fq_rf) (lf_fq_wk fr7 rfl (by decide) (by decide))
    exact hQ s24 hI8 fr10
-- fm_58 Reader.readDeed 31 i
theorem sm_58_p68 {Q : lf_Z → Prop} {x1 : Int} {x3 : Int} {x4 : Int} {s : lf_Z} (hQ : ∀  (s' : lf_Z), iv_A s'.1 s'.2.2 → lf_fq [31, 35, 39, 40, 41, 42, 46, 47, 48, 49, 53, 54, 55, 56, 60, 61, 62] 1000000 true s.1 s.2.2 s'.1 s'.2.2 → Q  s') (hI : iv_A s.1 s.2.2) (n2 : s.2.2 2 ≠ none) (bx1 : 23 ≤ x1 ∧ x1 ≤ 32) (bx3 : 0 ≤ x3 ∧ x3 ≤ 9999) (bx4 : 0 ≤ x4 ∧ x4 ≤ 9999) : fm_58_p68 Q x1 x3 x4 s := by
  unfold fm_58_p68
  refine ⟨fun et26 => ?_, fun t26 et26 => ?_⟩
  · skip
    exact absurd et26 n2
  · have htt26 : t26 < 4 := iv_t2 hI et26
    refine ⟨htt26, ?_⟩
    refine sm_57 htt26 hI (show (20 : Int) ≤ x1 ∧ x1 ≤ (32 : Int) from by omega) (show (0 : Int) ≤ x3 ∧ x3 ≤ (9999 : Int) from by omega) (show (0 : Int) ≤ x4 ∧ x4 ≤ (9999 : Int) from by omega) (fun s27 hI11 fr10 => ?_)
    have fr13 : lf_fq [31, 35, 39, 40, 41, 42, 46, 47, 48, 49, 53, 54, 55, 56, 60, 61, 62] 1000000 true s.1 s.2.2 s27.1 s27.2.2 := lf_fq_tr (lf_fq_rf) (lf_fq_wk fr10 rfl (by decide) (by decide))
    have n14 : s27.2.2 2 ≠ none := lf_fq_n2 fr10 rfl n2
    exact hQ s27 hI11 fr13
theorem sm_58 {a1 : Int} {Q : lf_Z → Prop} {s : lf_Z} (hI : iv_A s.1 s.2.2) (n2 : s.2.2 2 ≠ none) (ba1 : 23 ≤ a1 ∧ a1 ≤ 32) (hQ : ∀  (s' : lf_Z), iv_A s'.1 s'.2.2 → lf_fq [31, 35, 39, 40, 41, 42, 46, 47, 48, 49, 53, 54, 55, 56, 60, 61, 62] 1000000 true s.1 s.2.2 s'.1 s'.2.2 → Q  s') : fm_58 a1 Q s := by
  unfold fm_58
  refine ⟨(show (0 : Int) ≤ (a1 - 23) * 5 ∧ (a1 - 23) * 5 < (50 : Int) from by omega), ?_⟩
  have b1 : 0 ≤ (px_sh ((a1 - 23) * 5).toNat).toInt ∧ (px_sh ((a1 - 23) * 5).toNat).toInt ≤ 99 := lf_px_shB
  refine ⟨(show (0 : Int) ≤ ((a1 - 23) * 5) + 1 ∧ ((a1 - 23) * 5) + 1 < (50 : Int) from by omega), ?_⟩
  have b2 : 0 ≤ (px_sh (((a1 - 23) * 5) + 1).toNat).toInt ∧ (px_sh (((a1 - 23) * 5) + 1).toNat).toInt ≤ 99 := lf_px_shB
  refine sm_44 hI (show (0 : Int) ≤ (px_sh ((a1 - 23) * 5).toNat).toInt ∧ (px_sh ((a1 - 23) * 5).toNat).toInt ≤ (99 : Int) from by omega) (show (0 : Int) ≤ (px_sh (((a1 - 23) * 5) + 1).toNat).toInt ∧ (px_sh (((a1 - 23) * 5) + 1).toNat).toInt ≤ (9999 : Int) from by omega) (fun r24 s23 hI4 fr3 q5 => ?_)
  have fr6 : lf_fq [31, 35, 39, 40, 41, 42, 46, 47, 48, 49, 53, 54, 55, 56, 60, 61, 62] 1000000 true s.1 s.2.2 s23.1 s23.2.2 := lf_fq_tr (lf_fq_rf) (lf_fq_wk fr3 rfl (by decide) (by decide))
  have n7 : s23.2.2 2 ≠ none := lf_fq_n2 fr3 rfl n2
  refine ⟨(show (0 : Int) ≤ ((a1 - 23) * 5) + 2 ∧ ((a1 - 23) * 5) + 2 < (50 : Int) from by omega), ?_⟩
  have b8 : 0 ≤ (px_sh (((a1 - 23) * 5) + 2).toNat).toInt ∧ (px_sh (((a1 - 23) * 5) + 2).toNat).toInt ≤ 99 := lf_px_shB
  refine ⟨fun c9 => ?_, fun c9 => ?_⟩
  · skip
    replace c9 : (px_sh (((a1 - 23) * 5) + 2).toNat).toInt = 0 := c9
    exact sm_58_p68 (fun t9 i9 f9 => hQ t9 i9 (lf_fq_tr fr6 f9)) hI4 n7 (show (23 : Int) ≤ a1 ∧ a1 ≤ (32 : Int) from by omega) (show (0 : Int) ≤ r24 ∧ r24 ≤ (9999 : Int) from by omega) (show (0 : Int) ≤ 0 ∧ 0 ≤ (9999 : Int) from by omega)
  · skip
    replace c9 : ¬ ((px_sh (((a1 - 23) * 5) + 2).toNat).toInt = 0) := c9
    refine sm_48 hI4 (show (0 : Int) ≤ (px_sh (((a1 - 23) * 5) + 2).toNat).toInt ∧ (px_sh (((a1 - 23) * 5) + 2).toNat).toInt ≤ (99 : Int) from by omega) (fun s28 hI16 fr15 => ?_)
    have fr18 : lf_fq [31, 35, 39, 40, 41, 42, 46, 47, 48, 49, 53, 54, 55, 56, 60, 61, 62] 1000000 true s.1 s.2.2 s28.1 s28.2.2 := lf_fq_tr fr6 (lf_fq_wk fr15 rfl (by decide) (by decide))
    have n19 : s28.2.2 2 ≠ none := lf_fq_n2 fr15 rfl n7
    refine ⟨(show (0 : Int) ≤ ((a1 - 23) * 5) + 3 ∧ ((a1 - 23) * 5) + 3 < (50 : Int) from by omega), ?_⟩
    have b20 : 0 ≤ (px_sh (((a1 - 23) * 5) + 3).toNat).toInt ∧ (px_sh (((a1 - 23) * 5) + 3).toNat).toInt ≤ 99 := lf_px_shB
    refine ⟨(show (0 : Int) ≤ ((a1 - 23) * 5) + 4 ∧ ((a1 - 23) * 5) + 4 < (50 : Int) from by omega), ?_⟩
    have b21 : 0 ≤ (px_sh (((a1 - 23) * 5) + 4).toNat).toInt ∧ (px_sh (((a1 - 23) * 5) + 4).toNat).toInt ≤ 99 := lf_px_shB
    refine sm_44 hI16 (show (0 : Int) ≤ (px_sh (((a1 - 23) * 5) + 3).toNat).toInt ∧ (px_sh (((a1 - 23) * 5) + 3).toNat).toInt ≤ (99 : Int) from by omega) (show (0 : Int) ≤ (px_sh (((a1 - 23) * 5) + 4).toNat).toInt ∧ (px_sh (((a1 - 23) * 5) + 4).toNat).toInt ≤ (9999 : Int) from by omega) (fun r32 s31 hI23 fr22 q24 => ?_)
    have fr25 : lf_fq [31, 35, 39, 40, 41, 42, 46, 47, 48, 49, 53, 54, 55, 56, 60, 61, 62] 1000000 true s.1 s.2.2 s31.1 s31.2.2 := lf_fq_tr fr18 (lf_fq_wk fr22 rfl (by decide) (by decide))
    have n26 : s31.2.2 2 ≠ none := lf_fq_n2 fr22 rfl n19
    exact sm_58_p68 (fun t9 i9 f9 => hQ t9 i9 (lf_fq_tr fr25 f9)) hI23 n26 (show (23 : Int) ≤ a1 ∧ a1 ≤ (32 : Int) from by omega) (show (0 : Int) ≤ r24 ∧ r24 ≤ (9999 : Int) from by omega) (show (0 : Int) ≤ r32 ∧ r32 ≤ (9999 : Int) from by omega)
-- fm_45 Script.addOrder t i i
theorem sm_45 {t0 : Nat} {a1 : Int} {a2 : Int} {Q : Int → lf_Z → Prop} {s : lf_Z} (htt0 : t0 < 4) (hI : iv_A s.1 s.2.2) (ba1 : 0 ≤ a1 ∧ a1 ≤ 300) (ba2 : 0 ≤ a2 ∧ a2 ≤ 1000000) (hQ : ∀ (r : Int) (s' : lf_Z), iv_A s'.1 s'.2.2 → lf_fq [35, 36, 42, 43, 49, 50, 56, 57] 1000000 true s.1 s.2.2 s'.1 s'.2.2 → ((-1) ≤ r ∧ r ≤ 299) → Q r s') : fm_45 t0 a1 a2 Q s := by
  unfold fm_45
  have b1 : 0 ≤ s.1 (35 + 7 * t0) 1 ∧ s.1 (35 + 7 * t0) 1 ≤ 300 := iv_rT_1 hI htt0
  refine ⟨(show lf_R (s.1 (35 + 7 * t0) 1) from lf_Rof (by omega)), ?_⟩
  refine ⟨fun c2 => ?_, fun c2 => ?_⟩
  · skip
    replace c2 : s.1 (35 + 7 * t0) 1 < 300 := c2
    refine ⟨(show (0 : Int) ≤ s.1 (35 + 7 * t0) 1 ∧ s.1 (35 + 7 * t0) 1 < (300 : Int) from by omega), ?_⟩
    have hI3 : iv_A (lf_up s.1 (36 + 7 * t0) (s.1 (35 + 7 * t0) 1) ((a1 * 10000) + a2)) s.2.2 := iv_wTA36 hI htt0 (by omega)
    have fr4 : lf_fq [35, 36, 42, 43, 49, 50, 56, 57] 1000000 true s.1 s.2.2 (lf_up s.1 (36 + 7 * t0) (s.1 (35 + 7 * t0) 1) ((a1 * 10000) + a2)) s.2.2 := lf_fq_upT (lf_fq_rf) htt0 rfl (by decide)
    have b5 : 0 ≤ (lf_up s.1 (36 + 7 * t0) (s.1 (35 + 7 * t0) 1) ((a1 * 10000) + a2)) (35 + 7 * t0) 1 ∧ (lf_up s.1 (36 + 7 * t0) (s.1 (35 + 7 * t0) 1) ((a1 * 10000) + a2)) (35 + 7 * t0) 1 ≤ 300 := iv_rT_1 hI3 htt0
    have b6 : (lf_up s.1 (36 + 7 * t0) (s.1 (35 + 7 * t0) 1) ((a1 * 10000) + a2)) (35 + 7 * t0) 1 = s.1 (35 + 7 * t0) 1 := lf_up_c (by omega)
    have hI7 : iv_A (lf_up (lf_up s.1 (36 + 7 * t0) (s.1 (35 + 7 * t0) 1) ((a1 * 10000) + a2)) (35 + 7 * t0) 1 (((lf_up s.1 (36 + 7 * t0) (s.1 (35 + 7 * t0) 1) ((a1 * 10000) + a2)) (35 + 7 * t0) 1) + 1)) s.2.2 := iv_wT_1 hI3 htt0 (by omega)
    have fr8 : lf_fq [35, 36, 42, 43, 49, 50, 56, 57] 1000000 true s.1 s.2.2 (lf_up (lf_up s.1 (36 + 7 * t0) (s.1 (35 + 7 * t0) 1) ((a1 * 10000) + a2)) (35 + 7 * t0) 1 (((lf_up s.1 (36 + 7 * t0) (s.1 (35 + 7 * t0) 1) ((a1 * 10000) + a2)) (35 + 7 * t0) 1) + 1)) s.2.2 := lf_fq_upT fr4 htt0 rfl (by decide)
    have b9 : 0 ≤ (lf_up (lf_up s.1 (36 + 7 * t0) (s.1 (35 + 7 * t0) 1) ((a1 * 10000) + a2)) (35 + 7 * t0) 1 (((lf_up s.1 (36 + 7 * t0) (s.1 (35 + 7 * t0) 1) ((a1 * 10000) + a2)) (35 + 7 * t0) 1) + 1)) (35 + 7 * t0) 1 ∧ (lf_up (lf_up s.1 (36 + 7 * t0) (s.1 (35 + 7 * t0) 1) ((a1 * 10000) + a2)) (35 + 7 * t0) 1 (((lf_up s.1 (36 + 7 * t0) (s.1 (35 + 7 * t0) 1) ((a1 * 10000) + a2)) (35 + 7 * t0) 1) + 1)) (35 + 7 * t0) 1 ≤ 300 := iv_rT_1 hI7 htt0
    have b10 : (lf_up (lf_up s.1 (36 + 7 * t0) (s.1 (35 + 7 * t0) 1) ((a1 * 10000) + a2)) (35 + 7 * t0) 1 (((lf_up s.1 (36 + 7 * t0) (s.1 (35 + 7 * t0) 1) ((a1 * 10000) + a2)) (35 + 7 * t0) 1) + 1)) (35 + 7 * t0) 1 = ((lf_up s.1 (36 + 7 * t0) (s.1 (35 + 7 * t0) 1) ((a1 * 10000) + a2)) (35 + 7 * t0) 1) + 1 := lf_up_s
    exact hQ (((lf_up (lf_up s.1 (36 + 7 * t0) (s.1 (35 + 7 * t0) 1) ((a1 * 10000) + a2)) (35 + 7 * t0) 1 (((lf_up s.1 (36 + 7 * t0) (s.1 (35 + 7 * t0) 1) ((a1 * 10000) + a2)) (35 + 7 * t0) 1) + 1)) (35 + 7 * t0) 1) - 1) (lf_up (lf_up s.1 (36 + 7 * t0) (s.1 (35 + 7 * t0) 1) ((a1 * 10000) + a2)) (35 + 7 * t0) 1 (((lf_up s.1 (36 + 7 * t0) (s.1 (35 + 7 * t0) 1) ((a1 * 10000) + a2)) (35 + 7 * t0) 1) + 1), s.2.1, s.2.2) hI7 fr8 (show (-1 : Int) ≤ ((lf_up (lf_up s.1 (36 + 7 * t0) (s.1 (35 + 7 * t0) 1) ((a1 * 10000) + a2)) (35 + 7 * t0) 1 (((lf_up s.1 (36 + 7 * t0) (s.1 (35 + 7 * t0) 1) ((a1 * 10000) + a2)) (35 + 7 * t0) 1) + 1)) (35 + 7 * t0) 1) - 1 ∧ ((lf_up (lf_up s.1 (36 + 7 * t0) (s.1 (35 + 7 * t0) 1) ((a1 * 10000) + a2)) (35 + 7 * t0) 1 (((lf_up s.1 (36 + 7 * t0) (s.1 (35 + 7 * t0) 1) ((a1 * 10000) + a2)) (35 + 7 * t0) 1) + 1)) (35 + 7 * t0) 1) - 1 ≤ (299 : Int) from by omega)
  · skip
    replace c2 : ¬ (s.1 (35 + 7 * t0) 1 < 300) := c2
    exact hQ (-1) s hI (lf_fq_rf) (show (-1 : Int) ≤ (-1) ∧ (-1) ≤ (299 : Int) from by omega)
-- fm_56 Reader.readName 31
theorem sm_56_p53 {Q : lf_Z → Prop} {x1 : Int} {s : lf_Z} (hQ : ∀  (s' : lf_Z), iv_A s'.1 s'.2.2 → lf_fq [31, 35, 36, 42, 43, 49, 50, 56, 57] 1000000 true s.1 s.2.2 s'.1 s'.2.2 → Q  s') (hI : iv_A s.1 s.2.2) (n2 : s.2.2 2 ≠ none) (bx1 : 0 ≤ x1 ∧ x1 ≤ 10) : fm_56_p53 Q x1 s := by
  unfold fm_56_p53
  refine ⟨(show (0 : Int) ≤ x1 ∧ x1 < (11 : Int) from by omega), ?_⟩
  have b5 : 0 ≤ (px_lw (x1).toNat).toInt ∧ (px_lw (x1).toNat).toInt ≤ 99 := lf_px_lwB
  have b6 : 0 ≤ s.1 31 6 ∧ s.1 31 6 ≤ 2 := iv_r31_6 hI
  have b7 : 0 ≤ lf_shr ((px_lw (x1).toNat).toInt) (s.1 31 6) ∧ lf_shr ((px_lw (x1).toNat).toInt) (s.1 31 6) ≤ 99 := lf_shrP (by omega) (by omega)
  have b8 : 0 ≤ lf_and (lf_shr ((px_lw (x1).toNat).toInt) (s.1 31 6)) 1 ∧ lf_and (lf_shr ((px_lw (x1).toNat).toInt) (s.1 31 6)) 1 ≤ 1 := lf_andB (by omega) (by omega)
  refine ⟨fun c9 => ?_, fun c9 => ?_⟩
  · skip
    replace c9 : lf_and (lf_shr ((px_lw (x1).toNat).toInt) (s.1 31 6)) 1 ≠ 0 := c9
    refine ⟨fun et24 => ?_, fun t24 et24 => ?_⟩
    · skip
      exact absurd et24 n2
    · have htt24 : t24 < 4 := iv_t2 hI et24
      refine ⟨htt24, ?_⟩
      refine sm_45 htt24 hI (show (0 : Int) ≤ 17 ∧ 17 ≤ (300 : Int) from by omega) (show (0 : Int) ≤ x1 ∧ x1 ≤ (1000000 : Int) from by omega) (fun r26 s25 hI11 fr10 q12 => ?_)
      have fr13 : lf_fq [31, 35, 36, 42, 43, 49, 50, 56, 57] 1000000 true s.1 s.2.2 s25.1 s25.2.2 := lf_fq_tr (lf_fq_rf) (lf_fq_wk fr10 rfl (by decide) (by decide))
      have n14 : s25.2.2 2 ≠ none := lf_fq_n2 fr10 rfl n2
      refine sm_31 hI11 (fun s27 hI16 fr15 => ?_)
      have fr18 : lf_fq [31, 35, 36, 42, 43, 49, 50, 56, 57] 1000000 true s.1 s.2.2 s27.1 s27.2.2 := lf_fq_tr fr13 (lf_fq_wk fr15 rfl (by decide) (by decide))
      have n19 : s27.2.2 2 ≠ none := lf_fq_n2 fr15 rfl n14
      exact hQ s27 hI16 fr18
  · skip
    replace c9 : ¬ (lf_and (lf_shr ((px_lw (x1).toNat).toInt) (s.1 31 6)) 1 ≠ 0) := c9
    refine sm_39 hI (show (1 : Int) ≤ 5 ∧ 5 ≤ (6 : Int) from by omega) (fun s28 hI21 fr20 => ?_)
    have fr23 : lf_fq [31, 35, 36, 42, 43, 49, 50, 56, 57] 1000000 true s.1 s.2.2 s28.1 s28.2.2 := lf_fq_tr (lf_fq_rf) (lf_fq_wk fr20 rfl (by decide) (by decide))
    have n24 : s28.2.2 2 ≠ none := lf_fq_n2 fr20 rfl n2
    exact hQ s28 hI21 fr23
theorem sm_56_p21 {Q : lf_Z → Prop} {y0 : Int} {s : lf_Z} (hQ : ∀  (s' : lf_Z), iv_A s'.1 s'.2.2 → lf_fq [31, 35, 36, 42, 43, 49, 50, 56, 57] 1000000 true s.1 s.2.2 s'.1 s'.2.2 → Q  s') (hI : iv_A s.1 s.2.2) (n2 : s.2.2 2 ≠ none) (by0 : (-47) ≤ y0 ∧ y0 ≤ 253) (kv0 : (s.1 31 8 = 24 ∧ y0 = 10) ∨ (s.1 31 8 ≠ 24 ∧ y0 = s.1 31 8 - 47)) : fm_56_p21 Q y0 s := by
  unfold fm_56_p21
  have b3 : 0 ≤ s.1 31 8 ∧ s.1 31 8 ≤ 300 := iv_r31_8 hI
  refine ⟨(show lf_R (s.1 31 8) from lf_Rof (by omega)), ?_⟩
  refine ⟨fun c4 => ?_, fun c4 => ?_⟩
  · skip
    replace c4 : s.1 31 8 = 24 := c4
    exact sm_56_p53 hQ hI n2 (show (0 : Int) ≤ y0 ∧ y0 ≤ (10 : Int) from by omega)
  · skip
    replace c4 : ¬ (s.1 31 8 = 24) := c4
    refine sm_15 hI (show (-2147483648 : Int) ≤ s.1 31 8 ∧ s.1 31 8 ≤ (2147483647 : Int) from by omega) (show (-1 : Int) ≤ 47 ∧ 47 ≤ (99 : Int) from by omega) (show (-2147483648 : Int) ≤ 56 ∧ 56 ≤ (2147483647 : Int) from by omega) (fun z30 q25 => ?_)
    refine ⟨fun c26 => ?_, fun c26 => ?_⟩
    · skip
      have dc26 := q25.1 c26
      exact sm_56_p53 hQ hI n2 (show (0 : Int) ≤ y0 ∧ y0 ≤ (10 : Int) from by omega)
    · skip
      have dc26 := q25.2 c26
      refine sm_39 hI (show (1 : Int) ≤ 1 ∧ 1 ≤ (6 : Int) from by omega) (fun s31 hI28 fr27 => ?_)
      have fr30 : lf_fq [31, 35, 36, 42, 43, 49, 50, 56, 57] 1000000 true s.1 s.2.2 s31.1 s31.2.2 := lf_fq_tr (lf_fq_rf) (lf_fq_wk fr27 rfl (by decide) (by decide))
      have n31 : s31.2.2 2 ≠ none := lf_fq_n2 fr27 rfl n2
      exact hQ s31 hI28 fr30
theorem sm_56 {Q : lf_Z → Prop} {s : lf_Z} (hI : iv_A s.1 s.2.2) (n2 : s.2.2 2 ≠ none) (hQ : ∀  (s' : lf_Z), iv_A s'.1 s'.2.2 → lf_fq [31, 35, 36, 42, 43, 49, 50, 56, 57] 1000000 true s.1 s.2.2 s'.1 s'.2.2 → Q  s') : fm_56 Q s := by
  unfold fm_56
  have b1 : 0 ≤ s.1 31 8 ∧ s.1 31 8 ≤ 300 := iv_r31_8 hI
  refine ⟨(show lf_R (s.1 31 8) from lf_Rof (by omega)), ?_⟩
  refine ⟨fun c2 => ?_, fun c2 => ?_⟩
  · skip
    replace c2 : s.1 31 8 ≠ 24 := c2
    exact sm_56_p21 hQ hI n2 (show (-47 : Int) ≤ (s.1 31 8) - 47 ∧ (s.1 31 8) - 47 ≤ (253 : Int) from by omega) (show ((s.1 31 8) = 24 ∧ ((s.1 31 8) - 47) = 10) ∨ ((s.1 31 8) ≠ 24 ∧ ((s.1 31 8) - 47) = (s.1 31 8) - 47) from by omega)
  · skip
    replace c2 : ¬ (s.1 31 8 ≠ 24) := c2
    exact sm_56_p21 hQ hI n2 (show (-47 : Int) ≤ 10 ∧ 10 ≤ (253 : Int) from by omega) (show ((s.1 31 8) = 24 ∧ 10 = 10) ∨ ((s.1 31 8) ≠ 24 ∧ 10 = (s.1 31 8) - 47) from by omega)
-- fm_46 Reader.readLetter 31
theorem sm_46_p26 {Q : lf_Z → Prop} {y0 : Int} {s : lf_Z} (hQ : ∀  (s' : lf_Z), iv_A s'.1 s'.2.2 → lf_fq [31, 35, 36, 42, 43, 49, 50, 56, 57] 1000000 true s.1 s.2.2 s'.1 s'.2.2 → Q  s') (hI : iv_A s.1 s.2.2) (n2 : s.2.2 2 ≠ none) (by0 : (-1) ≤ y0 ∧ y0 ≤ 7) : fm_46_p26 Q y0 s := by
  unfold fm_46_p26
  refine ⟨(show lf_R y0 from lf_Rof (by omega)), ?_⟩
  refine ⟨fun c4 => ?_, fun c4 => ?_⟩
  · skip
    replace c4 : y0 ≠ (-1) := c4
    refine ⟨fun et24 => ?_, fun t24 et24 => ?_⟩
    · skip
      exact absurd et24 n2
    · have htt24 : t24 < 4 := iv_t2 hI et24
      refine ⟨htt24, ?_⟩
      refine sm_45 htt24 hI (show (0 : Int) ≤ 3 ∧ 3 ≤ (300 : Int) from by omega) (show (0 : Int) ≤ y0 ∧ y0 ≤ (1000000 : Int) from by omega) (fun r26 s25 hI6 fr5 q7 => ?_)
      have fr8 : lf_fq [31, 35, 36, 42, 43, 49, 50, 56, 57] 1000000 true s.1 s.2.2 s25.1 s25.2.2 := lf_fq_tr (lf_fq_rf) (lf_fq_wk fr5 rfl (by decide) (by decide))
      have n9 : s25.2.2 2 ≠ none := lf_fq_n2 fr5 rfl n2
      refine sm_31 hI6 (fun s27 hI11 fr10 => ?_)
      have fr13 : lf_fq [31, 35, 36, 42, 43, 49, 50, 56, 57] 1000000 true s.1 s.2.2 s27.1 s27.2.2 := lf_fq_tr fr8 (lf_fq_wk fr10 rfl (by decide) (by decide))
      have n14 : s27.2.2 2 ≠ none := lf_fq_n2 fr10 rfl n9
      exact hQ s27 hI11 fr13
  · skip
    replace c4 : ¬ (y0 ≠ (-1)) := c4
    refine sm_39 hI (show (1 : Int) ≤ 5 ∧ 5 ≤ (6 : Int) from by omega) (fun s28 hI16 fr15 => ?_)
    have fr18 : lf_fq [31, 35, 36, 42, 43, 49, 50, 56, 57] 1000000 true s.1 s.2.2 s28.1 s28.2.2 := lf_fq_tr (lf_fq_rf) (lf_fq_wk fr15 rfl (by decide) (by decide))
    have n19 : s28.2.2 2 ≠ none := lf_fq_n2 fr15 rfl n2
    exact hQ s28 hI16 fr18
theorem sm_46 {Q : lf_Z → Prop} {s : lf_Z} (hI : iv_A s.1 s.2.2) (n2 : s.2.2 2 ≠ none) (hQ : ∀  (s' : lf_Z), iv_A s'.1 s'.2.2 → lf_fq [31, 35, 36, 42, 43, 49, 50, 56, 57] 1000000 true s.1 s.2.2 s'.1 s'.2.2 → Q  s') : fm_46 Q s := by
  unfold fm_46
  have b1 : (-2147483648) ≤ s.1 31 10 ∧ s.1 31 10 ≤ 2147483647 := iv_full hI
  refine sm_15 hI (show (-2147483648 : Int) ≤ s.1 31 10 ∧ s.1 31 10 ≤ (2147483647 : Int) from by omega) (show (-1 : Int) ≤ 0 ∧ 0 ≤ (99 : Int) from by omega) (show (-2147483648 : Int) ≤ 25 ∧ 25 ≤ (2147483647 : Int) from by omega) (fun z22 q2 => ?_)
  refine ⟨fun c3 => ?_, fun c3 => ?_⟩
  · skip
    have dc3 := q2.2 c3
    exact sm_46_p26 hQ hI n2 (show (-1 : Int) ≤ (-1) ∧ (-1) ≤ (7 : Int) from by omega)
  · skip
    have dc3 := q2.1 c3
    refine ⟨(show (0 : Int) ≤ s.1 31 10 ∧ s.1 31 10 < (26 : Int) from by omega), ?_⟩
    have b20 : (-1) ≤ s.1 33 (s.1 31 10) ∧ s.1 33 (s.1 31 10) ≤ 7 := iv_r33 hI _
    exact sm_46_p26 hQ hI n2 (show (-1 : Int) ≤ s.1 33 (s.1 31 10) ∧ s.1 33 (s.1 31 10) ≤ (7 : Int) from by omega)
-- fm_47 Reader.enter 31 i
theorem sm_47 {a1 : Int} {Q : Bool → lf_Z → Prop} {s : lf_Z} (hI : iv_A s.1 s.2.2) (ba1 : 0 ≤ a1 ∧ a1 ≤ 8) (hQ : ∀ (z : Bool) (s' : lf_Z), iv_A s'.1 s'.2.2 → lf_fq [31] 1000000 true s.1 s.2.2 s'.1 s'.2.2 → ((z = true → (a1 < 8)) ∧ (z = false → ¬ (a1 < 8))) → Q z s') : fm_47 a1 Q s := by
  unfold fm_47
  refine ⟨(show lf_R a1 from lf_Rof (by omega)), ?_⟩
  refine ⟨fun c1 => ?_, fun c1 => ?_⟩
  · skip
    replace c1 : a1 < 8 := c1
    refine sm_31 hI (fun s22 hI3 fr2 => ?_)
    have fr5 : lf_fq [31] 1000000 true s.1 s.2.2 s22.1 s22.2.2 := lf_fq_tr (lf_fq_rf) (lf_fq_wk fr2 rfl (by decide) (by decide))
    exact hQ true s22 hI3 fr5 (lf_pt (by omega))
  · skip
    replace c1 : ¬ (a1 < 8) := c1
    refine sm_39 hI (show (1 : Int) ≤ 3 ∧ 3 ≤ (6 : Int) from by omega) (fun s23 hI7 fr6 => ?_)
    have fr9 : lf_fq [31] 1000000 true s.1 s.2.2 s23.1 s23.2.2 := lf_fq_tr (lf_fq_rf) (lf_fq_wk fr6 rfl (by decide) (by decide))
    exact hQ false s23 hI7 fr9 (lf_pf (by omega))
-- fm_53 Script.leadToHere t i
theorem sm_53 {t0 : Nat} {a1 : Int} {Q : lf_Z → Prop} {s : lf_Z} (htt0 : t0 < 4) (hI : iv_A s.1 s.2.2) (ba1 : (-1) ≤ a1 ∧ a1 ≤ 299) (hQ : ∀  (s' : lf_Z), iv_A s'.1 s'.2.2 → lf_fq [36, 43, 50, 57] 1000000 true s.1 s.2.2 s'.1 s'.2.2 → Q  s') : fm_53 t0 a1 Q s := by
  unfold fm_53
  refine ⟨(show lf_R a1 from lf_Rof (by omega)), ?_⟩
  refine ⟨fun c1 => ?_, fun c1 => ?_⟩
  · skip
    replace c1 : a1 < 0 := c1
    exact hQ s hI (lf_fq_rf)
  · skip
    replace c1 : ¬ (a1 < 0) := c1
    have b2 : 0 ≤ s.1 (35 + 7 * t0) 1 ∧ s.1 (35 + 7 * t0) 1 ≤ 300 := iv_rT_1 hI htt0
    refine ⟨(show lf_R (s.1 (35 + 7 * t0) 1) from lf_Rof (by omega)), ?_⟩
    refine ⟨fun c3 => ?_, fun c3 => ?_⟩
    · skip
      replace c3 : s.1 (35 + 7 * t0) 1 ≤ a1 := c3
      exact hQ s hI (lf_fq_rf)
    · skip
      replace c3 : ¬ (s.1 (35 + 7 * t0) 1 ≤ a1) := c3
      refine ⟨(show (0 : Int) ≤ a1 ∧ a1 < (300 : Int) from by omega), ?_⟩
      have b4 : (-2147483648) ≤ s.1 (36 + 7 * t0) a1 ∧ s.1 (36 + 7 * t0) a1 ≤ 2147483647 := iv_full hI
      have b5 : (-2147483648) ≤ lf_w ((s.1 (36 + 7 * t0) a1) + (s.1 (35 + 7 * t0) 1)) ∧ lf_w ((s.1 (36 + 7 * t0) a1) + (s.1 (35 + 7 * t0) 1)) ≤ 2147483647 := lf_wB
      have hI6 : iv_A (lf_up s.1 (36 + 7 * t0) a1 (lf_w ((s.1 (36 + 7 * t0) a1) + (s.1 (35 + 7 * t0) 1)))) s.2.2 := iv_wTA36 hI htt0 (by omega)
      have fr7 : lf_fq [36, 43, 50, 57] 1000000 true s.1 s.2.2 (lf_up s.1 (36 + 7 * t0) a1 (lf_w ((s.1 (36 + 7 * t0) a1) + (s.1 (35 + 7 * t0) 1)))) s.2.2 := lf_fq_upT (lf_fq_rf) htt0 rfl (by decide)
      exact hQ (lf_up s.1 (36 + 7 * t0) a1 (lf_w ((s.1 (36 + 7 * t0) a1) + (s.1 (35 + 7 * t0) 1))), s.2.1, s.2.2) hI6 fr7
-- fm_55 ElevenBullocks.cut i i i
theorem sm_55 {a0 : Int} {a1 : Int} {a2 : Int} {Q : Int → lf_Z → Prop} {s : lf_Z} (hI : iv_A s.1 s.2.2) (ba0 : (-2147483648) ≤ a0 ∧ a0 ≤ 2147483647) (ba1 : 0 ≤ a1 ∧ a1 ≤ 0) (ba2 : 2 ≤ a2 ∧ a2 ≤ 1000000) (hQ : ∀ (r : Int), ((0 ≤ r ∧ r ≤ 1000000) ∧ (a1 ≤ r ∧ (r ≤ a2 ∨ r ≤ a1))) → Q r s) : fm_55 a0 a1 a2 Q s := by
  unfold fm_55
  refine ⟨(show lf_R a2 from lf_Rof (by omega)), ?_⟩
  refine ⟨(show lf_R a0 from lf_Rof (by omega)), ?_⟩
  refine ⟨(show lf_R a1 from lf_Rof (by omega)), ?_⟩
  refine ⟨(show lf_R (min a2 a0) from lf_Rof (by omega)), ?_⟩
  exact hQ (max a1 (min a2 a0)) ⟨(show (0 : Int) ≤ max a1 (min a2 a0) ∧ max a1 (min a2 a0) ≤ (1000000 : Int) from by omega), (show a1 ≤ max a1 (min a2 a0) ∧ (max a1 (min a2 a0) ≤ a2 ∨ max a1 (min a2 a0) ≤ a1) from by omega)⟩
-- fm_41 Reader.readSum 31 i
theorem sm_41_p32 {R42 : Int → (lf_Z → Prop) → lf_Z → Prop} {X7 : Int → lf_Z → Prop} {Q : lf_Z → Prop} {x1 : Int} {x2 : Int} {s : lf_Z} {MR : Nat} (hQ : ∀  (s' : lf_Z), iv_A s'.1 s'.2.2 → lf_fq [31, 33, 35, 36, 42, 43, 49, 50, 56, 57] 1000000 true s.1 s.2.2 s'.1 s'.2.2 → Q  s') (hR42 : ∀ {a1 : Int} {Q : lf_Z → Prop} {s : lf_Z}, (20 * (9 - a1) + 2).toNat < MR → iv_A s.1 s.2.2 → s.2.2 2 ≠ none → 0 ≤ a1 ∧ a1 ≤ 8 → (∀  (s' : lf_Z), iv_A s'.1 s'.2.2 → lf_fq [31, 33, 35, 36, 42, 43, 49, 50, 56, 57] 1000000 true s.1 s.2.2 s'.1 s'.2.2 → Q  s') → R42 a1 Q s) {M7 : Nat} (hX7 : ∀ (x2 : Int) (s' : lf_Z), iv_A s'.1 s'.2.2 → lf_fq [31, 33, 35, 36, 42, 43, 49, 50, 56, 57] 1000000 true s.1 s.2.2 s'.1 s'.2.2 → s'.2.2 2 ≠ none → 0 ≤ x2 ∧ x2 ≤ 300 → (300 - x2).toNat < M7 → X7 x2 s') (hM7 : (300 - x2).toNat ≤ M7) (hMR : (20 * (9 - x1) + 3).toNat ≤ MR) (hI : iv_A s.1 s.2.2) (n2 : s.2.2 2 ≠ none) (bx1 : 0 ≤ x1 ∧ x1 ≤ 8) (bx2 : 0 ≤ x2 ∧ x2 ≤ 299) : fm_41_p32 R42 X7 Q x1 x2 s := by
  unfold fm_41_p32
  have b9 : 0 ≤ s.1 31 8 ∧ s.1 31 8 ≤ 300 := iv_r31_8 hI
  refine sm_31 hI (fun s24 hI11 fr10 => ?_)
  have fr13 : lf_fq [31, 33, 35, 36, 42, 43, 49, 50, 56, 57] 1000000 true s.1 s.2.2 s24.1 s24.2.2 := lf_fq_tr (lf_fq_rf) (lf_fq_wk fr10 rfl (by decide) (by decide))
  have n14 : s24.2.2 2 ≠ none := lf_fq_n2 fr10 rfl n2
  refine hR42 (show (20 * (9 - x1) + 2).toNat < MR from by omega) hI11 n14 (show (0 : Int) ≤ x1 ∧ x1 ≤ (8 : Int) from by omega) (fun s25 hI16 fr15 => ?_)
  have fr18 : lf_fq [31, 33, 35, 36, 42, 43, 49, 50, 56, 57] 1000000 true s.1 s.2.2 s25.1 s25.2.2 := lf_fq_tr fr13 (lf_fq_wk fr15 rfl (by decide) (by decide))
  have n19 : s25.2.2 2 ≠ none := lf_fq_n2 fr15 rfl n14
  refine ⟨fun et26 => ?_, fun t26 et26 => ?_⟩
  · skip
    exact absurd et26 n19
  · have htt26 : t26 < 4 := iv_t2 hI16 et26
    refine ⟨htt26, ?_⟩
    refine sm_45 htt26 hI16 (show (0 : Int) ≤ s.1 31 8 ∧ s.1 31 8 ≤ (300 : Int) from by omega) (show (0 : Int) ≤ 0 ∧ 0 ≤ (1000000 : Int) from by omega) (fun r28 s27 hI21 fr20 q22 => ?_)
    have fr23 : lf_fq [31, 33, 35, 36, 42, 43, 49, 50, 56, 57] 1000000 true s.1 s.2.2 s27.1 s27.2.2 := lf_fq_tr fr18 (lf_fq_wk fr20 rfl (by decide) (by decide))
    have n24 : s27.2.2 2 ≠ none := lf_fq_n2 fr20 rfl n19
    exact hX7 (x2 + 1) s27 hI21 fr23 n24 (show (0 : Int) ≤ x2 + 1 ∧ x2 + 1 ≤ (300 : Int) from by omega) (show (300 - (x2 + 1)).toNat < M7 from by omega)
theorem sm_41_p7 {R42 : Int → (lf_Z → Prop) → lf_Z → Prop} {X7 : Int → lf_Z → Prop} {Q : lf_Z → Prop} {x1 : Int} {x2 : Int} {s : lf_Z} {MR : Nat} (hQ : ∀  (s' : lf_Z), iv_A s'.1 s'.2.2 → lf_fq [31, 33, 35, 36, 42, 43, 49, 50, 56, 57] 1000000 true s.1 s.2.2 s'.1 s'.2.2 → Q  s') (hR42 : ∀ {a1 : Int} {Q : lf_Z → Prop} {s : lf_Z}, (20 * (9 - a1) + 2).toNat < MR → iv_A s.1 s.2.2 → s.2.2 2 ≠ none → 0 ≤ a1 ∧ a1 ≤ 8 → (∀  (s' : lf_Z), iv_A s'.1 s'.2.2 → lf_fq [31, 33, 35, 36, 42, 43, 49, 50, 56, 57] 1000000 true s.1 s.2.2 s'.1 s'.2.2 → Q  s') → R42 a1 Q s) {M7 : Nat} (hX7 : ∀ (x2 : Int) (s' : lf_Z), iv_A s'.1 s'.2.2 → lf_fq [31, 33, 35, 36, 42, 43, 49, 50, 56, 57] 1000000 true s.1 s.2.2 s'.1 s'.2.2 → s'.2.2 2 ≠ none → 0 ≤ x2 ∧ x2 ≤ 300 → (300 - x2).toNat < M7 → X7 x2 s') (hM7 : (300 - x2).toNat ≤ M7) (hMR : (20 * (9 - x1) + 3).toNat ≤ MR) (hI : iv_A s.1 s.2.2) (n2 : s.2.2 2 ≠ none) (bx1 : 0 ≤ x1 ∧ x1 ≤ 8) (bx2 : 0 ≤ x2 ∧ x2 ≤ 300) : fm_41_p7 R42 Q x1 X7 x2 s := by
  unfold fm_41_p7
  refine ⟨(show lf_R x2 from lf_Rof (by omega)), ?_⟩
  refine ⟨fun c6 => ?_, fun c6 => ?_⟩
  · skip
    replace c6 : 300 ≤ x2 := c6
    exact hQ s hI (lf_fq_rf)
  · skip
    replace c6 : ¬ (300 ≤ x2) := c6
    have b7 : 0 ≤ s.1 31 8 ∧ s.1 31 8 ≤ 300 := iv_r31_8 hI
    refine ⟨(show lf_R (s.1 31 8) from lf_Rof (by omega)), ?_⟩
    refine ⟨fun c8 => ?_, fun c8 => ?_⟩
    · skip
      replace c8 : s.1 31 8 = 10 := c8
      exact sm_41_p32 hQ hR42 hX7 (show (300 - x2).toNat ≤ M7 from by omega) (show (20 * (9 - x1) + 3).toNat ≤ MR from by omega) hI n2 (show (0 : Int) ≤ x1 ∧ x1 ≤ (8 : Int) from by omega) (show (0 : Int) ≤ x2 ∧ x2 ≤ (299 : Int) from by omega)
    · skip
      replace c8 : ¬ (s.1 31 8 = 10) := c8
      refine ⟨fun c25 => ?_, fun c25 => ?_⟩
      · skip
        replace c25 : s.1 31 8 ≠ 11 := c25
        exact hQ s hI (lf_fq_rf)
      · skip
        replace c25 : ¬ (s.1 31 8 ≠ 11) := c25
        exact sm_41_p32 hQ hR42 hX7 (show (300 - x2).toNat ≤ M7 from by omega) (show (20 * (9 - x1) + 3).toNat ≤ MR from by omega) hI n2 (show (0 : Int) ≤ x1 ∧ x1 ≤ (8 : Int) from by omega) (show (0 : Int) ≤ x2 ∧ x2 ≤ (299 : Int) from by omega)
theorem sm_41_p7L {R42 : Int → (lf_Z → Prop) → lf_Z → Prop} {Q : lf_Z → Prop} {x1 : Int} {x2 : Int} {s : lf_Z} {MR : Nat} (hQ : ∀  (s' : lf_Z), iv_A s'.1 s'.2.2 → lf_fq [31, 33, 35, 36, 42, 43, 49, 50, 56, 57] 1000000 true s.1 s.2.2 s'.1 s'.2.2 → Q  s') (hR42 : ∀ {a1 : Int} {Q : lf_Z → Prop} {s : lf_Z}, (20 * (9 - a1) + 2).toNat < MR → iv_A s.1 s.2.2 → s.2.2 2 ≠ none → 0 ≤ a1 ∧ a1 ≤ 8 → (∀  (s' : lf_Z), iv_A s'.1 s'.2.2 → lf_fq [31, 33, 35, 36, 42, 43, 49, 50, 56, 57] 1000000 true s.1 s.2.2 s'.1 s'.2.2 → Q  s') → R42 a1 Q s) (hMR : (20 * (9 - x1) + 3).toNat ≤ MR) (hI : iv_A s.1 s.2.2) (n2 : s.2.2 2 ≠ none) (bx1 : 0 ≤ x1 ∧ x1 ≤ 8) (bx2 : 0 ≤ x2 ∧ x2 ≤ 300) : fm_41_p7L R42 Q x1 x2 s := by
  intro X7 hX
  have key : ∀ (m9 : Nat) (x2 : Int) (s' : lf_Z), iv_A s'.1 s'.2.2 → lf_fq [31, 33, 35, 36, 42, 43, 49, 50, 56, 57] 1000000 true s.1 s.2.2 s'.1 s'.2.2 → s'.2.2 2 ≠ none → 0 ≤ x2 ∧ x2 ≤ 300 → (300 - x2).toNat < m9 → X7 x2 s' := by
    intro m9
    induction m9 with
    | zero => intro x2 s' _ _ n2 bx2 h9; exact absurd h9 (Nat.not_lt_zero _)
    | succ m9 ih => intro x2 s' i7 f7 n2 bx2 h9; exact hX _ _ (sm_41_p7 (fun t9 i9 f9 => hQ t9 i9 (lf_fq_tr f7 f9)) hR42  (fun x2' t8 i8 f8 n2' bx2' h8 => ih x2' t8 i8 (lf_fq_tr f7 f8) n2' bx2' (by omega)) (Nat.le_refl _) hMR i7 n2 bx1 bx2  )
  exact key _ _ s hI lf_fq_rf n2 bx2 (Nat.lt_succ_self _)
theorem sm_41 {R42 : Int → (lf_Z → Prop) → lf_Z → Prop} {a1 : Int} {Q : lf_Z → Prop} {s : lf_Z} {MR : Nat} (hR42 : ∀ {a1 : Int} {Q : lf_Z → Prop} {s : lf_Z}, (20 * (9 - a1) + 2).toNat < MR → iv_A s.1 s.2.2 → s.2.2 2 ≠ none → 0 ≤ a1 ∧ a1 ≤ 8 → (∀  (s' : lf_Z), iv_A s'.1 s'.2.2 → lf_fq [31, 33, 35, 36, 42, 43, 49, 50, 56, 57] 1000000 true s.1 s.2.2 s'.1 s'.2.2 → Q  s') → R42 a1 Q s) (hMR : (20 * (9 - a1) + 3).toNat ≤ MR) (hI : iv_A s.1 s.2.2) (n2 : s.2.2 2 ≠ none) (ba1 : 0 ≤ a1 ∧ a1 ≤ 8) (hQ : ∀  (s' : lf_Z), iv_A s'.1 s'.2.2 → lf_fq [31, 33, 35, 36, 42, 43, 49, 50, 56, 57] 1000000 true s.1 s.2.2 s'.1 s'.2.2 → Q  s') : fm_41 R42 a1 Q s := by
  unfold fm_41
  refine hR42 (show (20 * (9 - a1) + 2).toNat < MR from by omega) hI n2 (show (0 : Int) ≤ a1 ∧ a1 ≤ (8 : Int) from by omega) (fun s21 hI2 fr1 => ?_)
  have fr4 : lf_fq [31, 33, 35, 36, 42, 43, 49, 50, 56, 57] 1000000 true s.1 s.2.2 s21.1 s21.2.2 := lf_fq_tr (lf_fq_rf) (lf_fq_wk fr1 rfl (by decide) (by decide))
  have n5 : s21.2.2 2 ≠ none := lf_fq_n2 fr1 rfl n2
  exact sm_41_p7L (fun t9 i9 f9 => hQ t9 i9 (lf_fq_tr fr4 f9)) hR42 (show (20 * (9 - a1) + 3).toNat ≤ MR from by omega) hI2 n5 (show (0 : Int) ≤ a1 ∧ a1 ≤ (8 : Int) from by omega) (show (0 : Int) ≤ 0 ∧ 0 ≤ (300 : Int) from by omega)
-- fm_42 Reader.readProduct 31 i
theorem sm_42_p32 {R43 : Int → (lf_Z → Prop) → lf_Z → Prop} {X7 : Int → lf_Z → Prop} {Q : lf_Z → Prop} {x1 : Int} {x2 : Int} {s : lf_Z} {MR : Nat} (hQ : ∀  (s' : lf_Z), iv_A s'.1 s'.2.2 → lf_fq [31, 33, 35, 36, 42, 43, 49, 50, 56, 57] 1000000 true s.1 s.2.2 s'.1 s'.2.2 → Q  s') (hR43 : ∀ {a1 : Int} {Q : lf_Z → Prop} {s : lf_Z}, (20 * (9 - a1) + 1).toNat < MR → iv_A s.1 s.2.2 → s.2.2 2 ≠ none → 0 ≤ a1 ∧ a1 ≤ 8 → (∀  (s' : lf_Z), iv_A s'.1 s'.2.2 → lf_fq [31, 33, 35, 36, 42, 43, 49, 50, 56, 57] 1000000 true s.1 s.2.2 s'.1 s'.2.2 → Q  s') → R43 a1 Q s) {M7 : Nat} (hX7 : ∀ (x2 : Int) (s' : lf_Z), iv_A s'.1 s'.2.2 → lf_fq [31, 33, 35, 36, 42, 43, 49, 50, 56, 57] 1000000 true s.1 s.2.2 s'.1 s'.2.2 → s'.2.2 2 ≠ none → 0 ≤ x2 ∧ x2 ≤ 300 → (300 - x2).toNat < M7 → X7 x2 s') (hM7 : (300 - x2).toNat ≤ M7) (hMR : (20 * (9 - x1) + 2).toNat ≤ MR) (hI : iv_A s.1 s.2.2) (n2 : s.2.2 2 ≠ none) (bx1 : 0 ≤ x1 ∧ x1 ≤ 8) (bx2 : 0 ≤ x2 ∧ x2 ≤ 299) : fm_42_p32 R43 X7 Q x1 x2 s := by
  unfold fm_42_p32
  have b9 : 0 ≤ s.1 31 8 ∧ s.1 31 8 ≤ 300 := iv_r31_8 hI
  refine sm_31 hI (fun s24 hI11 fr10 => ?_)
  have fr13 : lf_fq [31, 33, 35, 36, 42, 43, 49, 50, 56, 57] 1000000 true s.1 s.2.2 s24.1 s24.2.2 := lf_fq_tr (lf_fq_rf) (lf_fq_wk fr10 rfl (by decide) (by decide))
  have n14 : s24.2.2 2 ≠ none := lf_fq_n2 fr10 rfl n2
  refine hR43 (show (20 * (9 - x1) + 1).toNat < MR from by omega) hI11 n14 (show (0 : Int) ≤ x1 ∧ x1 ≤ (8 : Int) from by omega) (fun s25 hI16 fr15 => ?_)
  have fr18 : lf_fq [31, 33, 35, 36, 42, 43, 49, 50, 56, 57] 1000000 true s.1 s.2.2 s25.1 s25.2.2 := lf_fq_tr fr13 (lf_fq_wk fr15 rfl (by decide) (by decide))
  have n19 : s25.2.2 2 ≠ none := lf_fq_n2 fr15 rfl n14
  refine ⟨fun et26 => ?_, fun t26 et26 => ?_⟩
  · skip
    exact absurd et26 n19
  · have htt26 : t26 < 4 := iv_t2 hI16 et26
    refine ⟨htt26, ?_⟩
    refine sm_45 htt26 hI16 (show (0 : Int) ≤ s.1 31 8 ∧ s.1 31 8 ≤ (300 : Int) from by omega) (show (0 : Int) ≤ 0 ∧ 0 ≤ (1000000 : Int) from by omega) (fun r28 s27 hI21 fr20 q22 => ?_)
    have fr23 : lf_fq [31, 33, 35, 36, 42, 43, 49, 50, 56, 57] 1000000 true s.1 s.2.2 s27.1 s27.2.2 := lf_fq_tr fr18 (lf_fq_wk fr20 rfl (by decide) (by decide))
    have n24 : s27.2.2 2 ≠ none := lf_fq_n2 fr20 rfl n19
    exact hX7 (x2 + 1) s27 hI21 fr23 n24 (show (0 : Int) ≤ x2 + 1 ∧ x2 + 1 ≤ (300 : Int) from by omega) (show (300 - (x2 + 1)).toNat < M7 from by omega)
theorem sm_42_p7 {R43 : Int → (lf_Z → Prop) → lf_Z → Prop} {X7 : Int → lf_Z → Prop} {Q : lf_Z → Prop} {x1 : Int} {x2 : Int} {s : lf_Z} {MR : Nat} (hQ : ∀  (s' : lf_Z), iv_A s'.1 s'.2.2 → lf_fq [31, 33, 35, 36, 42, 43, 49, 50, 56, 57] 1000000 true s.1 s.2.2 s'.1 s'.2.2 → Q  s') (hR43 : ∀ {a1 : Int} {Q : lf_Z → Prop} {s : lf_Z}, (20 * (9 - a1) + 1).toNat < MR → iv_A s.1 s.2.2 → s.2.2 2 ≠ none → 0 ≤ a1 ∧ a1 ≤ 8 → (∀  (s' : lf_Z), iv_A s'.1 s'.2.2 → lf_fq [31, 33, 35, 36, 42, 43, 49, 50, 56, 57] 1000000 true s.1 s.2.2 s'.1 s'.2.2 → Q  s') → R43 a1 Q s) {M7 : Nat} (hX7 : ∀ (x2 : Int) (s' : lf_Z), iv_A s'.1 s'.2.2 → lf_fq [31, 33, 35, 36, 42, 43, 49, 50, 56, 57] 1000000 true s.1 s.2.2 s'.1 s'.2.2 → s'.2.2 2 ≠ none → 0 ≤ x2 ∧ x2 ≤ 300 → (300 - x2).toNat < M7 → X7 x2 s') (hM7 : (300 - x2).toNat ≤ M7) (hMR : (20 * (9 - x1) + 2).toNat ≤ MR) (hI : iv_A s.1 s.2.2) (n2 : s.2.2 2 ≠ none) (bx1 : 0 ≤ x1 ∧ x1 ≤ 8) (bx2 : 0 ≤ x2 ∧ x2 ≤ 300) : fm_42_p7 R43 Q x1 X7 x2 s := by
  unfold fm_42_p7
  refine ⟨(show lf_R x2 from lf_Rof (by omega)), ?_⟩
  refine ⟨fun c6 => ?_, fun c6 => ?_⟩
  · skip
    replace c6 : 300 ≤ x2 := c6
    exact hQ s hI (lf_fq_rf)
  · skip
    replace c6 : ¬ (300 ≤ x2) := c6
    have b7 : 0 ≤ s.1 31 8 ∧ s.1 31 8 ≤ 300 := iv_r31_8 hI
    refine ⟨(show lf_R (s.1 31 8) from lf_Rof (by omega)), ?_⟩
    refine ⟨fun c8 => ?_, fun c8 => ?_⟩
    · skip
      replace c8 : s.1 31 8 = 12 := c8
      exact sm_42_p32 hQ hR43 hX7 (show (300 - x2).toNat ≤ M7 from by omega) (show (20 * (9 - x1) + 2).toNat ≤ MR from by omega) hI n2 (show (0 : Int) ≤ x1 ∧ x1 ≤ (8 : Int) from by omega) (show (0 : Int) ≤ x2 ∧ x2 ≤ (299 : Int) from by omega)
    · skip
      replace c8 : ¬ (s.1 31 8 = 12) := c8
      refine ⟨fun c25 => ?_, fun c25 => ?_⟩
      · skip
        replace c25 : s.1 31 8 ≠ 13 := c25
        exact hQ s hI (lf_fq_rf)
      · skip
        replace c25 : ¬ (s.1 31 8 ≠ 13) := c25
        exact sm_42_p32 hQ hR43 hX7 (show (300 - x2).toNat ≤ M7 from by omega) (show (20 * (9 - x1) + 2).toNat ≤ MR from by omega) hI n2 (show (0 : Int) ≤ x1 ∧ x1 ≤ (8 : Int) from by omega) (show (0 : Int) ≤ x2 ∧ x2 ≤ (299 : Int) from by omega)
theorem sm_42_p7L {R43 : Int → (lf_Z → Prop) → lf_Z → Prop} {Q : lf_Z → Prop} {x1 : Int} {x2 : Int} {s : lf_Z} {MR : Nat} (hQ : ∀  (s' : lf_Z), iv_A s'.1 s'.2.2 → lf_fq [31, 33, 35, 36, 42, 43, 49, 50, 56, 57] 1000000 true s.1 s.2.2 s'.1 s'.2.2 → Q  s') (hR43 : ∀ {a1 : Int} {Q : lf_Z → Prop} {s : lf_Z}, (20 * (9 - a1) + 1).toNat < MR → iv_A s.1 s.2.2 → s.2.2 2 ≠ none → 0 ≤ a1 ∧ a1 ≤ 8 → (∀  (s' : lf_Z), iv_A s'.1 s'.2.2 → lf_fq [31, 33, 35, 36, 42, 43, 49, 50, 56, 57] 1000000 true s.1 s.2.2 s'.1 s'.2.2 → Q  s') → R43 a1 Q s) (hMR : (20 * (9 - x1) + 2).toNat ≤ MR) (hI : iv_A s.1 s.2.2) (n2 : s.2.2 2 ≠ none) (bx1 : 0 ≤ x1 ∧ x1 ≤ 8) (bx2 : 0 ≤ x2 ∧ x2 ≤ 300) : fm_42_p7L R43 Q x1 x2 s := by
  intro X7 hX
  have key : ∀ (m9 : Nat) (x2 : Int) (s' : lf_Z), iv_A s'.1 s'.2.2 → lf_fq [31, 33, 35, 36, 42, 43, 49, 50, 56, 57] 1000000 true s.1 s.2.2 s'.1 s'.2.2 → s'.2.2 2 ≠ none → 0 ≤ x2 ∧ x2 ≤ 300 → (300 - x2).toNat < m9 → X7 x2 s' := by
    intro m9
    induction m9 with
    | zero => intro x2 s' _ _ n2 bx2 h9; exact absurd h9 (Nat.not_lt_zero _)
    | succ m9 ih => intro x2 s' i7 f7 n2 bx2 h9; exact hX _ _ (sm_42_p7 (fun t9 i9 f9 => hQ t9 i9 (lf_fq_tr f7 f9)) hR43  (fun x2' t8 i8 f8 n2' bx2' h8 => ih x2' t8 i8 (lf_fq_tr f7 f8) n2' bx2' (by omega)) (Nat.le_refl _) hMR i7 n2 bx1 bx2  )
  exact key _ _ s hI lf_fq_rf n2 bx2 (Nat.lt_succ_self _)
theorem sm_42 {R43 : Int → (lf_Z → Prop) → lf_Z → Prop} {a1 : Int} {Q : lf_Z → Prop} {s : lf_Z} {MR : Nat} (hR43 : ∀ {a1 : Int} {Q : lf_Z → Prop} {s : lf_Z}, (20 * (9 - a1) + 1).toNat < MR → iv_A s.1 s.2.2 → s.2.2 2 ≠ none → 0 ≤ a1 ∧ a1 ≤ 8 → (∀  (s' : lf_Z), iv_A s'.1 s'.2.2 → lf_fq [31, 33, 35, 36, 42, 43, 49, 50, 56, 57] 1000000 true s.1 s.2.2 s'.1 s'.2.2 → Q  s') → R43 a1 Q s) (hMR : (20 * (9 - a1) + 2).toNat ≤ MR) (hI : iv_A s.1 s.2.2) (n2 : s.2.2 2 ≠ none) (ba1 : 0 ≤ a1 ∧ a1 ≤ 8) (hQ : ∀  (s' : lf_Z), iv_A s'.1 s'.2.2 → lf_fq [31, 33, 35, 36, 42, 43, 49, 50, 56, 57] 1000000 true s.1 s.2.2 s'.1 s'.2.2 → Q  s') : fm_42 R43 a1 Q s := by
  unfold fm_42
  refine hR43 (show (20 * (9 - a1) + 1).toNat < MR from by omega) hI n2 (show (0 : Int) ≤ a1 ∧ a1 ≤ (8 : Int) from by omega) (fun s21 hI2 fr1 => ?_)
  have fr4 : lf_fq [31, 33, 35, 36, 42, 43, 49, 50, 56, 57] 1000000 true s.1 s.2.2 s21.1 s21.2.2 := lf_fq_tr (lf_fq_rf) (lf_fq_wk fr1 rfl (by decide) (by decide))
  have n5 : s21.2.2 2 ≠ none := lf_fq_n2 fr1 rfl n2
  exact sm_42_p7L (fun t9 i9 f9 => hQ t9 i9 (lf_fq_tr fr4 f9)) hR43 (show (20 * (9 - a1) + 2).toNat ≤ MR from by omega) hI2 n5 (show (0 : Int) ≤ a1 ∧ a1 ≤ (8 : Int) from by omega) (show (0 : Int) ≤ 0 ∧ 0 ≤ (300 : Int) from by omega)
-- fm_43 Reader.readOne 31 i
theorem sm_43 {R41 : Int → (lf_Z → Prop) → lf_Z → Prop} {R43 : Int → (lf_Z → Prop) → lf_Z → Prop} {R49 : Int → (lf_Z → Prop) → lf_Z → Prop} {R54 : Int → (lf_Z → Prop) → lf_Z → Prop} {a1 : Int} {Q : lf_Z → Prop} {s : lf_Z} {MR : Nat} (hR41 : ∀ {a1 : Int} {Q : lf_Z → Prop} {s : lf_Z}, (20 * (9 - a1) + 3).toNat < MR → iv_A s.1 s.2.2 → s.2.2 2 ≠ none → 0 ≤ a1 ∧ a1 ≤ 8 → (∀  (s' : lf_Z), iv_A s'.1 s'.2.2 → lf_fq [31, 33, 35, 36, 42, 43, 49, 50, 56, 57] 1000000 true s.1 s.2.2 s'.1 s'.2.2 → Q  s') → R41 a1 Q s) (hR43 : ∀ {a1 : Int} {Q : lf_Z → Prop} {s : lf_Z}, (20 * (9 - a1) + 1).toNat < MR → iv_A s.1 s.2.2 → s.2.2 2 ≠ none → 0 ≤ a1 ∧ a1 ≤ 8 → (∀  (s' : lf_Z), iv_A s'.1 s'.2.2 → lf_fq [31, 33, 35, 36, 42, 43, 49, 50, 56, 57] 1000000 true s.1 s.2.2 s'.1 s'.2.2 → Q  s') → R43 a1 Q s) (hR49 : ∀ {a1 : Int} {Q : lf_Z → Prop} {s : lf_Z}, (20 * (9 - a1) + 7).toNat < MR → iv_A s.1 s.2.2 → s.2.2 2 ≠ none → 1 ≤ a1 ∧ a1 ≤ 8 → (∀  (s' : lf_Z), iv_A s'.1 s'.2.2 → lf_fq [31, 33, 35, 36, 42, 43, 49, 50, 56, 57] 1000000 true s.1 s.2.2 s'.1 s'.2.2 → Q  s') → R49 a1 Q s) (hR54 : ∀ {a1 : Int} {Q : lf_Z → Prop} {s : lf_Z}, (20 * (9 - a1) + 7).toNat < MR → iv_A s.1 s.2.2 → s.2.2 2 ≠ none → 1 ≤ a1 ∧ a1 ≤ 8 → (∀  (s' : lf_Z), iv_A s'.1 s'.2.2 → lf_fq [31, 33, 35, 36, 42, 43, 49, 50, 56, 57] 1000000 true s.1 s.2.2 s'.1 s'.2.2 → Q  s') → R54 a1 Q s) (hMR : (20 * (9 - a1) + 1).toNat ≤ MR) (hI : iv_A s.1 s.2.2) (n2 : s.2.2 2 ≠ none) (ba1 : 0 ≤ a1 ∧ a1 ≤ 8) (hQ : ∀  (s' : lf_Z), iv_A s'.1 s'.2.2 → lf_fq [31, 33, 35, 36, 42, 43, 49, 50, 56, 57] 1000000 true s.1 s.2.2 s'.1 s'.2.2 → Q  s') : fm_43 R41 R43 R49 R54 a1 Q s := by
  unfold fm_43
  have b1 : 0 ≤ s.1 31 8 ∧ s.1 31 8 ≤ 300 := iv_r31_8 hI
  refine ⟨(show lf_R (s.1 31 8) from lf_Rof (by omega)), ?_⟩
  refine ⟨fun c2 => ?_, fun c2 => ?_, fun c2 => ?_, fun c2 => ?_, fun c2 => ?_, fun c2 => ?_, fun c2 => ?_⟩
  · replace c2 : s.1 31 8 ≠ 2 ∧ s.1 31 8 ≠ 3 ∧ s.1 31 8 ≠ 11 ∧ s.1 31 8 ≠ 14 ∧ s.1 31 8 ≠ 37 ∧ s.1 31 8 ≠ 41 := c2
    refine sm_56 hI n2 (fun s22 hI4 fr3 => ?_)
    have fr6 : lf_fq [31, 33, 35, 36, 42, 43, 49, 50, 56, 57] 1000000 true s.1 s.2.2 s22.1 s22.2.2 := lf_fq_tr (lf_fq_rf) (lf_fq_wk fr3 rfl (by decide) (by decide))
    have n7 : s22.2.2 2 ≠ none := lf_fq_n2 fr3 rfl n2
    exact hQ s22 hI4 fr6
  · replace c2 : s.1 31 8 = 2 := c2
    refine ⟨fun et23 => ?_, fun t23 et23 => ?_⟩
    · skip
      exact absurd et23 n2
    · have htt23 : t23 < 4 := iv_t2 hI et23
      refine ⟨htt23, ?_⟩
      refine sm_44 hI (show (0 : Int) ≤ 0 ∧ 0 ≤ (99 : Int) from by omega) (show (0 : Int) ≤ 9999 ∧ 9999 ≤ (9999 : Int) from by omega) (fun r27 s26 hI14 fr13 q15 => ?_)
      have fr16 : lf_fq [31, 33, 35, 36, 42, 43, 49, 50, 56, 57] 1000000 true s.1 s.2.2 s26.1 s26.2.2 := lf_fq_tr (lf_fq_rf) (lf_fq_wk fr13 rfl (by decide) (by decide))
      have n17 : s26.2.2 2 ≠ none := lf_fq_n2 fr13 rfl n2
      refine sm_45 htt23 hI14 (show (0 : Int) ≤ 2 ∧ 2 ≤ (300 : Int) from by omega) (show (0 : Int) ≤ r27 ∧ r27 ≤ (1000000 : Int) from by omega) (fun r29 s28 hI19 fr18 q20 => ?_)
      have fr21 : lf_fq [31, 33, 35, 36, 42, 43, 49, 50, 56, 57] 1000000 true s.1 s.2.2 s28.1 s28.2.2 := lf_fq_tr fr16 (lf_fq_wk fr18 rfl (by decide) (by decide))
      have n22 : s28.2.2 2 ≠ none := lf_fq_n2 fr18 rfl n17
      exact hQ s28 hI19 fr21
  · replace c2 : s.1 31 8 = 3 := c2
    refine sm_46 hI n2 (fun s30 hI24 fr23 => ?_)
    have fr26 : lf_fq [31, 33, 35, 36, 42, 43, 49, 50, 56, 57] 1000000 true s.1 s.2.2 s30.1 s30.2.2 := lf_fq_tr (lf_fq_rf) (lf_fq_wk fr23 rfl (by decide) (by decide))
    have n27 : s30.2.2 2 ≠ none := lf_fq_n2 fr23 rfl n2
    exact hQ s30 hI24 fr26
  · replace c2 : s.1 31 8 = 11 := c2
    refine sm_47 hI (show (0 : Int) ≤ a1 ∧ a1 ≤ (8 : Int) from by omega) (fun z32 s31 hI29 fr28 q30 => ?_)
    have fr31 : lf_fq [31, 33, 35, 36, 42, 43, 49, 50, 56, 57] 1000000 true s.1 s.2.2 s31.1 s31.2.2 := lf_fq_tr (lf_fq_rf) (lf_fq_wk fr28 rfl (by decide) (by decide))
    have n32 : s31.2.2 2 ≠ none := lf_fq_n2 fr28 rfl n2
    refine ⟨fun c33 => ?_, fun c33 => ?_⟩
    · skip
      have dc33 := q30.2 c33
      exact hQ s31 hI29 fr31
    · skip
      have dc33 := q30.1 c33
      refine hR43 (show (20 * (9 - (a1 + 1)) + 1).toNat < MR from by omega) hI29 n32 (show (0 : Int) ≤ a1 + 1 ∧ a1 + 1 ≤ (8 : Int) from by omega) (fun s33 hI35 fr34 => ?_)
      have fr37 : lf_fq [31, 33, 35, 36, 42, 43, 49, 50, 56, 57] 1000000 true s.1 s.2.2 s33.1 s33.2.2 := lf_fq_tr fr31 (lf_fq_wk fr34 rfl (by decide) (by decide))
      have n38 : s33.2.2 2 ≠ none := lf_fq_n2 fr34 rfl n32
      refine ⟨fun et34 => ?_, fun t34 et34 => ?_⟩
      · skip
        exact absurd et34 n38
      · have htt34 : t34 < 4 := iv_t2 hI35 et34
        refine ⟨htt34, ?_⟩
        refine sm_45 htt34 hI35 (show (0 : Int) ≤ 18 ∧ 18 ≤ (300 : Int) from by omega) (show (0 : Int) ≤ 0 ∧ 0 ≤ (1000000 : Int) from by omega) (fun r36 s35 hI40 fr39 q41 => ?_)
        have fr42 : lf_fq [31, 33, 35, 36, 42, 43, 49, 50, 56, 57] 1000000 true s.1 s.2.2 s35.1 s35.2.2 := lf_fq_tr fr37 (lf_fq_wk fr39 rfl (by decide) (by decide))
        have n43 : s35.2.2 2 ≠ none := lf_fq_n2 fr39 rfl n38
        exact hQ s35 hI40 fr42
  · replace c2 : s.1 31 8 = 14 := c2
    refine sm_47 hI (show (0 : Int) ≤ a1 ∧ a1 ≤ (8 : Int) from by omega) (fun z38 s37 hI45 fr44 q46 => ?_)
    have fr47 : lf_fq [31, 33, 35, 36, 42, 43, 49, 50, 56, 57] 1000000 true s.1 s.2.2 s37.1 s37.2.2 := lf_fq_tr (lf_fq_rf) (lf_fq_wk fr44 rfl (by decide) (by decide))
    have n48 : s37.2.2 2 ≠ none := lf_fq_n2 fr44 rfl n2
    refine ⟨fun c49 => ?_, fun c49 => ?_⟩
    · skip
      have dc49 := q46.2 c49
      exact hQ s37 hI45 fr47
    · skip
      have dc49 := q46.1 c49
      refine hR41 (show (20 * (9 - (a1 + 1)) + 3).toNat < MR from by omega) hI45 n48 (show (0 : Int) ≤ a1 + 1 ∧ a1 + 1 ≤ (8 : Int) from by omega) (fun s39 hI51 fr50 => ?_)
      have fr53 : lf_fq [31, 33, 35, 36, 42, 43, 49, 50, 56, 57] 1000000 true s.1 s.2.2 s39.1 s39.2.2 := lf_fq_tr fr47 (lf_fq_wk fr50 rfl (by decide) (by decide))
      have n54 : s39.2.2 2 ≠ none := lf_fq_n2 fr50 rfl n48
      refine sm_48 hI51 (show (0 : Int) ≤ 15 ∧ 15 ≤ (99 : Int) from by omega) (fun s40 hI56 fr55 => ?_)
      have fr58 : lf_fq [31, 33, 35, 36, 42, 43, 49, 50, 56, 57] 1000000 true s.1 s.2.2 s40.1 s40.2.2 := lf_fq_tr fr53 (lf_fq_wk fr55 rfl (by decide) (by decide))
      have n59 : s40.2.2 2 ≠ none := lf_fq_n2 fr55 rfl n54
      exact hQ s40 hI56 fr58
  · replace c2 : s.1 31 8 = 37 := c2
    refine sm_47 hI (show (0 : Int) ≤ a1 ∧ a1 ≤ (8 : Int) from by omega) (fun z42 s41 hI61 fr60 q62 => ?_)
    have fr63 : lf_fq [31, 33, 35, 36, 42, 43, 49, 50, 56, 57] 1000000 true s.1 s.2.2 s41.1 s41.2.2 := lf_fq_tr (lf_fq_rf) (lf_fq_wk fr60 rfl (by decide) (by decide))
    have n64 : s41.2.2 2 ≠ none := lf_fq_n2 fr60 rfl n2
    refine ⟨fun c65 => ?_, fun c65 => ?_⟩
    · skip
      have dc65 := q62.2 c65
      exact hQ s41 hI61 fr63
    · skip
      have dc65 := q62.1 c65
      refine hR49 (show (20 * (9 - (a1 + 1)) + 7).toNat < MR from by omega) hI61 n64 (show (1 : Int) ≤ a1 + 1 ∧ a1 + 1 ≤ (8 : Int) from by omega) (fun s43 hI67 fr66 => ?_)
      have fr69 : lf_fq [31, 33, 35, 36, 42, 43, 49, 50, 56, 57] 1000000 true s.1 s.2.2 s43.1 s43.2.2 := lf_fq_tr fr63 (lf_fq_wk fr66 rfl (by decide) (by decide))
      have n70 : s43.2.2 2 ≠ none := lf_fq_n2 fr66 rfl n64
      exact hQ s43 hI67 fr69
  · replace c2 : s.1 31 8 = 41 := c2
    refine sm_47 hI (show (0 : Int) ≤ a1 ∧ a1 ≤ (8 : Int) from by omega) (fun z45 s44 hI72 fr71 q73 => ?_)
    have fr74 : lf_fq [31, 33, 35, 36, 42, 43, 49, 50, 56, 57] 1000000 true s.1 s.2.2 s44.1 s44.2.2 := lf_fq_tr (lf_fq_rf) (lf_fq_wk fr71 rfl (by decide) (by decide))
    have n75 : s44.2.2 2 ≠ none := lf_fq_n2 fr71 rfl n2
    refine ⟨fun c76 => ?_, fun c76 => ?_⟩
    · skip
      have dc76 := q73.2 c76
      exact hQ s44 hI72 fr74
    · skip
      have dc76 := q73.1 c76
      refine hR54 (show (20 * (9 - (a1 + 1)) + 7).toNat < MR from by omega) hI72 n75 (show (1 : Int) ≤ a1 + 1 ∧ a1 + 1 ≤ (8 : Int) from by omega) (fun s46 hI78 fr77 => ?_)
      have fr80 : lf_fq [31, 33, 35, 36, 42, 43, 49, 50, 56, 57] 1000000 true s.1 s.2.2 s46.1 s46.2.2 := lf_fq_tr fr74 (lf_fq_wk fr77 rfl (by decide) (by decide))
      have n81 : s46.2.2 2 ≠ none := lf_fq_n2 fr77 rfl n75
      exact hQ s46 hI78 fr80
-- fm_49 Reader.readIf 31 i
theorem sm_49 {R41 : Int → (lf_Z → Prop) → lf_Z → Prop} {R50 : Int → (lf_Z → Prop) → lf_Z → Prop} {a1 : Int} {Q : lf_Z → Prop} {s : lf_Z} {MR : Nat} (hR41 : ∀ {a1 : Int} {Q : lf_Z → Prop} {s : lf_Z}, (20 * (9 - a1) + 3).toNat < MR → iv_A s.1 s.2.2 → s.2.2 2 ≠ none → 0 ≤ a1 ∧ a1 ≤ 8 → (∀  (s' : lf_Z), iv_A s'.1 s'.2.2 → lf_fq [31, 33, 35, 36, 42, 43, 49, 50, 56, 57] 1000000 true s.1 s.2.2 s'.1 s'.2.2 → Q  s') → R41 a1 Q s) (hR50 : ∀ {a1 : Int} {Q : lf_Z → Prop} {s : lf_Z}, (20 * (9 - a1) + 6).toNat < MR → iv_A s.1 s.2.2 → s.2.2 2 ≠ none → 1 ≤ a1 ∧ a1 ≤ 8 → (∀  (s' : lf_Z), iv_A s'.1 s'.2.2 → lf_fq [31, 33, 35, 36, 42, 43, 49, 50, 56, 57] 1000000 true s.1 s.2.2 s'.1 s'.2.2 → Q  s') → R50 a1 Q s) (hMR : (20 * (9 - a1) + 7).toNat ≤ MR) (hI : iv_A s.1 s.2.2) (n2 : s.2.2 2 ≠ none) (ba1 : 1 ≤ a1 ∧ a1 ≤ 8) (hQ : ∀  (s' : lf_Z), iv_A s'.1 s'.2.2 → lf_fq [31, 33, 35, 36, 42, 43, 49, 50, 56, 57] 1000000 true s.1 s.2.2 s'.1 s'.2.2 → Q  s') : fm_49 R41 R50 a1 Q s := by
  unfold fm_49
  refine hR50 (show (20 * (9 - a1) + 6).toNat < MR from by omega) hI n2 (show (1 : Int) ≤ a1 ∧ a1 ≤ (8 : Int) from by omega) (fun s21 hI2 fr1 => ?_)
  have fr4 : lf_fq [31, 33, 35, 36, 42, 43, 49, 50, 56, 57] 1000000 true s.1 s.2.2 s21.1 s21.2.2 := lf_fq_tr (lf_fq_rf) (lf_fq_wk fr1 rfl (by decide) (by decide))
  have n5 : s21.2.2 2 ≠ none := lf_fq_n2 fr1 rfl n2
  refine sm_48 hI2 (show (0 : Int) ≤ 38 ∧ 38 ≤ (99 : Int) from by omega) (fun s22 hI7 fr6 => ?_)
  have fr9 : lf_fq [31, 33, 35, 36, 42, 43, 49, 50, 56, 57] 1000000 true s.1 s.2.2 s22.1 s22.2.2 := lf_fq_tr fr4 (lf_fq_wk fr6 rfl (by decide) (by decide))
  have n10 : s22.2.2 2 ≠ none := lf_fq_n2 fr6 rfl n5
  refine ⟨fun et23 => ?_, fun t23 et23 => ?_⟩
  · skip
    exact absurd et23 n10
  · have htt23 : t23 < 4 := iv_t2 hI7 et23
    refine ⟨htt23, ?_⟩
    refine sm_45 htt23 hI7 (show (0 : Int) ≤ 38 ∧ 38 ≤ (300 : Int) from by omega) (show (0 : Int) ≤ 0 ∧ 0 ≤ (1000000 : Int) from by omega) (fun r25 s24 hI12 fr11 q13 => ?_)
    have fr14 : lf_fq [31, 33, 35, 36, 42, 43, 49, 50, 56, 57] 1000000 true s.1 s.2.2 s24.1 s24.2.2 := lf_fq_tr fr9 (lf_fq_wk fr11 rfl (by decide) (by decide))
    have n15 : s24.2.2 2 ≠ none := lf_fq_n2 fr11 rfl n10
    refine hR41 (show (20 * (9 - a1) + 3).toNat < MR from by omega) hI12 n15 (show (0 : Int) ≤ a1 ∧ a1 ≤ (8 : Int) from by omega) (fun s26 hI17 fr16 => ?_)
    have fr19 : lf_fq [31, 33, 35, 36, 42, 43, 49, 50, 56, 57] 1000000 true s.1 s.2.2 s26.1 s26.2.2 := lf_fq_tr fr14 (lf_fq_wk fr16 rfl (by decide) (by decide))
    have n20 : s26.2.2 2 ≠ none := lf_fq_n2 fr16 rfl n15
    refine sm_48 hI17 (show (0 : Int) ≤ 39 ∧ 39 ≤ (99 : Int) from by omega) (fun s27 hI22 fr21 => ?_)
    have fr24 : lf_fq [31, 33, 35, 36, 42, 43, 49, 50, 56, 57] 1000000 true s.1 s.2.2 s27.1 s27.2.2 := lf_fq_tr fr19 (lf_fq_wk fr21 rfl (by decide) (by decide))
    have n25 : s27.2.2 2 ≠ none := lf_fq_n2 fr21 rfl n20
    refine ⟨fun et28 => ?_, fun t28 et28 => ?_⟩
    · skip
      exact absurd et28 n25
    · have htt28 : t28 < 4 := iv_t2 hI22 et28
      refine ⟨htt28, ?_⟩
      refine sm_45 htt28 hI22 (show (0 : Int) ≤ 39 ∧ 39 ≤ (300 : Int) from by omega) (show (0 : Int) ≤ 0 ∧ 0 ≤ (1000000 : Int) from by omega) (fun r30 s29 hI27 fr26 q28 => ?_)
      have fr29 : lf_fq [31, 33, 35, 36, 42, 43, 49, 50, 56, 57] 1000000 true s.1 s.2.2 s29.1 s29.2.2 := lf_fq_tr fr24 (lf_fq_wk fr26 rfl (by decide) (by decide))
      have n30 : s29.2.2 2 ≠ none := lf_fq_n2 fr26 rfl n25
      refine ⟨fun et31 => ?_, fun t31 et31 => ?_⟩
      · skip
        exact absurd et31 n30
      · have htt31 : t31 < 4 := iv_t2 hI27 et31
        refine ⟨htt31, ?_⟩
        refine sm_53 htt31 hI27 (show (-1 : Int) ≤ r25 ∧ r25 ≤ (299 : Int) from by omega) (fun s32 hI32 fr31 => ?_)
        have fr34 : lf_fq [31, 33, 35, 36, 42, 43, 49, 50, 56, 57] 1000000 true s.1 s.2.2 s32.1 s32.2.2 := lf_fq_tr fr29 (lf_fq_wk fr31 rfl (by decide) (by decide))
        have n35 : s32.2.2 2 ≠ none := lf_fq_n2 fr31 rfl n30
        refine hR41 (show (20 * (9 - a1) + 3).toNat < MR from by omega) hI32 n35 (show (0 : Int) ≤ a1 ∧ a1 ≤ (8 : Int) from by omega) (fun s33 hI37 fr36 => ?_)
        have fr39 : lf_fq [31, 33, 35, 36, 42, 43, 49, 50, 56, 57] 1000000 true s.1 s.2.2 s33.1 s33.2.2 := lf_fq_tr fr34 (lf_fq_wk fr36 rfl (by decide) (by decide))
        have n40 : s33.2.2 2 ≠ none := lf_fq_n2 fr36 rfl n35
        refine ⟨fun et34 => ?_, fun t34 et34 => ?_⟩
        · skip
          exact absurd et34 n40
        · have htt34 : t34 < 4 := iv_t2 hI37 et34
          refine ⟨htt34, ?_⟩
          refine sm_53 htt34 hI37 (show (-1 : Int) ≤ r30 ∧ r30 ≤ (299 : Int) from by omega) (fun s35 hI42 fr41 => ?_)
          have fr44 : lf_fq [31, 33, 35, 36, 42, 43, 49, 50, 56, 57] 1000000 true s.1 s.2.2 s35.1 s35.2.2 := lf_fq_tr fr39 (lf_fq_wk fr41 rfl (by decide) (by decide))
          have n45 : s35.2.2 2 ≠ none := lf_fq_n2 fr41 rfl n40
          refine sm_48 hI42 (show (0 : Int) ≤ 40 ∧ 40 ≤ (99 : Int) from by omega) (fun s36 hI47 fr46 => ?_)
          have fr49 : lf_fq [31, 33, 35, 36, 42, 43, 49, 50, 56, 57] 1000000 true s.1 s.2.2 s36.1 s36.2.2 := lf_fq_tr fr44 (lf_fq_wk fr46 rfl (by decide) (by decide))
          have n50 : s36.2.2 2 ≠ none := lf_fq_n2 fr46 rfl n45
          exact hQ s36 hI47 fr49
-- fm_54 Reader.readLet 31 i
theorem sm_54_p29 {R41 : Int → (lf_Z → Prop) → lf_Z → Prop} {Q : lf_Z → Prop} {x1 : Int} {y0 : Int} {s : lf_Z} {MR : Nat} (hQ : ∀  (s' : lf_Z), iv_A s'.1 s'.2.2 → lf_fq [31, 33, 35, 36, 42, 43, 49, 50, 56, 57] 1000000 true s.1 s.2.2 s'.1 s'.2.2 → Q  s') (hR41 : ∀ {a1 : Int} {Q : lf_Z → Prop} {s : lf_Z}, (20 * (9 - a1) + 3).toNat < MR → iv_A s.1 s.2.2 → s.2.2 2 ≠ none → 0 ≤ a1 ∧ a1 ≤ 8 → (∀  (s' : lf_Z), iv_A s'.1 s'.2.2 → lf_fq [31, 33, 35, 36, 42, 43, 49, 50, 56, 57] 1000000 true s.1 s.2.2 s'.1 s'.2.2 → Q  s') → R41 a1 Q s) (hMR : (20 * (9 - x1) + 7).toNat ≤ MR) (hI : iv_A s.1 s.2.2) (n2 : s.2.2 2 ≠ none) (bx1 : 1 ≤ x1 ∧ x1 ≤ 8) (by0 : 0 ≤ y0 ∧ y0 ≤ 25) : fm_54_p29 R41 Q x1 y0 s := by
  unfold fm_54_p29
  refine sm_55 hI (show (-2147483648 : Int) ≤ x1 - 1 ∧ x1 - 1 ≤ (2147483647 : Int) from by omega) (show (0 : Int) ≤ 0 ∧ 0 ≤ (0 : Int) from by omega) (show (2 : Int) ≤ 7 ∧ 7 ≤ (1000000 : Int) from by omega) (fun r23 q3 => ?_)
  obtain ⟨q3, q3x⟩ := q3
  replace q3x : 0 ≤ r23 ∧ (r23 ≤ 7 ∨ r23 ≤ 0) := q3x
  refine sm_48 hI (show (0 : Int) ≤ 3 ∧ 3 ≤ (99 : Int) from by omega) (fun s24 hI5 fr4 => ?_)
  have fr7 : lf_fq [31, 33, 35, 36, 42, 43, 49, 50, 56, 57] 1000000 true s.1 s.2.2 s24.1 s24.2.2 := lf_fq_tr (lf_fq_rf) (lf_fq_wk fr4 rfl (by decide) (by decide))
  have n8 : s24.2.2 2 ≠ none := lf_fq_n2 fr4 rfl n2
  refine sm_48 hI5 (show (0 : Int) ≤ 42 ∧ 42 ≤ (99 : Int) from by omega) (fun s25 hI10 fr9 => ?_)
  have fr12 : lf_fq [31, 33, 35, 36, 42, 43, 49, 50, 56, 57] 1000000 true s.1 s.2.2 s25.1 s25.2.2 := lf_fq_tr fr7 (lf_fq_wk fr9 rfl (by decide) (by decide))
  have n13 : s25.2.2 2 ≠ none := lf_fq_n2 fr9 rfl n8
  refine hR41 (show (20 * (9 - x1) + 3).toNat < MR from by omega) hI10 n13 (show (0 : Int) ≤ x1 ∧ x1 ≤ (8 : Int) from by omega) (fun s26 hI15 fr14 => ?_)
  have fr17 : lf_fq [31, 33, 35, 36, 42, 43, 49, 50, 56, 57] 1000000 true s.1 s.2.2 s26.1 s26.2.2 := lf_fq_tr fr12 (lf_fq_wk fr14 rfl (by decide) (by decide))
  have n18 : s26.2.2 2 ≠ none := lf_fq_n2 fr14 rfl n13
  refine sm_48 hI15 (show (0 : Int) ≤ 43 ∧ 43 ≤ (99 : Int) from by omega) (fun s27 hI20 fr19 => ?_)
  have fr22 : lf_fq [31, 33, 35, 36, 42, 43, 49, 50, 56, 57] 1000000 true s.1 s.2.2 s27.1 s27.2.2 := lf_fq_tr fr17 (lf_fq_wk fr19 rfl (by decide) (by decide))
  have n23 : s27.2.2 2 ≠ none := lf_fq_n2 fr19 rfl n18
  refine ⟨fun et28 => ?_, fun t28 et28 => ?_⟩
  · skip
    exact absurd et28 n23
  · have htt28 : t28 < 4 := iv_t2 hI20 et28
    refine ⟨htt28, ?_⟩
    refine sm_45 htt28 hI20 (show (0 : Int) ≤ 43 ∧ 43 ≤ (300 : Int) from by omega) (show (0 : Int) ≤ r23 ∧ r23 ≤ (1000000 : Int) from by omega) (fun r30 s29 hI25 fr24 q26 => ?_)
    have fr27 : lf_fq [31, 33, 35, 36, 42, 43, 49, 50, 56, 57] 1000000 true s.1 s.2.2 s29.1 s29.2.2 := lf_fq_tr fr22 (lf_fq_wk fr24 rfl (by decide) (by decide))
    have n28 : s29.2.2 2 ≠ none := lf_fq_n2 fr24 rfl n23
    refine ⟨(show (0 : Int) ≤ y0 ∧ y0 < (26 : Int) from by omega), ?_⟩
    have b29 : (-1) ≤ s29.1 33 y0 ∧ s29.1 33 y0 ≤ 7 := iv_r33 hI25 _
    have b30 : s29.1 33 y0 = s27.1 33 y0 := congrFun (fr24.1 33 rfl) _
    have b31 : s27.1 33 y0 = s26.1 33 y0 := congrFun (fr19.1 33 rfl) _
    have hI32 : iv_A (lf_up s29.1 33 y0 r23) s29.2.2 := iv_w33 hI25 (by omega)
    have fr33 : lf_fq [31, 33, 35, 36, 42, 43, 49, 50, 56, 57] 1000000 true s.1 s.2.2 (lf_up s29.1 33 y0 r23) s29.2.2 := lf_fq_up fr27 rfl (fun h => absurd h (by decide))
    refine hR41 (show (20 * (9 - x1) + 3).toNat < MR from by omega) hI32 n28 (show (0 : Int) ≤ x1 ∧ x1 ≤ (8 : Int) from by omega) (fun s32 hI35 fr34 => ?_)
    have fr37 : lf_fq [31, 33, 35, 36, 42, 43, 49, 50, 56, 57] 1000000 true s.1 s.2.2 s32.1 s32.2.2 := lf_fq_tr fr33 (lf_fq_wk fr34 rfl (by decide) (by decide))
    have n38 : s32.2.2 2 ≠ none := lf_fq_n2 fr34 rfl n28
    have hI39 : iv_A (lf_up s32.1 33 y0 (s29.1 33 y0)) s32.2.2 := iv_w33 hI35 (by omega)
    have fr40 : lf_fq [31, 33, 35, 36, 42, 43, 49, 50, 56, 57] 1000000 true s.1 s.2.2 (lf_up s32.1 33 y0 (s29.1 33 y0)) s32.2.2 := lf_fq_up fr37 rfl (fun h => absurd h (by decide))
    refine sm_48 hI39 (show (0 : Int) ≤ 40 ∧ 40 ≤ (99 : Int) from by omega) (fun s33 hI42 fr41 => ?_)
    have fr44 : lf_fq [31, 33, 35, 36, 42, 43, 49, 50, 56, 57] 1000000 true s.1 s.2.2 s33.1 s33.2.2 := lf_fq_tr fr40 (lf_fq_wk fr41 rfl (by decide) (by decide))
    have n45 : s33.2.2 2 ≠ none := lf_fq_n2 fr41 rfl n38
    exact hQ s33 hI42 fr44
theorem sm_54_p28 {R41 : Int → (lf_Z → Prop) → lf_Z → Prop} {Q : lf_Z → Prop} {x1 : Int} {s : lf_Z} {MR : Nat} (hQ : ∀  (s' : lf_Z), iv_A s'.1 s'.2.2 → lf_fq [31, 33, 35, 36, 42, 43, 49, 50, 56, 57] 1000000 true s.1 s.2.2 s'.1 s'.2.2 → Q  s') (hR41 : ∀ {a1 : Int} {Q : lf_Z → Prop} {s : lf_Z}, (20 * (9 - a1) + 3).toNat < MR → iv_A s.1 s.2.2 → s.2.2 2 ≠ none → 0 ≤ a1 ∧ a1 ≤ 8 → (∀  (s' : lf_Z), iv_A s'.1 s'.2.2 → lf_fq [31, 33, 35, 36, 42, 43, 49, 50, 56, 57] 1000000 true s.1 s.2.2 s'.1 s'.2.2 → Q  s') → R41 a1 Q s) (hMR : (20 * (9 - x1) + 7).toNat ≤ MR) (hI : iv_A s.1 s.2.2) (n2 : s.2.2 2 ≠ none) (bx1 : 1 ≤ x1 ∧ x1 ≤ 8) : fm_54_p28 R41 Q x1 s := by
  unfold fm_54_p28
  exact sm_54_p29 hQ hR41 (show (20 * (9 - x1) + 7).toNat ≤ MR from by omega) hI n2 (show (1 : Int) ≤ x1 ∧ x1 ≤ (8 : Int) from by omega) (show (0 : Int) ≤ 0 ∧ 0 ≤ (25 : Int) from by omega)
theorem sm_54 {R41 : Int → (lf_Z → Prop) → lf_Z → Prop} {a1 : Int} {Q : lf_Z → Prop} {s : lf_Z} {MR : Nat} (hR41 : ∀ {a1 : Int} {Q : lf_Z → Prop} {s : lf_Z}, (20 * (9 - a1) + 3).toNat < MR → iv_A s.1 s.2.2 → s.2.2 2 ≠ none → 0 ≤ a1 ∧ a1 ≤ 8 → (∀  (s' : lf_Z), iv_A s'.1 s'.2.2 → lf_fq [31, 33, 35, 36, 42, 43, 49, 50, 56, 57] 1000000 true s.1 s.2.2 s'.1 s'.2.2 → Q  s') → R41 a1 Q s) (hMR : (20 * (9 - a1) + 7).toNat ≤ MR) (hI : iv_A s.1 s.2.2) (n2 : s.2.2 2 ≠ none) (ba1 : 1 ≤ a1 ∧ a1 ≤ 8) (hQ : ∀  (s' : lf_Z), iv_A s'.1 s'.2.2 → lf_fq [31, 33, 35, 36, 42, 43, 49, 50, 56, 57] 1000000 true s.1 s.2.2 s'.1 s'.2.2 → Q  s') : fm_54 R41 a1 Q s := by
  unfold fm_54
  have b1 : 0 ≤ s.1 31 8 ∧ s.1 31 8 ≤ 300 := iv_r31_8 hI
  refine ⟨(show lf_R (s.1 31 8) from lf_Rof (by omega)), ?_⟩
  refine ⟨fun c2 => ?_, fun c2 => ?_⟩
  · skip
    replace c2 : s.1 31 8 ≠ 3 := c2
    exact sm_54_p28 hQ hR41 (show (20 * (9 - a1) + 7).toNat ≤ MR from by omega) hI n2 (show (1 : Int) ≤ a1 ∧ a1 ≤ (8 : Int) from by omega)
  · skip
    replace c2 : ¬ (s.1 31 8 ≠ 3) := c2
    have b46 : (-2147483648) ≤ s.1 31 10 ∧ s.1 31 10 ≤ 2147483647 := iv_full hI
    refine sm_15 hI (show (-2147483648 : Int) ≤ s.1 31 10 ∧ s.1 31 10 ≤ (2147483647 : Int) from by omega) (show (-1 : Int) ≤ 0 ∧ 0 ≤ (99 : Int) from by omega) (show (-2147483648 : Int) ≤ 25 ∧ 25 ≤ (2147483647 : Int) from by omega) (fun z35 q47 => ?_)
    refine ⟨fun c48 => ?_, fun c48 => ?_⟩
    · skip
      have dc48 := q47.2 c48
      exact sm_54_p28 hQ hR41 (show (20 * (9 - a1) + 7).toNat ≤ MR from by omega) hI n2 (show (1 : Int) ≤ a1 ∧ a1 ≤ (8 : Int) from by omega)
    · skip
      have dc48 := q47.1 c48
      exact sm_54_p29 hQ hR41 (show (20 * (9 - a1) + 7).toNat ≤ MR from by omega) hI n2 (show (1 : Int) ≤ a1 ∧ a1 ≤ (8 : Int) from by omega) (show (0 : Int) ≤ s.1 31 10 ∧ s.1 31 10 ≤ (25 : Int) from by omega)
-- fm_50 Reader.readEither 31 i
theorem sm_50_p7 {R51 : Int → (lf_Z → Prop) → lf_Z → Prop} {X7 : Int → lf_Z → Prop} {Q : lf_Z → Prop} {x1 : Int} {x2 : Int} {s : lf_Z} {MR : Nat} (hQ : ∀  (s' : lf_Z), iv_A s'.1 s'.2.2 → lf_fq [31, 33, 35, 36, 42, 43, 49, 50, 56, 57] 1000000 true s.1 s.2.2 s'.1 s'.2.2 → Q  s') (hR51 : ∀ {a1 : Int} {Q : lf_Z → Prop} {s : lf_Z}, (20 * (9 - a1) + 5).toNat < MR → iv_A s.1 s.2.2 → s.2.2 2 ≠ none → 1 ≤ a1 ∧ a1 ≤ 8 → (∀  (s' : lf_Z), iv_A s'.1 s'.2.2 → lf_fq [31, 33, 35, 36, 42, 43, 49, 50, 56, 57] 1000000 true s.1 s.2.2 s'.1 s'.2.2 → Q  s') → R51 a1 Q s) {M7 : Nat} (hX7 : ∀ (x2 : Int) (s' : lf_Z), iv_A s'.1 s'.2.2 → lf_fq [31, 33, 35, 36, 42, 43, 49, 50, 56, 57] 1000000 true s.1 s.2.2 s'.1 s'.2.2 → s'.2.2 2 ≠ none → 0 ≤ x2 ∧ x2 ≤ 300 → (300 - x2).toNat < M7 → X7 x2 s') (hM7 : (300 - x2).toNat ≤ M7) (hMR : (20 * (9 - x1) + 6).toNat ≤ MR) (hI : iv_A s.1 s.2.2) (n2 : s.2.2 2 ≠ none) (bx1 : 1 ≤ x1 ∧ x1 ≤ 8) (bx2 : 0 ≤ x2 ∧ x2 ≤ 300) : fm_50_p7 R51 Q x1 X7 x2 s := by
  unfold fm_50_p7
  refine ⟨(show lf_R x2 from lf_Rof (by omega)), ?_⟩
  refine ⟨fun c6 => ?_, fun c6 => ?_⟩
  · skip
    replace c6 : 300 ≤ x2 := c6
    exact hQ s hI (lf_fq_rf)
  · skip
    replace c6 : ¬ (300 ≤ x2) := c6
    have b7 : 0 ≤ s.1 31 8 ∧ s.1 31 8 ≤ 300 := iv_r31_8 hI
    refine ⟨(show lf_R (s.1 31 8) from lf_Rof (by omega)), ?_⟩
    refine ⟨fun c8 => ?_, fun c8 => ?_⟩
    · skip
      replace c8 : s.1 31 8 ≠ 46 := c8
      exact hQ s hI (lf_fq_rf)
    · skip
      replace c8 : ¬ (s.1 31 8 ≠ 46) := c8
      refine sm_31 hI (fun s24 hI10 fr9 => ?_)
      have fr12 : lf_fq [31, 33, 35, 36, 42, 43, 49, 50, 56, 57] 1000000 true s.1 s.2.2 s24.1 s24.2.2 := lf_fq_tr (lf_fq_rf) (lf_fq_wk fr9 rfl (by decide) (by decide))
      have n13 : s24.2.2 2 ≠ none := lf_fq_n2 fr9 rfl n2
      refine hR51 (show (20 * (9 - x1) + 5).toNat < MR from by omega) hI10 n13 (show (1 : Int) ≤ x1 ∧ x1 ≤ (8 : Int) from by omega) (fun s25 hI15 fr14 => ?_)
      have fr17 : lf_fq [31, 33, 35, 36, 42, 43, 49, 50, 56, 57] 1000000 true s.1 s.2.2 s25.1 s25.2.2 := lf_fq_tr fr12 (lf_fq_wk fr14 rfl (by decide) (by decide))
      have n18 : s25.2.2 2 ≠ none := lf_fq_n2 fr14 rfl n13
      refine ⟨fun et26 => ?_, fun t26 et26 => ?_⟩
      · skip
        exact absurd et26 n18
      · have htt26 : t26 < 4 := iv_t2 hI15 et26
        refine ⟨htt26, ?_⟩
        refine sm_45 htt26 hI15 (show (0 : Int) ≤ 46 ∧ 46 ≤ (300 : Int) from by omega) (show (0 : Int) ≤ 0 ∧ 0 ≤ (1000000 : Int) from by omega) (fun r28 s27 hI20 fr19 q21 => ?_)
        have fr22 : lf_fq [31, 33, 35, 36, 42, 43, 49, 50, 56, 57] 1000000 true s.1 s.2.2 s27.1 s27.2.2 := lf_fq_tr fr17 (lf_fq_wk fr19 rfl (by decide) (by decide))
        have n23 : s27.2.2 2 ≠ none := lf_fq_n2 fr19 rfl n18
        exact hX7 (x2 + 1) s27 hI20 fr22 n23 (show (0 : Int) ≤ x2 + 1 ∧ x2 + 1 ≤ (300 : Int) from by omega) (show (300 - (x2 + 1)).toNat < M7 from by omega)
theorem sm_50_p7L {R51 : Int → (lf_Z → Prop) → lf_Z → Prop} {Q : lf_Z → Prop} {x1 : Int} {x2 : Int} {s : lf_Z} {MR : Nat} (hQ : ∀  (s' : lf_Z), iv_A s'.1 s'.2.2 → lf_fq [31, 33, 35, 36, 42, 43, 49, 50, 56, 57] 1000000 true s.1 s.2.2 s'.1 s'.2.2 → Q  s') (hR51 : ∀ {a1 : Int} {Q : lf_Z → Prop} {s : lf_Z}, (20 * (9 - a1) + 5).toNat < MR → iv_A s.1 s.2.2 → s.2.2 2 ≠ none → 1 ≤ a1 ∧ a1 ≤ 8 → (∀  (s' : lf_Z), iv_A s'.1 s'.2.2 → lf_fq [31, 33, 35, 36, 42, 43, 49, 50, 56, 57] 1000000 true s.1 s.2.2 s'.1 s'.2.2 → Q  s') → R51 a1 Q s) (hMR : (20 * (9 - x1) + 6).toNat ≤ MR) (hI : iv_A s.1 s.2.2) (n2 : s.2.2 2 ≠ none) (bx1 : 1 ≤ x1 ∧ x1 ≤ 8) (bx2 : 0 ≤ x2 ∧ x2 ≤ 300) : fm_50_p7L R51 Q x1 x2 s := by
  intro X7 hX
  have key : ∀ (m9 : Nat) (x2 : Int) (s' : lf_Z), iv_A s'.1 s'.2.2 → lf_fq [31, 33, 35, 36, 42, 43, 49, 50, 56, 57] 1000000 true s.1 s.2.2 s'.1 s'.2.2 → s'.2.2 2 ≠ none → 0 ≤ x2 ∧ x2 ≤ 300 → (300 - x2).toNat < m9 → X7 x2 s' := by
    intro m9
    induction m9 with
    | zero => intro x2 s' _ _ n2 bx2 h9; exact absurd h9 (Nat.not_lt_zero _)
    | succ m9 ih => intro x2 s' i7 f7 n2 bx2 h9; exact hX _ _ (sm_50_p7 (fun t9 i9 f9 => hQ t9 i9 (lf_fq_tr f7 f9)) hR51  (fun x2' t8 i8 f8 n2' bx2' h8 => ih x2' t8 i8 (lf_fq_tr f7 f8) n2' bx2' (by omega)) (Nat.le_refl _) hMR i7 n2 bx1 bx2  )
  exact key _ _ s hI lf_fq_rf n2 bx2 (Nat.lt_succ_self _)
theorem sm_50 {R51 : Int → (lf_Z → Prop) → lf_Z → Prop} {a1 : Int} {Q : lf_Z → Prop} {s : lf_Z} {MR : Nat} (hR51 : ∀ {a1 : Int} {Q : lf_Z → Prop} {s : lf_Z}, (20 * (9 - a1) + 5).toNat < MR → iv_A s.1 s.2.2 → s.2.2 2 ≠ none → 1 ≤ a1 ∧ a1 ≤ 8 → (∀  (s' : lf_Z), iv_A s'.1 s'.2.2 → lf_fq [31, 33, 35, 36, 42, 43, 49, 50, 56, 57] 1000000 true s.1 s.2.2 s'.1 s'.2.2 → Q  s') → R51 a1 Q s) (hMR : (20 * (9 - a1) + 6).toNat ≤ MR) (hI : iv_A s.1 s.2.2) (n2 : s.2.2 2 ≠ none) (ba1 : 1 ≤ a1 ∧ a1 ≤ 8) (hQ : ∀  (s' : lf_Z), iv_A s'.1 s'.2.2 → lf_fq [31, 33, 35, 36, 42, 43, 49, 50, 56, 57] 1000000 true s.1 s.2.2 s'.1 s'.2.2 → Q  s') : fm_50 R51 a1 Q s := by
  unfold fm_50
  refine hR51 (show (20 * (9 - a1) + 5).toNat < MR from by omega) hI n2 (show (1 : Int) ≤ a1 ∧ a1 ≤ (8 : Int) from by omega) (fun s21 hI2 fr1 => ?_)
  have fr4 : lf_fq [31, 33, 35, 36, 42, 43, 49, 50, 56, 57] 1000000 true s.1 s.2.2 s21.1 s21.2.2 := lf_fq_tr (lf_fq_rf) (lf_fq_wk fr1 rfl (by decide) (by decide))
  have n5 : s21.2.2 2 ≠ none := lf_fq_n2 fr1 rfl n2
  exact sm_50_p7L (fun t9 i9 f9 => hQ t9 i9 (lf_fq_tr fr4 f9)) hR51 (show (20 * (9 - a1) + 6).toNat ≤ MR from by omega) hI2 n5 (show (1 : Int) ≤ a1 ∧ a1 ≤ (8 : Int) from by omega) (show (0 : Int) ≤ 0 ∧ 0 ≤ (300 : Int) from by omega)
-- fm_51 Reader.readBoth 31 i
theorem sm_51_p7 {R52 : Int → (lf_Z → Prop) → lf_Z → Prop} {X7 : Int → lf_Z → Prop} {Q : lf_Z → Prop} {x1 : Int} {x2 : Int} {s : lf_Z} {MR : Nat} (hQ : ∀  (s' : lf_Z), iv_A s'.1 s'.2.2 → lf_fq [31, 33, 35, 36, 42, 43, 49, 50, 56, 57] 1000000 true s.1 s.2.2 s'.1 s'.2.2 → Q  s') (hR52 : ∀ {a1 : Int} {Q : lf_Z → Prop} {s : lf_Z}, (20 * (9 - a1) + 4).toNat < MR → iv_A s.1 s.2.2 → s.2.2 2 ≠ none → 1 ≤ a1 ∧ a1 ≤ 8 → (∀  (s' : lf_Z), iv_A s'.1 s'.2.2 → lf_fq [31, 33, 35, 36, 42, 43, 49, 50, 56, 57] 1000000 true s.1 s.2.2 s'.1 s'.2.2 → Q  s') → R52 a1 Q s) {M7 : Nat} (hX7 : ∀ (x2 : Int) (s' : lf_Z), iv_A s'.1 s'.2.2 → lf_fq [31, 33, 35, 36, 42, 43, 49, 50, 56, 57] 1000000 true s.1 s.2.2 s'.1 s'.2.2 → s'.2.2 2 ≠ none → 0 ≤ x2 ∧ x2 ≤ 300 → (300 - x2).toNat < M7 → X7 x2 s') (hM7 : (300 - x2).toNat ≤ M7) (hMR : (20 * (9 - x1) + 5).toNat ≤ MR) (hI : iv_A s.1 s.2.2) (n2 : s.2.2 2 ≠ none) (bx1 : 1 ≤ x1 ∧ x1 ≤ 8) (bx2 : 0 ≤ x2 ∧ x2 ≤ 300) : fm_51_p7 R52 Q x1 X7 x2 s := by
  unfold fm_51_p7
  refine ⟨(show lf_R x2 from lf_Rof (by omega)), ?_⟩
  refine ⟨fun c6 => ?_, fun c6 => ?_⟩
  · skip
    replace c6 : 300 ≤ x2 := c6
    exact hQ s hI (lf_fq_rf)
  · skip
    replace c6 : ¬ (300 ≤ x2) := c6
    have b7 : 0 ≤ s.1 31 8 ∧ s.1 31 8 ≤ 300 := iv_r31_8 hI
    refine ⟨(show lf_R (s.1 31 8) from lf_Rof (by omega)), ?_⟩
    refine ⟨fun c8 => ?_, fun c8 => ?_⟩
    · skip
      replace c8 : s.1 31 8 ≠ 45 := c8
      exact hQ s hI (lf_fq_rf)
    · skip
      replace c8 : ¬ (s.1 31 8 ≠ 45) := c8
      refine sm_31 hI (fun s24 hI10 fr9 => ?_)
      have fr12 : lf_fq [31, 33, 35, 36, 42, 43, 49, 50, 56, 57] 1000000 true s.1 s.2.2 s24.1 s24.2.2 := lf_fq_tr (lf_fq_rf) (lf_fq_wk fr9 rfl (by decide) (by decide))
      have n13 : s24.2.2 2 ≠ none := lf_fq_n2 fr9 rfl n2
      refine hR52 (show (20 * (9 - x1) + 4).toNat < MR from by omega) hI10 n13 (show (1 : Int) ≤ x1 ∧ x1 ≤ (8 : Int) from by omega) (fun s25 hI15 fr14 => ?_)
      have fr17 : lf_fq [31, 33, 35, 36, 42, 43, 49, 50, 56, 57] 1000000 true s.1 s.2.2 s25.1 s25.2.2 := lf_fq_tr fr12 (lf_fq_wk fr14 rfl (by decide) (by decide))
      have n18 : s25.2.2 2 ≠ none := lf_fq_n2 fr14 rfl n13
      refine ⟨fun et26 => ?_, fun t26 et26 => ?_⟩
      · skip
        exact absurd et26 n18
      · have htt26 : t26 < 4 := iv_t2 hI15 et26
        refine ⟨htt26, ?_⟩
        refine sm_45 htt26 hI15 (show (0 : Int) ≤ 45 ∧ 45 ≤ (300 : Int) from by omega) (show (0 : Int) ≤ 0 ∧ 0 ≤ (1000000 : Int) from by omega) (fun r28 s27 hI20 fr19 q21 => ?_)
        have fr22 : lf_fq [31, 33, 35, 36, 42, 43, 49, 50, 56, 57] 1000000 true s.1 s.2.2 s27.1 s27.2.2 := lf_fq_tr fr17 (lf_fq_wk fr19 rfl (by decide) (by decide))
        have n23 : s27.2.2 2 ≠ none := lf_fq_n2 fr19 rfl n18
        exact hX7 (x2 + 1) s27 hI20 fr22 n23 (show (0 : Int) ≤ x2 + 1 ∧ x2 + 1 ≤ (300 : Int) from by omega) (show (300 - (x2 + 1)).toNat < M7 from by omega)
theorem sm_51_p7L {R52 : Int → (lf_Z → Prop) → lf_Z → Prop} {Q : lf_Z → Prop} {x1 : Int} {x2 : Int} {s : lf_Z} {MR : Nat} (hQ : ∀  (s' : lf_Z), iv_A s'.1 s'.2.2 → lf_fq [31, 33, 35, 36, 42, 43, 49, 50, 56, 57] 1000000 true s.1 s.2.2 s'.1 s'.2.2 → Q  s') (hR52 : ∀ {a1 : Int} {Q : lf_Z → Prop} {s : lf_Z}, (20 * (9 - a1) + 4).toNat < MR → iv_A s.1 s.2.2 → s.2.2 2 ≠ none → 1 ≤ a1 ∧ a1 ≤ 8 → (∀  (s' : lf_Z), iv_A s'.1 s'.2.2 → lf_fq [31, 33, 35, 36, 42, 43, 49, 50, 56, 57] 1000000 true s.1 s.2.2 s'.1 s'.2.2 → Q  s') → R52 a1 Q s) (hMR : (20 * (9 - x1) + 5).toNat ≤ MR) (hI : iv_A s.1 s.2.2) (n2 : s.2.2 2 ≠ none) (bx1 : 1 ≤ x1 ∧ x1 ≤ 8) (bx2 : 0 ≤ x2 ∧ x2 ≤ 300) : fm_51_p7L R52 Q x1 x2 s := by
  intro X7 hX
  have key : ∀ (m9 : Nat) (x2 : Int) (s' : lf_Z), iv_A s'.1 s'.2.2 → lf_fq [31, 33, 35, 36, 42, 43, 49, 50, 56, 57] 1000000 true s.1 s.2.2 s'.1 s'.2.2 → s'.2.2 2 ≠ none → 0 ≤ x2 ∧ x2 ≤ 300 → (300 - x2).toNat < m9 → X7 x2 s' := by
    intro m9
    induction m9 with
    | zero => intro x2 s' _ _ n2 bx2 h9; exact absurd h9 (Nat.not_lt_zero _)
    | succ m9 ih => intro x2 s' i7 f7 n2 bx2 h9; exact hX _ _ (sm_51_p7 (fun t9 i9 f9 => hQ t9 i9 (lf_fq_tr f7 f9)) hR52  (fun x2' t8 i8 f8 n2' bx2' h8 => ih x2' t8 i8 (lf_fq_tr f7 f8) n2' bx2' (by omega)) (Nat.le_refl _) hMR i7 n2 bx1 bx2  )
  exact key _ _ s hI lf_fq_rf n2 bx2 (Nat.lt_succ_self _)
theorem sm_51 {R52 : Int → (lf_Z → Prop) → lf_Z → Prop} {a1 : Int} {Q : lf_Z → Prop} {s : lf_Z} {MR : Nat} (hR52 : ∀ {a1 : Int} {Q : lf_Z → Prop} {s : lf_Z}, (20 * (9 - a1) + 4).toNat < MR → iv_A s.1 s.2.2 → s.2.2 2 ≠ none → 1 ≤ a1 ∧ a1 ≤ 8 → (∀  (s' : lf_Z), iv_A s'.1 s'.2.2 → lf_fq [31, 33, 35, 36, 42, 43, 49, 50, 56, 57] 1000000 true s.1 s.2.2 s'.1 s'.2.2 → Q  s') → R52 a1 Q s) (hMR : (20 * (9 - a1) + 5).toNat ≤ MR) (hI : iv_A s.1 s.2.2) (n2 : s.2.2 2 ≠ none) (ba1 : 1 ≤ a1 ∧ a1 ≤ 8) (hQ : ∀  (s' : lf_Z), iv_A s'.1 s'.2.2 → lf_fq [31, 33, 35, 36, 42, 43, 49, 50, 56, 57] 1000000 true s.1 s.2.2 s'.1 s'.2.2 → Q  s') : fm_51 R52 a1 Q s := by
  unfold fm_51
  refine hR52 (show (20 * (9 - a1) + 4).toNat < MR from by omega) hI n2 (show (1 : Int) ≤ a1 ∧ a1 ≤ (8 : Int) from by omega) (fun s21 hI2 fr1 => ?_)
  have fr4 : lf_fq [31, 33, 35, 36, 42, 43, 49, 50, 56, 57] 1000000 true s.1 s.2.2 s21.1 s21.2.2 := lf_fq_tr (lf_fq_rf) (lf_fq_wk fr1 rfl (by decide) (by decide))
  have n5 : s21.2.2 2 ≠ none := lf_fq_n2 fr1 rfl n2
  exact sm_51_p7L (fun t9 i9 f9 => hQ t9 i9 (lf_fq_tr fr4 f9)) hR52 (show (20 * (9 - a1) + 5).toNat ≤ MR from by omega) hI2 n5 (show (1 : Int) ≤ a1 ∧ a1 ≤ (8 : Int) from by omega) (show (0 : Int) ≤ 0 ∧ 0 ≤ (300 : Int) from by omega)
-- fm_52 Reader.readAsk 31 i
theorem sm_52 {R41 : Int → (lf_Z → Prop) → lf_Z → Prop} {R52 : Int → (lf_Z → Prop) → lf_Z → Prop} {a1 : Int} {Q : lf_Z → Prop} {s : lf_Z} {MR : Nat} (hR41 : ∀ {a1 : Int} {Q : lf_Z → Prop} {s : lf_Z}, (20 * (9 - a1) + 3).toNat < MR → iv_A s.1 s.2.2 → s.2.2 2 ≠ none → 0 ≤ a1 ∧ a1 ≤ 8 → (∀  (s' : lf_Z), iv_A s'.1 s'.2.2 → lf_fq [31, 33, 35, 36, 42, 43, 49, 50, 56, 57] 1000000 true s.1 s.2.2 s'.1 s'.2.2 → Q  s') → R41 a1 Q s) (hR52 : ∀ {a1 : Int} {Q : lf_Z → Prop} {s : lf_Z}, (20 * (9 - a1) + 4).toNat < MR → iv_A s.1 s.2.2 → s.2.2 2 ≠ none → 1 ≤ a1 ∧ a1 ≤ 8 → (∀  (s' : lf_Z), iv_A s'.1 s'.2.2 → lf_fq [31, 33, 35, 36, 42, 43, 49, 50, 56, 57] 1000000 true s.1 s.2.2 s'.1 s'.2.2 → Q  s') → R52 a1 Q s) (hMR : (20 * (9 - a1) + 4).toNat ≤ MR) (hI : iv_A s.1 s.2.2) (n2 : s.2.2 2 ≠ none) (ba1 : 1 ≤ a1 ∧ a1 ≤ 8) (hQ : ∀  (s' : lf_Z), iv_A s'.1 s'.2.2 → lf_fq [31, 33, 35, 36, 42, 43, 49, 50, 56, 57] 1000000 true s.1 s.2.2 s'.1 s'.2.2 → Q  s') : fm_52 R41 R52 a1 Q s := by
  unfold fm_52
  have b1 : 0 ≤ s.1 31 8 ∧ s.1 31 8 ≤ 300 := iv_r31_8 hI
  refine ⟨(show lf_R (s.1 31 8) from lf_Rof (by omega)), ?_⟩
  refine ⟨fun c2 => ?_, fun c2 => ?_⟩
  · skip
    replace c2 : s.1 31 8 ≠ 44 := c2
    refine hR41 (show (20 * (9 - a1) + 3).toNat < MR from by omega) hI n2 (show (0 : Int) ≤ a1 ∧ a1 ≤ (8 : Int) from by omega) (fun s22 hI4 fr3 => ?_)
    have fr6 : lf_fq [31, 33, 35, 36, 42, 43, 49, 50, 56, 57] 1000000 true s.1 s.2.2 s22.1 s22.2.2 := lf_fq_tr (lf_fq_rf) (lf_fq_wk fr3 rfl (by decide) (by decide))
    have n7 : s22.2.2 2 ≠ none := lf_fq_n2 fr3 rfl n2
    have b8 : 0 ≤ s22.1 31 8 ∧ s22.1 31 8 ≤ 300 := iv_r31_8 hI4
    refine sm_15 hI4 (show (-2147483648 : Int) ≤ s22.1 31 8 ∧ s22.1 31 8 ≤ (2147483647 : Int) from by omega) (show (-1 : Int) ≤ 4 ∧ 4 ≤ (99 : Int) from by omega) (show (-2147483648 : Int) ≤ 9 ∧ 9 ≤ (2147483647 : Int) from by omega) (fun z24 q9 => ?_)
    refine ⟨fun c10 => ?_, fun c10 => ?_⟩
    · skip
      have dc10 := q9.1 c10
      refine sm_31 hI4 (fun s25 hI12 fr11 => ?_)
      have fr14 : lf_fq [31, 33, 35, 36, 42, 43, 49, 50, 56, 57] 1000000 true s.1 s.2.2 s25.1 s25.2.2 := lf_fq_tr fr6 (lf_fq_wk fr11 rfl (by decide) (by decide))
      have n15 : s25.2.2 2 ≠ none := lf_fq_n2 fr11 rfl n7
      refine hR41 (show (20 * (9 - a1) + 3).toNat < MR from by omega) hI12 n15 (show (0 : Int) ≤ a1 ∧ a1 ≤ (8 : Int) from by omega) (fun s26 hI17 fr16 => ?_)
      have fr19 : lf_fq [31, 33, 35, 36, 42, 43, 49, 50, 56, 57] 1000000 true s.1 s.2.2 s26.1 s26.2.2 := lf_fq_tr fr14 (lf_fq_wk fr16 rfl (by decide) (by decide))
      have n20 : s26.2.2 2 ≠ none := lf_fq_n2 fr16 rfl n15
      refine ⟨fun et27 => ?_, fun t27 et27 => ?_⟩
      · skip
        exact absurd et27 n20
      · have htt27 : t27 < 4 := iv_t2 hI17 et27
        refine ⟨htt27, ?_⟩
        refine sm_45 htt27 hI17 (show (0 : Int) ≤ s22.1 31 8 ∧ s22.1 31 8 ≤ (300 : Int) from by omega) (show (0 : Int) ≤ 0 ∧ 0 ≤ (1000000 : Int) from by omega) (fun r29 s28 hI22 fr21 q23 => ?_)
        have fr24 : lf_fq [31, 33, 35, 36, 42, 43, 49, 50, 56, 57] 1000000 true s.1 s.2.2 s28.1 s28.2.2 := lf_fq_tr fr19 (lf_fq_wk fr21 rfl (by decide) (by decide))
        have n25 : s28.2.2 2 ≠ none := lf_fq_n2 fr21 rfl n20
        exact hQ s28 hI22 fr24
    · skip
      have dc10 := q9.2 c10
      refine sm_39 hI4 (show (1 : Int) ≤ 1 ∧ 1 ≤ (6 : Int) from by omega) (fun s30 hI27 fr26 => ?_)
      have fr29 : lf_fq [31, 33, 35, 36, 42, 43, 49, 50, 56, 57] 1000000 true s.1 s.2.2 s30.1 s30.2.2 := lf_fq_tr fr6 (lf_fq_wk fr26 rfl (by decide) (by decide))
      have n30 : s30.2.2 2 ≠ none := lf_fq_n2 fr26 rfl n7
      exact hQ s30 hI27 fr29
  · skip
    replace c2 : ¬ (s.1 31 8 ≠ 44) := c2
    refine sm_47 hI (show (0 : Int) ≤ a1 ∧ a1 ≤ (8 : Int) from by omega) (fun z32 s31 hI32 fr31 q33 => ?_)
    have fr34 : lf_fq [31, 33, 35, 36, 42, 43, 49, 50, 56, 57] 1000000 true s.1 s.2.2 s31.1 s31.2.2 := lf_fq_tr (lf_fq_rf) (lf_fq_wk fr31 rfl (by decide) (by decide))
    have n35 : s31.2.2 2 ≠ none := lf_fq_n2 fr31 rfl n2
    refine ⟨fun c36 => ?_, fun c36 => ?_⟩
    · skip
      have dc36 := q33.2 c36
      exact hQ s31 hI32 fr34
    · skip
      have dc36 := q33.1 c36
      refine hR52 (show (20 * (9 - (a1 + 1)) + 4).toNat < MR from by omega) hI32 n35 (show (1 : Int) ≤ a1 + 1 ∧ a1 + 1 ≤ (8 : Int) from by omega) (fun s33 hI38 fr37 => ?_)
      have fr40 : lf_fq [31, 33, 35, 36, 42, 43, 49, 50, 56, 57] 1000000 true s.1 s.2.2 s33.1 s33.2.2 := lf_fq_tr fr34 (lf_fq_wk fr37 rfl (by decide) (by decide))
      have n41 : s33.2.2 2 ≠ none := lf_fq_n2 fr37 rfl n35
      refine ⟨fun et34 => ?_, fun t34 et34 => ?_⟩
      · skip
        exact absurd et34 n41
      · have htt34 : t34 < 4 := iv_t2 hI38 et34
        refine ⟨htt34, ?_⟩
        refine sm_45 htt34 hI38 (show (0 : Int) ≤ 44 ∧ 44 ≤ (300 : Int) from by omega) (show (0 : Int) ≤ 0 ∧ 0 ≤ (1000000 : Int) from by omega) (fun r36 s35 hI43 fr42 q44 => ?_)
        have fr45 : lf_fq [31, 33, 35, 36, 42, 43, 49, 50, 56, 57] 1000000 true s.1 s.2.2 s35.1 s35.2.2 := lf_fq_tr fr40 (lf_fq_wk fr42 rfl (by decide) (by decide))
        have n46 : s35.2.2 2 ≠ none := lf_fq_n2 fr42 rfl n41
        exact hQ s35 hI43 fr45
-- cl_41 cluster
theorem sc_41T : ∀ n : Nat, (∀ {a1 : Int} {Q : lf_Z → Prop} {s : lf_Z}, (20 * (9 - a1) + 3).toNat < n → iv_A s.1 s.2.2 → s.2.2 2 ≠ none → 0 ≤ a1 ∧ a1 ≤ 8 → (∀  (s' : lf_Z), iv_A s'.1 s'.2.2 → lf_fq [31, 33, 35, 36, 42, 43, 49, 50, 56, 57] 1000000 true s.1 s.2.2 s'.1 s'.2.2 → Q  s') → (fc_41T n).1 a1 Q s) ∧ (∀ {a1 : Int} {Q : lf_Z → Prop} {s : lf_Z}, (20 * (9 - a1) + 2).toNat < n → iv_A s.1 s.2.2 → s.2.2 2 ≠ none → 0 ≤ a1 ∧ a1 ≤ 8 → (∀  (s' : lf_Z), iv_A s'.1 s'.2.2 → lf_fq [31, 33, 35, 36, 42, 43, 49, 50, 56, 57] 1000000 true s.1 s.2.2 s'.1 s'.2.2 → Q  s') → (fc_41T n).2.1 a1 Q s) ∧ (∀ {a1 : Int} {Q : lf_Z → Prop} {s : lf_Z}, (20 * (9 - a1) + 1).toNat < n → iv_A s.1 s.2.2 → s.2.2 2 ≠ none → 0 ≤ a1 ∧ a1 ≤ 8 → (∀  (s' : lf_Z), iv_A s'.1 s'.2.2 → lf_fq [31, 33, 35, 36, 42, 43, 49, 50, 56, 57] 1000000 true s.1 s.2.2 s'.1 s'.2.2 → Q  s') → (fc_41T n).2.2.1 a1 Q s) ∧ (∀ {a1 : Int} {Q : lf_Z → Prop} {s : lf_Z}, (20 * (9 - a1) + 7).toNat < n → iv_A s.1 s.2.2 → s.2.2 2 ≠ none → 1 ≤ a1 ∧ a1 ≤ 8 → (∀  (s' : lf_Z), iv_A s'.1 s'.2.2 → lf_fq [31, 33, 35, 36, 42, 43, 49, 50, 56, 57] 1000000 true s.1 s.2.2 s'.1 s'.2.2 → Q  s') → (fc_41T n).2.2.2.1 a1 Q s) ∧ (∀ {a1 : Int} {Q : lf_Z → Prop} {s : lf_Z}, (20 * (9 - a1) + 7).toNat < n → iv_A s.1 s.2.2 → s.2.2 2 ≠ none → 1 ≤ a1 ∧ a1 ≤ 8 → (∀  (s' : lf_Z), iv_A s'.1 s'.2.2 → lf_fq [31, 33, 35, 36, 42, 43, 49, 50, 56, 57] 1000000 true s.1 s.2.2 s'.1 s'.2.2 → Q  s') → (fc_41T n).2.2.2.2.1 a1 Q s) ∧ (∀ {a1 : Int} {Q : lf_Z → Prop} {s : lf_Z}, (20 * (9 - a1) + 6).toNat < n → iv_A s.1 s.2.2 → s.2.2 2 ≠ none → 1 ≤ a1 ∧ a1 ≤ 8 → (∀  (s' : lf_Z), iv_A s'.1 s'.2.2 → lf_fq [31, 33, 35, 36, 42, 43, 49, 50, 56, 57] 1000000 true s.1 s.2.2 s'.1 s'.2.2 → Q  s') → (fc_41T n).2.2.2.2.2.1 a1 Q s) ∧ (∀ {a1 : Int} {Q : lf_Z → Prop} {s : lf_Z}, (20 * (9 - a1) + 5).toNat < n → iv_A s.1 s.2.2 → s.2.2 2 ≠ none → 1 ≤ a1 ∧ a1 ≤ 8 → (∀  (s' : lf_Z), iv_A s'.1 s'.2.2 → lf_fq [31, 33, 35, 36, 42, 43, 49, 50, 56, 57] 1000000 true s.1 s.2.2 s'.1 s'.2.2 → Q  s') → (fc_41T n).2.2.2.2.2.2.1 a1 Q s) ∧ (∀ {a1 : Int} {Q : lf_Z → Prop} {s : lf_Z}, (20 * (9 - a1) + 4).toNat < n → iv_A s.1 s.2.2 → s.2.2 2 ≠ none → 1 ≤ a1 ∧ a1 ≤ 8 → (∀  (s' : lf_Z), iv_A s'.1 s'.2.2 → lf_fq [31, 33, 35, 36, 42, 43, 49, 50, 56, 57] 1000000 true s.1 s.2.2 s'.1 s'.2.2 → Q  s') → (fc_41T n).2.2.2.2.2.2.2 a1 Q s)
  | 0 => ⟨by intros; omega, by intros; omega, by intros; omega, by intros; omega, by intros; omega, by intros; omega, by intros; omega, by intros; omega⟩
  | n + 1 => ⟨fun hm hI n2 b1 hQ => sm_41 (MR := n) (sc_41T n).2.1 (by omega) hI n2 b1 hQ, fun hm hI n2 b1 hQ => sm_42 (MR := n) (sc_41T n).2.2.1 (by omega) hI n2 b1 hQ, fun hm hI n2 b1 hQ => sm_43 (MR := n) (sc_41T n).1 (sc_41T n).2.2.1 (sc_41T n).2.2.2.1 (sc_41T n).2.2.2.2.1 (by omega) hI n2 b1 hQ, fun hm hI n2 b1 hQ => sm_49 (MR := n) (sc_41T n).1 (sc_41T n).2.2.2.2.2.1 (by omega) hI n2 b1 hQ, fun hm hI n2 b1 hQ => sm_54 (MR := n) (sc_41T n).1 (by omega) hI n2 b1 hQ, fun hm hI n2 b1 hQ => sm_50 (MR := n) (sc_41T n).2.2.2.2.2.2.1 (by omega) hI n2 b1 hQ, fun hm hI n2 b1 hQ => sm_51 (MR := n) (sc_41T n).2.2.2.2.2.2.2 (by omega) hI n2 b1 hQ, fun hm hI n2 b1 hQ => sm_52 (MR := n) (sc_41T n).1 (sc_41T n).2.2.2.2.2.2.2 (by omega) hI n2 b1 hQ⟩
theorem sc_41 {a1 : Int} {Q : lf_Z → Prop} {s : lf_Z} (hI : iv_A s.1 s.2.2) (n2 : s.2.2 2 ≠ none) (ba1 : 0 ≤ a1 ∧ a1 ≤ 8) (hQ : ∀  (s' : lf_Z), iv_A s'.1 s'.2.2 → lf_fq [31, 33, 35, 36, 42, 43, 49, 50, 56, 57] 1000000 true s.1 s.2.2 s'.1 s'.2.2 → Q  s') : fc_41 a1 Q s := (sc_41T 200).1 (by omega) hI n2 ba1 hQ
theorem sc_42 {a1 : Int} {Q : lf_Z → Prop} {s : lf_Z} (hI : iv_A s.1 s.2.2) (n2 : s.2.2 2 ≠ none) (ba1 : 0 ≤ a1 ∧ a1 ≤ 8) (hQ : ∀  (s' : lf_Z), iv_A s'.1 s'.2.2 → lf_fq [31, 33, 35, 36, 42, 43, 49, 50, 56, 57] 1000000 true s.1 s.2.2 s'.1 s'.2.2 → Q  s') : fc_42 a1 Q s := (sc_41T 200).2.1 (by omega) hI n2 ba1 hQ
theorem sc_43 {a1 : Int} {Q : lf_Z → Prop} {s : lf_Z} (hI : iv_A s.1 s.2.2) (n2 : s.2.2 2 ≠ none) (ba1 : 0 ≤ a1 ∧ a1 ≤ 8) (hQ : ∀  (s' : lf_Z), iv_A s'.1 s'.2.2 → lf_fq [31, 33, 35, 36, 42, 43, 49, 50, 56, 57] 1000000 true s.1 s.2.2 s'.1 s'.2.2 → Q  s') : fc_43 a1 Q s := (sc_41T 200).2.2.1 (by omega) hI n2 ba1 hQ
theorem sc_49 {a1 : Int} {Q : lf_Z → Prop} {s : lf_Z} (hI : iv_A s.1 s.2.2) (n2 : s.2.2 2 ≠ none) (ba1 : 1 ≤ a1 ∧ a1 ≤ 8) (hQ : ∀  (s' : lf_Z), iv_A s'.1 s'.2.2 → lf_fq [31, 33, 35, 36, 42, 43, 49, 50, 56, 57] 1000000 true s.1 s.2.2 s'.1 s'.2.2 → Q  s') : fc_49 a1 Q s := (sc_41T 200).2.2.2.1 (by omega) hI n2 ba1 hQ
theorem sc_54 {a1 : Int} {Q : lf_Z → Prop} {s : lf_Z} (hI : iv_A s.1 s.2.2) (n2 : s.2.2 2 ≠ none) (ba1 : 1 ≤ a1 ∧ a1 ≤ 8) (hQ : ∀  (s' : lf_Z), iv_A s'.1 s'.2.2 → lf_fq [31, 33, 35, 36, 42, 43, 49, 50, 56, 57] 1000000 true s.1 s.2.2 s'.1 s'.2.2 → Q  s') : fc_54 a1 Q s := (sc_41T 200).2.2.2.2.1 (by omega) hI n2 ba1 hQ
theorem sc_50 {a1 : Int} {Q : lf_Z → Prop} {s : lf_Z} (hI : iv_A s.1 s.2.2) (n2 : s.2.2 2 ≠ none) (ba1 : 1 ≤ a1 ∧ a1 ≤ 8) (hQ : ∀  (s' : lf_Z), iv_A s'.1 s'.2.2 → lf_fq [31, 33, 35, 36, 42, 43, 49, 50, 56, 57] 1000000 true s.1 s.2.2 s'.1 s'.2.2 → Q  s') : fc_50 a1 Q s := (sc_41T 200).2.2.2.2.2.1 (by omega) hI n2 ba1 hQ
theorem sc_51 {a1 : Int} {Q : lf_Z → Prop} {s : lf_Z} (hI : iv_A s.1 s.2.2) (n2 : s.2.2 2 ≠ none) (ba1 : 1 ≤ a1 ∧ a1 ≤ 8) (hQ : ∀  (s' : lf_Z), iv_A s'.1 s'.2.2 → lf_fq [31, 33, 35, 36, 42, 43, 49, 50, 56, 57] 1000000 true s.1 s.2.2 s'.1 s'.2.2 → Q  s') : fc_51 a1 Q s := (sc_41T 200).2.2.2.2.2.2.1 (by omega) hI n2 ba1 hQ
theorem sc_52 {a1 : Int} {Q : lf_Z → Prop} {s : lf_Z} (hI : iv_A s.1 s.2.2) (n2 : s.2.2 2 ≠ none) (ba1 : 1 ≤ a1 ∧ a1 ≤ 8) (hQ : ∀  (s' : lf_Z), iv_A s'.1 s'.2.2 → lf_fq [31, 33, 35, 36, 42, 43, 49, 50, 56, 57] 1000000 true s.1 s.2.2 s'.1 s'.2.2 → Q  s') : fc_52 a1 Q s := (sc_41T 200).2.2.2.2.2.2.2 (by omega) hI n2 ba1 hQ
-- fm_38 Reader.readClause 31
theorem sm_38_p146 {Q : lf_Z → Prop} {s : lf_Z} (hQ : ∀  (s' : lf_Z), iv_A s'.1 s'.2.2 → lf_fq [31, 33, 35, 36, 37, 38, 39, 40, 41, 42, 43, 44, 45, 46, 47, 48, 49, 50, 51, 52, 53, 54, 55, 56, 57, 58, 59, 60, 61, 62] 1000000 true s.1 s.2.2 s'.1 s'.2.2 → Q  s') (hI : iv_A s.1 s.2.2) (n2 : s.2.2 2 ≠ none) : fm_38_p146 Q s := by
  unfold fm_38_p146
  refine sm_48 hI (show (0 : Int) ≤ 16 ∧ 16 ≤ (99 : Int) from by omega) (fun s31 hI20 fr19 => ?_)
  have fr22 : lf_fq [31, 33, 35, 36, 37, 38, 39, 40, 41, 42, 43, 44, 45, 46, 47, 48, 49, 50, 51, 52, 53, 54, 55, 56, 57, 58, 59, 60, 61, 62] 1000000 true s.1 s.2.2 s31.1 s31.2.2 := lf_fq_tr (lf_fq_rf) (lf_fq_wk fr19 rfl (by decide) (by decide))
  have n23 : s31.2.2 2 ≠ none := lf_fq_n2 fr19 rfl n2
  exact hQ s31 hI20 fr22
theorem sm_38 {Q : lf_Z → Prop} {s : lf_Z} (hI : iv_A s.1 s.2.2) (n2 : s.2.2 2 ≠ none) (hQ : ∀  (s' : lf_Z), iv_A s'.1 s'.2.2 → lf_fq [31, 33, 35, 36, 37, 38, 39, 40, 41, 42, 43, 44, 45, 46, 47, 48, 49, 50, 51, 52, 53, 54, 55, 56, 57, 58, 59, 60, 61, 62] 1000000 true s.1 s.2.2 s'.1 s'.2.2 → Q  s') : fm_38 Q s := by
  unfold fm_38
  have b1 : 0 ≤ s.1 31 8 ∧ s.1 31 8 ≤ 300 := iv_r31_8 hI
  refine sm_15 hI (show (-2147483648 : Int) ≤ s.1 31 8 ∧ s.1 31 8 ≤ (2147483647 : Int) from by omega) (show (-1 : Int) ≤ 20 ∧ 20 ≤ (99 : Int) from by omega) (show (-2147483648 : Int) ≤ 32 ∧ 32 ≤ (2147483647 : Int) from by omega) (fun z22 q2 => ?_)
  refine ⟨fun c3 => ?_, fun c3 => ?_⟩
  · skip
    have dc3 := q2.1 c3
    refine ⟨fun et23 => ?_, fun t23 et23 => ?_⟩
    · skip
      exact absurd et23 n2
    · have htt23 : t23 < 4 := iv_t2 hI et23
      refine ⟨htt23, ?_⟩
      refine sm_40 htt23 hI (show (0 : Int) ≤ (s.1 31 8) - 20 ∧ (s.1 31 8) - 20 ≤ (12 : Int) from by omega) (fun z25 => ?_)
      refine ⟨fun c5 => ?_, fun c5 => ?_⟩
      · skip
        refine ⟨fun et26 => ?_, fun t26 et26 => ?_⟩
        · skip
          exact absurd et26 n2
        · have htt26 : t26 < 4 := iv_t2 hI et26
          refine ⟨htt26, ?_⟩
          have b6 : 0 ≤ s.1 (35 + 7 * t26) 7 ∧ s.1 (35 + 7 * t26) 7 ≤ 24 := iv_rT_7 hI htt26
          refine ⟨(show lf_R (s.1 (35 + 7 * t26) 7) from lf_Rof (by omega)), ?_⟩
          refine ⟨fun c7 => ?_, fun c7 => ?_⟩
          · skip
            replace c7 : s.1 (35 + 7 * t26) 7 < 24 := c7
            refine sm_31 hI (fun s28 hI9 fr8 => ?_)
            have fr11 : lf_fq [31, 33, 35, 36, 37, 38, 39, 40, 41, 42, 43, 44, 45, 46, 47, 48, 49, 50, 51, 52, 53, 54, 55, 56, 57, 58, 59, 60, 61, 62] 1000000 true s.1 s.2.2 s28.1 s28.2.2 := lf_fq_tr (lf_fq_rf) (lf_fq_wk fr8 rfl (by decide) (by decide))
            have n12 : s28.2.2 2 ≠ none := lf_fq_n2 fr8 rfl n2
            refine ⟨(show lf_R (s.1 31 8) from lf_Rof (by omega)), ?_⟩
            refine ⟨fun c13 => ?_, fun c13 => ?_⟩
            · skip
              replace c13 : 22 < s.1 31 8 := c13
              refine sm_58 hI9 n12 (show (23 : Int) ≤ s.1 31 8 ∧ s.1 31 8 ≤ (32 : Int) from by omega) (fun s30 hI15 fr14 => ?_)
              have fr17 : lf_fq [31, 33, 35, 36, 37, 38, 39, 40, 41, 42, 43, 44, 45, 46, 47, 48, 49, 50, 51, 52, 53, 54, 55, 56, 57, 58, 59, 60, 61, 62] 1000000 true s.1 s.2.2 s30.1 s30.2.2 := lf_fq_tr fr11 (lf_fq_wk fr14 rfl (by decide) (by decide))
              have n18 : s30.2.2 2 ≠ none := lf_fq_n2 fr14 rfl n12
              exact sm_38_p146 (fun t9 i9 f9 => hQ t9 i9 (lf_fq_tr fr17 f9)) hI15 n18
            · skip
              replace c13 : ¬ (22 < s.1 31 8) := c13
              have hI24 : iv_A (lf_up s28.1 31 6 ((s.1 31 8) - 20)) s28.2.2 := iv_w31_6 hI9 (by omega)
              have fr25 : lf_fq [31, 33, 35, 36, 37, 38, 39, 40, 41, 42, 43, 44, 45, 46, 47, 48, 49, 50, 51, 52, 53, 54, 55, 56, 57, 58, 59, 60, 61, 62] 1000000 true s.1 s.2.2 (lf_up s28.1 31 6 ((s.1 31 8) - 20)) s28.2.2 := lf_fq_up fr11 rfl (fun h => absurd h (by decide))
              refine ⟨fun et32 => ?_, fun t32 et32 => ?_⟩
              · skip
                exact absurd et32 n12
              · have htt32 : t32 < 4 := iv_t2 hI24 et32
                refine ⟨htt32, ?_⟩
                refine ⟨fun et33 => ?_, fun t33 et33 => ?_⟩
                · skip
                  exact absurd et33 n12
                · have htt33 : t33 < 4 := iv_t2 hI24 et33
                  refine ⟨htt33, ?_⟩
                  have b26 : 0 ≤ (lf_up s28.1 31 6 ((s.1 31 8) - 20)) (35 + 7 * t33) 1 ∧ (lf_up s28.1 31 6 ((s.1 31 8) - 20)) (35 + 7 * t33) 1 ≤ 300 := iv_rT_1 hI24 htt33
                  have b27 : (lf_up s28.1 31 6 ((s.1 31 8) - 20)) (35 + 7 * t33) 1 = s28.1 (35 + 7 * t33) 1 := lf_up_c (by omega)
                  refine ⟨(show (0 : Int) ≤ (s.1 31 8) - 20 ∧ (s.1 31 8) - 20 < (3 : Int) from by omega), ?_⟩
                  have hI28 : iv_A (lf_up (lf_up s28.1 31 6 ((s.1 31 8) - 20)) (37 + 7 * t32) ((s.1 31 8) - 20) ((lf_up s28.1 31 6 ((s.1 31 8) - 20)) (35 + 7 * t33) 1)) s28.2.2 := iv_wTA37 hI24 htt32 (by omega)
                  have fr29 : lf_fq [31, 33, 35, 36, 37, 38, 39, 40, 41, 42, 43, 44, 45, 46, 47, 48, 49, 50, 51, 52, 53, 54, 55, 56, 57, 58, 59, 60, 61, 62] 1000000 true s.1 s.2.2 (lf_up (lf_up s28.1 31 6 ((s.1 31 8) - 20)) (37 + 7 * t32) ((s.1 31 8) - 20) ((lf_up s28.1 31 6 ((s.1 31 8) - 20)) (35 + 7 * t33) 1)) s28.2.2 := lf_fq_upT fr25 htt32 rfl (by decide)
                  refine sc_41 hI28 n12 (show (0 : Int) ≤ 0 ∧ 0 ≤ (8 : Int) from by omega) (fun s35 hI31 fr30 => ?_)
                  have fr33 : lf_fq [31, 33, 35, 36, 37, 38, 39, 40, 41, 42, 43, 44, 45, 46, 47, 48, 49, 50, 51, 52, 53, 54, 55, 56, 57, 58, 59, 60, 61, 62] 1000000 true s.1 s.2.2 s35.1 s35.2.2 := lf_fq_tr fr29 (lf_fq_wk fr30 rfl (by decide) (by decide))
                  have n34 : s35.2.2 2 ≠ none := lf_fq_n2 fr30 rfl n12
                  refine ⟨fun et36 => ?_, fun t36 et36 => ?_⟩
                  · skip
                    exact absurd et36 n34
                  · have htt36 : t36 < 4 := iv_t2 hI31 et36
                    refine ⟨htt36, ?_⟩
                    have b35 : 0 ≤ s35.1 31 6 ∧ s35.1 31 6 ≤ 2 := iv_r31_6 hI31
                    refine ⟨fun et37 => ?_, fun t37 et37 => ?_⟩
                    · skip
                      exact absurd et37 n34
                    · have htt37 : t37 < 4 := iv_t2 hI31 et37
                      refine ⟨htt37, ?_⟩
                      have b36 : 0 ≤ s35.1 (35 + 7 * t37) 1 ∧ s35.1 (35 + 7 * t37) 1 ≤ 300 := iv_rT_1 hI31 htt37
                      refine ⟨(show (0 : Int) ≤ s35.1 31 6 ∧ s35.1 31 6 < (3 : Int) from by omega), ?_⟩
                      have hI37 : iv_A (lf_up s35.1 (38 + 7 * t36) (s35.1 31 6) (s35.1 (35 + 7 * t37) 1)) s35.2.2 := iv_wTA38 hI31 htt36 (by omega)
                      have fr38 : lf_fq [31, 33, 35, 36, 37, 38, 39, 40, 41, 42, 43, 44, 45, 46, 47, 48, 49, 50, 51, 52, 53, 54, 55, 56, 57, 58, 59, 60, 61, 62] 1000000 true s.1 s.2.2 (lf_up s35.1 (38 + 7 * t36) (s35.1 31 6) (s35.1 (35 + 7 * t37) 1)) s35.2.2 := lf_fq_upT fr33 htt36 rfl (by decide)
                      refine ⟨fun et39 => ?_, fun t39 et39 => ?_⟩
                      · skip
                        exact absurd et39 n34
                      · have htt39 : t39 < 4 := iv_t2 hI37 et39
                        refine ⟨htt39, ?_⟩
                        refine sm_57 htt39 hI37 (show (20 : Int) ≤ s.1 31 8 ∧ s.1 31 8 ≤ (32 : Int) from by omega) (show (0 : Int) ≤ 0 ∧ 0 ≤ (9999 : Int) from by omega) (show (0 : Int) ≤ 0 ∧ 0 ≤ (9999 : Int) from by omega) (fun s40 hI40 fr39 => ?_)
                        have fr42 : lf_fq [31, 33, 35, 36, 37, 38, 39, 40, 41, 42, 43, 44, 45, 46, 47, 48, 49, 50, 51, 52, 53, 54, 55, 56, 57, 58, 59, 60, 61, 62] 1000000 true s.1 s.2.2 s40.1 s40.2.2 := lf_fq_tr fr38 (lf_fq_wk fr39 rfl (by decide) (by decide))
                        have n43 : s40.2.2 2 ≠ none := lf_fq_n2 fr39 rfl n34
                        exact sm_38_p146 (fun t9 i9 f9 => hQ t9 i9 (lf_fq_tr fr42 f9)) hI40 n43
          · skip
            replace c7 : ¬ (s.1 (35 + 7 * t26) 7 < 24) := c7
            refine sm_39 hI (show (1 : Int) ≤ 6 ∧ 6 ≤ (6 : Int) from by omega) (fun s41 hI45 fr44 => ?_)
            have fr47 : lf_fq [31, 33, 35, 36, 37, 38, 39, 40, 41, 42, 43, 44, 45, 46, 47, 48, 49, 50, 51, 52, 53, 54, 55, 56, 57, 58, 59, 60, 61, 62] 1000000 true s.1 s.2.2 s41.1 s41.2.2 := lf_fq_tr (lf_fq_rf) (lf_fq_wk fr44 rfl (by decide) (by decide))
            have n48 : s41.2.2 2 ≠ none := lf_fq_n2 fr44 rfl n2
            exact hQ s41 hI45 fr47
      · skip
        refine sm_39 hI (show (1 : Int) ≤ 4 ∧ 4 ≤ (6 : Int) from by omega) (fun s42 hI50 fr49 => ?_)
        have fr52 : lf_fq [31, 33, 35, 36, 37, 38, 39, 40, 41, 42, 43, 44, 45, 46, 47, 48, 49, 50, 51, 52, 53, 54, 55, 56, 57, 58, 59, 60, 61, 62] 1000000 true s.1 s.2.2 s42.1 s42.2.2 := lf_fq_tr (lf_fq_rf) (lf_fq_wk fr49 rfl (by decide) (by decide))
        have n53 : s42.2.2 2 ≠ none := lf_fq_n2 fr49 rfl n2
        exact hQ s42 hI50 fr52
  · skip
    have dc3 := q2.2 c3
    refine sm_39 hI (show (1 : Int) ≤ 1 ∧ 1 ≤ (6 : Int) from by omega) (fun s43 hI55 fr54 => ?_)
    have fr57 : lf_fq [31, 33, 35, 36, 37, 38, 39, 40, 41, 42, 43, 44, 45, 46, 47, 48, 49, 50, 51, 52, 53, 54, 55, 56, 57, 58, 59, 60, 61, 62] 1000000 true s.1 s.2.2 s43.1 s43.2.2 := lf_fq_tr (lf_fq_rf) (lf_fq_wk fr54 rfl (by decide) (by decide))
    have n58 : s43.2.2 2 ≠ none := lf_fq_n2 fr54 rfl n2
    exact hQ s43 hI55 fr57
-- fm_29 Reader.readAll 31 t
theorem sm_29_p72 {Q : Bool → lf_Z → Prop} {s : lf_Z} (hQ : ∀ (z : Bool) (s' : lf_Z), iv_A s'.1 s'.2.2 → lf_fq [31, 33, 35, 36, 37, 38, 39, 40, 41, 42, 43, 44, 45, 46, 47, 48, 49, 50, 51, 52, 53, 54, 55, 56, 57, 58, 59, 60, 61, 62] 1000000 false s.1 s.2.2 s'.1 s'.2.2 → Q z s') (hI : iv_A s.1 s.2.2) (n2 : s.2.2 2 ≠ none) : fm_29_p72 Q s := by
  unfold fm_29_p72
  have hI23 : iv_A (lf_up s.1 31 1 0) s.2.2 := iv_w31_1 hI (by omega)
  have fr24 : lf_fq [31, 33, 35, 36, 37, 38, 39, 40, 41, 42, 43, 44, 45, 46, 47, 48, 49, 50, 51, 52, 53, 54, 55, 56, 57, 58, 59, 60, 61, 62] 1000000 false s.1 s.2.2 (lf_up s.1 31 1 0) s.2.2 := lf_fq_up (lf_fq_rf) rfl (fun h => absurd h (by decide))
  have b25 : (-2147483648) ≤ s.1 31 2 ∧ s.1 31 2 ≤ 2147483647 := (show (-2147483648) ≤ (lf_up s.1 31 1 0) 31 2 ∧ (lf_up s.1 31 1 0) 31 2 ≤ 2147483647 from iv_full hI23)
  have b26 : (lf_up s.1 31 1 0) 31 2 = s.1 31 2 := lf_up_i (by omega)
  refine ⟨(show lf_R (s.1 31 2) from lf_Rof (by omega)), ?_⟩
  refine ⟨fun c27 => ?_, fun c27 => ?_⟩
  · skip
    replace c27 : s.1 31 2 ≠ 0 := c27
    exact hQ false (lf_up s.1 31 1 0, s.2.1, s.2.2) hI23 fr24
  · skip
    replace c27 : ¬ (s.1 31 2 ≠ 0) := c27
    exact hQ true (lf_up s.1 31 1 0, s.2.1, s.2.2) hI23 fr24
theorem sm_29_p41 {X41 : Int → lf_Z → Prop} {Q : Bool → lf_Z → Prop} {x2 : Int} {s : lf_Z} (hQ : ∀ (z : Bool) (s' : lf_Z), iv_A s'.1 s'.2.2 → lf_fq [31, 33, 35, 36, 37, 38, 39, 40, 41, 42, 43, 44, 45, 46, 47, 48, 49, 50, 51, 52, 53, 54, 55, 56, 57, 58, 59, 60, 61, 62] 1000000 false s.1 s.2.2 s'.1 s'.2.2 → Q z s') {M41 : Nat} (hX41 : ∀ (x2 : Int) (s' : lf_Z), iv_A s'.1 s'.2.2 → lf_fq [31, 33, 35, 36, 37, 38, 39, 40, 41, 42, 43, 44, 45, 46, 47, 48, 49, 50, 51, 52, 53, 54, 55, 56, 57, 58, 59, 60, 61, 62] 1000000 false s.1 s.2.2 s'.1 s'.2.2 → s'.2.2 2 ≠ none → 0 ≤ x2 ∧ x2 ≤ 301 → (301 - x2).toNat < M41 → X41 x2 s') (hM41 : (301 - x2).toNat ≤ M41) (hI : iv_A s.1 s.2.2) (n2 : s.2.2 2 ≠ none) (bx2 : 0 ≤ x2 ∧ x2 ≤ 301) : fm_29_p41 Q X41 x2 s := by
  unfold fm_29_p41
  refine ⟨(show lf_R x2 from lf_Rof (by omega)), ?_⟩
  refine ⟨fun c22 => ?_, fun c22 => ?_⟩
  · skip
    replace c22 : 300 < x2 := c22
    exact sm_29_p72 hQ hI n2
  · skip
    replace c22 : ¬ (300 < x2) := c22
    have b28 : 0 ≤ s.1 31 8 ∧ s.1 31 8 ≤ 300 := iv_r31_8 hI
    refine ⟨(show lf_R (s.1 31 8) from lf_Rof (by omega)), ?_⟩
    refine ⟨fun c29 => ?_, fun c29 => ?_⟩
    · skip
      replace c29 : s.1 31 8 = 0 := c29
      exact sm_29_p72 hQ hI n2
    · skip
      replace c29 : ¬ (s.1 31 8 = 0) := c29
      have b30 : (-2147483648) ≤ s.1 31 2 ∧ s.1 31 2 ≤ 2147483647 := iv_full hI
      refine ⟨(show lf_R (s.1 31 2) from lf_Rof (by omega)), ?_⟩
      refine ⟨fun c31 => ?_, fun c31 => ?_⟩
      · skip
        replace c31 : s.1 31 2 ≠ 0 := c31
        exact sm_29_p72 hQ hI n2
      · skip
        replace c31 : ¬ (s.1 31 2 ≠ 0) := c31
        refine sm_38 hI n2 (fun s28 hI33 fr32 => ?_)
        have fr35 : lf_fq [31, 33, 35, 36, 37, 38, 39, 40, 41, 42, 43, 44, 45, 46, 47, 48, 49, 50, 51, 52, 53, 54, 55, 56, 57, 58, 59, 60, 61, 62] 1000000 false s.1 s.2.2 s28.1 s28.2.2 := lf_fq_tr (lf_fq_rf) (lf_fq_wk fr32 rfl (by decide) (by decide))
        have n36 : s28.2.2 2 ≠ none := lf_fq_n2 fr32 rfl n2
        exact hX41 (x2 + 1) s28 hI33 fr35 n36 (show (0 : Int) ≤ x2 + 1 ∧ x2 + 1 ≤ (301 : Int) from by omega) (show (301 - (x2 + 1)).toNat < M41 from by omega)
theorem sm_29_p41L {Q : Bool → lf_Z → Prop} {x2 : Int} {s : lf_Z} (hQ : ∀ (z : Bool) (s' : lf_Z), iv_A s'.1 s'.2.2 → lf_fq [31, 33, 35, 36, 37, 38, 39, 40, 41, 42, 43, 44, 45, 46, 47, 48, 49, 50, 51, 52, 53, 54, 55, 56, 57, 58, 59, 60, 61, 62] 1000000 false s.1 s.2.2 s'.1 s'.2.2 → Q z s') (hI : iv_A s.1 s.2.2) (n2 : s.2.2 2 ≠ none) (bx2 : 0 ≤ x2 ∧ x2 ≤ 301) : fm_29_p41L Q x2 s := by
  intro X41 hX
  have key : ∀ (m9 : Nat) (x2 : Int) (s' : lf_Z), iv_A s'.1 s'.2.2 → lf_fq [31, 33, 35, 36, 37, 38, 39, 40, 41, 42, 43, 44, 45, 46, 47, 48, 49, 50, 51, 52, 53, 54, 55, 56, 57, 58, 59, 60, 61, 62] 1000000 false s.1 s.2.2 s'.1 s'.2.2 → s'.2.2 2 ≠ none → 0 ≤ x2 ∧ x2 ≤ 301 → (301 - x2).toNat < m9 → X41 x2 s' := by
    intro m9
    induction m9 with
    | zero => intro x2 s' _ _ n2 bx2 h9; exact absurd h9 (Nat.not_lt_zero _)
    | succ m9 ih => intro x2 s' i7 f7 n2 bx2 h9; exact hX _ _ (sm_29_p41 (fun r9 t9 i9 f9 => hQ r9 t9 i9 (lf_fq_tr f7 f9))   (fun x2' t8 i8 f8 n2' bx2' h8 => ih x2' t8 i8 (lf_fq_tr f7 f8) n2' bx2' (by omega)) (Nat.le_refl _)  i7 n2 bx2  )
  exact key _ _ s hI lf_fq_rf n2 bx2 (Nat.lt_succ_self _)
theorem sm_29 {t1 : Nat} {Q : Bool → lf_Z → Prop} {s : lf_Z} (htt1 : t1 < 4) (hI : iv_A s.1 s.2.2) (hQ : ∀ (z : Bool) (s' : lf_Z), iv_A s'.1 s'.2.2 → lf_fq [31, 33, 35, 36, 37, 38, 39, 40, 41, 42, 43, 44, 45, 46, 47, 48, 49, 50, 51, 52, 53, 54, 55, 56, 57, 58, 59, 60, 61, 62] 1000000 false s.1 s.2.2 s'.1 s'.2.2 → Q z s') : fm_29 t1 Q s := by
  unfold fm_29
  have hI1 : iv_A s.1 (lf_ur s.2.2 2 (some t1)) := iv_ut2 hI htt1
  have fr2 : lf_fq [31, 33, 35, 36, 37, 38, 39, 40, 41, 42, 43, 44, 45, 46, 47, 48, 49, 50, 51, 52, 53, 54, 55, 56, 57, 58, 59, 60, 61, 62] 1000000 false s.1 s.2.2 s.1 (lf_ur s.2.2 2 (some t1)) := lf_fq_pp (lf_fq_rf)
  have n3 : (lf_ur s.2.2 2 (some t1)) 2 ≠ none := lf_ur2
  refine ⟨fun et21 => ?_, fun t21 et21 => ?_⟩
  · skip
    exact absurd et21 n3
  · have htt21 : t21 < 4 := iv_t2 hI1 et21
    refine ⟨htt21, ?_⟩
    refine sm_30 htt21 hI1 (fun s22 hI5 fr4 => ?_)
    have fr7 : lf_fq [31, 33, 35, 36, 37, 38, 39, 40, 41, 42, 43, 44, 45, 46, 47, 48, 49, 50, 51, 52, 53, 54, 55, 56, 57, 58, 59, 60, 61, 62] 1000000 false s.1 s.2.2 s22.1 s22.2.2 := lf_fq_tr fr2 (lf_fq_wk fr4 rfl (by decide) (by decide))
    have n8 : s22.2.2 2 ≠ none := lf_fq_n2 fr4 rfl n3
    have hI9 : iv_A (lf_up s22.1 31 2 0) s22.2.2 := iv_w31_2 hI5 (by omega)
    have fr10 : lf_fq [31, 33, 35, 36, 37, 38, 39, 40, 41, 42, 43, 44, 45, 46, 47, 48, 49, 50, 51, 52, 53, 54, 55, 56, 57, 58, 59, 60, 61, 62] 1000000 false s.1 s.2.2 (lf_up s22.1 31 2 0) s22.2.2 := lf_fq_up fr7 rfl (fun h => absurd h (by decide))
    have hI11 : iv_A (lf_up (lf_up s22.1 31 2 0) 31 3 (-1)) s22.2.2 := iv_w31_3 hI9 (by omega)
    have fr12 : lf_fq [31, 33, 35, 36, 37, 38, 39, 40, 41, 42, 43, 44, 45, 46, 47, 48, 49, 50, 51, 52, 53, 54, 55, 56, 57, 58, 59, 60, 61, 62] 1000000 false s.1 s.2.2 (lf_up (lf_up s22.1 31 2 0) 31 3 (-1)) s22.2.2 := lf_fq_up fr10 rfl (fun h => absurd h (by decide))
    have hI13 : iv_A (lf_fl (lf_up (lf_up s22.1 31 2 0) 31 3 (-1)) 33 26 (-1)) s22.2.2 := iv_fl33 hI11 (by omega)
    have fr14 : lf_fq [31, 33, 35, 36, 37, 38, 39, 40, 41, 42, 43, 44, 45, 46, 47, 48, 49, 50, 51, 52, 53, 54, 55, 56, 57, 58, 59, 60, 61, 62] 1000000 false s.1 s.2.2 (lf_fl (lf_up (lf_up s22.1 31 2 0) 31 3 (-1)) 33 26 (-1)) s22.2.2 := lf_fq_fl fr12 rfl (by decide)
    have hI15 : iv_A (lf_up (lf_fl (lf_up (lf_up s22.1 31 2 0) 31 3 (-1)) 33 26 (-1)) 31 7 0) s22.2.2 := iv_w31_7 hI13 (by omega)
    have fr16 : lf_fq [31, 33, 35, 36, 37, 38, 39, 40, 41, 42, 43, 44, 45, 46, 47, 48, 49, 50, 51, 52, 53, 54, 55, 56, 57, 58, 59, 60, 61, 62] 1000000 false s.1 s.2.2 (lf_up (lf_fl (lf_up (lf_up s22.1 31 2 0) 31 3 (-1)) 33 26 (-1)) 31 7 0) s22.2.2 := lf_fq_up fr14 rfl (fun h => absurd h (by decide))
    refine sm_31 hI15 (fun s23 hI18 fr17 => ?_)
    have fr20 : lf_fq [31, 33, 35, 36, 37, 38, 39, 40, 41, 42, 43, 44, 45, 46, 47, 48, 49, 50, 51, 52, 53, 54, 55, 56, 57, 58, 59, 60, 61, 62] 1000000 false s.1 s.2.2 s23.1 s23.2.2 := lf_fq_tr fr16 (lf_fq_wk fr17 rfl (by decide) (by decide))
    have n21 : s23.2.2 2 ≠ none := lf_fq_n2 fr17 rfl n8
    exact sm_29_p41L (fun r9 t9 i9 f9 => hQ r9 t9 i9 (lf_fq_tr fr20 f9)) hI18 n21 (show (0 : Int) ≤ 0 ∧ 0 ≤ (301 : Int) from by omega)
-- fm_28 ElevenBullocks.text 0
theorem sm_28 {Q : Int → lf_Z → Prop} {s : lf_Z} (hI : iv_A s.1 s.2.2) (hQ : ∀ (r : Int) (s' : lf_Z), iv_A s'.1 s'.2.2 → lf_fq [0, 31, 33, 35, 36, 37, 38, 39, 40, 41, 42, 43, 44, 45, 46, 47, 48, 49, 50, 51, 52, 53, 54, 55, 56, 57, 58, 59, 60, 61, 62] 1000000 false s.1 s.2.2 s'.1 s'.2.2 → ((-1) ≤ r ∧ r ≤ 3) → Q r s') : fm_28 Q s := by
  unfold fm_28
  have b1 : 0 ≤ s.1 0 11 ∧ s.1 0 11 ≤ 4 := iv_r0_11 hI
  refine ⟨(show lf_R (s.1 0 11) from lf_Rof (by omega)), ?_⟩
  refine ⟨fun c2 => ?_, fun c2 => ?_⟩
  · skip
    replace c2 : s.1 0 11 < 4 := c2
    refine ⟨(show (0 : Int) ≤ s.1 0 11 ∧ s.1 0 11 < (4 : Int) from by omega), ?_⟩
    intro t23 et23
    have htt23 : t23 < 4 := by have e9 : t23 = (s.1 0 11).toNat := et23; omega
    refine sm_29 htt23 hI (fun z25 s24 hI4 fr3 => ?_)
    have fr6 : lf_fq [0, 31, 33, 35, 36, 37, 38, 39, 40, 41, 42, 43, 44, 45, 46, 47, 48, 49, 50, 51, 52, 53, 54, 55, 56, 57, 58, 59, 60, 61, 62] 1000000 false s.1 s.2.2 s24.1 s24.2.2 := lf_fq_tr (lf_fq_rf) (lf_fq_wk fr3 rfl (by decide) (by decide))
    refine ⟨fun c7 => ?_, fun c7 => ?_⟩
    · skip
      have b8 : 0 ≤ s24.1 0 11 ∧ s24.1 0 11 ≤ 4 := iv_r0_11 hI4
      have b9 : s24.1 0 11 = s.1 0 11 := congrFun (fr3.1 0 rfl) _
      have hI10 : iv_A (lf_up s24.1 0 11 ((s24.1 0 11) + 1)) s24.2.2 := iv_w0_11 hI4 (by omega)
      have fr11 : lf_fq [0, 31, 33, 35, 36, 37, 38, 39, 40, 41, 42, 43, 44, 45, 46, 47, 48, 49, 50, 51, 52, 53, 54, 55, 56, 57, 58, 59, 60, 61, 62] 1000000 false s.1 s.2.2 (lf_up s24.1 0 11 ((s24.1 0 11) + 1)) s24.2.2 := lf_fq_up fr6 rfl (fun h => absurd h (by decide))
      exact hQ (((s24.1 0 11) + 1) - 1) (lf_up s24.1 0 11 ((s24.1 0 11) + 1), s24.2.1, s24.2.2) hI10 fr11 (show (-1 : Int) ≤ ((s24.1 0 11) + 1) - 1 ∧ ((s24.1 0 11) + 1) - 1 ≤ (3 : Int) from by omega)
    · skip
      exact hQ (-1) s24 hI4 fr6 (show (-1 : Int) ≤ (-1) ∧ (-1) ≤ (3 : Int) from by omega)
  · skip
    replace c2 : ¬ (s.1 0 11 < 4) := c2
    exact hQ (-1) s hI (lf_fq_rf) (show (-1 : Int) ≤ (-1) ∧ (-1) ≤ (3 : Int) from by omega)
-- fm_198 Model.byteAt 95 i
theorem sm_198 {a1 : Int} {Q : Int → lf_Z → Prop} {s : lf_Z} (hI : iv_A s.1 s.2.2) (ba1 : 0 ≤ a1 ∧ a1 ≤ 300) (hQ : ∀ (r : Int), (((-1) ≤ r ∧ r ≤ 255) ∧ ((r = -1 ∧ s.1 95 4 ≤ a1) ∨ (a1 < s.1 95 4 ∧ r = s.1 99 a1))) → Q r s) : fm_198 a1 Q s := by
  unfold fm_198
  have b1 : 0 ≤ s.1 95 4 ∧ s.1 95 4 ≤ 300 := iv_r95_4 hI
  refine ⟨(show lf_R a1 from lf_Rof (by omega)), ?_⟩
  refine ⟨(show lf_R (s.1 95 4) from lf_Rof (by omega)), ?_⟩
  refine ⟨fun c2 => ?_, fun c2 => ?_⟩
  · skip
    replace c2 : s.1 95 4 ≤ a1 := c2
    exact hQ (-1) ⟨(show (-1 : Int) ≤ (-1) ∧ (-1) ≤ (255 : Int) from by omega), (show ((-1) = -1 ∧ s.1 95 4 ≤ a1) ∨ (a1 < s.1 95 4 ∧ (-1) = s.1 99 a1) from by omega)⟩
  · skip
    replace c2 : ¬ (s.1 95 4 ≤ a1) := c2
    refine ⟨(show (0 : Int) ≤ a1 ∧ a1 < (300 : Int) from by omega), ?_⟩
    have b3 : 0 ≤ s.1 99 a1 ∧ s.1 99 a1 ≤ 255 := iv_r99 hI _
    exact hQ (s.1 99 a1) ⟨(show (-1 : Int) ≤ s.1 99 a1 ∧ s.1 99 a1 ≤ (255 : Int) from by omega), (show (s.1 99 a1 = -1 ∧ s.1 95 4 ≤ a1) ∨ (a1 < s.1 95 4 ∧ s.1 99 a1 = s.1 99 a1) from by omega)⟩
-- fm_199 Model.isFigure i
theorem sm_199 {a0 : Int} {Q : Bool → lf_Z → Prop} {s : lf_Z} (hI : iv_A s.1 s.2.2) (ba0 : (-1) ≤ a0 ∧ a0 ≤ 255) (hQ : ∀ (z : Bool), ((z = true → (48 ≤ a0 ∧ a0 ≤ 57)) ∧ (z = false → ¬ (48 ≤ a0 ∧ a0 ≤ 57))) → Q z s) : fm_199 a0 Q s := by
  unfold fm_199
  refine ⟨(show lf_R a0 from lf_Rof (by omega)), ?_⟩
  refine ⟨fun c1 => ?_, fun c1 => ?_⟩
  · skip
    replace c1 : a0 < 48 := c1
    exact hQ false (lf_pf (by omega))
  · skip
    replace c1 : ¬ (a0 < 48) := c1
    refine ⟨fun c2 => ?_, fun c2 => ?_⟩
    · skip
      replace c2 : 57 < a0 := c2
      exact hQ false (lf_pf (by omega))
    · skip
      replace c2 : ¬ (57 < a0) := c2
      exact hQ true (lf_pt (by omega))
-- fm_200 Model.isLetterByte i
theorem sm_200_p12 {Q : Bool → lf_Z → Prop} {x0 : Int} {s : lf_Z} (hQ : ∀ (z : Bool), ((z = true → ((97 ≤ x0 ∧ x0 ≤ 122) ∨ 65 ≤ x0 ∧ x0 ≤ 90)) ∧ (z = false → ¬ ((97 ≤ x0 ∧ x0 ≤ 122) ∨ 65 ≤ x0 ∧ x0 ≤ 90))) → Q z s) (hI : iv_A s.1 s.2.2) (bx0 : (-1) ≤ x0 ∧ x0 ≤ 255) (kv0 : x0 < 97 ∨ 122 < x0) : fm_200_p12 Q x0 s := by
  unfold fm_200_p12
  refine ⟨(show lf_R x0 from lf_Rof (by omega)), ?_⟩
  refine ⟨fun c2 => ?_, fun c2 => ?_⟩
  · skip
    replace c2 : x0 < 65 := c2
    exact hQ false (lf_pf (by omega))
  · skip
    replace c2 : ¬ (x0 < 65) := c2
    refine ⟨fun c3 => ?_, fun c3 => ?_⟩
    · skip
      replace c3 : 90 < x0 := c3
      exact hQ false (lf_pf (by omega))
    · skip
      replace c3 : ¬ (90 < x0) := c3
      exact hQ true (lf_pt (by omega))
theorem sm_200 {a0 : Int} {Q : Bool → lf_Z → Prop} {s : lf_Z} (hI : iv_A s.1 s.2.2) (ba0 : (-1) ≤ a0 ∧ a0 ≤ 255) (hQ : ∀ (z : Bool), ((z = true → ((97 ≤ a0 ∧ a0 ≤ 122) ∨ 65 ≤ a0 ∧ a0 ≤ 90)) ∧ (z = false → ¬ ((97 ≤ a0 ∧ a0 ≤ 122) ∨ 65 ≤ a0 ∧ a0 ≤ 90))) → Q z s) : fm_200 a0 Q s := by
  unfold fm_200
  refine ⟨(show lf_R a0 from lf_Rof (by omega)), ?_⟩
  refine ⟨fun c1 => ?_, fun c1 => ?_⟩
  · skip
    replace c1 : a0 < 97 := c1
    exact sm_200_p12 hQ hI (show (-1 : Int) ≤ a0 ∧ a0 ≤ (255 : Int) from by omega) (show a0 < 97 ∨ 122 < a0 from by omega)
  · skip
    replace c1 : ¬ (a0 < 97) := c1
    refine ⟨fun c4 => ?_, fun c4 => ?_⟩
    · skip
      replace c4 : a0 ≤ 122 := c4
      exact hQ true (lf_pt (by omega))
    · skip
      replace c4 : ¬ (a0 ≤ 122) := c4
      exact sm_200_p12 hQ hI (show (-1 : Int) ≤ a0 ∧ a0 ≤ (255 : Int) from by omega) (show a0 < 97 ∨ 122 < a0 from by omega)
-- fm_201 Model.isSign i
theorem sm_201 {a0 : Int} {Q : Bool → lf_Z → Prop} {s : lf_Z} (hI : iv_A s.1 s.2.2) (ba0 : 0 ≤ a0 ∧ a0 ≤ 255) (hQ : ∀ (z : Bool), Q z s) : fm_201 a0 Q s := by
  unfold fm_201
  refine ⟨(show lf_R a0 from lf_Rof (by omega)), ?_⟩
  refine ⟨fun c1 => ?_, fun c1 => ?_, fun c1 => ?_, fun c1 => ?_, fun c1 => ?_, fun c1 => ?_, fun c1 => ?_, fun c1 => ?_, fun c1 => ?_, fun c1 => ?_, fun c1 => ?_, fun c1 => ?_, fun c1 => ?_, fun c1 => ?_, fun c1 => ?_, fun c1 => ?_, fun c1 => ?_, fun c1 => ?_, fun c1 => ?_, fun c1 => ?_, fun c1 => ?_, fun c1 => ?_, fun c1 => ?_, fun c1 => ?_, fun c1 => ?_, fun c1 => ?_, fun c1 => ?_, fun c1 => ?_, fun c1 => ?_⟩
  · replace c1 : a0 < 35 ∨ 62 < a0 := c1
    exact hQ false
  · replace c1 : a0 = 35 := c1
    exact hQ true
  · replace c1 : a0 = 36 := c1
    exact hQ false
  · replace c1 : a0 = 37 := c1
    exact hQ false
  · replace c1 : a0 = 38 := c1
    exact hQ false
  · replace c1 : a0 = 39 := c1
    exact hQ false
  · replace c1 : a0 = 40 := c1
    exact hQ true
  · replace c1 : a0 = 41 := c1
    exact hQ true
  · replace c1 : a0 = 42 := c1
    exact hQ true
  · replace c1 : a0 = 43 := c1
    exact hQ true
  · replace c1 : a0 = 44 := c1
    exact hQ false
  · replace c1 : a0 = 45 := c1
    exact hQ true
  · replace c1 : a0 = 46 := c1
    exact hQ false
  · replace c1 : a0 = 47 := c1
    exact hQ true
  · replace c1 : a0 = 48 := c1
    exact hQ false
  · replace c1 : a0 = 49 := c1
    exact hQ false
  · replace c1 : a0 = 50 := c1
    exact hQ false
  · replace c1 : a0 = 51 := c1
    exact hQ false
  · replace c1 : a0 = 52 := c1
    exact hQ false
  · replace c1 : a0 = 53 := c1
    exact hQ false
  · replace c1 : a0 = 54 := c1
    exact hQ false
  · replace c1 : a0 = 55 := c1
    exact hQ false
  · replace c1 : a0 = 56 := c1
    exact hQ false
  · replace c1 : a0 = 57 := c1
    exact hQ false
  · replace c1 : a0 = 58 := c1
    exact hQ false
  · replace c1 : a0 = 59 := c1
    exact hQ true
  · replace c1 : a0 = 60 := c1
    exact hQ true
  · replace c1 : a0 = 61 := c1
    exact hQ true
  · replace c1 : a0 = 62 := c1
    exact hQ true
-- fm_197 Model.nextToken 95
theorem sm_197_p26 {X0 : lf_Z → Prop} {Q : lf_Z → Prop} {s : lf_Z} {s0 : lf_Z} (hQ : ∀  (s' : lf_Z), iv_A s'.1 s'.2.2 → lf_fq [95] 1000000 true s.1 s.2.2 s'.1 s'.2.2 → (s0.1 95 7 ≤ s'.1 95 8 ∧ (s'.1 95 9 = 0 ∨ s'.1 95 8 < s'.1 95 7)) → (s'.1 95 12 = s0.1 95 12 ∧ s'.1 95 13 = s0.1 95 13 ∧ s'.1 95 19 = s0.1 95 19 ∧ s'.1 95 20 = s0.1 95 20 ∧ s'.1 95 21 = s0.1 95 21 ∧ s'.1 95 22 = s0.1 95 22 ∧ s'.1 95 23 = s0.1 95 23) → Q  s') {M0 : Nat} (hX0 : ∀ (s' : lf_Z), iv_A s'.1 s'.2.2 → lf_fq [95] 1000000 true s.1 s.2.2 s'.1 s'.2.2 → (s0.1 95 7 ≤ s'.1 95 7) → (s'.1 95 12 = s0.1 95 12 ∧ s'.1 95 13 = s0.1 95 13 ∧ s'.1 95 19 = s0.1 95 19 ∧ s'.1 95 20 = s0.1 95 20 ∧ s'.1 95 21 = s0.1 95 21 ∧ s'.1 95 22 = s0.1 95 22 ∧ s'.1 95 23 = s0.1 95 23) → (300 - s'.1 95 7).toNat < M0 → X0 s') (hM0 : (300 - s.1 95 7).toNat ≤ M0) (hI : iv_A s.1 s.2.2) (kv0 : s.1 95 7 < 300) (kv1 : s0.1 95 7 ≤ s.1 95 7) (kv2 : s.1 95 12 = s0.1 95 12 ∧ s.1 95 13 = s0.1 95 13 ∧ s.1 95 19 = s0.1 95 19 ∧ s.1 95 20 = s0.1 95 20 ∧ s.1 95 21 = s0.1 95 21 ∧ s.1 95 22 = s0.1 95 22 ∧ s.1 95 23 = s0.1 95 23) : fm_197_p26 X0 Q s := by
  unfold fm_197_p26
  have b20 : 0 ≤ s.1 95 7 ∧ s.1 95 7 ≤ 300 := iv_r95_7 hI
  have hI21 : iv_A (lf_up s.1 95 7 ((s.1 95 7) + 1)) s.2.2 := iv_w95_7 hI (by omega)
  have fr22 : lf_fq [95] 1000000 true s.1 s.2.2 (lf_up s.1 95 7 ((s.1 95 7) + 1)) s.2.2 := lf_fq_up (lf_fq_rf) rfl (fun h => absurd h (by decide))
  have b23 : 0 ≤ s.1 95 12 ∧ s.1 95 12 ≤ 2115 := (show 0 ≤ (lf_up s.1 95 7 ((s.1 95 7) + 1)) 95 12 ∧ (lf_up s.1 95 7 ((s.1 95 7) + 1)) 95 12 ≤ 2115 from iv_r95_12 hI21)
  have b24 : (lf_up s.1 95 7 ((s.1 95 7) + 1)) 95 12 = s.1 95 12 := lf_up_i (by omega)
  have b25 : 0 ≤ s.1 95 13 ∧ s.1 95 13 ≤ 304 := (show 0 ≤ (lf_up s.1 95 7 ((s.1 95 7) + 1)) 95 13 ∧ (lf_up s.1 95 7 ((s.1 95 7) + 1)) 95 13 ≤ 304 from iv_r95_13 hI21)
  have b26 : (lf_up s.1 95 7 ((s.1 95 7) + 1)) 95 13 = s.1 95 13 := lf_up_i (by omega)
  have b27 : 0 ≤ s.1 95 19 ∧ s.1 95 19 ≤ 160 := (show 0 ≤ (lf_up s.1 95 7 ((s.1 95 7) + 1)) 95 19 ∧ (lf_up s.1 95 7 ((s.1 95 7) + 1)) 95 19 ≤ 160 from iv_r95_19 hI21)
  have b28 : (lf_up s.1 95 7 ((s.1 95 7) + 1)) 95 19 = s.1 95 19 := lf_up_i (by omega)
  have b29 : 0 ≤ s.1 95 20 ∧ s.1 95 20 ≤ 8 := (show 0 ≤ (lf_up s.1 95 7 ((s.1 95 7) + 1)) 95 20 ∧ (lf_up s.1 95 7 ((s.1 95 7) + 1)) 95 20 ≤ 8 from iv_r95_20 hI21)
  have b30 : (lf_up s.1 95 7 ((s.1 95 7) + 1)) 95 20 = s.1 95 20 := lf_up_i (by omega)
  have b31 : 0 ≤ s.1 95 21 ∧ s.1 95 21 ≤ 8 := (show 0 ≤ (lf_up s.1 95 7 ((s.1 95 7) + 1)) 95 21 ∧ (lf_up s.1 95 7 ((s.1 95 7) + 1)) 95 21 ≤ 8 from iv_r95_21 hI21)
  have b32 : (lf_up s.1 95 7 ((s.1 95 7) + 1)) 95 21 = s.1 95 21 := lf_up_i (by omega)
  have b33 : 0 ≤ s.1 95 22 ∧ s.1 95 22 ≤ 80 := (show 0 ≤ (lf_up s.1 95 7 ((s.1 95 7) + 1)) 95 22 ∧ (lf_up s.1 95 7 ((s.1 95 7) + 1)) 95 22 ≤ 80 from iv_r95_22 hI21)
  have b34 : (lf_up s.1 95 7 ((s.1 95 7) + 1)) 95 22 = s.1 95 22 := lf_up_i (by omega)
  have b35 : 0 ≤ s.1 95 23 ∧ s.1 95 23 ≤ 1 := (show 0 ≤ (lf_up s.1 95 7 ((s.1 95 7) + 1)) 95 23 ∧ (lf_up s.1 95 7 ((s.1 95 7) + 1)) 95 23 ≤ 1 from iv_r95_23 hI21)
  have b36 : (lf_up s.1 95 7 ((s.1 95 7) + 1)) 95 23 = s.1 95 23 := lf_up_i (by omega)
  exact hX0  (lf_up s.1 95 7 ((s.1 95 7) + 1), s.2.1, s.2.2) hI21 fr22 (show s0.1 95 7 ≤ ((s.1 95 7) + 1) from by omega) (show (s.1 95 12) = s0.1 95 12 ∧ (s.1 95 13) = s0.1 95 13 ∧ (s.1 95 19) = s0.1 95 19 ∧ (s.1 95 20) = s0.1 95 20 ∧ (s.1 95 21) = s0.1 95 21 ∧ (s.1 95 22) = s0.1 95 22 ∧ (s.1 95 23) = s0.1 95 23 from by omega) (show (300 - ((s.1 95 7) + 1)).toNat < M0 from by omega)
theorem sm_197_p297 {Q : lf_Z → Prop} {y1 : Int} {s : lf_Z} {s0 : lf_Z} (hQ : ∀  (s' : lf_Z), iv_A s'.1 s'.2.2 → lf_fq [95] 1000000 true s.1 s.2.2 s'.1 s'.2.2 → (s0.1 95 7 ≤ s'.1 95 8 ∧ (s'.1 95 9 = 0 ∨ s'.1 95 8 < s'.1 95 7)) → (s'.1 95 12 = s0.1 95 12 ∧ s'.1 95 13 = s0.1 95 13 ∧ s'.1 95 19 = s0.1 95 19 ∧ s'.1 95 20 = s0.1 95 20 ∧ s'.1 95 21 = s0.1 95 21 ∧ s'.1 95 22 = s0.1 95 22 ∧ s'.1 95 23 = s0.1 95 23) → Q  s') (hI : iv_A s.1 s.2.2) (by1 : 4 ≤ y1 ∧ y1 ≤ 5) (kv0 : s.1 95 7 < 300) (kv1 : s0.1 95 7 ≤ s.1 95 8 ∧ s.1 95 8 < s.1 95 7) (kv2 : s.1 95 12 = s0.1 95 12 ∧ s.1 95 13 = s0.1 95 13 ∧ s.1 95 19 = s0.1 95 19 ∧ s.1 95 20 = s0.1 95 20 ∧ s.1 95 21 = s0.1 95 21 ∧ s.1 95 22 = s0.1 95 22 ∧ s.1 95 23 = s0.1 95 23) : fm_197_p297 Q y1 s := by
  unfold fm_197_p297
  have hI111 : iv_A (lf_up s.1 95 9 y1) s.2.2 := iv_w95_9 hI (by omega)
  have fr112 : lf_fq [95] 1000000 true s.1 s.2.2 (lf_up s.1 95 9 y1) s.2.2 := lf_fq_up (lf_fq_rf) rfl (fun h => absurd h (by decide))
  have b113 : 0 ≤ s.1 95 7 ∧ s.1 95 7 ≤ 300 := (show 0 ≤ (lf_up s.1 95 9 y1) 95 7 ∧ (lf_up s.1 95 9 y1) 95 7 ≤ 300 from iv_r95_7 hI111)
  have b114 : (lf_up s.1 95 9 y1) 95 7 = s.1 95 7 := lf_up_i (by omega)
  have hI115 : iv_A (lf_up (lf_up s.1 95 9 y1) 95 7 ((s.1 95 7) + 1)) s.2.2 := iv_w95_7 hI111 (by omega)
  have fr116 : lf_fq [95] 1000000 true s.1 s.2.2 (lf_up (lf_up s.1 95 9 y1) 95 7 ((s.1 95 7) + 1)) s.2.2 := lf_fq_up fr112 rfl (fun h => absurd h (by decide))
  exact hQ (lf_up (lf_up s.1 95 9 y1) 95 7 ((s.1 95 7) + 1), s.2.1, s.2.2) hI115 fr116 (show s0.1 95 7 ≤ (s.1 95 8) ∧ (y1 = 0 ∨ (s.1 95 8) < ((s.1 95 7) + 1)) from by omega) (show (s.1 95 12) = s0.1 95 12 ∧ (s.1 95 13) = s0.1 95 13 ∧ (s.1 95 19) = s0.1 95 19 ∧ (s.1 95 20) = s0.1 95 20 ∧ (s.1 95 21) = s0.1 95 21 ∧ (s.1 95 22) = s0.1 95 22 ∧ (s.1 95 23) = s0.1 95 23 from by omega)
theorem sm_197_p272 {Q : lf_Z → Prop} {x1 : Int} {s : lf_Z} {s0 : lf_Z} (hQ : ∀  (s' : lf_Z), iv_A s'.1 s'.2.2 → lf_fq [95] 1000000 true s.1 s.2.2 s'.1 s'.2.2 → (s0.1 95 7 ≤ s'.1 95 8 ∧ (s'.1 95 9 = 0 ∨ s'.1 95 8 < s'.1 95 7)) → (s'.1 95 12 = s0.1 95 12 ∧ s'.1 95 13 = s0.1 95 13 ∧ s'.1 95 19 = s0.1 95 19 ∧ s'.1 95 20 = s0.1 95 20 ∧ s'.1 95 21 = s0.1 95 21 ∧ s'.1 95 22 = s0.1 95 22 ∧ s'.1 95 23 = s0.1 95 23) → Q  s') (hI : iv_A s.1 s.2.2) (bx1 : 60 ≤ x1 ∧ x1 ≤ 62) (kv0 : s0.1 95 7 ≤ s.1 95 8 ∧ s.1 95 8 < s.1 95 7) (kv1 : s.1 95 12 = s0.1 95 12 ∧ s.1 95 13 = s0.1 95 13 ∧ s.1 95 19 = s0.1 95 19 ∧ s.1 95 20 = s0.1 95 20 ∧ s.1 95 21 = s0.1 95 21 ∧ s.1 95 22 = s0.1 95 22 ∧ s.1 95 23 = s0.1 95 23) : fm_197_p272 Q x1 s := by
  unfold fm_197_p272
  have b98 : 0 ≤ s.1 95 7 ∧ s.1 95 7 ≤ 300 := iv_r95_7 hI
  refine sm_198 hI (show (0 : Int) ≤ s.1 95 7 ∧ s.1 95 7 ≤ (300 : Int) from by omega) (fun r38 q99 => ?_)
  obtain ⟨q99, q99x⟩ := q99
  have b100 : 0 ≤ s.1 95 4 ∧ s.1 95 4 ≤ 300 := iv_r95_4 hI
  replace q99x : (r38 = -1 ∧ s.1 95 4 ≤ (s.1 95 7)) ∨ ((s.1 95 7) < s.1 95 4 ∧ r38 = s.1 99 (s.1 95 7)) := q99x
  refine ⟨(show lf_R r38 from lf_Rof (by omega)), ?_⟩
  refine ⟨fun c101 => ?_, fun c101 => ?_⟩
  · skip
    replace c101 : r38 ≠ 61 := c101
    exact hQ s hI (lf_fq_rf) (show s0.1 95 7 ≤ (s.1 95 8) ∧ ((s.1 95 9) = 0 ∨ (s.1 95 8) < (s.1 95 7)) from by omega) (show (s.1 95 12) = s0.1 95 12 ∧ (s.1 95 13) = s0.1 95 13 ∧ (s.1 95 19) = s0.1 95 19 ∧ (s.1 95 20) = s0.1 95 20 ∧ (s.1 95 21) = s0.1 95 21 ∧ (s.1 95 22) = s0.1 95 22 ∧ (s.1 95 23) = s0.1 95 23 from by omega)
  · skip
    replace c101 : ¬ (r38 ≠ 61) := c101
    refine ⟨(show lf_R x1 from lf_Rof (by omega)), ?_⟩
    refine ⟨fun c102 => ?_, fun c102 => ?_⟩
    · skip
      replace c102 : x1 ≠ 60 := c102
      have b103 : 0 ≤ s.1 95 8 ∧ s.1 95 8 ≤ 300 := iv_r95_8 hI
      have b104 : 0 ≤ s.1 95 12 ∧ s.1 95 12 ≤ 2115 := iv_r95_12 hI
      have b105 : 0 ≤ s.1 95 13 ∧ s.1 95 13 ≤ 304 := iv_r95_13 hI
      have b106 : 0 ≤ s.1 95 19 ∧ s.1 95 19 ≤ 160 := iv_r95_19 hI
      have b107 : 0 ≤ s.1 95 20 ∧ s.1 95 20 ≤ 8 := iv_r95_20 hI
      have b108 : 0 ≤ s.1 95 21 ∧ s.1 95 21 ≤ 8 := iv_r95_21 hI
      have b109 : 0 ≤ s.1 95 22 ∧ s.1 95 22 ≤ 80 := iv_r95_22 hI
      have b110 : 0 ≤ s.1 95 23 ∧ s.1 95 23 ≤ 1 := iv_r95_23 hI
      exact sm_197_p297 (s0 := s0) hQ hI (show (4 : Int) ≤ 5 ∧ 5 ≤ (5 : Int) from by omega) (show (s.1 95 7) < 300 from by omega) (show s0.1 95 7 ≤ (s.1 95 8) ∧ (s.1 95 8) < (s.1 95 7) from by omega) (show (s.1 95 12) = s0.1 95 12 ∧ (s.1 95 13) = s0.1 95 13 ∧ (s.1 95 19) = s0.1 95 19 ∧ (s.1 95 20) = s0.1 95 20 ∧ (s.1 95 21) = s0.1 95 21 ∧ (s.1 95 22) = s0.1 95 22 ∧ (s.1 95 23) = s0.1 95 23 from by omega)
    · skip
      replace c102 : ¬ (x1 ≠ 60) := c102
      have b117 : 0 ≤ s.1 95 8 ∧ s.1 95 8 ≤ 300 := iv_r95_8 hI
      have b118 : 0 ≤ s.1 95 12 ∧ s.1 95 12 ≤ 2115 := iv_r95_12 hI
      have b119 : 0 ≤ s.1 95 13 ∧ s.1 95 13 ≤ 304 := iv_r95_13 hI
      have b120 : 0 ≤ s.1 95 19 ∧ s.1 95 19 ≤ 160 := iv_r95_19 hI
      have b121 : 0 ≤ s.1 95 20 ∧ s.1 95 20 ≤ 8 := iv_r95_20 hI
      have b122 : 0 ≤ s.1 95 21 ∧ s.1 95 21 ≤ 8 := iv_r95_21 hI
      have b123 : 0 ≤ s.1 95 22 ∧ s.1 95 22 ≤ 80 := iv_r95_22 hI
      have b124 : 0 ≤ s.1 95 23 ∧ s.1 95 23 ≤ 1 := iv_r95_23 hI
      exact sm_197_p297 (s0 := s0) hQ hI (show (4 : Int) ≤ 4 ∧ 4 ≤ (5 : Int) from by omega) (show (s.1 95 7) < 300 from by omega) (show s0.1 95 7 ≤ (s.1 95 8) ∧ (s.1 95 8) < (s.1 95 7) from by omega) (show (s.1 95 12) = s0.1 95 12 ∧ (s.1 95 13) = s0.1 95 13 ∧ (s.1 95 19) = s0.1 95 19 ∧ (s.1 95 20) = s0.1 95 20 ∧ (s.1 95 21) = s0.1 95 21 ∧ (s.1 95 22) = s0.1 95 22 ∧ (s.1 95 23) = s0.1 95 23 from by omega)
theorem sm_197_p247 {Q : lf_Z → Prop} {x1 : Int} {y1 : Int} {s : lf_Z} {s0 : lf_Z} (hQ : ∀  (s' : lf_Z), iv_A s'.1 s'.2.2 → lf_fq [95] 1000000 true s.1 s.2.2 s'.1 s'.2.2 → (s0.1 95 7 ≤ s'.1 95 8 ∧ (s'.1 95 9 = 0 ∨ s'.1 95 8 < s'.1 95 7)) → (s'.1 95 12 = s0.1 95 12 ∧ s'.1 95 13 = s0.1 95 13 ∧ s'.1 95 19 = s0.1 95 19 ∧ s'.1 95 20 = s0.1 95 20 ∧ s'.1 95 21 = s0.1 95 21 ∧ s'.1 95 22 = s0.1 95 22 ∧ s'.1 95 23 = s0.1 95 23) → Q  s') (hI : iv_A s.1 s.2.2) (bx1 : 0 ≤ x1 ∧ x1 ≤ 255) (by1 : 0 ≤ y1 ∧ y1 ≤ 255) (kv0 : s.1 95 7 < 300) (kv1 : s0.1 95 7 ≤ s.1 95 8 ∧ s.1 95 8 ≤ s.1 95 7) (kv2 : s.1 95 12 = s0.1 95 12 ∧ s.1 95 13 = s0.1 95 13 ∧ s.1 95 19 = s0.1 95 19 ∧ s.1 95 20 = s0.1 95 20 ∧ s.1 95 21 = s0.1 95 21 ∧ s.1 95 22 = s0.1 95 22 ∧ s.1 95 23 = s0.1 95 23) : fm_197_p247 Q x1 y1 s := by
  unfold fm_197_p247
  have hI67 : iv_A (lf_up s.1 95 9 y1) s.2.2 := iv_w95_9 hI (by omega)
  have fr68 : lf_fq [95] 1000000 true s.1 s.2.2 (lf_up s.1 95 9 y1) s.2.2 := lf_fq_up (lf_fq_rf) rfl (fun h => absurd h (by decide))
  have b69 : 0 ≤ s.1 95 7 ∧ s.1 95 7 ≤ 300 := (show 0 ≤ (lf_up s.1 95 9 y1) 95 7 ∧ (lf_up s.1 95 9 y1) 95 7 ≤ 300 from iv_r95_7 hI67)
  have b70 : (lf_up s.1 95 9 y1) 95 7 = s.1 95 7 := lf_up_i (by omega)
  have hI71 : iv_A (lf_up (lf_up s.1 95 9 y1) 95 7 ((s.1 95 7) + 1)) s.2.2 := iv_w95_7 hI67 (by omega)
  have fr72 : lf_fq [95] 1000000 true s.1 s.2.2 (lf_up (lf_up s.1 95 9 y1) 95 7 ((s.1 95 7) + 1)) s.2.2 := lf_fq_up fr68 rfl (fun h => absurd h (by decide))
  refine ⟨(show lf_R x1 from lf_Rof (by omega)), ?_⟩
  refine ⟨fun c73 => ?_, fun c73 => ?_⟩
  · skip
    replace c73 : x1 = 60 := c73
    have b74 : 0 ≤ s.1 95 8 ∧ s.1 95 8 ≤ 300 := (show 0 ≤ (lf_up (lf_up s.1 95 9 y1) 95 7 ((s.1 95 7) + 1)) 95 8 ∧ (lf_up (lf_up s.1 95 9 y1) 95 7 ((s.1 95 7) + 1)) 95 8 ≤ 300 from iv_r95_8 hI71)
    have b75 : (lf_up (lf_up s.1 95 9 y1) 95 7 ((s.1 95 7) + 1)) 95 8 = (lf_up s.1 95 9 y1) 95 8 := lf_up_i (by omega)
    have b76 : (lf_up s.1 95 9 y1) 95 8 = s.1 95 8 := lf_up_i (by omega)
    have b77 : 0 ≤ s.1 95 12 ∧ s.1 95 12 ≤ 2115 := (show 0 ≤ (lf_up (lf_up s.1 95 9 y1) 95 7 ((s.1 95 7) + 1)) 95 12 ∧ (lf_up (lf_up s.1 95 9 y1) 95 7 ((s.1 95 7) + 1)) 95 12 ≤ 2115 from iv_r95_12 hI71)
    have b78 : (lf_up (lf_up s.1 95 9 y1) 95 7 ((s.1 95 7) + 1)) 95 12 = (lf_up s.1 95 9 y1) 95 12 := lf_up_i (by omega)
    have b79 : (lf_up s.1 95 9 y1) 95 12 = s.1 95 12 := lf_up_i (by omega)
    have b80 : 0 ≤ s.1 95 13 ∧ s.1 95 13 ≤ 304 := (show 0 ≤ (lf_up (lf_up s.1 95 9 y1) 95 7 ((s.1 95 7) + 1)) 95 13 ∧ (lf_up (lf_up s.1 95 9 y1) 95 7 ((s.1 95 7) + 1)) 95 13 ≤ 304 from iv_r95_13 hI71)
    have b81 : (lf_up (lf_up s.1 95 9 y1) 95 7 ((s.1 95 7) + 1)) 95 13 = (lf_up s.1 95 9 y1) 95 13 := lf_up_i (by omega)
    have b82 : (lf_up s.1 95 9 y1) 95 13 = s.1 95 13 := lf_up_i (by omega)
    have b83 : 0 ≤ s.1 95 19 ∧ s.1 95 19 ≤ 160 := (show 0 ≤ (lf_up (lf_up s.1 95 9 y1) 95 7 ((s.1 95 7) + 1)) 95 19 ∧ (lf_up (lf_up s.1 95 9 y1) 95 7 ((s.1 95 7) + 1)) 95 19 ≤ 160 from iv_r95_19 hI71)
    have b84 : (lf_up (lf_up s.1 95 9 y1) 95 7 ((s.1 95 7) + 1)) 95 19 = (lf_up s.1 95 9 y1) 95 19 := lf_up_i (by omega)
    have b85 : (lf_up s.1 95 9 y1) 95 19 = s.1 95 19 := lf_up_i (by omega)
    have b86 : 0 ≤ s.1 95 20 ∧ s.1 95 20 ≤ 8 := (show 0 ≤ (lf_up (lf_up s.1 95 9 y1) 95 7 ((s.1 95 7) + 1)) 95 20 ∧ (lf_up (lf_up s.1 95 9 y1) 95 7 ((s.1 95 7) + 1)) 95 20 ≤ 8 from iv_r95_20 hI71)
    have b87 : (lf_up (lf_up s.1 95 9 y1) 95 7 ((s.1 95 7) + 1)) 95 20 = (lf_up s.1 95 9 y1) 95 20 := lf_up_i (by omega)
    have b88 : (lf_up s.1 95 9 y1) 95 20 = s.1 95 20 := lf_up_i (by omega)
    have b89 : 0 ≤ s.1 95 21 ∧ s.1 95 21 ≤ 8 := (show 0 ≤ (lf_up (lf_up s.1 95 9 y1) 95 7 ((s.1 95 7) + 1)) 95 21 ∧ (lf_up (lf_up s.1 95 9 y1) 95 7 ((s.1 95 7) + 1)) 95 21 ≤ 8 from iv_r95_21 hI71)
    have b90 : (lf_up (lf_up s.1 95 9 y1) 95 7 ((s.1 95 7) + 1)) 95 21 = (lf_up s.1 95 9 y1) 95 21 := lf_up_i (by omega)
    have b91 : (lf_up s.1 95 9 y1) 95 21 = s.1 95 21 := lf_up_i (by omega)
    have b92 : 0 ≤ s.1 95 22 ∧ s.1 95 22 ≤ 80 := (show 0 ≤ (lf_up (lf_up s.1 95 9 y1) 95 7 ((s.1 95 7) + 1)) 95 22 ∧ (lf_up (lf_up s.1 95 9 y1) 95 7 ((s.1 95 7) + 1)) 95 22 ≤ 80 from iv_r95_22 hI71)
    have b93 : (lf_up (lf_up s.1 95 9 y1) 95 7 ((s.1 95 7) + 1)) 95 22 = (lf_up s.1 95 9 y1) 95 22 := lf_up_i (by omega)
    have b94 : (lf_up s.1 95 9 y1) 95 22 = s.1 95 22 := lf_up_i (by omega)
    have b95 : 0 ≤ s.1 95 23 ∧ s.1 95 23 ≤ 1 := (show 0 ≤ (lf_up (lf_up s.1 95 9 y1) 95 7 ((s.1 95 7) + 1)) 95 23 ∧ (lf_up (lf_up s.1 95 9 y1) 95 7 ((s.1 95 7) + 1)) 95 23 ≤ 1 from iv_r95_23 hI71)
    have b96 : (lf_up (lf_up s.1 95 9 y1) 95 7 ((s.1 95 7) + 1)) 95 23 = (lf_up s.1 95 9 y1) 95 23 := lf_up_i (by omega)
    have b97 : (lf_up s.1 95 9 y1) 95 23 = s.1 95 23 := lf_up_i (by omega)
    exact sm_197_p272 (s0 := s0) (fun t9 i9 f9 => hQ t9 i9 (lf_fq_tr fr72 f9)) hI71 (show (60 : Int) ≤ x1 ∧ x1 ≤ (62 : Int) from by omega) (show s0.1 95 7 ≤ (s.1 95 8) ∧ (s.1 95 8) < ((s.1 95 7) + 1) from by omega) (show (s.1 95 12) = s0.1 95 12 ∧ (s.1 95 13) = s0.1 95 13 ∧ (s.1 95 19) = s0.1 95 19 ∧ (s.1 95 20) = s0.1 95 20 ∧ (s.1 95 21) = s0.1 95 21 ∧ (s.1 95 22) = s0.1 95 22 ∧ (s.1 95 23) = s0.1 95 23 from by omega)
  · skip
    replace c73 : ¬ (x1 = 60) := c73
    refine ⟨fun c125 => ?_, fun c125 => ?_⟩
    · skip
      replace c125 : x1 ≠ 62 := c125
      exact hQ (lf_up (lf_up s.1 95 9 y1) 95 7 ((s.1 95 7) + 1), s.2.1, s.2.2) hI71 fr72 (show s0.1 95 7 ≤ (s.1 95 8) ∧ (y1 = 0 ∨ (s.1 95 8) < ((s.1 95 7) + 1)) from by omega) (show (s.1 95 12) = s0.1 95 12 ∧ (s.1 95 13) = s0.1 95 13 ∧ (s.1 95 19) = s0.1 95 19 ∧ (s.1 95 20) = s0.1 95 20 ∧ (s.1 95 21) = s0.1 95 21 ∧ (s.1 95 22) = s0.1 95 22 ∧ (s.1 95 23) = s0.1 95 23 from by omega)
    · skip
      replace c125 : ¬ (x1 ≠ 62) := c125
      have b126 : 0 ≤ s.1 95 8 ∧ s.1 95 8 ≤ 300 := (show 0 ≤ (lf_up (lf_up s.1 95 9 y1) 95 7 ((s.1 95 7) + 1)) 95 8 ∧ (lf_up (lf_up s.1 95 9 y1) 95 7 ((s.1 95 7) + 1)) 95 8 ≤ 300 from iv_r95_8 hI71)
      have b127 : (lf_up (lf_up s.1 95 9 y1) 95 7 ((s.1 95 7) + 1)) 95 8 = (lf_up s.1 95 9 y1) 95 8 := lf_up_i (by omega)
      have b128 : (lf_up s.1 95 9 y1) 95 8 = s.1 95 8 := lf_up_i (by omega)
      have b129 : 0 ≤ s.1 95 12 ∧ s.1 95 12 ≤ 2115 := (show 0 ≤ (lf_up (lf_up s.1 95 9 y1) 95 7 ((s.1 95 7) + 1)) 95 12 ∧ (lf_up (lf_up s.1 95 9 y1) 95 7 ((s.1 95 7) + 1)) 95 12 ≤ 2115 from iv_r95_12 hI71)
      have b130 : (lf_up (lf_up s.1 95 9 y1) 95 7 ((s.1 95 7) + 1)) 95 12 = (lf_up s.1 95 9 y1) 95 12 := lf_up_i (by omega)
      have b131 : (lf_up s.1 95 9 y1) 95 12 = s.1 95 12 := lf_up_i (by omega)
      have b132 : 0 ≤ s.1 95 13 ∧ s.1 95 13 ≤ 304 := (show 0 ≤ (lf_up (lf_up s.1 95 9 y1) 95 7 ((s.1 95 7) + 1)) 95 13 ∧ (lf_up (lf_up s.1 95 9 y1) 95 7 ((s.1 95 7) + 1)) 95 13 ≤ 304 from iv_r95_13 hI71)
      have b133 : (lf_up (lf_up s.1 95 9 y1) 95 7 ((s.1 95 7) + 1)) 95 13 = (lf_up s.1 95 9 y1) 95 13 := lf_up_i (by omega)
      have b134 : (lf_up s.1 95 9 y1) 95 13 = s.1 95 13 := lf_up_i (by omega)
      have b135 : 0 ≤ s.1 95 19 ∧ s.1 95 19 ≤ 160 := (show 0 ≤ (lf_up (lf_up s.1 95 9 y1) 95 7 ((s.1 95 7) + 1)) 95 19 ∧ (lf_up (lf_up s.1 95 9 y1) 95 7 ((s.1 95 7) + 1)) 95 19 ≤ 160 from iv_r95_19 hI71)
      have b136 : (lf_up (lf_up s.1 95 9 y1) 95 7 ((s.1 95 7) + 1)) 95 19 = (lf_up s.1 95 9 y1) 95 19 := lf_up_i (by omega)
      have b137 : (lf_up s.1 95 9 y1) 95 19 = s.1 95 19 := lf_up_i (by omega)
      have b138 : 0 ≤ s.1 95 20 ∧ s.1 95 20 ≤ 8 := (show 0 ≤ (lf_up (lf_up s.1 95 9 y1) 95 7 ((s.1 95 7) + 1)) 95 20 ∧ (lf_up (lf_up s.1 95 9 y1) 95 7 ((s.1 95 7) + 1)) 95 20 ≤ 8 from iv_r95_20 hI71)
      have b139 : (lf_up (lf_up s.1 95 9 y1) 95 7 ((s.1 95 7) + 1)) 95 20 = (lf_up s.1 95 9 y1) 95 20 := lf_up_i (by omega)
      have b140 : (lf_up s.1 95 9 y1) 95 20 = s.1 95 20 := lf_up_i (by omega)
      have b141 : 0 ≤ s.1 95 21 ∧ s.1 95 21 ≤ 8 := (show 0 ≤ (lf_up (lf_up s.1 95 9 y1) 95 7 ((s.1 95 7) + 1)) 95 21 ∧ (lf_up (lf_up s.1 95 9 y1) 95 7 ((s.1 95 7) + 1)) 95 21 ≤ 8 from iv_r95_21 hI71)
      have b142 : (lf_up (lf_up s.1 95 9 y1) 95 7 ((s.1 95 7) + 1)) 95 21 = (lf_up s.1 95 9 y1) 95 21 := lf_up_i (by omega)
      have b143 : (lf_up s.1 95 9 y1) 95 21 = s.1 95 21 := lf_up_i (by omega)
      have b144 : 0 ≤ s.1 95 22 ∧ s.1 95 22 ≤ 80 := (show 0 ≤ (lf_up (lf_up s.1 95 9 y1) 95 7 ((s.1 95 7) + 1)) 95 22 ∧ (lf_up (lf_up s.1 95 9 y1) 95 7 ((s.1 95 7) + 1)) 95 22 ≤ 80 from iv_r95_22 hI71)
      have b145 : (lf_up (lf_up s.1 95 9 y1) 95 7 ((s.1 95 7) + 1)) 95 22 = (lf_up s.1 95 9 y1) 95 22 := lf_up_i (by omega)
      have b146 : (lf_up s.1 95 9 y1) 95 22 = s.1 95 22 := lf_up_i (by omega)
      have b147 : 0 ≤ s.1 95 23 ∧ s.1 95 23 ≤ 1 := (show 0 ≤ (lf_up (lf_up s.1 95 9 y1) 95 7 ((s.1 95 7) + 1)) 95 23 ∧ (lf_up (lf_up s.1 95 9 y1) 95 7 ((s.1 95 7) + 1)) 95 23 ≤ 1 from iv_r95_23 hI71)
      have b148 : (lf_up (lf_up s.1 95 9 y1) 95 7 ((s.1 95 7) + 1)) 95 23 = (lf_up s.1 95 9 y1) 95 23 := lf_up_i (by omega)
      have b149 : (lf_up s.1 95 9 y1) 95 23 = s.1 95 23 := lf_up_i (by omega)
      exact sm_197_p272 (s0 := s0) (fun t9 i9 f9 => hQ t9 i9 (lf_fq_tr fr72 f9)) hI71 (show (60 : Int) ≤ x1 ∧ x1 ≤ (62 : Int) from by omega) (show s0.1 95 7 ≤ (s.1 95 8) ∧ (s.1 95 8) < ((s.1 95 7) + 1) from by omega) (show (s.1 95 12) = s0.1 95 12 ∧ (s.1 95 13) = s0.1 95 13 ∧ (s.1 95 19) = s0.1 95 19 ∧ (s.1 95 20) = s0.1 95 20 ∧ (s.1 95 21) = s0.1 95 21 ∧ (s.1 95 22) = s0.1 95 22 ∧ (s.1 95 23) = s0.1 95 23 from by omega)
theorem sm_197_p218 {X168 : lf_Z → Prop} {Q : lf_Z → Prop} {y1 : Int} {s : lf_Z} {s0 : lf_Z} (hQ : ∀  (s' : lf_Z), iv_A s'.1 s'.2.2 → lf_fq [95] 1000000 true s.1 s.2.2 s'.1 s'.2.2 → (s0.1 95 7 ≤ s'.1 95 8 ∧ (s'.1 95 9 = 0 ∨ s'.1 95 8 < s'.1 95 7)) → (s'.1 95 12 = s0.1 95 12 ∧ s'.1 95 13 = s0.1 95 13 ∧ s'.1 95 19 = s0.1 95 19 ∧ s'.1 95 20 = s0.1 95 20 ∧ s'.1 95 21 = s0.1 95 21 ∧ s'.1 95 22 = s0.1 95 22 ∧ s'.1 95 23 = s0.1 95 23) → Q  s') {M168 : Nat} (hX168 : ∀ (s' : lf_Z), iv_A s'.1 s'.2.2 → lf_fq [95] 1000000 true s.1 s.2.2 s'.1 s'.2.2 → (s0.1 95 7 ≤ s'.1 95 8 ∧ s'.1 95 8 ≤ s'.1 95 7) → (s'.1 95 8 < s'.1 95 7 ∨ (s'.1 95 7 < s'.1 95 4 ∧ ((97 ≤ s'.1 99 (s'.1 95 7) ∧ s'.1 99 (s'.1 95 7) ≤ 122) ∨ (65 ≤ s'.1 99 (s'.1 95 7) ∧ s'.1 99 (s'.1 95 7) ≤ 90)))) → (s'.1 95 12 = s0.1 95 12 ∧ s'.1 95 13 = s0.1 95 13 ∧ s'.1 95 19 = s0.1 95 19 ∧ s'.1 95 20 = s0.1 95 20 ∧ s'.1 95 21 = s0.1 95 21 ∧ s'.1 95 22 = s0.1 95 22 ∧ s'.1 95 23 = s0.1 95 23) → (300 - s'.1 95 7).toNat < M168 → X168 s') (hM168 : (300 - s.1 95 7).toNat ≤ M168) (hI : iv_A s.1 s.2.2) (kv0 : s.1 95 7 < 300) (kv1 : s0.1 95 7 ≤ s.1 95 8 ∧ s.1 95 8 ≤ s.1 95 7) (kv2 : s.1 95 12 = s0.1 95 12 ∧ s.1 95 13 = s0.1 95 13 ∧ s.1 95 19 = s0.1 95 19 ∧ s.1 95 20 = s0.1 95 20 ∧ s.1 95 21 = s0.1 95 21 ∧ s.1 95 22 = s0.1 95 22 ∧ s.1 95 23 = s0.1 95 23) : fm_197_p218 X168 Q y1 s := by
  unfold fm_197_p218
  have b207 : 0 ≤ s.1 95 7 ∧ s.1 95 7 ≤ 300 := iv_r95_7 hI
  have hI208 : iv_A (lf_up s.1 95 7 ((s.1 95 7) + 1)) s.2.2 := iv_w95_7 hI (by omega)
  have fr209 : lf_fq [95] 1000000 true s.1 s.2.2 (lf_up s.1 95 7 ((s.1 95 7) + 1)) s.2.2 := lf_fq_up (lf_fq_rf) rfl (fun h => absurd h (by decide))
  have b210 : 0 ≤ s.1 95 8 ∧ s.1 95 8 ≤ 300 := (show 0 ≤ (lf_up s.1 95 7 ((s.1 95 7) + 1)) 95 8 ∧ (lf_up s.1 95 7 ((s.1 95 7) + 1)) 95 8 ≤ 300 from iv_r95_8 hI208)
  have b211 : (lf_up s.1 95 7 ((s.1 95 7) + 1)) 95 8 = s.1 95 8 := lf_up_i (by omega)
  have b212 : 0 ≤ s.1 95 4 ∧ s.1 95 4 ≤ 300 := (show 0 ≤ (lf_up s.1 95 7 ((s.1 95 7) + 1)) 95 4 ∧ (lf_up s.1 95 7 ((s.1 95 7) + 1)) 95 4 ≤ 300 from iv_r95_4 hI208)
  have b213 : (lf_up s.1 95 7 ((s.1 95 7) + 1)) 95 4 = s.1 95 4 := lf_up_i (by omega)
  have b214 : 0 ≤ s.1 95 12 ∧ s.1 95 12 ≤ 2115 := (show 0 ≤ (lf_up s.1 95 7 ((s.1 95 7) + 1)) 95 12 ∧ (lf_up s.1 95 7 ((s.1 95 7) + 1)) 95 12 ≤ 2115 from iv_r95_12 hI208)
  have b215 : (lf_up s.1 95 7 ((s.1 95 7) + 1)) 95 12 = s.1 95 12 := lf_up_i (by omega)
  have b216 : 0 ≤ s.1 95 13 ∧ s.1 95 13 ≤ 304 := (show 0 ≤ (lf_up s.1 95 7 ((s.1 95 7) + 1)) 95 13 ∧ (lf_up s.1 95 7 ((s.1 95 7) + 1)) 95 13 ≤ 304 from iv_r95_13 hI208)
  have b217 : (lf_up s.1 95 7 ((s.1 95 7) + 1)) 95 13 = s.1 95 13 := lf_up_i (by omega)
  have b218 : 0 ≤ s.1 95 19 ∧ s.1 95 19 ≤ 160 := (show 0 ≤ (lf_up s.1 95 7 ((s.1 95 7) + 1)) 95 19 ∧ (lf_up s.1 95 7 ((s.1 95 7) + 1)) 95 19 ≤ 160 from iv_r95_19 hI208)
  have b219 : (lf_up s.1 95 7 ((s.1 95 7) + 1)) 95 19 = s.1 95 19 := lf_up_i (by omega)
  have b220 : 0 ≤ s.1 95 20 ∧ s.1 95 20 ≤ 8 := (show 0 ≤ (lf_up s.1 95 7 ((s.1 95 7) + 1)) 95 20 ∧ (lf_up s.1 95 7 ((s.1 95 7) + 1)) 95 20 ≤ 8 from iv_r95_20 hI208)
  have b221 : (lf_up s.1 95 7 ((s.1 95 7) + 1)) 95 20 = s.1 95 20 := lf_up_i (by omega)
  have b222 : 0 ≤ s.1 95 21 ∧ s.1 95 21 ≤ 8 := (show 0 ≤ (lf_up s.1 95 7 ((s.1 95 7) + 1)) 95 21 ∧ (lf_up s.1 95 7 ((s.1 95 7) + 1)) 95 21 ≤ 8 from iv_r95_21 hI208)
  have b223 : (lf_up s.1 95 7 ((s.1 95 7) + 1)) 95 21 = s.1 95 21 := lf_up_i (by omega)
  have b224 : 0 ≤ s.1 95 22 ∧ s.1 95 22 ≤ 80 := (show 0 ≤ (lf_up s.1 95 7 ((s.1 95 7) + 1)) 95 22 ∧ (lf_up s.1 95 7 ((s.1 95 7) + 1)) 95 22 ≤ 80 from iv_r95_22 hI208)
  have b225 : (lf_up s.1 95 7 ((s.1 95 7) + 1)) 95 22 = s.1 95 22 := lf_up_i (by omega)
  have b226 : 0 ≤ s.1 95 23 ∧ s.1 95 23 ≤ 1 := (show 0 ≤ (lf_up s.1 95 7 ((s.1 95 7) + 1)) 95 23 ∧ (lf_up s.1 95 7 ((s.1 95 7) + 1)) 95 23 ≤ 1 from iv_r95_23 hI208)
  have b227 : (lf_up s.1 95 7 ((s.1 95 7) + 1)) 95 23 = s.1 95 23 := lf_up_i (by omega)
  exact hX168  (lf_up s.1 95 7 ((s.1 95 7) + 1), lf_up s.2.1 95 11 (lf_wl y1), s.2.2) hI208 fr209 (show s0.1 95 7 ≤ (s.1 95 8) ∧ (s.1 95 8) ≤ ((s.1 95 7) + 1) from by omega) (show (s.1 95 8) < ((s.1 95 7) + 1) ∨ (((s.1 95 7) + 1) < (s.1 95 4) ∧ ((97 ≤ (s.1 99) (((s.1 95 7) + 1)) ∧ (s.1 99) (((s.1 95 7) + 1)) ≤ 122) ∨ (65 ≤ (s.1 99) (((s.1 95 7) + 1)) ∧ (s.1 99) (((s.1 95 7) + 1)) ≤ 90))) from by omega) (show (s.1 95 12) = s0.1 95 12 ∧ (s.1 95 13) = s0.1 95 13 ∧ (s.1 95 19) = s0.1 95 19 ∧ (s.1 95 20) = s0.1 95 20 ∧ (s.1 95 21) = s0.1 95 21 ∧ (s.1 95 22) = s0.1 95 22 ∧ (s.1 95 23) = s0.1 95 23 from by omega) (show (300 - ((s.1 95 7) + 1)).toNat < M168 from by omega)
theorem sm_197_p168 {X168 : lf_Z → Prop} {Q : lf_Z → Prop} {s : lf_Z} {s0 : lf_Z} (hQ : ∀  (s' : lf_Z), iv_A s'.1 s'.2.2 → lf_fq [95] 1000000 true s.1 s.2.2 s'.1 s'.2.2 → (s0.1 95 7 ≤ s'.1 95 8 ∧ (s'.1 95 9 = 0 ∨ s'.1 95 8 < s'.1 95 7)) → (s'.1 95 12 = s0.1 95 12 ∧ s'.1 95 13 = s0.1 95 13 ∧ s'.1 95 19 = s0.1 95 19 ∧ s'.1 95 20 = s0.1 95 20 ∧ s'.1 95 21 = s0.1 95 21 ∧ s'.1 95 22 = s0.1 95 22 ∧ s'.1 95 23 = s0.1 95 23) → Q  s') {M168 : Nat} (hX168 : ∀ (s' : lf_Z), iv_A s'.1 s'.2.2 → lf_fq [95] 1000000 true s.1 s.2.2 s'.1 s'.2.2 → (s0.1 95 7 ≤ s'.1 95 8 ∧ s'.1 95 8 ≤ s'.1 95 7) → (s'.1 95 8 < s'.1 95 7 ∨ (s'.1 95 7 < s'.1 95 4 ∧ ((97 ≤ s'.1 99 (s'.1 95 7) ∧ s'.1 99 (s'.1 95 7) ≤ 122) ∨ (65 ≤ s'.1 99 (s'.1 95 7) ∧ s'.1 99 (s'.1 95 7) ≤ 90)))) → (s'.1 95 12 = s0.1 95 12 ∧ s'.1 95 13 = s0.1 95 13 ∧ s'.1 95 19 = s0.1 95 19 ∧ s'.1 95 20 = s0.1 95 20 ∧ s'.1 95 21 = s0.1 95 21 ∧ s'.1 95 22 = s0.1 95 22 ∧ s'.1 95 23 = s0.1 95 23) → (300 - s'.1 95 7).toNat < M168 → X168 s') (hM168 : (300 - s.1 95 7).toNat ≤ M168) (hI : iv_A s.1 s.2.2) (kv0 : s0.1 95 7 ≤ s.1 95 8 ∧ s.1 95 8 ≤ s.1 95 7) (kv1 : s.1 95 8 < s.1 95 7 ∨ (s.1 95 7 < s.1 95 4 ∧ ((97 ≤ s.1 99 (s.1 95 7) ∧ s.1 99 (s.1 95 7) ≤ 122) ∨ (65 ≤ s.1 99 (s.1 95 7) ∧ s.1 99 (s.1 95 7) ≤ 90)))) (kv2 : s.1 95 12 = s0.1 95 12 ∧ s.1 95 13 = s0.1 95 13 ∧ s.1 95 19 = s0.1 95 19 ∧ s.1 95 20 = s0.1 95 20 ∧ s.1 95 21 = s0.1 95 21 ∧ s.1 95 22 = s0.1 95 22 ∧ s.1 95 23 = s0.1 95 23) : fm_197_p168 Q X168 s := by
  unfold fm_197_p168
  have b191 : 0 ≤ s.1 95 7 ∧ s.1 95 7 ≤ 300 := iv_r95_7 hI
  refine sm_198 hI (show (0 : Int) ≤ s.1 95 7 ∧ s.1 95 7 ≤ (300 : Int) from by omega) (fun r42 q192 => ?_)
  obtain ⟨q192, q192x⟩ := q192
  have b193 : 0 ≤ s.1 95 4 ∧ s.1 95 4 ≤ 300 := iv_r95_4 hI
  replace q192x : (r42 = -1 ∧ s.1 95 4 ≤ (s.1 95 7)) ∨ ((s.1 95 7) < s.1 95 4 ∧ r42 = s.1 99 (s.1 95 7)) := q192x
  refine sm_200 hI (show (-1 : Int) ≤ r42 ∧ r42 ≤ (255 : Int) from by omega) (fun z44 q194 => ?_)
  refine ⟨fun c195 => ?_, fun c195 => ?_⟩
  · skip
    have dc195 := q194.2 c195
    exact hQ s hI (lf_fq_rf) (show s0.1 95 7 ≤ (s.1 95 8) ∧ ((s.1 95 9) = 0 ∨ (s.1 95 8) < (s.1 95 7)) from by omega) (show (s.1 95 12) = s0.1 95 12 ∧ (s.1 95 13) = s0.1 95 13 ∧ (s.1 95 19) = s0.1 95 19 ∧ (s.1 95 20) = s0.1 95 20 ∧ (s.1 95 21) = s0.1 95 21 ∧ (s.1 95 22) = s0.1 95 22 ∧ (s.1 95 23) = s0.1 95 23 from by omega)
  · skip
    have dc195 := q194.1 c195
    refine ⟨fun c196 => ?_, fun c196 => ?_⟩
    · replace c196 : lf_lshr (lf_wl (s.2.1 95 11)) 48 = 0 := c196
      refine sm_198 hI (show (0 : Int) ≤ s.1 95 7 ∧ s.1 95 7 ≤ (300 : Int) from by omega) (fun r46 q197 => ?_)
      obtain ⟨q197, q197x⟩ := q197
      have b198 : 0 ≤ s.1 95 4 ∧ s.1 95 4 ≤ 300 := iv_r95_4 hI
      replace q197x : (r46 = -1 ∧ s.1 95 4 ≤ (s.1 95 7)) ∨ ((s.1 95 7) < s.1 95 4 ∧ r46 = s.1 99 (s.1 95 7)) := q197x
      refine ⟨(show lf_R r46 from lf_Rof (by omega)), ?_⟩
      have b199 : 0 ≤ s.1 95 8 ∧ s.1 95 8 ≤ 300 := iv_r95_8 hI
      have b200 : 0 ≤ s.1 95 12 ∧ s.1 95 12 ≤ 2115 := iv_r95_12 hI
      have b201 : 0 ≤ s.1 95 13 ∧ s.1 95 13 ≤ 304 := iv_r95_13 hI
      have b202 : 0 ≤ s.1 95 19 ∧ s.1 95 19 ≤ 160 := iv_r95_19 hI
      have b203 : 0 ≤ s.1 95 20 ∧ s.1 95 20 ≤ 8 := iv_r95_20 hI
      have b204 : 0 ≤ s.1 95 21 ∧ s.1 95 21 ≤ 8 := iv_r95_21 hI
      have b205 : 0 ≤ s.1 95 22 ∧ s.1 95 22 ≤ 80 := iv_r95_22 hI
      have b206 : 0 ≤ s.1 95 23 ∧ s.1 95 23 ≤ 1 := iv_r95_23 hI
      exact sm_197_p218 (s0 := s0) hQ hX168 (show (300 - (s.1 95 7)).toNat ≤ M168 from by omega) hI (show (s.1 95 7) < 300 from by omega) (show s0.1 95 7 ≤ (s.1 95 8) ∧ (s.1 95 8) ≤ (s.1 95 7) from by omega) (show (s.1 95 12) = s0.1 95 12 ∧ (s.1 95 13) = s0.1 95 13 ∧ (s.1 95 19) = s0.1 95 19 ∧ (s.1 95 20) = s0.1 95 20 ∧ (s.1 95 21) = s0.1 95 21 ∧ (s.1 95 22) = s0.1 95 22 ∧ (s.1 95 23) = s0.1 95 23 from by omega)
    · replace c196 : ¬ (lf_lshr (lf_wl (s.2.1 95 11)) 48 = 0) := c196
      have b228 : 0 ≤ s.1 95 8 ∧ s.1 95 8 ≤ 300 := iv_r95_8 hI
      have b229 : 0 ≤ s.1 95 12 ∧ s.1 95 12 ≤ 2115 := iv_r95_12 hI
      have b230 : 0 ≤ s.1 95 13 ∧ s.1 95 13 ≤ 304 := iv_r95_13 hI
      have b231 : 0 ≤ s.1 95 19 ∧ s.1 95 19 ≤ 160 := iv_r95_19 hI
      have b232 : 0 ≤ s.1 95 20 ∧ s.1 95 20 ≤ 8 := iv_r95_20 hI
      have b233 : 0 ≤ s.1 95 21 ∧ s.1 95 21 ≤ 8 := iv_r95_21 hI
      have b234 : 0 ≤ s.1 95 22 ∧ s.1 95 22 ≤ 80 := iv_r95_22 hI
      have b235 : 0 ≤ s.1 95 23 ∧ s.1 95 23 ≤ 1 := iv_r95_23 hI
      exact sm_197_p218 (s0 := s0) hQ hX168 (show (300 - (s.1 95 7)).toNat ≤ M168 from by omega) hI (show (s.1 95 7) < 300 from by omega) (show s0.1 95 7 ≤ (s.1 95 8) ∧ (s.1 95 8) ≤ (s.1 95 7) from by omega) (show (s.1 95 12) = s0.1 95 12 ∧ (s.1 95 13) = s0.1 95 13 ∧ (s.1 95 19) = s0.1 95 19 ∧ (s.1 95 20) = s0.1 95 20 ∧ (s.1 95 21) = s0.1 95 21 ∧ (s.1 95 22) = s0.1 95 22 ∧ (s.1 95 23) = s0.1 95 23 from by omega)
theorem sm_197_p168L {Q : lf_Z → Prop} {s : lf_Z} {s0 : lf_Z} (hQ : ∀  (s' : lf_Z), iv_A s'.1 s'.2.2 → lf_fq [95] 1000000 true s.1 s.2.2 s'.1 s'.2.2 → (s0.1 95 7 ≤ s'.1 95 8 ∧ (s'.1 95 9 = 0 ∨ s'.1 95 8 < s'.1 95 7)) → (s'.1 95 12 = s0.1 95 12 ∧ s'.1 95 13 = s0.1 95 13 ∧ s'.1 95 19 = s0.1 95 19 ∧ s'.1 95 20 = s0.1 95 20 ∧ s'.1 95 21 = s0.1 95 21 ∧ s'.1 95 22 = s0.1 95 22 ∧ s'.1 95 23 = s0.1 95 23) → Q  s') (hI : iv_A s.1 s.2.2) (kv0 : s0.1 95 7 ≤ s.1 95 8 ∧ s.1 95 8 ≤ s.1 95 7) (kv1 : s.1 95 8 < s.1 95 7 ∨ (s.1 95 7 < s.1 95 4 ∧ ((97 ≤ s.1 99 (s.1 95 7) ∧ s.1 99 (s.1 95 7) ≤ 122) ∨ (65 ≤ s.1 99 (s.1 95 7) ∧ s.1 99 (s.1 95 7) ≤ 90)))) (kv2 : s.1 95 12 = s0.1 95 12 ∧ s.1 95 13 = s0.1 95 13 ∧ s.1 95 19 = s0.1 95 19 ∧ s.1 95 20 = s0.1 95 20 ∧ s.1 95 21 = s0.1 95 21 ∧ s.1 95 22 = s0.1 95 22 ∧ s.1 95 23 = s0.1 95 23) : fm_197_p168L Q s := by
  intro X168 hX
  have key : ∀ (m9 : Nat) (s' : lf_Z), iv_A s'.1 s'.2.2 → lf_fq [95] 1000000 true s.1 s.2.2 s'.1 s'.2.2 → (s0.1 95 7 ≤ s'.1 95 8 ∧ s'.1 95 8 ≤ s'.1 95 7) → (s'.1 95 8 < s'.1 95 7 ∨ (s'.1 95 7 < s'.1 95 4 ∧ ((97 ≤ s'.1 99 (s'.1 95 7) ∧ s'.1 99 (s'.1 95 7) ≤ 122) ∨ (65 ≤ s'.1 99 (s'.1 95 7) ∧ s'.1 99 (s'.1 95 7) ≤ 90)))) → (s'.1 95 12 = s0.1 95 12 ∧ s'.1 95 13 = s0.1 95 13 ∧ s'.1 95 19 = s0.1 95 19 ∧ s'.1 95 20 = s0.1 95 20 ∧ s'.1 95 21 = s0.1 95 21 ∧ s'.1 95 22 = s0.1 95 22 ∧ s'.1 95 23 = s0.1 95 23) → (300 - s'.1 95 7).toNat < m9 → X168 s' := by
    intro m9
    induction m9 with
    | zero => intro  s' _ _ kv0 kv1 kv2 h9; exact absurd h9 (Nat.not_lt_zero _)
    | succ m9 ih => intro  s' i7 f7 kv0 kv1 kv2 h9; exact hX  _ (sm_197_p168 (s0 := s0) (fun t9 i9 f9 => hQ t9 i9 (lf_fq_tr f7 f9))   (fun  t8 i8 f8 kv0' kv1' kv2' h8 => ih  t8 i8 (lf_fq_tr f7 f8) kv0' kv1' kv2' (by omega)) (Nat.le_refl _)  i7    kv0 kv1 kv2)
  exact key _  s hI lf_fq_rf kv0 kv1 kv2 (Nat.lt_succ_self _)
theorem sm_197_p135 {X85 : lf_Z → Prop} {Q : lf_Z → Prop} {y1 : Int} {s : lf_Z} {s0 : lf_Z} (hQ : ∀  (s' : lf_Z), iv_A s'.1 s'.2.2 → lf_fq [95] 1000000 true s.1 s.2.2 s'.1 s'.2.2 → (s0.1 95 7 ≤ s'.1 95 8 ∧ (s'.1 95 9 = 0 ∨ s'.1 95 8 < s'.1 95 7)) → (s'.1 95 12 = s0.1 95 12 ∧ s'.1 95 13 = s0.1 95 13 ∧ s'.1 95 19 = s0.1 95 19 ∧ s'.1 95 20 = s0.1 95 20 ∧ s'.1 95 21 = s0.1 95 21 ∧ s'.1 95 22 = s0.1 95 22 ∧ s'.1 95 23 = s0.1 95 23) → Q  s') {M85 : Nat} (hX85 : ∀ (s' : lf_Z), iv_A s'.1 s'.2.2 → lf_fq [95] 1000000 true s.1 s.2.2 s'.1 s'.2.2 → (s0.1 95 7 ≤ s'.1 95 8 ∧ s'.1 95 8 ≤ s'.1 95 7) → (s'.1 95 8 < s'.1 95 7 ∨ (s'.1 95 7 < s'.1 95 4 ∧ 48 ≤ s'.1 99 (s'.1 95 7) ∧ s'.1 99 (s'.1 95 7) ≤ 57)) → (s'.1 95 12 = s0.1 95 12 ∧ s'.1 95 13 = s0.1 95 13 ∧ s'.1 95 19 = s0.1 95 19 ∧ s'.1 95 20 = s0.1 95 20 ∧ s'.1 95 21 = s0.1 95 21 ∧ s'.1 95 22 = s0.1 95 22 ∧ s'.1 95 23 = s0.1 95 23) → (300 - s'.1 95 7).toNat < M85 → X85 s') (hM85 : (300 - s.1 95 7).toNat ≤ M85) (hI : iv_A s.1 s.2.2) (by1 : (-2147483648) ≤ y1 ∧ y1 ≤ 2147483647) (kv0 : s.1 95 7 < 300) (kv1 : s0.1 95 7 ≤ s.1 95 8 ∧ s.1 95 8 ≤ s.1 95 7) (kv2 : s.1 95 12 = s0.1 95 12 ∧ s.1 95 13 = s0.1 95 13 ∧ s.1 95 19 = s0.1 95 19 ∧ s.1 95 20 = s0.1 95 20 ∧ s.1 95 21 = s0.1 95 21 ∧ s.1 95 22 = s0.1 95 22 ∧ s.1 95 23 = s0.1 95 23) : fm_197_p135 X85 Q y1 s := by
  unfold fm_197_p135
  have hI294 : iv_A (lf_up s.1 95 10 y1) s.2.2 := iv_w95_10 hI (by omega)
  have fr295 : lf_fq [95] 1000000 true s.1 s.2.2 (lf_up s.1 95 10 y1) s.2.2 := lf_fq_up (lf_fq_rf) rfl (fun h => absurd h (by decide))
  have b296 : 0 ≤ s.1 95 7 ∧ s.1 95 7 ≤ 300 := (show 0 ≤ (lf_up s.1 95 10 y1) 95 7 ∧ (lf_up s.1 95 10 y1) 95 7 ≤ 300 from iv_r95_7 hI294)
  have b297 : (lf_up s.1 95 10 y1) 95 7 = s.1 95 7 := lf_up_i (by omega)
  have hI298 : iv_A (lf_up (lf_up s.1 95 10 y1) 95 7 ((s.1 95 7) + 1)) s.2.2 := iv_w95_7 hI294 (by omega)
  have fr299 : lf_fq [95] 1000000 true s.1 s.2.2 (lf_up (lf_up s.1 95 10 y1) 95 7 ((s.1 95 7) + 1)) s.2.2 := lf_fq_up fr295 rfl (fun h => absurd h (by decide))
  have b300 : 0 ≤ s.1 95 8 ∧ s.1 95 8 ≤ 300 := (show 0 ≤ (lf_up (lf_up s.1 95 10 y1) 95 7 ((s.1 95 7) + 1)) 95 8 ∧ (lf_up (lf_up s.1 95 10 y1) 95 7 ((s.1 95 7) + 1)) 95 8 ≤ 300 from iv_r95_8 hI298)
  have b301 : (lf_up (lf_up s.1 95 10 y1) 95 7 ((s.1 95 7) + 1)) 95 8 = (lf_up s.1 95 10 y1) 95 8 := lf_up_i (by omega)
  have b302 : (lf_up s.1 95 10 y1) 95 8 = s.1 95 8 := lf_up_i (by omega)
  have b303 : 0 ≤ s.1 95 4 ∧ s.1 95 4 ≤ 300 := (show 0 ≤ (lf_up (lf_up s.1 95 10 y1) 95 7 ((s.1 95 7) + 1)) 95 4 ∧ (lf_up (lf_up s.1 95 10 y1) 95 7 ((s.1 95 7) + 1)) 95 4 ≤ 300 from iv_r95_4 hI298)
  have b304 : (lf_up (lf_up s.1 95 10 y1) 95 7 ((s.1 95 7) + 1)) 95 4 = (lf_up s.1 95 10 y1) 95 4 := lf_up_i (by omega)
  have b305 : (lf_up s.1 95 10 y1) 95 4 = s.1 95 4 := lf_up_i (by omega)
  have b306 : 0 ≤ s.1 95 12 ∧ s.1 95 12 ≤ 2115 := (show 0 ≤ (lf_up (lf_up s.1 95 10 y1) 95 7 ((s.1 95 7) + 1)) 95 12 ∧ (lf_up (lf_up s.1 95 10 y1) 95 7 ((s.1 95 7) + 1)) 95 12 ≤ 2115 from iv_r95_12 hI298)
  have b307 : (lf_up (lf_up s.1 95 10 y1) 95 7 ((s.1 95 7) + 1)) 95 12 = (lf_up s.1 95 10 y1) 95 12 := lf_up_i (by omega)
  have b308 : (lf_up s.1 95 10 y1) 95 12 = s.1 95 12 := lf_up_i (by omega)
  have b309 : 0 ≤ s.1 95 13 ∧ s.1 95 13 ≤ 304 := (show 0 ≤ (lf_up (lf_up s.1 95 10 y1) 95 7 ((s.1 95 7) + 1)) 95 13 ∧ (lf_up (lf_up s.1 95 10 y1) 95 7 ((s.1 95 7) + 1)) 95 13 ≤ 304 from iv_r95_13 hI298)
  have b310 : (lf_up (lf_up s.1 95 10 y1) 95 7 ((s.1 95 7) + 1)) 95 13 = (lf_up s.1 95 10 y1) 95 13 := lf_up_i (by omega)
  have b311 : (lf_up s.1 95 10 y1) 95 13 = s.1 95 13 := lf_up_i (by omega)
  have b312 : 0 ≤ s.1 95 19 ∧ s.1 95 19 ≤ 160 := (show 0 ≤ (lf_up (lf_up s.1 95 10 y1) 95 7 ((s.1 95 7) + 1)) 95 19 ∧ (lf_up (lf_up s.1 95 10 y1) 95 7 ((s.1 95 7) + 1)) 95 19 ≤ 160 from iv_r95_19 hI298)
  have b313 : (lf_up (lf_up s.1 95 10 y1) 95 7 ((s.1 95 7) + 1)) 95 19 = (lf_up s.1 95 10 y1) 95 19 := lf_up_i (by omega)
  have b314 : (lf_up s.1 95 10 y1) 95 19 = s.1 95 19 := lf_up_i (by omega)
  have b315 : 0 ≤ s.1 95 20 ∧ s.1 95 20 ≤ 8 := (show 0 ≤ (lf_up (lf_up s.1 95 10 y1) 95 7 ((s.1 95 7) + 1)) 95 20 ∧ (lf_up (lf_up s.1 95 10 y1) 95 7 ((s.1 95 7) + 1)) 95 20 ≤ 8 from iv_r95_20 hI298)
  have b316 : (lf_up (lf_up s.1 95 10 y1) 95 7 ((s.1 95 7) + 1)) 95 20 = (lf_up s.1 95 10 y1) 95 20 := lf_up_i (by omega)
  have b317 : (lf_up s.1 95 10 y1) 95 20 = s.1 95 20 := lf_up_i (by omega)
  have b318 : 0 ≤ s.1 95 21 ∧ s.1 95 21 ≤ 8 := (show 0 ≤ (lf_up (lf_up s.1 95 10 y1) 95 7 ((s.1 95 7) + 1)) 95 21 ∧ (lf_up (lf_up s.1 95 10 y1) 95 7 ((s.1 95 7) + 1)) 95 21 ≤ 8 from iv_r95_21 hI298)
  have b319 : (lf_up (lf_up s.1 95 10 y1) 95 7 ((s.1 95 7) + 1)) 95 21 = (lf_up s.1 95 10 y1) 95 21 := lf_up_i (by omega)
  have b320 : (lf_up s.1 95 10 y1) 95 21 = s.1 95 21 := lf_up_i (by omega)
  have b321 : 0 ≤ s.1 95 22 ∧ s.1 95 22 ≤ 80 := (show 0 ≤ (lf_up (lf_up s.1 95 10 y1) 95 7 ((s.1 95 7) + 1)) 95 22 ∧ (lf_up (lf_up s.1 95 10 y1) 95 7 ((s.1 95 7) + 1)) 95 22 ≤ 80 from iv_r95_22 hI298)
  have b322 : (lf_up (lf_up s.1 95 10 y1) 95 7 ((s.1 95 7) + 1)) 95 22 = (lf_up s.1 95 10 y1) 95 22 := lf_up_i (by omega)
  have b323 : (lf_up s.1 95 10 y1) 95 22 = s.1 95 22 := lf_up_i (by omega)
  have b324 : 0 ≤ s.1 95 23 ∧ s.1 95 23 ≤ 1 := (show 0 ≤ (lf_up (lf_up s.1 95 10 y1) 95 7 ((s.1 95 7) + 1)) 95 23 ∧ (lf_up (lf_up s.1 95 10 y1) 95 7 ((s.1 95 7) + 1)) 95 23 ≤ 1 from iv_r95_23 hI298)
  have b325 : (lf_up (lf_up s.1 95 10 y1) 95 7 ((s.1 95 7) + 1)) 95 23 = (lf_up s.1 95 10 y1) 95 23 := lf_up_i (by omega)
  have b326 : (lf_up s.1 95 10 y1) 95 23 = s.1 95 23 := lf_up_i (by omega)
  exact hX85  (lf_up (lf_up s.1 95 10 y1) 95 7 ((s.1 95 7) + 1), s.2.1, s.2.2) hI298 fr299 (show s0.1 95 7 ≤ (s.1 95 8) ∧ (s.1 95 8) ≤ ((s.1 95 7) + 1) from by omega) (show (s.1 95 8) < ((s.1 95 7) + 1) ∨ (((s.1 95 7) + 1) < (s.1 95 4) ∧ 48 ≤ (s.1 99) (((s.1 95 7) + 1)) ∧ (s.1 99) (((s.1 95 7) + 1)) ≤ 57) from by omega) (show (s.1 95 12) = s0.1 95 12 ∧ (s.1 95 13) = s0.1 95 13 ∧ (s.1 95 19) = s0.1 95 19 ∧ (s.1 95 20) = s0.1 95 20 ∧ (s.1 95 21) = s0.1 95 21 ∧ (s.1 95 22) = s0.1 95 22 ∧ (s.1 95 23) = s0.1 95 23 from by omega) (show (300 - ((s.1 95 7) + 1)).toNat < M85 from by omega)
theorem sm_197_p85 {X85 : lf_Z → Prop} {Q : lf_Z → Prop} {s : lf_Z} {s0 : lf_Z} (hQ : ∀  (s' : lf_Z), iv_A s'.1 s'.2.2 → lf_fq [95] 1000000 true s.1 s.2.2 s'.1 s'.2.2 → (s0.1 95 7 ≤ s'.1 95 8 ∧ (s'.1 95 9 = 0 ∨ s'.1 95 8 < s'.1 95 7)) → (s'.1 95 12 = s0.1 95 12 ∧ s'.1 95 13 = s0.1 95 13 ∧ s'.1 95 19 = s0.1 95 19 ∧ s'.1 95 20 = s0.1 95 20 ∧ s'.1 95 21 = s0.1 95 21 ∧ s'.1 95 22 = s0.1 95 22 ∧ s'.1 95 23 = s0.1 95 23) → Q  s') {M85 : Nat} (hX85 : ∀ (s' : lf_Z), iv_A s'.1 s'.2.2 → lf_fq [95] 1000000 true s.1 s.2.2 s'.1 s'.2.2 → (s0.1 95 7 ≤ s'.1 95 8 ∧ s'.1 95 8 ≤ s'.1 95 7) → (s'.1 95 8 < s'.1 95 7 ∨ (s'.1 95 7 < s'.1 95 4 ∧ 48 ≤ s'.1 99 (s'.1 95 7) ∧ s'.1 99 (s'.1 95 7) ≤ 57)) → (s'.1 95 12 = s0.1 95 12 ∧ s'.1 95 13 = s0.1 95 13 ∧ s'.1 95 19 = s0.1 95 19 ∧ s'.1 95 20 = s0.1 95 20 ∧ s'.1 95 21 = s0.1 95 21 ∧ s'.1 95 22 = s0.1 95 22 ∧ s'.1 95 23 = s0.1 95 23) → (300 - s'.1 95 7).toNat < M85 → X85 s') (hM85 : (300 - s.1 95 7).toNat ≤ M85) (hI : iv_A s.1 s.2.2) (kv0 : s0.1 95 7 ≤ s.1 95 8 ∧ s.1 95 8 ≤ s.1 95 7) (kv1 : s.1 95 8 < s.1 95 7 ∨ (s.1 95 7 < s.1 95 4 ∧ 48 ≤ s.1 99 (s.1 95 7) ∧ s.1 99 (s.1 95 7) ≤ 57)) (kv2 : s.1 95 12 = s0.1 95 12 ∧ s.1 95 13 = s0.1 95 13 ∧ s.1 95 19 = s0.1 95 19 ∧ s.1 95 20 = s0.1 95 20 ∧ s.1 95 21 = s0.1 95 21 ∧ s.1 95 22 = s0.1 95 22 ∧ s.1 95 23 = s0.1 95 23) : fm_197_p85 Q X85 s := by
  unfold fm_197_p85
  have b274 : 0 ≤ s.1 95 7 ∧ s.1 95 7 ≤ 300 := iv_r95_7 hI
  refine sm_198 hI (show (0 : Int) ≤ s.1 95 7 ∧ s.1 95 7 ≤ (300 : Int) from by omega) (fun r49 q275 => ?_)
  obtain ⟨q275, q275x⟩ := q275
  have b276 : 0 ≤ s.1 95 4 ∧ s.1 95 4 ≤ 300 := iv_r95_4 hI
  replace q275x : (r49 = -1 ∧ s.1 95 4 ≤ (s.1 95 7)) ∨ ((s.1 95 7) < s.1 95 4 ∧ r49 = s.1 99 (s.1 95 7)) := q275x
  refine sm_199 hI (show (-1 : Int) ≤ r49 ∧ r49 ≤ (255 : Int) from by omega) (fun z51 q277 => ?_)
  refine ⟨fun c278 => ?_, fun c278 => ?_⟩
  · skip
    have dc278 := q277.2 c278
    exact hQ s hI (lf_fq_rf) (show s0.1 95 7 ≤ (s.1 95 8) ∧ ((s.1 95 9) = 0 ∨ (s.1 95 8) < (s.1 95 7)) from by omega) (show (s.1 95 12) = s0.1 95 12 ∧ (s.1 95 13) = s0.1 95 13 ∧ (s.1 95 19) = s0.1 95 19 ∧ (s.1 95 20) = s0.1 95 20 ∧ (s.1 95 21) = s0.1 95 21 ∧ (s.1 95 22) = s0.1 95 22 ∧ (s.1 95 23) = s0.1 95 23 from by omega)
  · skip
    have dc278 := q277.1 c278
    have b279 : (-2147483648) ≤ s.1 95 10 ∧ s.1 95 10 ≤ 2147483647 := iv_full hI
    refine ⟨(show lf_R (s.1 95 10) from lf_Rof (by omega)), ?_⟩
    refine ⟨fun c280 => ?_, fun c280 => ?_⟩
    · skip
      replace c280 : s.1 95 10 ≤ 99999 := c280
      have b281 : (-2147483648) ≤ lf_w (10 * (s.1 95 10)) ∧ lf_w (10 * (s.1 95 10)) ≤ 2147483647 := lf_wB
      refine sm_198 hI (show (0 : Int) ≤ s.1 95 7 ∧ s.1 95 7 ≤ (300 : Int) from by omega) (fun r54 q282 => ?_)
      obtain ⟨q282, q282x⟩ := q282
      have b283 : 0 ≤ s.1 95 4 ∧ s.1 95 4 ≤ 300 := iv_r95_4 hI
      replace q282x : (r54 = -1 ∧ s.1 95 4 ≤ (s.1 95 7)) ∨ ((s.1 95 7) < s.1 95 4 ∧ r54 = s.1 99 (s.1 95 7)) := q282x
      have b284 : (-2147483648) ≤ lf_w ((lf_w (10 * (s.1 95 10))) + r54) ∧ lf_w ((lf_w (10 * (s.1 95 10))) + r54) ≤ 2147483647 := lf_wB
      have b285 : (-2147483648) ≤ lf_w ((lf_w ((lf_w (10 * (s.1 95 10))) + r54)) - 48) ∧ lf_w ((lf_w ((lf_w (10 * (s.1 95 10))) + r54)) - 48) ≤ 2147483647 := lf_wB
      have b286 : 0 ≤ s.1 95 8 ∧ s.1 95 8 ≤ 300 := iv_r95_8 hI
      have b287 : 0 ≤ s.1 95 12 ∧ s.1 95 12 ≤ 2115 := iv_r95_12 hI
      have b288 : 0 ≤ s.1 95 13 ∧ s.1 95 13 ≤ 304 := iv_r95_13 hI
      have b289 : 0 ≤ s.1 95 19 ∧ s.1 95 19 ≤ 160 := iv_r95_19 hI
      have b290 : 0 ≤ s.1 95 20 ∧ s.1 95 20 ≤ 8 := iv_r95_20 hI
      have b291 : 0 ≤ s.1 95 21 ∧ s.1 95 21 ≤ 8 := iv_r95_21 hI
      have b292 : 0 ≤ s.1 95 22 ∧ s.1 95 22 ≤ 80 := iv_r95_22 hI
      have b293 : 0 ≤ s.1 95 23 ∧ s.1 95 23 ≤ 1 := iv_r95_23 hI
      exact sm_197_p135 (s0 := s0) hQ hX85 (show (300 - (s.1 95 7)).toNat ≤ M85 from by omega) hI (show (-2147483648 : Int) ≤ lf_w ((lf_w ((lf_w (10 * (s.1 95 10))) + r54)) - 48) ∧ lf_w ((lf_w ((lf_w (10 * (s.1 95 10))) + r54)) - 48) ≤ (2147483647 : Int) from by omega) (show (s.1 95 7) < 300 from by omega) (show s0.1 95 7 ≤ (s.1 95 8) ∧ (s.1 95 8) ≤ (s.1 95 7) from by omega) (show (s.1 95 12) = s0.1 95 12 ∧ (s.1 95 13) = s0.1 95 13 ∧ (s.1 95 19) = s0.1 95 19 ∧ (s.1 95 20) = s0.1 95 20 ∧ (s.1 95 21) = s0.1 95 21 ∧ (s.1 95 22) = s0.1 95 22 ∧ (s.1 95 23) = s0.1 95 23 from by omega)
    · skip
      replace c280 : ¬ (s.1 95 10 ≤ 99999) := c280
      have b327 : 0 ≤ s.1 95 8 ∧ s.1 95 8 ≤ 300 := iv_r95_8 hI
      have b328 : 0 ≤ s.1 95 12 ∧ s.1 95 12 ≤ 2115 := iv_r95_12 hI
      have b329 : 0 ≤ s.1 95 13 ∧ s.1 95 13 ≤ 304 := iv_r95_13 hI
      have b330 : 0 ≤ s.1 95 19 ∧ s.1 95 19 ≤ 160 := iv_r95_19 hI
      have b331 : 0 ≤ s.1 95 20 ∧ s.1 95 20 ≤ 8 := iv_r95_20 hI
      have b332 : 0 ≤ s.1 95 21 ∧ s.1 95 21 ≤ 8 := iv_r95_21 hI
      have b333 : 0 ≤ s.1 95 22 ∧ s.1 95 22 ≤ 80 := iv_r95_22 hI
      have b334 : 0 ≤ s.1 95 23 ∧ s.1 95 23 ≤ 1 := iv_r95_23 hI
      exact sm_197_p135 (s0 := s0) hQ hX85 (show (300 - (s.1 95 7)).toNat ≤ M85 from by omega) hI (show (-2147483648 : Int) ≤ s.1 95 10 ∧ s.1 95 10 ≤ (2147483647 : Int) from by omega) (show (s.1 95 7) < 300 from by omega) (show s0.1 95 7 ≤ (s.1 95 8) ∧ (s.1 95 8) ≤ (s.1 95 7) from by omega) (show (s.1 95 12) = s0.1 95 12 ∧ (s.1 95 13) = s0.1 95 13 ∧ (s.1 95 19) = s0.1 95 19 ∧ (s.1 95 20) = s0.1 95 20 ∧ (s.1 95 21) = s0.1 95 21 ∧ (s.1 95 22) = s0.1 95 22 ∧ (s.1 95 23) = s0.1 95 23 from by omega)
theorem sm_197_p85L {Q : lf_Z → Prop} {s : lf_Z} {s0 : lf_Z} (hQ : ∀  (s' : lf_Z), iv_A s'.1 s'.2.2 → lf_fq [95] 1000000 true s.1 s.2.2 s'.1 s'.2.2 → (s0.1 95 7 ≤ s'.1 95 8 ∧ (s'.1 95 9 = 0 ∨ s'.1 95 8 < s'.1 95 7)) → (s'.1 95 12 = s0.1 95 12 ∧ s'.1 95 13 = s0.1 95 13 ∧ s'.1 95 19 = s0.1 95 19 ∧ s'.1 95 20 = s0.1 95 20 ∧ s'.1 95 21 = s0.1 95 21 ∧ s'.1 95 22 = s0.1 95 22 ∧ s'.1 95 23 = s0.1 95 23) → Q  s') (hI : iv_A s.1 s.2.2) (kv0 : s0.1 95 7 ≤ s.1 95 8 ∧ s.1 95 8 ≤ s.1 95 7) (kv1 : s.1 95 8 < s.1 95 7 ∨ (s.1 95 7 < s.1 95 4 ∧ 48 ≤ s.1 99 (s.1 95 7) ∧ s.1 99 (s.1 95 7) ≤ 57)) (kv2 : s.1 95 12 = s0.1 95 12 ∧ s.1 95 13 = s0.1 95 13 ∧ s.1 95 19 = s0.1 95 19 ∧ s.1 95 20 = s0.1 95 20 ∧ s.1 95 21 = s0.1 95 21 ∧ s.1 95 22 = s0.1 95 22 ∧ s.1 95 23 = s0.1 95 23) : fm_197_p85L Q s := by
  intro X85 hX
  have key : ∀ (m9 : Nat) (s' : lf_Z), iv_A s'.1 s'.2.2 → lf_fq [95] 1000000 true s.1 s.2.2 s'.1 s'.2.2 → (s0.1 95 7 ≤ s'.1 95 8 ∧ s'.1 95 8 ≤ s'.1 95 7) → (s'.1 95 8 < s'.1 95 7 ∨ (s'.1 95 7 < s'.1 95 4 ∧ 48 ≤ s'.1 99 (s'.1 95 7) ∧ s'.1 99 (s'.1 95 7) ≤ 57)) → (s'.1 95 12 = s0.1 95 12 ∧ s'.1 95 13 = s0.1 95 13 ∧ s'.1 95 19 = s0.1 95 19 ∧ s'.1 95 20 = s0.1 95 20 ∧ s'.1 95 21 = s0.1 95 21 ∧ s'.1 95 22 = s0.1 95 22 ∧ s'.1 95 23 = s0.1 95 23) → (300 - s'.1 95 7).toNat < m9 → X85 s' := by
    intro m9
    induction m9 with
    | zero => intro  s' _ _ kv0 kv1 kv2 h9; exact absurd h9 (Nat.not_lt_zero _)
    | succ m9 ih => intro  s' i7 f7 kv0 kv1 kv2 h9; exact hX  _ (sm_197_p85 (s0 := s0) (fun t9 i9 f9 => hQ t9 i9 (lf_fq_tr f7 f9))   (fun  t8 i8 f8 kv0' kv1' kv2' h8 => ih  t8 i8 (lf_fq_tr f7 f8) kv0' kv1' kv2' (by omega)) (Nat.le_refl _)  i7    kv0 kv1 kv2)
  exact key _  s hI lf_fq_rf kv0 kv1 kv2 (Nat.lt_succ_self _)
theorem sm_197_p0 {X0 : lf_Z → Prop} {Q : lf_Z → Prop} {s : lf_Z} {s0 : lf_Z} (hQ : ∀  (s' : lf_Z), iv_A s'.1 s'.2.2 → lf_fq [95] 1000000 true s.1 s.2.2 s'.1 s'.2.2 → (s0.1 95 7 ≤ s'.1 95 8 ∧ (s'.1 95 9 = 0 ∨ s'.1 95 8 < s'.1 95 7)) → (s'.1 95 12 = s0.1 95 12 ∧ s'.1 95 13 = s0.1 95 13 ∧ s'.1 95 19 = s0.1 95 19 ∧ s'.1 95 20 = s0.1 95 20 ∧ s'.1 95 21 = s0.1 95 21 ∧ s'.1 95 22 = s0.1 95 22 ∧ s'.1 95 23 = s0.1 95 23) → Q  s') {M0 : Nat} (hX0 : ∀ (s' : lf_Z), iv_A s'.1 s'.2.2 → lf_fq [95] 1000000 true s.1 s.2.2 s'.1 s'.2.2 → (s0.1 95 7 ≤ s'.1 95 7) → (s'.1 95 12 = s0.1 95 12 ∧ s'.1 95 13 = s0.1 95 13 ∧ s'.1 95 19 = s0.1 95 19 ∧ s'.1 95 20 = s0.1 95 20 ∧ s'.1 95 21 = s0.1 95 21 ∧ s'.1 95 22 = s0.1 95 22 ∧ s'.1 95 23 = s0.1 95 23) → (300 - s'.1 95 7).toNat < M0 → X0 s') (hM0 : (300 - s.1 95 7).toNat ≤ M0) (hI : iv_A s.1 s.2.2) (kv0 : s0.1 95 7 ≤ s.1 95 7) (kv1 : s.1 95 12 = s0.1 95 12 ∧ s.1 95 13 = s0.1 95 13 ∧ s.1 95 19 = s0.1 95 19 ∧ s.1 95 20 = s0.1 95 20 ∧ s.1 95 21 = s0.1 95 21 ∧ s.1 95 22 = s0.1 95 22 ∧ s.1 95 23 = s0.1 95 23) : fm_197_p0 Q X0 s := by
  unfold fm_197_p0
  have b9 : 0 ≤ s.1 95 7 ∧ s.1 95 7 ≤ 300 := iv_r95_7 hI
  refine sm_198 hI (show (0 : Int) ≤ s.1 95 7 ∧ s.1 95 7 ≤ (300 : Int) from by omega) (fun r22 q10 => ?_)
  obtain ⟨q10, q10x⟩ := q10
  have b11 : 0 ≤ s.1 95 4 ∧ s.1 95 4 ≤ 300 := iv_r95_4 hI
  replace q10x : (r22 = -1 ∧ s.1 95 4 ≤ (s.1 95 7)) ∨ ((s.1 95 7) < s.1 95 4 ∧ r22 = s.1 99 (s.1 95 7)) := q10x
  refine ⟨(show lf_R r22 from lf_Rof (by omega)), ?_⟩
  refine ⟨fun c12 => ?_, fun c12 => ?_⟩
  · skip
    replace c12 : r22 = 32 := c12
    have b13 : 0 ≤ s.1 95 12 ∧ s.1 95 12 ≤ 2115 := iv_r95_12 hI
    have b14 : 0 ≤ s.1 95 13 ∧ s.1 95 13 ≤ 304 := iv_r95_13 hI
    have b15 : 0 ≤ s.1 95 19 ∧ s.1 95 19 ≤ 160 := iv_r95_19 hI
    have b16 : 0 ≤ s.1 95 20 ∧ s.1 95 20 ≤ 8 := iv_r95_20 hI
    have b17 : 0 ≤ s.1 95 21 ∧ s.1 95 21 ≤ 8 := iv_r95_21 hI
    have b18 : 0 ≤ s.1 95 22 ∧ s.1 95 22 ≤ 80 := iv_r95_22 hI
    have b19 : 0 ≤ s.1 95 23 ∧ s.1 95 23 ≤ 1 := iv_r95_23 hI
    exact sm_197_p26 (s0 := s0) hQ hX0 (show (300 - (s.1 95 7)).toNat ≤ M0 from by omega) hI (show (s.1 95 7) < 300 from by omega) (show s0.1 95 7 ≤ (s.1 95 7) from by omega) (show (s.1 95 12) = s0.1 95 12 ∧ (s.1 95 13) = s0.1 95 13 ∧ (s.1 95 19) = s0.1 95 19 ∧ (s.1 95 20) = s0.1 95 20 ∧ (s.1 95 21) = s0.1 95 21 ∧ (s.1 95 22) = s0.1 95 22 ∧ (s.1 95 23) = s0.1 95 23 from by omega)
  · skip
    replace c12 : ¬ (r22 = 32) := c12
    refine sm_198 hI (show (0 : Int) ≤ s.1 95 7 ∧ s.1 95 7 ≤ (300 : Int) from by omega) (fun r25 q37 => ?_)
    obtain ⟨q37, q37x⟩ := q37
    have b38 : 0 ≤ s.1 95 4 ∧ s.1 95 4 ≤ 300 := iv_r95_4 hI
    replace q37x : (r25 = -1 ∧ s.1 95 4 ≤ (s.1 95 7)) ∨ ((s.1 95 7) < s.1 95 4 ∧ r25 = s.1 99 (s.1 95 7)) := q37x
    refine ⟨(show lf_R r25 from lf_Rof (by omega)), ?_⟩
    refine ⟨fun c39 => ?_, fun c39 => ?_⟩
    · skip
      replace c39 : r25 ≠ 10 := c39
      have hI40 : iv_A (lf_up s.1 95 8 (s.1 95 7)) s.2.2 := iv_w95_8 hI (by omega)
      have fr41 : lf_fq [95] 1000000 true s.1 s.2.2 (lf_up s.1 95 8 (s.1 95 7)) s.2.2 := lf_fq_up (lf_fq_rf) rfl (fun h => absurd h (by decide))
      have b42 : (lf_up s.1 95 8 (s.1 95 7)) 95 7 = s.1 95 7 := lf_up_i (by omega)
      refine sm_198 hI40 (show (0 : Int) ≤ s.1 95 7 ∧ s.1 95 7 ≤ (300 : Int) from by omega) (fun r28 q43 => ?_)
      obtain ⟨q43, q43x⟩ := q43
      have b44 : 0 ≤ s.1 95 4 ∧ s.1 95 4 ≤ 300 := (show 0 ≤ (lf_up s.1 95 8 (s.1 95 7)) 95 4 ∧ (lf_up s.1 95 8 (s.1 95 7)) 95 4 ≤ 300 from iv_r95_4 hI40)
      have b45 : (lf_up s.1 95 8 (s.1 95 7)) 95 4 = s.1 95 4 := lf_up_i (by omega)
      replace q43x : (r28 = -1 ∧ (s.1 95 4) ≤ (s.1 95 7)) ∨ ((s.1 95 7) < (s.1 95 4) ∧ r28 = (s.1 99) (s.1 95 7)) := q43x
      refine ⟨(show lf_R r28 from lf_Rof (by omega)), ?_⟩
      refine ⟨fun c46 => ?_, fun c46 => ?_⟩
      · skip
        replace c46 : 0 ≤ r28 := c46
        refine sm_199 hI40 (show (-1 : Int) ≤ r28 ∧ r28 ≤ (255 : Int) from by omega) (fun z31 q47 => ?_)
        replace q47 : (z31 = true → (48 ≤ r28 ∧ r28 ≤ 57)) ∧ (z31 = false → ¬ (48 ≤ r28 ∧ r28 ≤ 57)) := q47
        refine ⟨fun c48 => ?_, fun c48 => ?_⟩
        · skip
          have dc48 := q47.2 c48
          refine sm_200 hI40 (show (-1 : Int) ≤ r28 ∧ r28 ≤ (255 : Int) from by omega) (fun z33 q49 => ?_)
          replace q49 : (z33 = true → ((97 ≤ r28 ∧ r28 ≤ 122) ∨ 65 ≤ r28 ∧ r28 ≤ 90)) ∧ (z33 = false → ¬ ((97 ≤ r28 ∧ r28 ≤ 122) ∨ 65 ≤ r28 ∧ r28 ≤ 90)) := q49
          refine ⟨fun c50 => ?_, fun c50 => ?_⟩
          · skip
            have dc50 := q49.2 c50
            refine sm_201 hI40 (show (0 : Int) ≤ r28 ∧ r28 ≤ (255 : Int) from by omega) (fun z35 => ?_)
            refine ⟨fun c52 => ?_, fun c52 => ?_⟩
            · skip
              have b53 : 0 ≤ s.1 95 12 ∧ s.1 95 12 ≤ 2115 := (show 0 ≤ (lf_up s.1 95 8 (s.1 95 7)) 95 12 ∧ (lf_up s.1 95 8 (s.1 95 7)) 95 12 ≤ 2115 from iv_r95_12 hI40)
              have b54 : (lf_up s.1 95 8 (s.1 95 7)) 95 12 = s.1 95 12 := lf_up_i (by omega)
              have b55 : 0 ≤ s.1 95 13 ∧ s.1 95 13 ≤ 304 := (show 0 ≤ (lf_up s.1 95 8 (s.1 95 7)) 95 13 ∧ (lf_up s.1 95 8 (s.1 95 7)) 95 13 ≤ 304 from iv_r95_13 hI40)
              have b56 : (lf_up s.1 95 8 (s.1 95 7)) 95 13 = s.1 95 13 := lf_up_i (by omega)
              have b57 : 0 ≤ s.1 95 19 ∧ s.1 95 19 ≤ 160 := (show 0 ≤ (lf_up s.1 95 8 (s.1 95 7)) 95 19 ∧ (lf_up s.1 95 8 (s.1 95 7)) 95 19 ≤ 160 from iv_r95_19 hI40)
              have b58 : (lf_up s.1 95 8 (s.1 95 7)) 95 19 = s.1 95 19 := lf_up_i (by omega)
              have b59 : 0 ≤ s.1 95 20 ∧ s.1 95 20 ≤ 8 := (show 0 ≤ (lf_up s.1 95 8 (s.1 95 7)) 95 20 ∧ (lf_up s.1 95 8 (s.1 95 7)) 95 20 ≤ 8 from iv_r95_20 hI40)
              have b60 : (lf_up s.1 95 8 (s.1 95 7)) 95 20 = s.1 95 20 := lf_up_i (by omega)
              have b61 : 0 ≤ s.1 95 21 ∧ s.1 95 21 ≤ 8 := (show 0 ≤ (lf_up s.1 95 8 (s.1 95 7)) 95 21 ∧ (lf_up s.1 95 8 (s.1 95 7)) 95 21 ≤ 8 from iv_r95_21 hI40)
              have b62 : (lf_up s.1 95 8 (s.1 95 7)) 95 21 = s.1 95 21 := lf_up_i (by omega)
              have b63 : 0 ≤ s.1 95 22 ∧ s.1 95 22 ≤ 80 := (show 0 ≤ (lf_up s.1 95 8 (s.1 95 7)) 95 22 ∧ (lf_up s.1 95 8 (s.1 95 7)) 95 22 ≤ 80 from iv_r95_22 hI40)
              have b64 : (lf_up s.1 95 8 (s.1 95 7)) 95 22 = s.1 95 22 := lf_up_i (by omega)
              have b65 : 0 ≤ s.1 95 23 ∧ s.1 95 23 ≤ 1 := (show 0 ≤ (lf_up s.1 95 8 (s.1 95 7)) 95 23 ∧ (lf_up s.1 95 8 (s.1 95 7)) 95 23 ≤ 1 from iv_r95_23 hI40)
              have b66 : (lf_up s.1 95 8 (s.1 95 7)) 95 23 = s.1 95 23 := lf_up_i (by omega)
              exact sm_197_p247 (s0 := s0) (fun t9 i9 f9 => hQ t9 i9 (lf_fq_tr fr41 f9)) hI40 (show (0 : Int) ≤ r28 ∧ r28 ≤ (255 : Int) from by omega) (show (0 : Int) ≤ 3 ∧ 3 ≤ (255 : Int) from by omega) (show (s.1 95 7) < 300 from by omega) (show s0.1 95 7 ≤ (s.1 95 7) ∧ (s.1 95 7) ≤ (s.1 95 7) from by omega) (show (s.1 95 12) = s0.1 95 12 ∧ (s.1 95 13) = s0.1 95 13 ∧ (s.1 95 19) = s0.1 95 19 ∧ (s.1 95 20) = s0.1 95 20 ∧ (s.1 95 21) = s0.1 95 21 ∧ (s.1 95 22) = s0.1 95 22 ∧ (s.1 95 23) = s0.1 95 23 from by omega)
            · skip
              have b150 : 0 ≤ s.1 95 12 ∧ s.1 95 12 ≤ 2115 := (show 0 ≤ (lf_up s.1 95 8 (s.1 95 7)) 95 12 ∧ (lf_up s.1 95 8 (s.1 95 7)) 95 12 ≤ 2115 from iv_r95_12 hI40)
              have b151 : (lf_up s.1 95 8 (s.1 95 7)) 95 12 = s.1 95 12 := lf_up_i (by omega)
              have b152 : 0 ≤ s.1 95 13 ∧ s.1 95 13 ≤ 304 := (show 0 ≤ (lf_up s.1 95 8 (s.1 95 7)) 95 13 ∧ (lf_up s.1 95 8 (s.1 95 7)) 95 13 ≤ 304 from iv_r95_13 hI40)
              have b153 : (lf_up s.1 95 8 (s.1 95 7)) 95 13 = s.1 95 13 := lf_up_i (by omega)
              have b154 : 0 ≤ s.1 95 19 ∧ s.1 95 19 ≤ 160 := (show 0 ≤ (lf_up s.1 95 8 (s.1 95 7)) 95 19 ∧ (lf_up s.1 95 8 (s.1 95 7)) 95 19 ≤ 160 from iv_r95_19 hI40)
              have b155 : (lf_up s.1 95 8 (s.1 95 7)) 95 19 = s.1 95 19 := lf_up_i (by omega)
              have b156 : 0 ≤ s.1 95 20 ∧ s.1 95 20 ≤ 8 := (show 0 ≤ (lf_up s.1 95 8 (s.1 95 7)) 95 20 ∧ (lf_up s.1 95 8 (s.1 95 7)) 95 20 ≤ 8 from iv_r95_20 hI40)
              have b157 : (lf_up s.1 95 8 (s.1 95 7)) 95 20 = s.1 95 20 := lf_up_i (by omega)
              have b158 : 0 ≤ s.1 95 21 ∧ s.1 95 21 ≤ 8 := (show 0 ≤ (lf_up s.1 95 8 (s.1 95 7)) 95 21 ∧ (lf_up s.1 95 8 (s.1 95 7)) 95 21 ≤ 8 from iv_r95_21 hI40)
              have b159 : (lf_up s.1 95 8 (s.1 95 7)) 95 21 = s.1 95 21 := lf_up_i (by omega)
              have b160 : 0 ≤ s.1 95 22 ∧ s.1 95 22 ≤ 80 := (show 0 ≤ (lf_up s.1 95 8 (s.1 95 7)) 95 22 ∧ (lf_up s.1 95 8 (s.1 95 7)) 95 22 ≤ 80 from iv_r95_22 hI40)
              have b161 : (lf_up s.1 95 8 (s.1 95 7)) 95 22 = s.1 95 22 := lf_up_i (by omega)
              have b162 : 0 ≤ s.1 95 23 ∧ s.1 95 23 ≤ 1 := (show 0 ≤ (lf_up s.1 95 8 (s.1 95 7)) 95 23 ∧ (lf_up s.1 95 8 (s.1 95 7)) 95 23 ≤ 1 from iv_r95_23 hI40)
              have b163 : (lf_up s.1 95 8 (s.1 95 7)) 95 23 = s.1 95 23 := lf_up_i (by omega)
              exact sm_197_p247 (s0 := s0) (fun t9 i9 f9 => hQ t9 i9 (lf_fq_tr fr41 f9)) hI40 (show (0 : Int) ≤ r28 ∧ r28 ≤ (255 : Int) from by omega) (show (0 : Int) ≤ r28 ∧ r28 ≤ (255 : Int) from by omega) (show (s.1 95 7) < 300 from by omega) (show s0.1 95 7 ≤ (s.1 95 7) ∧ (s.1 95 7) ≤ (s.1 95 7) from by omega) (show (s.1 95 12) = s0.1 95 12 ∧ (s.1 95 13) = s0.1 95 13 ∧ (s.1 95 19) = s0.1 95 19 ∧ (s.1 95 20) = s0.1 95 20 ∧ (s.1 95 21) = s0.1 95 21 ∧ (s.1 95 22) = s0.1 95 22 ∧ (s.1 95 23) = s0.1 95 23 from by omega)
          · skip
            have dc50 := q49.1 c50
            have hI164 : iv_A (lf_up (lf_up s.1 95 8 (s.1 95 7)) 95 9 2) s.2.2 := iv_w95_9 hI40 (by omega)
            have fr165 : lf_fq [95] 1000000 true s.1 s.2.2 (lf_up (lf_up s.1 95 8 (s.1 95 7)) 95 9 2) s.2.2 := lf_fq_up fr41 rfl (fun h => absurd h (by decide))
            have b166 : (lf_up (lf_up s.1 95 8 (s.1 95 7)) 95 9 2) 95 7 = (lf_up s.1 95 8 (s.1 95 7)) 95 7 := lf_up_i (by omega)
            have b167 : 0 ≤ s.1 95 4 ∧ s.1 95 4 ≤ 300 := (show 0 ≤ (lf_up (lf_up s.1 95 8 (s.1 95 7)) 95 9 2) 95 4 ∧ (lf_up (lf_up s.1 95 8 (s.1 95 7)) 95 9 2) 95 4 ≤ 300 from iv_r95_4 hI164)
            have b168 : (lf_up (lf_up s.1 95 8 (s.1 95 7)) 95 9 2) 95 4 = (lf_up s.1 95 8 (s.1 95 7)) 95 4 := lf_up_i (by omega)
            have b169 : (lf_up s.1 95 8 (s.1 95 7)) 95 4 = s.1 95 4 := lf_up_i (by omega)
            have b170 : 0 ≤ s.1 95 12 ∧ s.1 95 12 ≤ 2115 := (show 0 ≤ (lf_up (lf_up s.1 95 8 (s.1 95 7)) 95 9 2) 95 12 ∧ (lf_up (lf_up s.1 95 8 (s.1 95 7)) 95 9 2) 95 12 ≤ 2115 from iv_r95_12 hI164)
            have b171 : (lf_up (lf_up s.1 95 8 (s.1 95 7)) 95 9 2) 95 12 = (lf_up s.1 95 8 (s.1 95 7)) 95 12 := lf_up_i (by omega)
            have b172 : (lf_up s.1 95 8 (s.1 95 7)) 95 12 = s.1 95 12 := lf_up_i (by omega)
            have b173 : 0 ≤ s.1 95 13 ∧ s.1 95 13 ≤ 304 := (show 0 ≤ (lf_up (lf_up s.1 95 8 (s.1 95 7)) 95 9 2) 95 13 ∧ (lf_up (lf_up s.1 95 8 (s.1 95 7)) 95 9 2) 95 13 ≤ 304 from iv_r95_13 hI164)
            have b174 : (lf_up (lf_up s.1 95 8 (s.1 95 7)) 95 9 2) 95 13 = (lf_up s.1 95 8 (s.1 95 7)) 95 13 := lf_up_i (by omega)
            have b175 : (lf_up s.1 95 8 (s.1 95 7)) 95 13 = s.1 95 13 := lf_up_i (by omega)
            have b176 : 0 ≤ s.1 95 19 ∧ s.1 95 19 ≤ 160 := (show 0 ≤ (lf_up (lf_up s.1 95 8 (s.1 95 7)) 95 9 2) 95 19 ∧ (lf_up (lf_up s.1 95 8 (s.1 95 7)) 95 9 2) 95 19 ≤ 160 from iv_r95_19 hI164)
            have b177 : (lf_up (lf_up s.1 95 8 (s.1 95 7)) 95 9 2) 95 19 = (lf_up s.1 95 8 (s.1 95 7)) 95 19 := lf_up_i (by omega)
            have b178 : (lf_up s.1 95 8 (s.1 95 7)) 95 19 = s.1 95 19 := lf_up_i (by omega)
            have b179 : 0 ≤ s.1 95 20 ∧ s.1 95 20 ≤ 8 := (show 0 ≤ (lf_up (lf_up s.1 95 8 (s.1 95 7)) 95 9 2) 95 20 ∧ (lf_up (lf_up s.1 95 8 (s.1 95 7)) 95 9 2) 95 20 ≤ 8 from iv_r95_20 hI164)
            have b180 : (lf_up (lf_up s.1 95 8 (s.1 95 7)) 95 9 2) 95 20 = (lf_up s.1 95 8 (s.1 95 7)) 95 20 := lf_up_i (by omega)
            have b181 : (lf_up s.1 95 8 (s.1 95 7)) 95 20 = s.1 95 20 := lf_up_i (by omega)
            have b182 : 0 ≤ s.1 95 21 ∧ s.1 95 21 ≤ 8 := (show 0 ≤ (lf_up (lf_up s.1 95 8 (s.1 95 7)) 95 9 2) 95 21 ∧ (lf_up (lf_up s.1 95 8 (s.1 95 7)) 95 9 2) 95 21 ≤ 8 from iv_r95_21 hI164)
            have b183 : (lf_up (lf_up s.1 95 8 (s.1 95 7)) 95 9 2) 95 21 = (lf_up s.1 95 8 (s.1 95 7)) 95 21 := lf_up_i (by omega)
            have b184 : (lf_up s.1 95 8 (s.1 95 7)) 95 21 = s.1 95 21 := lf_up_i (by omega)
            have b185 : 0 ≤ s.1 95 22 ∧ s.1 95 22 ≤ 80 := (show 0 ≤ (lf_up (lf_up s.1 95 8 (s.1 95 7)) 95 9 2) 95 22 ∧ (lf_up (lf_up s.1 95 8 (s.1 95 7)) 95 9 2) 95 22 ≤ 80 from iv_r95_22 hI164)
            have b186 : (lf_up (lf_up s.1 95 8 (s.1 95 7)) 95 9 2) 95 22 = (lf_up s.1 95 8 (s.1 95 7)) 95 22 := lf_up_i (by omega)
            have b187 : (lf_up s.1 95 8 (s.1 95 7)) 95 22 = s.1 95 22 := lf_up_i (by omega)
            have b188 : 0 ≤ s.1 95 23 ∧ s.1 95 23 ≤ 1 := (show 0 ≤ (lf_up (lf_up s.1 95 8 (s.1 95 7)) 95 9 2) 95 23 ∧ (lf_up (lf_up s.1 95 8 (s.1 95 7)) 95 9 2) 95 23 ≤ 1 from iv_r95_23 hI164)
            have b189 : (lf_up (lf_up s.1 95 8 (s.1 95 7)) 95 9 2) 95 23 = (lf_up s.1 95 8 (s.1 95 7)) 95 23 := lf_up_i (by omega)
            have b190 : (lf_up s.1 95 8 (s.1 95 7)) 95 23 = s.1 95 23 := lf_up_i (by omega)
            exact sm_197_p168L (s0 := s0) (fun t9 i9 f9 => hQ t9 i9 (lf_fq_tr fr165 f9)) hI164 (show s0.1 95 7 ≤ (s.1 95 7) ∧ (s.1 95 7) ≤ (s.1 95 7) from by omega) (show (s.1 95 7) < (s.1 95 7) ∨ ((s.1 95 7) < (s.1 95 4) ∧ ((97 ≤ (s.1 99) ((s.1 95 7)) ∧ (s.1 99) ((s.1 95 7)) ≤ 122) ∨ (65 ≤ (s.1 99) ((s.1 95 7)) ∧ (s.1 99) ((s.1 95 7)) ≤ 90))) from by omega) (show (s.1 95 12) = s0.1 95 12 ∧ (s.1 95 13) = s0.1 95 13 ∧ (s.1 95 19) = s0.1 95 19 ∧ (s.1 95 20) = s0.1 95 20 ∧ (s.1 95 21) = s0.1 95 21 ∧ (s.1 95 22) = s0.1 95 22 ∧ (s.1 95 23) = s0.1 95 23 from by omega)
        · skip
          have dc48 := q47.1 c48
          have hI236 : iv_A (lf_up (lf_up s.1 95 8 (s.1 95 7)) 95 9 1) s.2.2 := iv_w95_9 hI40 (by omega)
          have fr237 : lf_fq [95] 1000000 true s.1 s.2.2 (lf_up (lf_up s.1 95 8 (s.1 95 7)) 95 9 1) s.2.2 := lf_fq_up fr41 rfl (fun h => absurd h (by decide))
          have hI238 : iv_A (lf_up (lf_up (lf_up s.1 95 8 (s.1 95 7)) 95 9 1) 95 10 0) s.2.2 := iv_w95_10 hI236 (by omega)
          have fr239 : lf_fq [95] 1000000 true s.1 s.2.2 (lf_up (lf_up (lf_up s.1 95 8 (s.1 95 7)) 95 9 1) 95 10 0) s.2.2 := lf_fq_up fr237 rfl (fun h => absurd h (by decide))
          have b240 : (lf_up (lf_up (lf_up s.1 95 8 (s.1 95 7)) 95 9 1) 95 10 0) 95 7 = (lf_up (lf_up s.1 95 8 (s.1 95 7)) 95 9 1) 95 7 := lf_up_i (by omega)
          have b241 : (lf_up (lf_up s.1 95 8 (s.1 95 7)) 95 9 1) 95 7 = (lf_up s.1 95 8 (s.1 95 7)) 95 7 := lf_up_i (by omega)
          have b242 : 0 ≤ s.1 95 4 ∧ s.1 95 4 ≤ 300 := (show 0 ≤ (lf_up (lf_up (lf_up s.1 95 8 (s.1 95 7)) 95 9 1) 95 10 0) 95 4 ∧ (lf_up (lf_up (lf_up s.1 95 8 (s.1 95 7)) 95 9 1) 95 10 0) 95 4 ≤ 300 from iv_r95_4 hI238)
          have b243 : (lf_up (lf_up (lf_up s.1 95 8 (s.1 95 7)) 95 9 1) 95 10 0) 95 4 = (lf_up (lf_up s.1 95 8 (s.1 95 7)) 95 9 1) 95 4 := lf_up_i (by omega)
          have b244 : (lf_up (lf_up s.1 95 8 (s.1 95 7)) 95 9 1) 95 4 = (lf_up s.1 95 8 (s.1 95 7)) 95 4 := lf_up_i (by omega)
          have b245 : (lf_up s.1 95 8 (s.1 95 7)) 95 4 = s.1 95 4 := lf_up_i (by omega)
          have b246 : 0 ≤ s.1 95 12 ∧ s.1 95 12 ≤ 2115 := (show 0 ≤ (lf_up (lf_up (lf_up s.1 95 8 (s.1 95 7)) 95 9 1) 95 10 0) 95 12 ∧ (lf_up (lf_up (lf_up s.1 95 8 (s.1 95 7)) 95 9 1) 95 10 0) 95 12 ≤ 2115 from iv_r95_12 hI238)
          have b247 : (lf_up (lf_up (lf_up s.1 95 8 (s.1 95 7)) 95 9 1) 95 10 0) 95 12 = (lf_up (lf_up s.1 95 8 (s.1 95 7)) 95 9 1) 95 12 := lf_up_i (by omega)
          have b248 : (lf_up (lf_up s.1 95 8 (s.1 95 7)) 95 9 1) 95 12 = (lf_up s.1 95 8 (s.1 95 7)) 95 12 := lf_up_i (by omega)
          have b249 : (lf_up s.1 95 8 (s.1 95 7)) 95 12 = s.1 95 12 := lf_up_i (by omega)
          have b250 : 0 ≤ s.1 95 13 ∧ s.1 95 13 ≤ 304 := (show 0 ≤ (lf_up (lf_up (lf_up s.1 95 8 (s.1 95 7)) 95 9 1) 95 10 0) 95 13 ∧ (lf_up (lf_up (lf_up s.1 95 8 (s.1 95 7)) 95 9 1) 95 10 0) 95 13 ≤ 304 from iv_r95_13 hI238)
          have b251 : (lf_up (lf_up (lf_up s.1 95 8 (s.1 95 7)) 95 9 1) 95 10 0) 95 13 = (lf_up (lf_up s.1 95 8 (s.1 95 7)) 95 9 1) 95 13 := lf_up_i (by omega)
          have b252 : (lf_up (lf_up s.1 95 8 (s.1 95 7)) 95 9 1) 95 13 = (lf_up s.1 95 8 (s.1 95 7)) 95 13 := lf_up_i (by omega)
          have b253 : (lf_up s.1 95 8 (s.1 95 7)) 95 13 = s.1 95 13 := lf_up_i (by omega)
          have b254 : 0 ≤ s.1 95 19 ∧ s.1 95 19 ≤ 160 := (show 0 ≤ (lf_up (lf_up (lf_up s.1 95 8 (s.1 95 7)) 95 9 1) 95 10 0) 95 19 ∧ (lf_up (lf_up (lf_up s.1 95 8 (s.1 95 7)) 95 9 1) 95 10 0) 95 19 ≤ 160 from iv_r95_19 hI238)
          have b255 : (lf_up (lf_up (lf_up s.1 95 8 (s.1 95 7)) 95 9 1) 95 10 0) 95 19 = (lf_up (lf_up s.1 95 8 (s.1 95 7)) 95 9 1) 95 19 := lf_up_i (by omega)
          have b256 : (lf_up (lf_up s.1 95 8 (s.1 95 7)) 95 9 1) 95 19 = (lf_up s.1 95 8 (s.1 95 7)) 95 19 := lf_up_i (by omega)
          have b257 : (lf_up s.1 95 8 (s.1 95 7)) 95 19 = s.1 95 19 := lf_up_i (by omega)
          have b258 : 0 ≤ s.1 95 20 ∧ s.1 95 20 ≤ 8 := (show 0 ≤ (lf_up (lf_up (lf_up s.1 95 8 (s.1 95 7)) 95 9 1) 95 10 0) 95 20 ∧ (lf_up (lf_up (lf_up s.1 95 8 (s.1 95 7)) 95 9 1) 95 10 0) 95 20 ≤ 8 from iv_r95_20 hI238)
          have b259 : (lf_up (lf_up (lf_up s.1 95 8 (s.1 95 7)) 95 9 1) 95 10 0) 95 20 = (lf_up (lf_up s.1 95 8 (s.1 95 7)) 95 9 1) 95 20 := lf_up_i (by omega)
          have b260 : (lf_up (lf_up s.1 95 8 (s.1 95 7)) 95 9 1) 95 20 = (lf_up s.1 95 8 (s.1 95 7)) 95 20 := lf_up_i (by omega)
          have b261 : (lf_up s.1 95 8 (s.1 95 7)) 95 20 = s.1 95 20 := lf_up_i (by omega)
          have b262 : 0 ≤ s.1 95 21 ∧ s.1 95 21 ≤ 8 := (show 0 ≤ (lf_up (lf_up (lf_up s.1 95 8 (s.1 95 7)) 95 9 1) 95 10 0) 95 21 ∧ (lf_up (lf_up (lf_up s.1 95 8 (s.1 95 7)) 95 9 1) 95 10 0) 95 21 ≤ 8 from iv_r95_21 hI238)
          have b263 : (lf_up (lf_up (lf_up s.1 95 8 (s.1 95 7)) 95 9 1) 95 10 0) 95 21 = (lf_up (lf_up s.1 95 8 (s.1 95 7)) 95 9 1) 95 21 := lf_up_i (by omega)
          have b264 : (lf_up (lf_up s.1 95 8 (s.1 95 7)) 95 9 1) 95 21 = (lf_up s.1 95 8 (s.1 95 7)) 95 21 := lf_up_i (by omega)
          have b265 : (lf_up s.1 95 8 (s.1 95 7)) 95 21 = s.1 95 21 := lf_up_i (by omega)
          have b266 : 0 ≤ s.1 95 22 ∧ s.1 95 22 ≤ 80 := (show 0 ≤ (lf_up (lf_up (lf_up s.1 95 8 (s.1 95 7)) 95 9 1) 95 10 0) 95 22 ∧ (lf_up (lf_up (lf_up s.1 95 8 (s.1 95 7)) 95 9 1) 95 10 0) 95 22 ≤ 80 from iv_r95_22 hI238)
          have b267 : (lf_up (lf_up (lf_up s.1 95 8 (s.1 95 7)) 95 9 1) 95 10 0) 95 22 = (lf_up (lf_up s.1 95 8 (s.1 95 7)) 95 9 1) 95 22 := lf_up_i (by omega)
          have b268 : (lf_up (lf_up s.1 95 8 (s.1 95 7)) 95 9 1) 95 22 = (lf_up s.1 95 8 (s.1 95 7)) 95 22 := lf_up_i (by omega)
          have b269 : (lf_up s.1 95 8 (s.1 95 7)) 95 22 = s.1 95 22 := lf_up_i (by omega)
          have b270 : 0 ≤ s.1 95 23 ∧ s.1 95 23 ≤ 1 := (show 0 ≤ (lf_up (lf_up (lf_up s.1 95 8 (s.1 95 7)) 95 9 1) 95 10 0) 95 23 ∧ (lf_up (lf_up (lf_up s.1 95 8 (s.1 95 7)) 95 9 1) 95 10 0) 95 23 ≤ 1 from iv_r95_23 hI238)
          have b271 : (lf_up (lf_up (lf_up s.1 95 8 (s.1 95 7)) 95 9 1) 95 10 0) 95 23 = (lf_up (lf_up s.1 95 8 (s.1 95 7)) 95 9 1) 95 23 := lf_up_i (by omega)
          have b272 : (lf_up (lf_up s.1 95 8 (s.1 95 7)) 95 9 1) 95 23 = (lf_up s.1 95 8 (s.1 95 7)) 95 23 := lf_up_i (by omega)
          have b273 : (lf_up s.1 95 8 (s.1 95 7)) 95 23 = s.1 95 23 := lf_up_i (by omega)
          exact sm_197_p85L (s0 := s0) (fun t9 i9 f9 => hQ t9 i9 (lf_fq_tr fr239 f9)) hI238 (show s0.1 95 7 ≤ (s.1 95 7) ∧ (s.1 95 7) ≤ (s.1 95 7) from by omega) (show (s.1 95 7) < (s.1 95 7) ∨ ((s.1 95 7) < (s.1 95 4) ∧ 48 ≤ (s.1 99) ((s.1 95 7)) ∧ (s.1 99) ((s.1 95 7)) ≤ 57) from by omega) (show (s.1 95 12) = s0.1 95 12 ∧ (s.1 95 13) = s0.1 95 13 ∧ (s.1 95 19) = s0.1 95 19 ∧ (s.1 95 20) = s0.1 95 20 ∧ (s.1 95 21) = s0.1 95 21 ∧ (s.1 95 22) = s0.1 95 22 ∧ (s.1 95 23) = s0.1 95 23 from by omega)
      · skip
        replace c46 : ¬ (0 ≤ r28) := c46
        have hI335 : iv_A (lf_up (lf_up s.1 95 8 (s.1 95 7)) 95 9 0) s.2.2 := iv_w95_9 hI40 (by omega)
        have fr336 : lf_fq [95] 1000000 true s.1 s.2.2 (lf_up (lf_up s.1 95 8 (s.1 95 7)) 95 9 0) s.2.2 := lf_fq_up fr41 rfl (fun h => absurd h (by decide))
        exact hQ (lf_up (lf_up s.1 95 8 (s.1 95 7)) 95 9 0, s.2.1, s.2.2) hI335 fr336 (show s0.1 95 7 ≤ (s.1 95 7) ∧ (0 = 0 ∨ (s.1 95 7) < (s.1 95 7)) from by omega) (show (s.1 95 12) = s0.1 95 12 ∧ (s.1 95 13) = s0.1 95 13 ∧ (s.1 95 19) = s0.1 95 19 ∧ (s.1 95 20) = s0.1 95 20 ∧ (s.1 95 21) = s0.1 95 21 ∧ (s.1 95 22) = s0.1 95 22 ∧ (s.1 95 23) = s0.1 95 23 from by omega)
    · skip
      replace c39 : ¬ (r25 ≠ 10) := c39
      have b337 : 0 ≤ s.1 95 12 ∧ s.1 95 12 ≤ 2115 := iv_r95_12 hI
      have b338 : 0 ≤ s.1 95 13 ∧ s.1 95 13 ≤ 304 := iv_r95_13 hI
      have b339 : 0 ≤ s.1 95 19 ∧ s.1 95 19 ≤ 160 := iv_r95_19 hI
      have b340 : 0 ≤ s.1 95 20 ∧ s.1 95 20 ≤ 8 := iv_r95_20 hI
      have b341 : 0 ≤ s.1 95 21 ∧ s.1 95 21 ≤ 8 := iv_r95_21 hI
      have b342 : 0 ≤ s.1 95 22 ∧ s.1 95 22 ≤ 80 := iv_r95_22 hI
      have b343 : 0 ≤ s.1 95 23 ∧ s.1 95 23 ≤ 1 := iv_r95_23 hI
      exact sm_197_p26 (s0 := s0) hQ hX0 (show (300 - (s.1 95 7)).toNat ≤ M0 from by omega) hI (show (s.1 95 7) < 300 from by omega) (show s0.1 95 7 ≤ (s.1 95 7) from by omega) (show (s.1 95 12) = s0.1 95 12 ∧ (s.1 95 13) = s0.1 95 13 ∧ (s.1 95 19) = s0.1 95 19 ∧ (s.1 95 20) = s0.1 95 20 ∧ (s.1 95 21) = s0.1 95 21 ∧ (s.1 95 22) = s0.1 95 22 ∧ (s.1 95 23) = s0.1 95 23 from by omega)
theorem sm_197_p0L {Q : lf_Z → Prop} {s : lf_Z} {s0 : lf_Z} (hQ : ∀  (s' : lf_Z), iv_A s'.1 s'.2.2 → lf_fq [95] 1000000 true s.1 s.2.2 s'.1 s'.2.2 → (s0.1 95 7 ≤ s'.1 95 8 ∧ (s'.1 95 9 = 0 ∨ s'.1 95 8 < s'.1 95 7)) → (s'.1 95 12 = s0.1 95 12 ∧ s'.1 95 13 = s0.1 95 13 ∧ s'.1 95 19 = s0.1 95 19 ∧ s'.1 95 20 = s0.1 95 20 ∧ s'.1 95 21 = s0.1 95 21 ∧ s'.1 95 22 = s0.1 95 22 ∧ s'.1 95 23 = s0.1 95 23) → Q  s') (hI : iv_A s.1 s.2.2) (kv0 : s0.1 95 7 ≤ s.1 95 7) (kv1 : s.1 95 12 = s0.1 95 12 ∧ s.1 95 13 = s0.1 95 13 ∧ s.1 95 19 = s0.1 95 19 ∧ s.1 95 20 = s0.1 95 20 ∧ s.1 95 21 = s0.1 95 21 ∧ s.1 95 22 = s0.1 95 22 ∧ s.1 95 23 = s0.1 95 23) : fm_197_p0L Q s := by
  intro X0 hX
  have key : ∀ (m9 : Nat) (s' : lf_Z), iv_A s'.1 s'.2.2 → lf_fq [95] 1000000 true s.1 s.2.2 s'.1 s'.2.2 → (s0.1 95 7 ≤ s'.1 95 7) → (s'.1 95 12 = s0.1 95 12 ∧ s'.1 95 13 = s0.1 95 13 ∧ s'.1 95 19 = s0.1 95 19 ∧ s'.1 95 20 = s0.1 95 20 ∧ s'.1 95 21 = s0.1 95 21 ∧ s'.1 95 22 = s0.1 95 22 ∧ s'.1 95 23 = s0.1 95 23) → (300 - s'.1 95 7).toNat < m9 → X0 s' := by
    intro m9
    induction m9 with
    | zero => intro  s' _ _ kv0 kv1 h9; exact absurd h9 (Nat.not_lt_zero _)
    | succ m9 ih => intro  s' i7 f7 kv0 kv1 h9; exact hX  _ (sm_197_p0 (s0 := s0) (fun t9 i9 f9 => hQ t9 i9 (lf_fq_tr f7 f9))   (fun  t8 i8 f8 kv0' kv1' h8 => ih  t8 i8 (lf_fq_tr f7 f8) kv0' kv1' (by omega)) (Nat.le_refl _)  i7    kv0 kv1)
  exact key _  s hI lf_fq_rf kv0 kv1 (Nat.lt_succ_self _)
theorem sm_197 {Q : lf_Z → Prop} {s : lf_Z} (hI : iv_A s.1 s.2.2) (hQ : ∀  (s' : lf_Z), iv_A s'.1 s'.2.2 → lf_fq [95] 1000000 true s.1 s.2.2 s'.1 s'.2.2 → (s.1 95 7 ≤ s'.1 95 8 ∧ (s'.1 95 9 = 0 ∨ s'.1 95 8 < s'.1 95 7)) → (s'.1 95 12 = s.1 95 12 ∧ s'.1 95 13 = s.1 95 13 ∧ s'.1 95 19 = s.1 95 19 ∧ s'.1 95 20 = s.1 95 20 ∧ s'.1 95 21 = s.1 95 21 ∧ s'.1 95 22 = s.1 95 22 ∧ s'.1 95 23 = s.1 95 23) → Q  s') : fm_197 Q s := by
  unfold fm_197
  have b1 : 0 ≤ s.1 95 7 ∧ s.1 95 7 ≤ 300 := iv_r95_7 hI
  have b2 : 0 ≤ s.1 95 12 ∧ s.1 95 12 ≤ 2115 := iv_r95_12 hI
  have b3 : 0 ≤ s.1 95 13 ∧ s.1 95 13 ≤ 304 := iv_r95_13 hI
  have b4 : 0 ≤ s.1 95 19 ∧ s.1 95 19 ≤ 160 := iv_r95_19 hI
  have b5 : 0 ≤ s.1 95 20 ∧ s.1 95 20 ≤ 8 := iv_r95_20 hI
  have b6 : 0 ≤ s.1 95 21 ∧ s.1 95 21 ≤ 8 := iv_r95_21 hI
  have b7 : 0 ≤ s.1 95 22 ∧ s.1 95 22 ≤ 80 := iv_r95_22 hI
  have b8 : 0 ≤ s.1 95 23 ∧ s.1 95 23 ≤ 1 := iv_r95_23 hI
  exact sm_197_p0L (s0 := s) hQ hI (show s.1 95 7 ≤ (s.1 95 7) from by omega) (show (s.1 95 12) = s.1 95 12 ∧ (s.1 95 13) = s.1 95 13 ∧ (s.1 95 19) = s.1 95 19 ∧ (s.1 95 20) = s.1 95 20 ∧ (s.1 95 21) = s.1 95 21 ∧ (s.1 95 22) = s.1 95 22 ∧ (s.1 95 23) = s.1 95 23 from by omega)
-- fm_206 Model.w2 i i
theorem sm_206 {a0 : Int} {a1 : Int} {Q : Int → lf_Z → Prop} {s : lf_Z} (hI : iv_A s.1 s.2.2) (ba0 : 97 ≤ a0 ∧ a0 ≤ 119) (ba1 : 97 ≤ a1 ∧ a1 ≤ 121) (hQ : ∀ (r : Int), Q r s) : fm_206 a0 a1 Q s := by
  unfold fm_206
  refine ⟨(show lf_R a0 from lf_Rof (by omega)), ?_⟩
  refine ⟨(show lf_R a1 from lf_Rof (by omega)), ?_⟩
  exact hQ (lf_lor (lf_lshl a0 8) a1)
-- fm_205 Model.w3 i i i
theorem sm_205 {a0 : Int} {a1 : Int} {a2 : Int} {Q : Int → lf_Z → Prop} {s : lf_Z} (hI : iv_A s.1 s.2.2) (ba0 : 97 ≤ a0 ∧ a0 ≤ 119) (ba1 : 97 ≤ a1 ∧ a1 ≤ 117) (ba2 : 97 ≤ a2 ∧ a2 ≤ 122) (hQ : ∀ (r : Int), Q r s) : fm_205 a0 a1 a2 Q s := by
  unfold fm_205
  refine sm_206 hI (show (97 : Int) ≤ a0 ∧ a0 ≤ (119 : Int) from by omega) (show (97 : Int) ≤ a1 ∧ a1 ≤ (121 : Int) from by omega) (fun r22 => ?_)
  refine ⟨(show lf_R a2 from lf_Rof (by omega)), ?_⟩
  exact hQ (lf_lor (lf_lshl (lf_wl r22) 8) a2)
-- fm_204 Model.w4 i i i i
theorem sm_204 {a0 : Int} {a1 : Int} {a2 : Int} {a3 : Int} {Q : Int → lf_Z → Prop} {s : lf_Z} (hI : iv_A s.1 s.2.2) (ba0 : 97 ≤ a0 ∧ a0 ≤ 116) (ba1 : 97 ≤ a1 ∧ a1 ≤ 117) (ba2 : 97 ≤ a2 ∧ a2 ≤ 122) (ba3 : 97 ≤ a3 ∧ a3 ≤ 117) (hQ : ∀ (r : Int), Q r s) : fm_204 a0 a1 a2 a3 Q s := by
  unfold fm_204
  refine sm_205 hI (show (97 : Int) ≤ a0 ∧ a0 ≤ (119 : Int) from by omega) (show (97 : Int) ≤ a1 ∧ a1 ≤ (117 : Int) from by omega) (show (97 : Int) ≤ a2 ∧ a2 ≤ (122 : Int) from by omega) (fun r22 => ?_)
  refine ⟨(show lf_R a3 from lf_Rof (by omega)), ?_⟩
  exact hQ (lf_lor (lf_lshl (lf_wl r22) 8) a3)
-- fm_207 Model.isWord 95 l
theorem sm_207 {a1 : Int} {Q : Bool → lf_Z → Prop} {s : lf_Z} (hI : iv_A s.1 s.2.2) (hQ : ∀ (z : Bool), ((z = true → (s.1 95 9 = 2)) ∧ (z = false → True)) → Q z s) : fm_207 a1 Q s := by
  unfold fm_207
  have b1 : (-2147483648) ≤ s.1 95 9 ∧ s.1 95 9 ≤ 2147483647 := iv_full hI
  refine ⟨(show lf_R (s.1 95 9) from lf_Rof (by omega)), ?_⟩
  refine ⟨fun c2 => ?_, fun c2 => ?_⟩
  · skip
    replace c2 : s.1 95 9 ≠ 2 := c2
    exact hQ false ⟨fun h => (by cases h), fun _ => trivial⟩
  · skip
    replace c2 : ¬ (s.1 95 9 ≠ 2) := c2
    refine ⟨fun c3 => ?_, fun c3 => ?_⟩
    · replace c3 : lf_wl (s.2.1 95 11) ≠ lf_wl a1 := c3
      exact hQ false ⟨fun h => (by cases h), fun _ => trivial⟩
    · replace c3 : ¬ (lf_wl (s.2.1 95 11) ≠ lf_wl a1) := c3
      exact hQ true ⟨fun _ => by omega, fun _ => trivial⟩
-- fm_208 Model.w5 i i i i i
theorem sm_208 {a0 : Int} {a1 : Int} {a2 : Int} {a3 : Int} {a4 : Int} {Q : Int → lf_Z → Prop} {s : lf_Z} (hI : iv_A s.1 s.2.2) (ba0 : 97 ≤ a0 ∧ a0 ≤ 116) (ba1 : 97 ≤ a1 ∧ a1 ≤ 117) (ba2 : 97 ≤ a2 ∧ a2 ≤ 114) (ba3 : 97 ≤ a3 ∧ a3 ≤ 117) (ba4 : 100 ≤ a4 ∧ a4 ≤ 121) (hQ : ∀ (r : Int), Q r s) : fm_208 a0 a1 a2 a3 a4 Q s := by
  unfold fm_208
  refine sm_204 hI (show (97 : Int) ≤ a0 ∧ a0 ≤ (116 : Int) from by omega) (show (97 : Int) ≤ a1 ∧ a1 ≤ (117 : Int) from by omega) (show (97 : Int) ≤ a2 ∧ a2 ≤ (122 : Int) from by omega) (show (97 : Int) ≤ a3 ∧ a3 ≤ (117 : Int) from by omega) (fun r22 => ?_)
  refine ⟨(show lf_R a4 from lf_Rof (by omega)), ?_⟩
  exact hQ (lf_lor (lf_lshl (lf_wl r22) 8) a4)
-- fm_209 Model.w6 i i i i i i
theorem sm_209 {a0 : Int} {a1 : Int} {a2 : Int} {a3 : Int} {a4 : Int} {a5 : Int} {Q : Int → lf_Z → Prop} {s : lf_Z} (hI : iv_A s.1 s.2.2) (ba0 : 98 ≤ a0 ∧ a0 ≤ 109) (ba1 : 101 ≤ a1 ∧ a1 ≤ 117) (ba2 : 99 ≤ a2 ∧ a2 ≤ 110) (ba3 : 105 ≤ a3 ∧ a3 ≤ 117) (ba4 : 101 ≤ a4 ∧ a4 ≤ 116) (ba5 : 100 ≤ a5 ∧ a5 ≤ 116) (hQ : ∀ (r : Int), Q r s) : fm_209 a0 a1 a2 a3 a4 a5 Q s := by
  unfold fm_209
  refine sm_208 hI (show (97 : Int) ≤ a0 ∧ a0 ≤ (116 : Int) from by omega) (show (97 : Int) ≤ a1 ∧ a1 ≤ (117 : Int) from by omega) (show (97 : Int) ≤ a2 ∧ a2 ≤ (114 : Int) from by omega) (show (97 : Int) ≤ a3 ∧ a3 ≤ (117 : Int) from by omega) (show (100 : Int) ≤ a4 ∧ a4 ≤ (121 : Int) from by omega) (fun r22 => ?_)
  refine ⟨(show lf_R a5 from lf_Rof (by omega)), ?_⟩
  exact hQ (lf_lor (lf_lshl (lf_wl r22) 8) a5)
-- fm_203 Model.sortOf 95
theorem sm_203 {Q : Int → lf_Z → Prop} {s : lf_Z} (hI : iv_A s.1 s.2.2) (hQ : ∀ (r : Int), ((-1) ≤ r ∧ r ≤ 12) → Q r s) : fm_203 Q s := by
  unfold fm_203
  refine sm_204 hI (show (97 : Int) ≤ 112 ∧ 112 ≤ (116 : Int) from by omega) (show (97 : Int) ≤ 97 ∧ 97 ≤ (117 : Int) from by omega) (show (97 : Int) ≤ 99 ∧ 99 ≤ (122 : Int) from by omega) (show (97 : Int) ≤ 101 ∧ 101 ≤ (117 : Int) from by omega) (fun r22 => ?_)
  refine sm_207 hI (fun z24 q2 => ?_)
  have b3 : (-2147483648) ≤ s.1 95 9 ∧ s.1 95 9 ≤ 2147483647 := iv_full hI
  refine ⟨fun c4 => ?_, fun c4 => ?_⟩
  · skip
    have dc4 := q2.2 c4
    refine sm_208 hI (show (97 : Int) ≤ 116 ∧ 116 ≤ (116 : Int) from by omega) (show (97 : Int) ≤ 97 ∧ 97 ≤ (117 : Int) from by omega) (show (97 : Int) ≤ 107 ∧ 107 ≤ (114 : Int) from by omega) (show (97 : Int) ≤ 101 ∧ 101 ≤ (117 : Int) from by omega) (show (100 : Int) ≤ 115 ∧ 115 ≤ (121 : Int) from by omega) (fun r26 => ?_)
    refine sm_207 hI (fun z28 q6 => ?_)
    refine ⟨fun c7 => ?_, fun c7 => ?_⟩
    · skip
      have dc7 := q6.2 c7
      refine sm_204 hI (show (97 : Int) ≤ 112 ∧ 112 ≤ (116 : Int) from by omega) (show (97 : Int) ≤ 97 ∧ 97 ≤ (117 : Int) from by omega) (show (97 : Int) ≤ 121 ∧ 121 ≤ (122 : Int) from by omega) (show (97 : Int) ≤ 115 ∧ 115 ≤ (117 : Int) from by omega) (fun r30 => ?_)
      refine sm_207 hI (fun z32 q9 => ?_)
      refine ⟨fun c10 => ?_, fun c10 => ?_⟩
      · skip
        have dc10 := q9.2 c10
        refine sm_205 hI (show (97 : Int) ≤ 115 ∧ 115 ≤ (119 : Int) from by omega) (show (97 : Int) ≤ 116 ∧ 116 ≤ (117 : Int) from by omega) (show (97 : Int) ≤ 114 ∧ 114 ≤ (122 : Int) from by omega) (fun r34 => ?_)
        refine sm_204 hI (show (97 : Int) ≤ 101 ∧ 101 ≤ (116 : Int) from by omega) (show (97 : Int) ≤ 116 ∧ 116 ≤ (117 : Int) from by omega) (show (97 : Int) ≤ 99 ∧ 99 ≤ (122 : Int) from by omega) (show (97 : Int) ≤ 104 ∧ 104 ≤ (117 : Int) from by omega) (fun r36 => ?_)
        refine sm_207 hI (fun z38 q13 => ?_)
        refine ⟨fun c14 => ?_, fun c14 => ?_⟩
        · skip
          have dc14 := q13.2 c14
          refine sm_205 hI (show (97 : Int) ≤ 119 ∧ 119 ≤ (119 : Int) from by omega) (show (97 : Int) ≤ 97 ∧ 97 ≤ (117 : Int) from by omega) (show (97 : Int) ≤ 121 ∧ 121 ≤ (122 : Int) from by omega) (fun r40 => ?_)
          refine sm_207 hI (fun z42 q16 => ?_)
          refine ⟨fun c17 => ?_, fun c17 => ?_⟩
          · skip
            have dc17 := q16.2 c17
            refine sm_204 hI (show (97 : Int) ≤ 112 ∧ 112 ≤ (116 : Int) from by omega) (show (97 : Int) ≤ 97 ∧ 97 ≤ (117 : Int) from by omega) (show (97 : Int) ≤ 116 ∧ 116 ≤ (122 : Int) from by omega) (show (97 : Int) ≤ 104 ∧ 104 ≤ (117 : Int) from by omega) (fun r44 => ?_)
            refine sm_207 hI (fun z46 q19 => ?_)
            refine ⟨fun c20 => ?_, fun c20 => ?_⟩
            · skip
              have dc20 := q19.2 c20
              refine sm_205 hI (show (97 : Int) ≤ 111 ∧ 111 ≤ (119 : Int) from by omega) (show (97 : Int) ≤ 110 ∧ 110 ≤ (117 : Int) from by omega) (show (97 : Int) ≤ 101 ∧ 101 ≤ (122 : Int) from by omega) (fun r48 => ?_)
              refine sm_207 hI (fun z50 q22 => ?_)
              refine ⟨fun c23 => ?_, fun c23 => ?_⟩
              · skip
                have dc23 := q22.2 c23
                refine sm_208 hI (show (97 : Int) ≤ 115 ∧ 115 ≤ (116 : Int) from by omega) (show (97 : Int) ≤ 116 ∧ 116 ≤ (117 : Int) from by omega) (show (97 : Int) ≤ 114 ∧ 114 ≤ (114 : Int) from by omega) (show (97 : Int) ≤ 97 ∧ 97 ≤ (117 : Int) from by omega) (show (100 : Int) ≤ 121 ∧ 121 ≤ (121 : Int) from by omega) (fun r52 => ?_)
                refine sm_207 hI (fun z54 q25 => ?_)
                refine ⟨fun c26 => ?_, fun c26 => ?_⟩
                · skip
                  have dc26 := q25.2 c26
                  refine sm_204 hI (show (97 : Int) ≤ 115 ∧ 115 ≤ (116 : Int) from by omega) (show (97 : Int) ≤ 101 ∧ 101 ≤ (117 : Int) from by omega) (show (97 : Int) ≤ 110 ∧ 110 ≤ (122 : Int) from by omega) (show (97 : Int) ≤ 100 ∧ 100 ≤ (117 : Int) from by omega) (fun r56 => ?_)
                  refine sm_207 hI (fun z58 q28 => ?_)
                  refine ⟨fun c29 => ?_, fun c29 => ?_⟩
                  · skip
                    have dc29 := q28.2 c29
                    refine sm_204 hI (show (97 : Int) ≤ 115 ∧ 115 ≤ (116 : Int) from by omega) (show (97 : Int) ≤ 104 ∧ 104 ≤ (117 : Int) from by omega) (show (97 : Int) ≤ 117 ∧ 117 ≤ (122 : Int) from by omega) (show (97 : Int) ≤ 116 ∧ 116 ≤ (117 : Int) from by omega) (fun r60 => ?_)
                    refine sm_207 hI (fun z62 q31 => ?_)
                    refine ⟨fun c32 => ?_, fun c32 => ?_⟩
                    · skip
                      have dc32 := q31.2 c32
                      refine sm_204 hI (show (97 : Int) ≤ 111 ∧ 111 ≤ (116 : Int) from by omega) (show (97 : Int) ≤ 112 ∧ 112 ≤ (117 : Int) from by omega) (show (97 : Int) ≤ 101 ∧ 101 ≤ (122 : Int) from by omega) (show (97 : Int) ≤ 110 ∧ 110 ≤ (117 : Int) from by omega) (fun r64 => ?_)
                      refine sm_207 hI (fun z66 q34 => ?_)
                      refine ⟨fun c35 => ?_, fun c35 => ?_⟩
                      · skip
                        have dc35 := q34.2 c35
                        refine sm_208 hI (show (97 : Int) ≤ 115 ∧ 115 ≤ (116 : Int) from by omega) (show (97 : Int) ≤ 112 ∧ 112 ≤ (117 : Int) from by omega) (show (97 : Int) ≤ 108 ∧ 108 ≤ (114 : Int) from by omega) (show (97 : Int) ≤ 105 ∧ 105 ≤ (117 : Int) from by omega) (show (100 : Int) ≤ 116 ∧ 116 ≤ (121 : Int) from by omega) (fun r68 => ?_)
                        refine sm_207 hI (fun z70 q37 => ?_)
                        refine ⟨fun c38 => ?_, fun c38 => ?_⟩
                        · skip
                          have dc38 := q37.2 c38
                          refine sm_209 hI (show (98 : Int) ≤ 109 ∧ 109 ≤ (109 : Int) from by omega) (show (101 : Int) ≤ 105 ∧ 105 ≤ (117 : Int) from by omega) (show (99 : Int) ≤ 110 ∧ 110 ≤ (110 : Int) from by omega) (show (105 : Int) ≤ 117 ∧ 117 ≤ (117 : Int) from by omega) (show (101 : Int) ≤ 116 ∧ 116 ≤ (116 : Int) from by omega) (show (100 : Int) ≤ 101 ∧ 101 ≤ (116 : Int) from by omega) (fun r72 => ?_)
                          refine sm_207 hI (fun z74 q40 => ?_)
                          refine ⟨fun c41 => ?_, fun c41 => ?_⟩
                          · skip
                            have dc41 := q40.2 c41
                            exact hQ (-1) (show (-1 : Int) ≤ (-1) ∧ (-1) ≤ (12 : Int) from by omega)
                          · skip
                            have dc41 := q40.1 c41
                            exact hQ 12 (show (-1 : Int) ≤ 12 ∧ 12 ≤ (12 : Int) from by omega)
                        · skip
                          have dc38 := q37.1 c38
                          exact hQ 11 (show (-1 : Int) ≤ 11 ∧ 11 ≤ (12 : Int) from by omega)
                      · skip
                        have dc35 := q34.1 c35
                        exact hQ 10 (show (-1 : Int) ≤ 10 ∧ 10 ≤ (12 : Int) from by omega)
                    · skip
                      have dc32 := q31.1 c32
                      exact hQ 9 (show (-1 : Int) ≤ 9 ∧ 9 ≤ (12 : Int) from by omega)
                  · skip
                    have dc29 := q28.1 c29
                    exact hQ 8 (show (-1 : Int) ≤ 8 ∧ 8 ≤ (12 : Int) from by omega)
                · skip
                  have dc26 := q25.1 c26
                  exact hQ 7 (show (-1 : Int) ≤ 7 ∧ 7 ≤ (12 : Int) from by omega)
              · skip
                have dc23 := q22.1 c23
                exact hQ 6 (show (-1 : Int) ≤ 6 ∧ 6 ≤ (12 : Int) from by omega)
            · skip
              have dc20 := q19.1 c20
              exact hQ 5 (show (-1 : Int) ≤ 5 ∧ 5 ≤ (12 : Int) from by omega)
          · skip
            have dc17 := q16.1 c17
            exact hQ 4 (show (-1 : Int) ≤ 4 ∧ 4 ≤ (12 : Int) from by omega)
        · skip
          have dc14 := q13.1 c14
          exact hQ 3 (show (-1 : Int) ≤ 3 ∧ 3 ≤ (12 : Int) from by omega)
      · skip
        have dc10 := q9.1 c10
        exact hQ 2 (show (-1 : Int) ≤ 2 ∧ 2 ≤ (12 : Int) from by omega)
    · skip
      have dc7 := q6.1 c7
      exact hQ 1 (show (-1 : Int) ≤ 1 ∧ 1 ≤ (12 : Int) from by omega)
  · skip
    have dc4 := q2.1 c4
    exact hQ 0 (show (-1 : Int) ≤ 0 ∧ 0 ≤ (12 : Int) from by omega)
-- fm_230 Model.nameOf 95
theorem sm_230 {Q : Int → lf_Z → Prop} {s : lf_Z} (hI : iv_A s.1 s.2.2) (hQ : ∀ (r : Int), (((-1) ≤ r ∧ r ≤ 10) ∧ (r = -1 ∨ s.1 95 9 = 2)) → Q r s) : fm_230 Q s := by
  unfold fm_230
  have b1 : (-2147483648) ≤ s.1 95 9 ∧ s.1 95 9 ≤ 2147483647 := iv_full hI
  refine ⟨(show lf_R (s.1 95 9) from lf_Rof (by omega)), ?_⟩
  refine ⟨fun c2 => ?_, fun c2 => ?_⟩
  · skip
    replace c2 : s.1 95 9 = 2 := c2
    refine sm_204 hI (show (97 : Int) ≤ 115 ∧ 115 ≤ (116 : Int) from by omega) (show (97 : Int) ≤ 105 ∧ 105 ≤ (117 : Int) from by omega) (show (97 : Int) ≤ 122 ∧ 122 ≤ (122 : Int) from by omega) (show (97 : Int) ≤ 101 ∧ 101 ≤ (117 : Int) from by omega) (fun r23 => ?_)
    refine ⟨fun c4 => ?_, fun c4 => ?_⟩
    · replace c4 : lf_wl (s.2.1 95 11) ≠ lf_wl r23 := c4
      refine sm_208 hI (show (97 : Int) ≤ 112 ∧ 112 ≤ (116 : Int) from by omega) (show (97 : Int) ≤ 108 ∧ 108 ≤ (117 : Int) from by omega) (show (97 : Int) ≤ 97 ∧ 97 ≤ (114 : Int) from by omega) (show (97 : Int) ≤ 99 ∧ 99 ≤ (117 : Int) from by omega) (show (100 : Int) ≤ 101 ∧ 101 ≤ (121 : Int) from by omega) (fun r25 => ?_)
      refine ⟨fun c6 => ?_, fun c6 => ?_⟩
      · replace c6 : lf_wl (s.2.1 95 11) ≠ lf_wl r25 := c6
        refine sm_204 hI (show (97 : Int) ≤ 107 ∧ 107 ≤ (116 : Int) from by omega) (show (97 : Int) ≤ 105 ∧ 105 ≤ (117 : Int) from by omega) (show (97 : Int) ≤ 110 ∧ 110 ≤ (122 : Int) from by omega) (show (97 : Int) ≤ 100 ∧ 100 ≤ (117 : Int) from by omega) (fun r27 => ?_)
        refine ⟨fun c8 => ?_, fun c8 => ?_⟩
        · replace c8 : lf_wl (s.2.1 95 11) ≠ lf_wl r27 := c8
          refine sm_204 hI (show (97 : Int) ≤ 104 ∧ 104 ≤ (116 : Int) from by omega) (show (97 : Int) ≤ 101 ∧ 101 ≤ (117 : Int) from by omega) (show (97 : Int) ≤ 114 ∧ 114 ≤ (122 : Int) from by omega) (show (97 : Int) ≤ 101 ∧ 101 ≤ (117 : Int) from by omega) (fun r29 => ?_)
          refine ⟨fun c10 => ?_, fun c10 => ?_⟩
          · replace c10 : lf_wl (s.2.1 95 11) ≠ lf_wl r29 := c10
            refine sm_209 hI (show (98 : Int) ≤ 98 ∧ 98 ≤ (109 : Int) from by omega) (show (101 : Int) ≤ 101 ∧ 101 ≤ (117 : Int) from by omega) (show (99 : Int) ≤ 104 ∧ 104 ≤ (110 : Int) from by omega) (show (105 : Int) ≤ 105 ∧ 105 ≤ (117 : Int) from by omega) (show (101 : Int) ≤ 110 ∧ 110 ≤ (116 : Int) from by omega) (show (100 : Int) ≤ 100 ∧ 100 ≤ (116 : Int) from by omega) (fun r31 => ?_)
            refine ⟨fun c12 => ?_, fun c12 => ?_⟩
            · replace c12 : lf_wl (s.2.1 95 11) ≠ lf_wl r31 := c12
              refine sm_208 hI (show (97 : Int) ≤ 97 ∧ 97 ≤ (116 : Int) from by omega) (show (97 : Int) ≤ 104 ∧ 104 ≤ (117 : Int) from by omega) (show (97 : Int) ≤ 101 ∧ 101 ≤ (114 : Int) from by omega) (show (97 : Int) ≤ 97 ∧ 97 ≤ (117 : Int) from by omega) (show (100 : Int) ≤ 100 ∧ 100 ≤ (121 : Int) from by omega) (fun r33 => ?_)
              refine ⟨fun c14 => ?_, fun c14 => ?_⟩
              · replace c14 : lf_wl (s.2.1 95 11) ≠ lf_wl r33 := c14
                refine sm_208 hI (show (97 : Int) ≤ 115 ∧ 115 ≤ (116 : Int) from by omega) (show (97 : Int) ≤ 116 ∧ 116 ≤ (117 : Int) from by omega) (show (97 : Int) ≤ 111 ∧ 111 ≤ (114 : Int) from by omega) (show (97 : Int) ≤ 111 ∧ 111 ≤ (117 : Int) from by omega) (show (100 : Int) ≤ 100 ∧ 100 ≤ (121 : Int) from by omega) (fun r35 => ?_)
                refine ⟨fun c16 => ?_, fun c16 => ?_⟩
                · replace c16 : lf_wl (s.2.1 95 11) ≠ lf_wl r35 := c16
                  refine sm_209 hI (show (98 : Int) ≤ 98 ∧ 98 ≤ (109 : Int) from by omega) (show (101 : Int) ≤ 117 ∧ 117 ≤ (117 : Int) from by omega) (show (99 : Int) ≤ 99 ∧ 99 ≤ (110 : Int) from by omega) (show (105 : Int) ≤ 107 ∧ 107 ≤ (117 : Int) from by omega) (show (101 : Int) ≤ 101 ∧ 101 ≤ (116 : Int) from by omega) (show (100 : Int) ≤ 116 ∧ 116 ≤ (116 : Int) from by omega) (fun r37 => ?_)
                  refine ⟨fun c18 => ?_, fun c18 => ?_⟩
                  · replace c18 : lf_wl (s.2.1 95 11) ≠ lf_wl r37 := c18
                    refine sm_204 hI (show (97 : Int) ≤ 98 ∧ 98 ≤ (116 : Int) from by omega) (show (97 : Int) ≤ 97 ∧ 97 ≤ (117 : Int) from by omega) (show (97 : Int) ≤ 99 ∧ 99 ≤ (122 : Int) from by omega) (show (97 : Int) ≤ 107 ∧ 107 ≤ (117 : Int) from by omega) (fun r39 => ?_)
                    refine ⟨fun c20 => ?_, fun c20 => ?_⟩
                    · replace c20 : lf_wl (s.2.1 95 11) ≠ lf_wl r39 := c20
                      refine sm_205 hI (show (97 : Int) ≤ 119 ∧ 119 ≤ (119 : Int) from by omega) (show (97 : Int) ≤ 97 ∧ 97 ≤ (117 : Int) from by omega) (show (97 : Int) ≤ 121 ∧ 121 ≤ (122 : Int) from by omega) (fun r41 => ?_)
                      refine ⟨fun c22 => ?_, fun c22 => ?_⟩
                      · replace c22 : lf_wl (s.2.1 95 11) ≠ lf_wl r41 := c22
                        refine sm_204 hI (show (97 : Int) ≤ 100 ∧ 100 ≤ (116 : Int) from by omega) (show (97 : Int) ≤ 111 ∧ 111 ≤ (117 : Int) from by omega) (show (97 : Int) ≤ 110 ∧ 110 ≤ (122 : Int) from by omega) (show (97 : Int) ≤ 101 ∧ 101 ≤ (117 : Int) from by omega) (fun r43 => ?_)
                        refine ⟨fun c24 => ?_, fun c24 => ?_⟩
                        · replace c24 : lf_wl (s.2.1 95 11) ≠ lf_wl r43 := c24
                          exact hQ (-1) ⟨(show (-1 : Int) ≤ (-1) ∧ (-1) ≤ (10 : Int) from by omega), (show (-1) = -1 ∨ s.1 95 9 = 2 from by omega)⟩
                        · replace c24 : ¬ (lf_wl (s.2.1 95 11) ≠ lf_wl r43) := c24
                          exact hQ 10 ⟨(show (-1 : Int) ≤ 10 ∧ 10 ≤ (10 : Int) from by omega), (show 10 = -1 ∨ s.1 95 9 = 2 from by omega)⟩
                      · replace c22 : ¬ (lf_wl (s.2.1 95 11) ≠ lf_wl r41) := c22
                        exact hQ 9 ⟨(show (-1 : Int) ≤ 9 ∧ 9 ≤ (10 : Int) from by omega), (show 9 = -1 ∨ s.1 95 9 = 2 from by omega)⟩
                    · replace c20 : ¬ (lf_wl (s.2.1 95 11) ≠ lf_wl r39) := c20
                      exact hQ 8 ⟨(show (-1 : Int) ≤ 8 ∧ 8 ≤ (10 : Int) from by omega), (show 8 = -1 ∨ s.1 95 9 = 2 from by omega)⟩
                  · replace c18 : ¬ (lf_wl (s.2.1 95 11) ≠ lf_wl r37) := c18
                    exact hQ 7 ⟨(show (-1 : Int) ≤ 7 ∧ 7 ≤ (10 : Int) from by omega), (show 7 = -1 ∨ s.1 95 9 = 2 from by omega)⟩
                · replace c16 : ¬ (lf_wl (s.2.1 95 11) ≠ lf_wl r35) := c16
                  exact hQ 6 ⟨(show (-1 : Int) ≤ 6 ∧ 6 ≤ (10 : Int) from by omega), (show 6 = -1 ∨ s.1 95 9 = 2 from by omega)⟩
              · replace c14 : ¬ (lf_wl (s.2.1 95 11) ≠ lf_wl r33) := c14
                exact hQ 5 ⟨(show (-1 : Int) ≤ 5 ∧ 5 ≤ (10 : Int) from by omega), (show 5 = -1 ∨ s.1 95 9 = 2 from by omega)⟩
            · replace c12 : ¬ (lf_wl (s.2.1 95 11) ≠ lf_wl r31) := c12
              exact hQ 4 ⟨(show (-1 : Int) ≤ 4 ∧ 4 ≤ (10 : Int) from by omega), (show 4 = -1 ∨ s.1 95 9 = 2 from by omega)⟩
          · replace c10 : ¬ (lf_wl (s.2.1 95 11) ≠ lf_wl r29) := c10
            exact hQ 3 ⟨(show (-1 : Int) ≤ 3 ∧ 3 ≤ (10 : Int) from by omega), (show 3 = -1 ∨ s.1 95 9 = 2 from by omega)⟩
        · replace c8 : ¬ (lf_wl (s.2.1 95 11) ≠ lf_wl r27) := c8
          exact hQ 2 ⟨(show (-1 : Int) ≤ 2 ∧ 2 ≤ (10 : Int) from by omega), (show 2 = -1 ∨ s.1 95 9 = 2 from by omega)⟩
      · replace c6 : ¬ (lf_wl (s.2.1 95 11) ≠ lf_wl r25) := c6
        exact hQ 1 ⟨(show (-1 : Int) ≤ 1 ∧ 1 ≤ (10 : Int) from by omega), (show 1 = -1 ∨ s.1 95 9 = 2 from by omega)⟩
    · replace c4 : ¬ (lf_wl (s.2.1 95 11) ≠ lf_wl r23) := c4
      exact hQ 0 ⟨(show (-1 : Int) ≤ 0 ∧ 0 ≤ (10 : Int) from by omega), (show 0 = -1 ∨ s.1 95 9 = 2 from by omega)⟩
  · skip
    replace c2 : ¬ (s.1 95 9 = 2) := c2
    exact hQ (-1) ⟨(show (-1 : Int) ≤ (-1) ∧ (-1) ≤ (10 : Int) from by omega), (show (-1) = -1 ∨ s.1 95 9 = 2 from by omega)⟩
-- fm_232 Model.letter 95
theorem sm_232 {Q : Int → lf_Z → Prop} {s : lf_Z} (hI : iv_A s.1 s.2.2) (hQ : ∀ (r : Int), (((-1) ≤ r ∧ r ≤ 25) ∧ ((r = -1 ∧ ¬ (s.1 95 9 = 2 ∧ s.1 95 7 - s.1 95 8 = 1 ∧ s.1 95 8 < s.1 95 4 ∧ 97 ≤ s.1 99 (s.1 95 8) ∧ s.1 99 (s.1 95 8) ≤ 122)) ∨ (r = s.1 99 (s.1 95 8) - 97 ∧ s.1 95 9 = 2 ∧ s.1 95 7 - s.1 95 8 = 1 ∧ s.1 95 8 < s.1 95 4 ∧ 97 ≤ s.1 99 (s.1 95 8) ∧ s.1 99 (s.1 95 8) ≤ 122))) → Q r s) : fm_232 Q s := by
  unfold fm_232
  have b1 : (-2147483648) ≤ s.1 95 9 ∧ s.1 95 9 ≤ 2147483647 := iv_full hI
  refine ⟨(show lf_R (s.1 95 9) from lf_Rof (by omega)), ?_⟩
  refine ⟨fun c2 => ?_, fun c2 => ?_⟩
  · skip
    replace c2 : s.1 95 9 ≠ 2 := c2
    exact hQ (-1) ⟨(show (-1 : Int) ≤ (-1) ∧ (-1) ≤ (25 : Int) from by omega), (show ((-1) = -1 ∧ ¬ (s.1 95 9 = 2 ∧ s.1 95 7 - s.1 95 8 = 1 ∧ s.1 95 8 < s.1 95 4 ∧ 97 ≤ s.1 99 (s.1 95 8) ∧ s.1 99 (s.1 95 8) ≤ 122)) ∨ ((-1) = s.1 99 (s.1 95 8) - 97 ∧ s.1 95 9 = 2 ∧ s.1 95 7 - s.1 95 8 = 1 ∧ s.1 95 8 < s.1 95 4 ∧ 97 ≤ s.1 99 (s.1 95 8) ∧ s.1 99 (s.1 95 8) ≤ 122) from by omega)⟩
  · skip
    replace c2 : ¬ (s.1 95 9 ≠ 2) := c2
    have b3 : 0 ≤ s.1 95 7 ∧ s.1 95 7 ≤ 300 := iv_r95_7 hI
    have b4 : 0 ≤ s.1 95 8 ∧ s.1 95 8 ≤ 300 := iv_r95_8 hI
    refine ⟨(show lf_R ((s.1 95 7) - (s.1 95 8)) from lf_Rof (by omega)), ?_⟩
    refine ⟨fun c5 => ?_, fun c5 => ?_⟩
    · skip
      replace c5 : (s.1 95 7) - (s.1 95 8) ≠ 1 := c5
      exact hQ (-1) ⟨(show (-1 : Int) ≤ (-1) ∧ (-1) ≤ (25 : Int) from by omega), (show ((-1) = -1 ∧ ¬ (s.1 95 9 = 2 ∧ s.1 95 7 - s.1 95 8 = 1 ∧ s.1 95 8 < s.1 95 4 ∧ 97 ≤ s.1 99 (s.1 95 8) ∧ s.1 99 (s.1 95 8) ≤ 122)) ∨ ((-1) = s.1 99 (s.1 95 8) - 97 ∧ s.1 95 9 = 2 ∧ s.1 95 7 - s.1 95 8 = 1 ∧ s.1 95 8 < s.1 95 4 ∧ 97 ≤ s.1 99 (s.1 95 8) ∧ s.1 99 (s.1 95 8) ≤ 122) from by omega)⟩
    · skip
      replace c5 : ¬ ((s.1 95 7) - (s.1 95 8) ≠ 1) := c5
      refine sm_198 hI (show (0 : Int) ≤ s.1 95 8 ∧ s.1 95 8 ≤ (300 : Int) from by omega) (fun r24 q6 => ?_)
      obtain ⟨q6, q6x⟩ := q6
      have b7 : 0 ≤ s.1 95 4 ∧ s.1 95 4 ≤ 300 := iv_r95_4 hI
      replace q6x : (r24 = -1 ∧ s.1 95 4 ≤ (s.1 95 8)) ∨ ((s.1 95 8) < s.1 95 4 ∧ r24 = s.1 99 (s.1 95 8)) := q6x
      refine sm_183 hI (show (-2147483648 : Int) ≤ r24 ∧ r24 ≤ (2147483647 : Int) from by omega) (show (-1 : Int) ≤ 97 ∧ 97 ≤ (97 : Int) from by omega) (show (-1 : Int) ≤ 122 ∧ 122 ≤ (9999 : Int) from by omega) (fun z26 q8 => ?_)
      refine ⟨fun c9 => ?_, fun c9 => ?_⟩
      · skip
        have dc9 := q8.2 c9
        exact hQ (-1) ⟨(show (-1 : Int) ≤ (-1) ∧ (-1) ≤ (25 : Int) from by omega), (show ((-1) = -1 ∧ ¬ (s.1 95 9 = 2 ∧ s.1 95 7 - s.1 95 8 = 1 ∧ s.1 95 8 < s.1 95 4 ∧ 97 ≤ s.1 99 (s.1 95 8) ∧ s.1 99 (s.1 95 8) ≤ 122)) ∨ ((-1) = s.1 99 (s.1 95 8) - 97 ∧ s.1 95 9 = 2 ∧ s.1 95 7 - s.1 95 8 = 1 ∧ s.1 95 8 < s.1 95 4 ∧ 97 ≤ s.1 99 (s.1 95 8) ∧ s.1 99 (s.1 95 8) ≤ 122) from by omega)⟩
      · skip
        have dc9 := q8.1 c9
        refine sm_198 hI (show (0 : Int) ≤ s.1 95 8 ∧ s.1 95 8 ≤ (300 : Int) from by omega) (fun r28 q10 => ?_)
        obtain ⟨q10, q10x⟩ := q10
        have b11 : 0 ≤ s.1 95 4 ∧ s.1 95 4 ≤ 300 := iv_r95_4 hI
        replace q10x : (r28 = -1 ∧ s.1 95 4 ≤ (s.1 95 8)) ∨ ((s.1 95 8) < s.1 95 4 ∧ r28 = s.1 99 (s.1 95 8)) := q10x
        exact hQ (r28 - 97) ⟨(show (-1 : Int) ≤ r28 - 97 ∧ r28 - 97 ≤ (25 : Int) from by omega), (show (r28 - 97 = -1 ∧ ¬ (s.1 95 9 = 2 ∧ s.1 95 7 - s.1 95 8 = 1 ∧ s.1 95 8 < s.1 95 4 ∧ 97 ≤ s.1 99 (s.1 95 8) ∧ s.1 99 (s.1 95 8) ≤ 122)) ∨ (r28 - 97 = s.1 99 (s.1 95 8) - 97 ∧ s.1 95 9 = 2 ∧ s.1 95 7 - s.1 95 8 = 1 ∧ s.1 95 8 < s.1 95 4 ∧ 97 ≤ s.1 99 (s.1 95 8) ∧ s.1 99 (s.1 95 8) ≤ 122) from by omega)⟩
-- fm_225 Model.emit 95 i i
theorem sm_225 {a1 : Int} {a2 : Int} {Q : lf_Z → Prop} {s : lf_Z} (hI : iv_A s.1 s.2.2) (ba1 : 0 ≤ a1 ∧ a1 ≤ 45) (ba2 : (-2147483648) ≤ a2 ∧ a2 ≤ 2147483647) (kp0 : wk_E (s.1 98) (s.1 95 12) (s.1 95 13)) (kp1 : s.1 95 13 ≤ 303) (hQ : ∀  (s' : lf_Z), iv_A s'.1 s'.2.2 → lf_fq [95, 98] 1000000 true s.1 s.2.2 s'.1 s'.2.2 → (s'.1 98 = pz_em (s.1 98) (s.1 95 12 + 97 + 2 * s.1 95 13) a1 a2) → (s'.1 95 13 = s.1 95 13 + 1 ∧ s'.1 95 7 = s.1 95 7 ∧ s'.1 95 8 = s.1 95 8 ∧ s'.1 95 9 = s.1 95 9 ∧ s'.1 95 12 = s.1 95 12 ∧ s'.1 95 19 = s.1 95 19 ∧ s'.1 95 20 = s.1 95 20 ∧ s'.1 95 21 = s.1 95 21 ∧ s'.1 95 22 = s.1 95 22 ∧ s'.1 95 23 = s.1 95 23) → Q  s') : fm_225 a1 a2 Q s := by
  unfold fm_225
  have b1 : 0 ≤ s.1 95 12 ∧ s.1 95 12 ≤ 2115 := iv_r95_12 hI
  have b2 : ((s.1 95 12) = 0 ∨ (s.1 95 12) = 705 ∨ (s.1 95 12) = 1410 ∨ (s.1 95 12) = 2115) := kp0.1
  have b3 : 0 ≤ s.1 95 13 ∧ s.1 95 13 ≤ 304 := iv_r95_13 hI
  have b4 : wk_T (lf_up s.1 98 (((s.1 95 12) + 97) + (2 * (s.1 95 13))) a1 98) := wk_Tw (wk_TA hI) kp0 (by omega) (wk_hr hI) (fun j hj => lf_up_i (by omega))
  refine ⟨(show (0 : Int) ≤ ((s.1 95 12) + 97) + (2 * (s.1 95 13)) ∧ ((s.1 95 12) + 97) + (2 * (s.1 95 13)) < (2820 : Int) from by omega), ?_⟩
  have hI5 : iv_A (lf_up s.1 98 (((s.1 95 12) + 97) + (2 * (s.1 95 13))) a1) s.2.2 := iv_w98c hI kp0.1 (by omega) (by omega) (by first | with_reducible assumption | assumption)
  have fr6 : lf_fq [95, 98] 1000000 true s.1 s.2.2 (lf_up s.1 98 (((s.1 95 12) + 97) + (2 * (s.1 95 13))) a1) s.2.2 := lf_fq_up (lf_fq_rf) rfl (fun h => absurd h (by decide))
  have b7 : wk_T (lf_up (lf_up s.1 98 (((s.1 95 12) + 97) + (2 * (s.1 95 13))) a1) 98 ((((s.1 95 12) + 97) + (2 * (s.1 95 13))) + 1) a2 98) := wk_Tw (wk_TA hI) kp0 (by omega) (wk_hr hI) (fun j hj => (lf_up_i (by omega)).trans (lf_up_i (by omega)))
  refine ⟨(show (0 : Int) ≤ (((s.1 95 12) + 97) + (2 * (s.1 95 13))) + 1 ∧ (((s.1 95 12) + 97) + (2 * (s.1 95 13))) + 1 < (2820 : Int) from by omega), ?_⟩
  have hI8 : iv_A (lf_up (lf_up s.1 98 (((s.1 95 12) + 97) + (2 * (s.1 95 13))) a1) 98 ((((s.1 95 12) + 97) + (2 * (s.1 95 13))) + 1) a2) s.2.2 := iv_w98c hI5 kp0.1 (by omega) (by omega) (by first | with_reducible assumption | assumption)
  have fr9 : lf_fq [95, 98] 1000000 true s.1 s.2.2 (lf_up (lf_up s.1 98 (((s.1 95 12) + 97) + (2 * (s.1 95 13))) a1) 98 ((((s.1 95 12) + 97) + (2 * (s.1 95 13))) + 1) a2) s.2.2 := lf_fq_up fr6 rfl (fun h => absurd h (by decide))
  have hI10 : iv_A (lf_up (lf_up (lf_up s.1 98 (((s.1 95 12) + 97) + (2 * (s.1 95 13))) a1) 98 ((((s.1 95 12) + 97) + (2 * (s.1 95 13))) + 1) a2) 95 13 ((s.1 95 13) + 1)) s.2.2 := iv_w95_13 hI8 (by omega)
  have fr11 : lf_fq [95, 98] 1000000 true s.1 s.2.2 (lf_up (lf_up (lf_up s.1 98 (((s.1 95 12) + 97) + (2 * (s.1 95 13))) a1) 98 ((((s.1 95 12) + 97) + (2 * (s.1 95 13))) + 1) a2) 95 13 ((s.1 95 13) + 1)) s.2.2 := lf_fq_up fr9 rfl (fun h => absurd h (by decide))
  have b12 : ((lf_up (lf_up s.1 98 (((s.1 95 12) + 97) + (2 * (s.1 95 13))) a1) 98 ((((s.1 95 12) + 97) + (2 * (s.1 95 13))) + 1) a2) 98) = pz_em (s.1 98) (s.1 95 12 + 97 + 2 * s.1 95 13) a1 a2 := pz_emE
  exact hQ (lf_up (lf_up (lf_up s.1 98 (((s.1 95 12) + 97) + (2 * (s.1 95 13))) a1) 98 ((((s.1 95 12) + 97) + (2 * (s.1 95 13))) + 1) a2) 95 13 ((s.1 95 13) + 1), s.2.1, s.2.2) hI10 fr11 (show ((lf_up (lf_up s.1 98 (((s.1 95 12) + 97) + (2 * (s.1 95 13))) a1) 98 ((((s.1 95 12) + 97) + (2 * (s.1 95 13))) + 1) a2) 98) = pz_em (s.1 98) (s.1 95 12 + 97 + 2 * s.1 95 13) a1 a2 from by first | with_reducible assumption | assumption) (show ((s.1 95 13) + 1) = s.1 95 13 + 1 ∧ (s.1 95 7) = s.1 95 7 ∧ (s.1 95 8) = s.1 95 8 ∧ (s.1 95 9) = s.1 95 9 ∧ (s.1 95 12) = s.1 95 12 ∧ (s.1 95 19) = s.1 95 19 ∧ (s.1 95 20) = s.1 95 20 ∧ (s.1 95 21) = s.1 95 21 ∧ (s.1 95 22) = s.1 95 22 ∧ (s.1 95 23) = s.1 95 23 from by omega)
-- fm_222 Model.rank i
theorem sm_222 {a0 : Int} {Q : Int → lf_Z → Prop} {s : lf_Z} (hI : iv_A s.1 s.2.2) (ba0 : 0 ≤ a0 ∧ a0 ≤ 45) (hQ : ∀ (r : Int), ((0 ≤ r ∧ r ≤ 7) ∧ (r = pz_rk a0 ∧ ((40 ≤ a0 ∧ r = 0) ∨ (a0 = 22 ∧ r = 1) ∨ (a0 = 21 ∧ r = 2) ∨ (a0 = 20 ∧ r = 3) ∨ (10 ≤ a0 ∧ a0 < 40 ∧ a0 ≠ 20 ∧ a0 ≠ 21 ∧ a0 ≠ 22 ∧ r = 4) ∨ (a0 = 3 ∧ r = 7) ∨ (6 ≤ a0 ∧ a0 < 10 ∧ r = 6) ∨ (a0 < 6 ∧ a0 ≠ 3 ∧ r = 5)))) → Q r s) : fm_222 a0 Q s := by
  unfold fm_222
  refine ⟨(show lf_R a0 from lf_Rof (by omega)), ?_⟩
  refine ⟨fun c1 => ?_, fun c1 => ?_⟩
  · skip
    replace c1 : a0 < 40 := c1
    refine ⟨fun c2 => ?_, fun c2 => ?_⟩
    · skip
      replace c2 : a0 ≠ 22 := c2
      refine ⟨fun c3 => ?_, fun c3 => ?_⟩
      · skip
        replace c3 : a0 ≠ 21 := c3
        refine ⟨fun c4 => ?_, fun c4 => ?_⟩
        · skip
          replace c4 : a0 ≠ 20 := c4
          refine ⟨fun c5 => ?_, fun c5 => ?_⟩
          · skip
            replace c5 : a0 < 10 := c5
            refine ⟨fun c6 => ?_, fun c6 => ?_⟩
            · skip
              replace c6 : a0 ≠ 3 := c6
              refine ⟨fun c7 => ?_, fun c7 => ?_⟩
              · skip
                replace c7 : a0 < 6 := c7
                exact hQ 5 ⟨(show (0 : Int) ≤ 5 ∧ 5 ≤ (7 : Int) from by omega), (show 5 = pz_rk a0 ∧ ((40 ≤ a0 ∧ 5 = 0) ∨ (a0 = 22 ∧ 5 = 1) ∨ (a0 = 21 ∧ 5 = 2) ∨ (a0 = 20 ∧ 5 = 3) ∨ (10 ≤ a0 ∧ a0 < 40 ∧ a0 ≠ 20 ∧ a0 ≠ 21 ∧ a0 ≠ 22 ∧ 5 = 4) ∨ (a0 = 3 ∧ 5 = 7) ∨ (6 ≤ a0 ∧ a0 < 10 ∧ 5 = 6) ∨ (a0 < 6 ∧ a0 ≠ 3 ∧ 5 = 5)) from ⟨by unfold pz_rk; (repeat' split) <;> first | rfl | (exfalso; omega), by omega⟩)⟩
              · skip
                replace c7 : ¬ (a0 < 6) := c7
                exact hQ 6 ⟨(show (0 : Int) ≤ 6 ∧ 6 ≤ (7 : Int) from by omega), (show 6 = pz_rk a0 ∧ ((40 ≤ a0 ∧ 6 = 0) ∨ (a0 = 22 ∧ 6 = 1) ∨ (a0 = 21 ∧ 6 = 2) ∨ (a0 = 20 ∧ 6 = 3) ∨ (10 ≤ a0 ∧ a0 < 40 ∧ a0 ≠ 20 ∧ a0 ≠ 21 ∧ a0 ≠ 22 ∧ 6 = 4) ∨ (a0 = 3 ∧ 6 = 7) ∨ (6 ≤ a0 ∧ a0 < 10 ∧ 6 = 6) ∨ (a0 < 6 ∧ a0 ≠ 3 ∧ 6 = 5)) from ⟨by unfold pz_rk; (repeat' split) <;> first | rfl | (exfalso; omega), by omega⟩)⟩
            · skip
              replace c6 : ¬ (a0 ≠ 3) := c6
              exact hQ 7 ⟨(show (0 : Int) ≤ 7 ∧ 7 ≤ (7 : Int) from by omega), (show 7 = pz_rk a0 ∧ ((40 ≤ a0 ∧ 7 = 0) ∨ (a0 = 22 ∧ 7 = 1) ∨ (a0 = 21 ∧ 7 = 2) ∨ (a0 = 20 ∧ 7 = 3) ∨ (10 ≤ a0 ∧ a0 < 40 ∧ a0 ≠ 20 ∧ a0 ≠ 21 ∧ a0 ≠ 22 ∧ 7 = 4) ∨ (a0 = 3 ∧ 7 = 7) ∨ (6 ≤ a0 ∧ a0 < 10 ∧ 7 = 6) ∨ (a0 < 6 ∧ a0 ≠ 3 ∧ 7 = 5)) from ⟨by unfold pz_rk; (repeat' split) <;> first | rfl | (exfalso; omega), by omega⟩)⟩
          · skip
            replace c5 : ¬ (a0 < 10) := c5
            exact hQ 4 ⟨(show (0 : Int) ≤ 4 ∧ 4 ≤ (7 : Int) from by omega), (show 4 = pz_rk a0 ∧ ((40 ≤ a0 ∧ 4 = 0) ∨ (a0 = 22 ∧ 4 = 1) ∨ (a0 = 21 ∧ 4 = 2) ∨ (a0 = 20 ∧ 4 = 3) ∨ (10 ≤ a0 ∧ a0 < 40 ∧ a0 ≠ 20 ∧ a0 ≠ 21 ∧ a0 ≠ 22 ∧ 4 = 4) ∨ (a0 = 3 ∧ 4 = 7) ∨ (6 ≤ a0 ∧ a0 < 10 ∧ 4 = 6) ∨ (a0 < 6 ∧ a0 ≠ 3 ∧ 4 = 5)) from ⟨by unfold pz_rk; (repeat' split) <;> first | rfl | (exfalso; omega), by omega⟩)⟩
        · skip
          replace c4 : ¬ (a0 ≠ 20) := c4
          exact hQ 3 ⟨(show (0 : Int) ≤ 3 ∧ 3 ≤ (7 : Int) from by omega), (show 3 = pz_rk a0 ∧ ((40 ≤ a0 ∧ 3 = 0) ∨ (a0 = 22 ∧ 3 = 1) ∨ (a0 = 21 ∧ 3 = 2) ∨ (a0 = 20 ∧ 3 = 3) ∨ (10 ≤ a0 ∧ a0 < 40 ∧ a0 ≠ 20 ∧ a0 ≠ 21 ∧ a0 ≠ 22 ∧ 3 = 4) ∨ (a0 = 3 ∧ 3 = 7) ∨ (6 ≤ a0 ∧ a0 < 10 ∧ 3 = 6) ∨ (a0 < 6 ∧ a0 ≠ 3 ∧ 3 = 5)) from ⟨by unfold pz_rk; (repeat' split) <;> first | rfl | (exfalso; omega), by omega⟩)⟩
      · skip
        replace c3 : ¬ (a0 ≠ 21) := c3
        exact hQ 2 ⟨(show (0 : Int) ≤ 2 ∧ 2 ≤ (7 : Int) from by omega), (show 2 = pz_rk a0 ∧ ((40 ≤ a0 ∧ 2 = 0) ∨ (a0 = 22 ∧ 2 = 1) ∨ (a0 = 21 ∧ 2 = 2) ∨ (a0 = 20 ∧ 2 = 3) ∨ (10 ≤ a0 ∧ a0 < 40 ∧ a0 ≠ 20 ∧ a0 ≠ 21 ∧ a0 ≠ 22 ∧ 2 = 4) ∨ (a0 = 3 ∧ 2 = 7) ∨ (6 ≤ a0 ∧ a0 < 10 ∧ 2 = 6) ∨ (a0 < 6 ∧ a0 ≠ 3 ∧ 2 = 5)) from ⟨by unfold pz_rk; (repeat' split) <;> first | rfl | (exfalso; omega), by omega⟩)⟩
    · skip
      replace c2 : ¬ (a0 ≠ 22) := c2
      exact hQ 1 ⟨(show (0 : Int) ≤ 1 ∧ 1 ≤ (7 : Int) from by omega), (show 1 = pz_rk a0 ∧ ((40 ≤ a0 ∧ 1 = 0) ∨ (a0 = 22 ∧ 1 = 1) ∨ (a0 = 21 ∧ 1 = 2) ∨ (a0 = 20 ∧ 1 = 3) ∨ (10 ≤ a0 ∧ a0 < 40 ∧ a0 ≠ 20 ∧ a0 ≠ 21 ∧ a0 ≠ 22 ∧ 1 = 4) ∨ (a0 = 3 ∧ 1 = 7) ∨ (6 ≤ a0 ∧ a0 < 10 ∧ 1 = 6) ∨ (a0 < 6 ∧ a0 ≠ 3 ∧ 1 = 5)) from ⟨by unfold pz_rk; (repeat' split) <;> first | rfl | (exfalso; omega), by omega⟩)⟩
  · skip
    replace c1 : ¬ (a0 < 40) := c1
    exact hQ 0 ⟨(show (0 : Int) ≤ 0 ∧ 0 ≤ (7 : Int) from by omega), (show 0 = pz_rk a0 ∧ ((40 ≤ a0 ∧ 0 = 0) ∨ (a0 = 22 ∧ 0 = 1) ∨ (a0 = 21 ∧ 0 = 2) ∨ (a0 = 20 ∧ 0 = 3) ∨ (10 ≤ a0 ∧ a0 < 40 ∧ a0 ≠ 20 ∧ a0 ≠ 21 ∧ a0 ≠ 22 ∧ 0 = 4) ∨ (a0 = 3 ∧ 0 = 7) ∨ (6 ≤ a0 ∧ a0 < 10 ∧ 0 = 6) ∨ (a0 < 6 ∧ a0 ≠ 3 ∧ 0 = 5)) from ⟨by unfold pz_rk; (repeat' split) <;> first | rfl | (exfalso; omega), by omega⟩)⟩
-- fm_224 Model.settle 95 i
theorem sm_224_p76 {X0 : lf_Z → Prop} {Q : lf_Z → Prop} {x1 : Int} {s : lf_Z} {s0 : lf_Z} (hQ : ∀  (s' : lf_Z), iv_A s'.1 s'.2.2 → lf_fq [95, 98] 1000000 true s.1 s.2.2 s'.1 s'.2.2 → (pz_R (s'.1 100) (s'.1 98) (s'.1 95 12) (s'.1 95 13) (s'.1 95 19) (s'.1 95 20) (s'.1 95 21) (s'.1 95 22) (s'.1 95 8) (s0.1 98 (s0.1 95 12)) (x1) (pz_op (s0.1 100) (s0.1 95 19))) → (s'.1 95 13 + s'.1 95 19 = s0.1 95 13 + s0.1 95 19 ∧ s'.1 95 19 ≤ s0.1 95 19 ∧ s'.1 95 7 = s0.1 95 7 ∧ s'.1 95 8 = s0.1 95 8 ∧ s'.1 95 9 = s0.1 95 9 ∧ s'.1 95 12 = s0.1 95 12 ∧ s'.1 95 21 = s0.1 95 21 ∧ s'.1 95 22 = s0.1 95 22 ∧ s'.1 95 23 = s0.1 95 23) → (pz_op (s'.1 100) (s'.1 95 19) = pz_op (s0.1 100) (s0.1 95 19)) → (s'.1 95 19 ≤ 0 ∨ pz_rk (s'.1 100 (s'.1 95 19 - 1)) < x1) → Q  s') {M0 : Nat} (hX0 : ∀ (s' : lf_Z), iv_A s'.1 s'.2.2 → lf_fq [95, 98] 1000000 true s.1 s.2.2 s'.1 s'.2.2 → (1 ≤ x1) → (pz_W (s'.1 100) (s'.1 98) (s'.1 95 12) (s'.1 95 13) (s'.1 95 19) (s'.1 95 20) (s'.1 95 21) (s'.1 95 22) (s'.1 95 8) (s0.1 98 (s0.1 95 12)) (x1)) → (s'.1 95 13 + s'.1 95 19 = s0.1 95 13 + s0.1 95 19 ∧ s'.1 95 19 ≤ s0.1 95 19 ∧ s'.1 95 7 = s0.1 95 7 ∧ s'.1 95 8 = s0.1 95 8 ∧ s'.1 95 9 = s0.1 95 9 ∧ s'.1 95 12 = s0.1 95 12 ∧ s'.1 95 21 = s0.1 95 21 ∧ s'.1 95 22 = s0.1 95 22 ∧ s'.1 95 23 = s0.1 95 23) → (pz_op (s'.1 100) (s'.1 95 19) = pz_op (s0.1 100) (s0.1 95 19)) → (s'.1 100 = s0.1 100) → (s'.1 95 19).toNat < M0 → X0 s') (hM0 : (s.1 95 19 + 1).toNat ≤ M0) (hI : iv_A s.1 s.2.2) (bx1 : 0 ≤ x1 ∧ x1 ≤ 7) (kv0 : 1 ≤ x1) (kv1 : pz_W (s.1 100) (s.1 98) (s.1 95 12) (s.1 95 13) (s.1 95 19) (s.1 95 20 - 1) (s.1 95 21) (s.1 95 22) (s.1 95 8) (s0.1 98 (s0.1 95 12)) (x1)) (kv2 : s.1 95 13 + s.1 95 19 = s0.1 95 13 + s0.1 95 19 ∧ s.1 95 19 ≤ s0.1 95 19 ∧ s.1 95 7 = s0.1 95 7 ∧ s.1 95 8 = s0.1 95 8 ∧ s.1 95 9 = s0.1 95 9 ∧ s.1 95 12 = s0.1 95 12 ∧ s.1 95 21 = s0.1 95 21 ∧ s.1 95 22 = s0.1 95 22 ∧ s.1 95 23 = s0.1 95 23) (kv3 : pz_op (s.1 100) (s.1 95 19) = pz_op (s0.1 100) (s0.1 95 19)) (kv4 : s.1 100 = s0.1 100) (kv5 : 1 ≤ s.1 95 20) : fm_224_p76 X0 Q x1 s := by
  unfold fm_224_p76
  have b62 : 0 ≤ s.1 95 20 ∧ s.1 95 20 ≤ 8 := iv_r95_20 hI
  have hI63 : iv_A (lf_up s.1 95 20 ((s.1 95 20) - 1)) s.2.2 := iv_w95_20 hI (by omega)
  have fr64 : lf_fq [95, 98] 1000000 true s.1 s.2.2 (lf_up s.1 95 20 ((s.1 95 20) - 1)) s.2.2 := lf_fq_up (lf_fq_rf) rfl (fun h => absurd h (by decide))
  have b65 : 0 ≤ s.1 95 12 ∧ s.1 95 12 ≤ 2115 := (show 0 ≤ (lf_up s.1 95 20 ((s.1 95 20) - 1)) 95 12 ∧ (lf_up s.1 95 20 ((s.1 95 20) - 1)) 95 12 ≤ 2115 from iv_r95_12 hI63)
  have b66 : (lf_up s.1 95 20 ((s.1 95 20) - 1)) 95 12 = s.1 95 12 := lf_up_i (by omega)
  have b67 : 0 ≤ s.1 95 13 ∧ s.1 95 13 ≤ 304 := (show 0 ≤ (lf_up s.1 95 20 ((s.1 95 20) - 1)) 95 13 ∧ (lf_up s.1 95 20 ((s.1 95 20) - 1)) 95 13 ≤ 304 from iv_r95_13 hI63)
  have b68 : (lf_up s.1 95 20 ((s.1 95 20) - 1)) 95 13 = s.1 95 13 := lf_up_i (by omega)
  have b69 : 0 ≤ s.1 95 19 ∧ s.1 95 19 ≤ 160 := (show 0 ≤ (lf_up s.1 95 20 ((s.1 95 20) - 1)) 95 19 ∧ (lf_up s.1 95 20 ((s.1 95 20) - 1)) 95 19 ≤ 160 from iv_r95_19 hI63)
  have b70 : (lf_up s.1 95 20 ((s.1 95 20) - 1)) 95 19 = s.1 95 19 := lf_up_i (by omega)
  have b71 : 0 ≤ s.1 95 21 ∧ s.1 95 21 ≤ 8 := (show 0 ≤ (lf_up s.1 95 20 ((s.1 95 20) - 1)) 95 21 ∧ (lf_up s.1 95 20 ((s.1 95 20) - 1)) 95 21 ≤ 8 from iv_r95_21 hI63)
  have b72 : (lf_up s.1 95 20 ((s.1 95 20) - 1)) 95 21 = s.1 95 21 := lf_up_i (by omega)
  have b73 : 0 ≤ s.1 95 22 ∧ s.1 95 22 ≤ 80 := (show 0 ≤ (lf_up s.1 95 20 ((s.1 95 20) - 1)) 95 22 ∧ (lf_up s.1 95 20 ((s.1 95 20) - 1)) 95 22 ≤ 80 from iv_r95_22 hI63)
  have b74 : (lf_up s.1 95 20 ((s.1 95 20) - 1)) 95 22 = s.1 95 22 := lf_up_i (by omega)
  have b75 : 0 ≤ s.1 95 8 ∧ s.1 95 8 ≤ 300 := (show 0 ≤ (lf_up s.1 95 20 ((s.1 95 20) - 1)) 95 8 ∧ (lf_up s.1 95 20 ((s.1 95 20) - 1)) 95 8 ≤ 300 from iv_r95_8 hI63)
  have b76 : (lf_up s.1 95 20 ((s.1 95 20) - 1)) 95 8 = s.1 95 8 := lf_up_i (by omega)
  have b77 : 0 ≤ s.1 95 7 ∧ s.1 95 7 ≤ 300 := (show 0 ≤ (lf_up s.1 95 20 ((s.1 95 20) - 1)) 95 7 ∧ (lf_up s.1 95 20 ((s.1 95 20) - 1)) 95 7 ≤ 300 from iv_r95_7 hI63)
  have b78 : (lf_up s.1 95 20 ((s.1 95 20) - 1)) 95 7 = s.1 95 7 := lf_up_i (by omega)
  have b79 : (-2147483648) ≤ s.1 95 9 ∧ s.1 95 9 ≤ 2147483647 := (show (-2147483648) ≤ (lf_up s.1 95 20 ((s.1 95 20) - 1)) 95 9 ∧ (lf_up s.1 95 20 ((s.1 95 20) - 1)) 95 9 ≤ 2147483647 from iv_full hI63)
  have b80 : (lf_up s.1 95 20 ((s.1 95 20) - 1)) 95 9 = s.1 95 9 := lf_up_i (by omega)
  have b81 : 0 ≤ s.1 95 23 ∧ s.1 95 23 ≤ 1 := (show 0 ≤ (lf_up s.1 95 20 ((s.1 95 20) - 1)) 95 23 ∧ (lf_up s.1 95 20 ((s.1 95 20) - 1)) 95 23 ≤ 1 from iv_r95_23 hI63)
  have b82 : (lf_up s.1 95 20 ((s.1 95 20) - 1)) 95 23 = s.1 95 23 := lf_up_i (by omega)
  have b83 : pz_W ((s.1 100)) ((s.1 98)) ((s.1 95 12)) ((s.1 95 13)) ((s.1 95 19)) (((s.1 95 20) - 1)) ((s.1 95 21)) ((s.1 95 22)) ((s.1 95 8)) (s0.1 98 (s0.1 95 12)) (x1) := by first | with_reducible assumption | exact pz_cW rfl rfl (by first | with_reducible assumption | assumption) rfl rfl rfl (by omega) rfl rfl rfl rfl rfl
  have b84 : (s.1 100) = s0.1 100 := by first | with_reducible assumption | rfl
  exact hX0  (lf_up s.1 95 20 ((s.1 95 20) - 1), s.2.1, s.2.2) hI63 fr64 (show 1 ≤ x1 from by omega) (show pz_W ((s.1 100)) ((s.1 98)) ((s.1 95 12)) ((s.1 95 13)) ((s.1 95 19)) (((s.1 95 20) - 1)) ((s.1 95 21)) ((s.1 95 22)) ((s.1 95 8)) (s0.1 98 (s0.1 95 12)) (x1) from by first | with_reducible assumption | assumption) (show (s.1 95 13) + (s.1 95 19) = s0.1 95 13 + s0.1 95 19 ∧ (s.1 95 19) ≤ s0.1 95 19 ∧ (s.1 95 7) = s0.1 95 7 ∧ (s.1 95 8) = s0.1 95 8 ∧ (s.1 95 9) = s0.1 95 9 ∧ (s.1 95 12) = s0.1 95 12 ∧ (s.1 95 21) = s0.1 95 21 ∧ (s.1 95 22) = s0.1 95 22 ∧ (s.1 95 23) = s0.1 95 23 from by omega) (show pz_op ((s.1 100)) ((s.1 95 19)) = pz_op (s0.1 100) (s0.1 95 19) from by omega) (show (s.1 100) = s0.1 100 from by first | with_reducible assumption | assumption) (show ((s.1 95 19)).toNat < M0 from by omega)
set_option maxHeartbeats 8000000 in
theorem sm_224_p0 {X0 : lf_Z → Prop} {Q : lf_Z → Prop} {x1 : Int} {s : lf_Z} {s0 : lf_Z} (hQ : ∀  (s' : lf_Z), iv_A s'.1 s'.2.2 → lf_fq [95, 98] 1000000 true s.1 s.2.2 s'.1 s'.2.2 → (pz_R (s'.1 100) (s'.1 98) (s'.1 95 12) (s'.1 95 13) (s'.1 95 19) (s'.1 95 20) (s'.1 95 21) (s'.1 95 22) (s'.1 95 8) (s0.1 98 (s0.1 95 12)) (x1) (pz_op (s0.1 100) (s0.1 95 19))) → (s'.1 95 13 + s'.1 95 19 = s0.1 95 13 + s0.1 95 19 ∧ s'.1 95 19 ≤ s0.1 95 19 ∧ s'.1 95 7 = s0.1 95 7 ∧ s'.1 95 8 = s0.1 95 8 ∧ s'.1 95 9 = s0.1 95 9 ∧ s'.1 95 12 = s0.1 95 12 ∧ s'.1 95 21 = s0.1 95 21 ∧ s'.1 95 22 = s0.1 95 22 ∧ s'.1 95 23 = s0.1 95 23) → (pz_op (s'.1 100) (s'.1 95 19) = pz_op (s0.1 100) (s0.1 95 19)) → (s'.1 95 19 ≤ 0 ∨ pz_rk (s'.1 100 (s'.1 95 19 - 1)) < x1) → Q  s') {M0 : Nat} (hX0 : ∀ (s' : lf_Z), iv_A s'.1 s'.2.2 → lf_fq [95, 98] 1000000 true s.1 s.2.2 s'.1 s'.2.2 → (1 ≤ x1) → (pz_W (s'.1 100) (s'.1 98) (s'.1 95 12) (s'.1 95 13) (s'.1 95 19) (s'.1 95 20) (s'.1 95 21) (s'.1 95 22) (s'.1 95 8) (s0.1 98 (s0.1 95 12)) (x1)) → (s'.1 95 13 + s'.1 95 19 = s0.1 95 13 + s0.1 95 19 ∧ s'.1 95 19 ≤ s0.1 95 19 ∧ s'.1 95 7 = s0.1 95 7 ∧ s'.1 95 8 = s0.1 95 8 ∧ s'.1 95 9 = s0.1 95 9 ∧ s'.1 95 12 = s0.1 95 12 ∧ s'.1 95 21 = s0.1 95 21 ∧ s'.1 95 22 = s0.1 95 22 ∧ s'.1 95 23 = s0.1 95 23) → (pz_op (s'.1 100) (s'.1 95 19) = pz_op (s0.1 100) (s0.1 95 19)) → (s'.1 100 = s0.1 100) → (s'.1 95 19).toNat < M0 → X0 s') (hM0 : (s.1 95 19).toNat ≤ M0) (hI : iv_A s.1 s.2.2) (bx1 : 0 ≤ x1 ∧ x1 ≤ 7) (kv0 : 1 ≤ x1) (kv1 : pz_W (s.1 100) (s.1 98) (s.1 95 12) (s.1 95 13) (s.1 95 19) (s.1 95 20) (s.1 95 21) (s.1 95 22) (s.1 95 8) (s0.1 98 (s0.1 95 12)) (x1)) (kv2 : s.1 95 13 + s.1 95 19 = s0.1 95 13 + s0.1 95 19 ∧ s.1 95 19 ≤ s0.1 95 19 ∧ s.1 95 7 = s0.1 95 7 ∧ s.1 95 8 = s0.1 95 8 ∧ s.1 95 9 = s0.1 95 9 ∧ s.1 95 12 = s0.1 95 12 ∧ s.1 95 21 = s0.1 95 21 ∧ s.1 95 22 = s0.1 95 22 ∧ s.1 95 23 = s0.1 95 23) (kv3 : pz_op (s.1 100) (s.1 95 19) = pz_op (s0.1 100) (s0.1 95 19)) (kv4 : s.1 100 = s0.1 100) : fm_224_p0 Q x1 X0 s := by
  unfold fm_224_p0
  have b13 : 0 ≤ s.1 95 19 ∧ s.1 95 19 ≤ 160 := iv_r95_19 hI
  have b14 : 0 ≤ s.1 95 20 ∧ s.1 95 20 ≤ 8 := iv_r95_20 hI
  have b15 : 0 ≤ s.1 95 21 ∧ s.1 95 21 ≤ 8 := iv_r95_21 hI
  have b16 : 0 ≤ s.1 95 13 ∧ s.1 95 13 ≤ 304 := iv_r95_13 hI
  have b17 : 0 ≤ s.1 95 8 ∧ s.1 95 8 ≤ 300 := iv_r95_8 hI
  have b18 : 0 ≤ s.1 95 22 ∧ s.1 95 22 ≤ 80 := iv_r95_22 hI
  have b19 : 0 ≤ s.1 95 12 ∧ s.1 95 12 ≤ 2115 := iv_r95_12 hI
  have b20 : 0 ≤ (s.1 95 19) ∧ (s.1 95 19) ≤ 6 * (s.1 95 20) + 5 ∧ 0 ≤ (s.1 95 20) ∧ 0 ≤ (s.1 95 21) ∧ (s.1 95 21) ≤ (s.1 95 20) ∧ 0 ≤ (s.1 95 13) ∧ (s.1 95 13) + (s.1 95 19) ≤ (s.1 95 8) ∧ 4 * (s.1 95 22) + 3 * pz_4 ((s.1 100)) ((s.1 95 19)) ≤ (s.1 95 8) ∧ 0 ≤ pz_4 ((s.1 100)) ((s.1 95 19)) ∧ (s.1 98) ((s.1 95 12)) = s0.1 98 (s0.1 95 12) ∧ 0 ≤ s0.1 98 (s0.1 95 12) ∧ s0.1 98 (s0.1 95 12) < 24 := pz_Wn2 kv1
  refine ⟨(show lf_R (s.1 95 19) from lf_Rof (by omega)), ?_⟩
  refine ⟨fun c21 => ?_, fun c21 => ?_⟩
  · skip
    replace c21 : s.1 95 19 ≤ 0 := c21
    have b22 : pz_R ((s.1 100)) ((s.1 98)) ((s.1 95 12)) ((s.1 95 13)) ((s.1 95 19)) ((s.1 95 20)) ((s.1 95 21)) ((s.1 95 22)) ((s.1 95 8)) (s0.1 98 (s0.1 95 12)) (x1) (pz_op (s0.1 100) (s0.1 95 19)) := pz_Wend kv1 (by omega) (by omega) (by omega)
    exact hQ s hI (lf_fq_rf) (show pz_R ((s.1 100)) ((s.1 98)) ((s.1 95 12)) ((s.1 95 13)) ((s.1 95 19)) ((s.1 95 20)) ((s.1 95 21)) ((s.1 95 22)) ((s.1 95 8)) (s0.1 98 (s0.1 95 12)) (x1) (pz_op (s0.1 100) (s0.1 95 19)) from by first | with_reducible assumption | assumption) (show (s.1 95 13) + (s.1 95 19) = s0.1 95 13 + s0.1 95 19 ∧ (s.1 95 19) ≤ s0.1 95 19 ∧ (s.1 95 7) = s0.1 95 7 ∧ (s.1 95 8) = s0.1 95 8 ∧ (s.1 95 9) = s0.1 95 9 ∧ (s.1 95 12) = s0.1 95 12 ∧ (s.1 95 21) = s0.1 95 21 ∧ (s.1 95 22) = s0.1 95 22 ∧ (s.1 95 23) = s0.1 95 23 from by omega) (show pz_op ((s.1 100)) ((s.1 95 19)) = pz_op (s0.1 100) (s0.1 95 19) from by omega) (show (s.1 95 19) ≤ 0 ∨ pz_rk ((s.1 100) ((s.1 95 19) - 1)) < x1 from by omega)
  · skip
    replace c21 : ¬ (s.1 95 19 ≤ 0) := c21
    refine ⟨(show (0 : Int) ≤ (s.1 95 19) - 1 ∧ (s.1 95 19) - 1 < (160 : Int) from by omega), ?_⟩
    have b23 : 0 ≤ s.1 100 ((s.1 95 19) - 1) ∧ s.1 100 ((s.1 95 19) - 1) ≤ 45 := iv_r100 hI _
    refine sm_222 hI (show (0 : Int) ≤ s.1 100 ((s.1 95 19) - 1) ∧ s.1 100 ((s.1 95 19) - 1) ≤ (45 : Int) from by omega) (fun r24 q24 => ?_)
    obtain ⟨q24, q24x⟩ := q24
    replace q24x : r24 = pz_rk (s.1 100 ((s.1 95 19) - 1)) ∧ ((40 ≤ (s.1 100 ((s.1 95 19) - 1)) ∧ r24 = 0) ∨ ((s.1 100 ((s.1 95 19) - 1)) = 22 ∧ r24 = 1) ∨ ((s.1 100 ((s.1 95 19) - 1)) = 21 ∧ r24 = 2) ∨ ((s.1 100 ((s.1 95 19) - 1)) = 20 ∧ r24 = 3) ∨ (10 ≤ (s.1 100 ((s.1 95 19) - 1)) ∧ (s.1 100 ((s.1 95 19) - 1)) < 40 ∧ (s.1 100 ((s.1 95 19) - 1)) ≠ 20 ∧ (s.1 100 ((s.1 95 19) - 1)) ≠ 21 ∧ (s.1 100 ((s.1 95 19) - 1)) ≠ 22 ∧ r24 = 4) ∨ ((s.1 100 ((s.1 95 19) - 1)) = 3 ∧ r24 = 7) ∨ (6 ≤ (s.1 100 ((s.1 95 19) - 1)) ∧ (s.1 100 ((s.1 95 19) - 1)) < 10 ∧ r24 = 6) ∨ ((s.1 100 ((s.1 95 19) - 1)) < 6 ∧ (s.1 100 ((s.1 95 19) - 1)) ≠ 3 ∧ r24 = 5)) := q24x
    refine ⟨(show lf_R r24 from lf_Rof (by omega)), ?_⟩
    refine ⟨(show lf_R x1 from lf_Rof (by omega)), ?_⟩
    refine ⟨fun c25 => ?_, fun c25 => ?_⟩
    · skip
      replace c25 : r24 < x1 := c25
      have b26 : pz_R ((s.1 100)) ((s.1 98)) ((s.1 95 12)) ((s.1 95 13)) ((s.1 95 19)) ((s.1 95 20)) ((s.1 95 21)) ((s.1 95 22)) ((s.1 95 8)) (s0.1 98 (s0.1 95 12)) (x1) (pz_op (s0.1 100) (s0.1 95 19)) := pz_Wend kv1 (by omega) (by omega) (by omega)
      exact hQ s hI (lf_fq_rf) (show pz_R ((s.1 100)) ((s.1 98)) ((s.1 95 12)) ((s.1 95 13)) ((s.1 95 19)) ((s.1 95 20)) ((s.1 95 21)) ((s.1 95 22)) ((s.1 95 8)) (s0.1 98 (s0.1 95 12)) (x1) (pz_op (s0.1 100) (s0.1 95 19)) from by first | with_reducible assumption | assumption) (show (s.1 95 13) + (s.1 95 19) = s0.1 95 13 + s0.1 95 19 ∧ (s.1 95 19) ≤ s0.1 95 19 ∧ (s.1 95 7) = s0.1 95 7 ∧ (s.1 95 8) = s0.1 95 8 ∧ (s.1 95 9) = s0.1 95 9 ∧ (s.1 95 12) = s0.1 95 12 ∧ (s.1 95 21) = s0.1 95 21 ∧ (s.1 95 22) = s0.1 95 22 ∧ (s.1 95 23) = s0.1 95 23 from by omega) (show pz_op ((s.1 100)) ((s.1 95 19)) = pz_op (s0.1 100) (s0.1 95 19) from by omega) (show (s.1 95 19) ≤ 0 ∨ pz_rk ((s.1 100) ((s.1 95 19) - 1)) < x1 from by omega)
    · skip
      replace c25 : ¬ (r24 < x1) := c25
      have b27 : pz_W ((s.1 100)) (pz_em ((s.1 98)) ((s.1 95 12) + 97 + 2 * (s.1 95 13)) ((s.1 100) ((s.1 95 19) - 1)) 0) ((s.1 95 12)) ((s.1 95 13) + 1) ((s.1 95 19) - 1) ((s.1 95 20) - pz_vo ((s.1 100) ((s.1 95 19) - 1))) ((s.1 95 21)) ((s.1 95 22)) ((s.1 95 8)) (s0.1 98 (s0.1 95 12)) (x1) := (pz_Wpop kv1 (by omega) (by omega) (by omega)).1
      have b28 : pz_op ((s.1 100)) ((s.1 95 19) - 1) = pz_op ((s.1 100)) ((s.1 95 19)) := (pz_Wpop kv1 (by omega) (by omega) (by omega)).2.1
      have b29 : (pz_vo ((s.1 100) ((s.1 95 19) - 1)) = 1 ∧ ((s.1 100) ((s.1 95 19) - 1) = 3 ∨ (s.1 100) ((s.1 95 19) - 1) = 20 ∨ 40 ≤ (s.1 100) ((s.1 95 19) - 1))) ∨ (pz_vo ((s.1 100) ((s.1 95 19) - 1)) = 0 ∧ (s.1 100) ((s.1 95 19) - 1) ≠ 3 ∧ (s.1 100) ((s.1 95 19) - 1) ≠ 20 ∧ (s.1 100) ((s.1 95 19) - 1) < 40) := (pz_vE _).1
      have b30 : (s.1 100) ((s.1 95 19) - 1) < 40 := (pz_Wpop kv1 (by omega) (by omega) (by omega)).2.2
      have b31 : pz_vo ((s.1 100) ((s.1 95 19) - 1)) ≤ (s.1 95 20) := pz_WV kv1 (by omega)
      have b32 : wk_E ((s.1 98)) ((s.1 95 12)) ((s.1 95 13)) := pz_WE kv1
      have hI33 : iv_A (lf_up s.1 95 19 ((s.1 95 19) - 1)) s.2.2 := iv_w95_19 hI (by omega)
      have fr34 : lf_fq [95, 98] 1000000 true s.1 s.2.2 (lf_up s.1 95 19 ((s.1 95 19) - 1)) s.2.2 := lf_fq_up (lf_fq_rf) rfl (fun h => absurd h (by decide))
      refine ⟨(show (0 : Int) ≤ (s.1 95 19) - 1 ∧ (s.1 95 19) - 1 < (160 : Int) from by omega), ?_⟩
      have b37 : (lf_up s.1 95 19 ((s.1 95 19) - 1)) 95 12 = s.1 95 12 := lf_up_i (by omega)
      have b38 : (lf_up s.1 95 19 ((s.1 95 19) - 1)) 95 13 = s.1 95 13 := lf_up_i (by omega)
      refine sm_225 hI33 (show (0 : Int) ≤ s.1 100 ((s.1 95 19) - 1) ∧ s.1 100 ((s.1 95 19) - 1) ≤ (45 : Int) from by omega) (show (-2147483648 : Int) ≤ 0 ∧ 0 ≤ (2147483647 : Int) from by omega) (show wk_E ((s.1 98)) ((s.1 95 12)) ((s.1 95 13)) from by first | with_reducible assumption | assumption) (show (s.1 95 13) ≤ 303 from by omega) (fun s28 hI36 fr35 ps40 ps41 => ?_)
      replace ps40 : s28.1 98 = pz_em ((s.1 98)) ((s.1 95 12) + 97 + 2 * (s.1 95 13)) (s.1 100 ((s.1 95 19) - 1)) 0 := ps40
      replace ps41 : s28.1 95 13 = (s.1 95 13) + 1 ∧ s28.1 95 7 = (s.1 95 7) ∧ s28.1 95 8 = (s.1 95 8) ∧ s28.1 95 9 = (s.1 95 9) ∧ s28.1 95 12 = (s.1 95 12) ∧ s28.1 95 19 = ((s.1 95 19) - 1) ∧ s28.1 95 20 = (s.1 95 20) ∧ s28.1 95 21 = (s.1 95 21) ∧ s28.1 95 22 = (s.1 95 22) ∧ s28.1 95 23 = (s.1 95 23) := ps41
      have fr42 : lf_fq [95, 98] 1000000 true s.1 s.2.2 s28.1 s28.2.2 := lf_fq_tr fr34 (lf_fq_wk fr35 rfl (by decide) (by decide))
      have b43 : (s28.1 100) = s.1 100 := fr35.1 100 rfl
      have b44 : 0 ≤ s28.1 95 19 ∧ s28.1 95 19 ≤ 160 := iv_r95_19 hI36
      have b45 : pz_op ((s28.1 100)) ((s28.1 95 19)) = pz_op (s.1 100) (s.1 95 19 - 1) := lf_c2 pz_op (fr35.1 100 rfl) (by omega)
      have b46 : 0 ≤ s28.1 95 12 ∧ s28.1 95 12 ≤ 2115 := iv_r95_12 hI36
      have b47 : 0 ≤ s28.1 95 13 ∧ s28.1 95 13 ≤ 304 := iv_r95_13 hI36
      have b48 : 0 ≤ s28.1 95 21 ∧ s28.1 95 21 ≤ 8 := iv_r95_21 hI36
      have b49 : 0 ≤ s28.1 95 22 ∧ s28.1 95 22 ≤ 80 := iv_r95_22 hI36
      have b50 : 0 ≤ s28.1 95 8 ∧ s28.1 95 8 ≤ 300 := iv_r95_8 hI36
      have b51 : pz_W ((s28.1 100)) ((s28.1 98)) ((s28.1 95 12)) ((s28.1 95 13)) ((s28.1 95 19)) (s.1 95 20 - pz_vo (s.1 100 (s.1 95 19 - 1))) ((s28.1 95 21)) ((s28.1 95 22)) ((s28.1 95 8)) (s0.1 98 (s0.1 95 12)) (x1) := pz_cW (show (s28.1 100) = s.1 100 from fr35.1 100 rfl) ps40 (by first | with_reducible assumption | assumption) (by omega) (by omega) (by omega) rfl (by omega) (by omega) (by omega) rfl rfl
      have b52 : (s28.1 100) = s0.1 100 := (fr35.1 100 rfl).trans kv4
      have b53 : (s28.1 100) ((s28.1 95 19)) = s.1 100 (s.1 95 19 - 1) := lf_c2 id (fr35.1 100 rfl) (by omega)
      refine ⟨(show (0 : Int) ≤ s28.1 95 19 ∧ s28.1 95 19 < (160 : Int) from by omega), ?_⟩
      have b54 : 0 ≤ s28.1 100 (s28.1 95 19) ∧ s28.1 100 (s28.1 95 19) ≤ 45 := iv_r100 hI36 _
      have b55 : s28.1 100 (s28.1 95 19) = s.1 100 (s28.1 95 19) := congrFun (fr35.1 100 rfl) _
      refine ⟨(show lf_R (s28.1 100 (s28.1 95 19)) from lf_Rof (by omega)), ?_⟩
      refine ⟨fun c56 => ?_, fun c56 => ?_⟩
      · skip
        replace c56 : s28.1 100 (s28.1 95 19) = 3 := c56
        have b57 : 0 ≤ s28.1 95 20 ∧ s28.1 95 20 ≤ 8 := iv_r95_20 hI36
        have b58 : 0 ≤ s28.1 95 7 ∧ s28.1 95 7 ≤ 300 := iv_r95_7 hI36
        have b59 : (-2147483648) ≤ s28.1 95 9 ∧ s28.1 95 9 ≤ 2147483647 := iv_full hI36
        have b60 : 0 ≤ s28.1 95 23 ∧ s28.1 95 23 ≤ 1 := iv_r95_23 hI36
        have b61 : pz_W ((s28.1 100)) ((s28.1 98)) ((s28.1 95 12)) ((s28.1 95 13)) ((s28.1 95 19)) ((s28.1 95 20) - 1) ((s28.1 95 21)) ((s28.1 95 22)) ((s28.1 95 8)) (s0.1 98 (s0.1 95 12)) (x1) := by first | with_reducible assumption | exact pz_cW rfl rfl (by first | with_reducible assumption | assumption) rfl rfl rfl (by omega) rfl rfl rfl rfl rfl
        exact sm_224_p76 (s0 := s0) (fun t9 i9 f9 => hQ t9 i9 (lf_fq_tr fr42 f9)) (fun  t9 i9 f9 => hX0  t9 i9 (lf_fq_tr fr42 f9)) (show ((s28.1 95 19) + 1).toNat ≤ M0 from by omega) hI36 (show (0 : Int) ≤ x1 ∧ x1 ≤ (7 : Int) from by omega) (show 1 ≤ x1 from by omega) (show pz_W ((s28.1 100)) ((s28.1 98)) ((s28.1 95 12)) ((s28.1 95 13)) ((s28.1 95 19)) ((s28.1 95 20) - 1) ((s28.1 95 21)) ((s28.1 95 22)) ((s28.1 95 8)) (s0.1 98 (s0.1 95 12)) (x1) from by first | with_reducible assumption | assumption) (show (s28.1 95 13) + (s28.1 95 19) = s0.1 95 13 + s0.1 95 19 ∧ (s28.1 95 19) ≤ s0.1 95 19 ∧ (s28.1 95 7) = s0.1 95 7 ∧ (s28.1 95 8) = s0.1 95 8 ∧ (s28.1 95 9) = s0.1 95 9 ∧ (s28.1 95 12) = s0.1 95 12 ∧ (s28.1 95 21) = s0.1 95 21 ∧ (s28.1 95 22) = s0.1 95 22 ∧ (s28.1 95 23) = s0.1 95 23 from by omega) (show pz_op ((s28.1 100)) ((s28.1 95 19)) = pz_op (s0.1 100) (s0.1 95 19) from by omega) (show (s28.1 100) = s0.1 100 from by first | with_reducible assumption | assumption) (show 1 ≤ (s28.1 95 20) from by omega)
      · skip
        replace c56 : ¬ (s28.1 100 (s28.1 95 19) = 3) := c56
        refine ⟨fun c85 => ?_, fun c85 => ?_⟩
        · skip
          replace c85 : s28.1 100 (s28.1 95 19) ≠ 20 := c85
          have b86 : 0 ≤ s28.1 95 20 ∧ s28.1 95 20 ≤ 8 := iv_r95_20 hI36
          have b87 : 0 ≤ s28.1 95 7 ∧ s28.1 95 7 ≤ 300 := iv_r95_7 hI36
          have b88 : (-2147483648) ≤ s28.1 95 9 ∧ s28.1 95 9 ≤ 2147483647 := iv_full hI36
          have b89 : 0 ≤ s28.1 95 23 ∧ s28.1 95 23 ≤ 1 := iv_r95_23 hI36
          have b90 : pz_W ((s28.1 100)) ((s28.1 98)) ((s28.1 95 12)) ((s28.1 95 13)) ((s28.1 95 19)) ((s28.1 95 20)) ((s28.1 95 21)) ((s28.1 95 22)) ((s28.1 95 8)) (s0.1 98 (s0.1 95 12)) (x1) := by first | with_reducible assumption | exact pz_cW rfl rfl (by first | with_reducible assumption | assumption) rfl rfl rfl (by omega) rfl rfl rfl rfl rfl
          exact hX0  s28 hI36 fr42 (show 1 ≤ x1 from by omega) (show pz_W ((s28.1 100)) ((s28.1 98)) ((s28.1 95 12)) ((s28.1 95 13)) ((s28.1 95 19)) ((s28.1 95 20)) ((s28.1 95 21)) ((s28.1 95 22)) ((s28.1 95 8)) (s0.1 98 (s0.1 95 12)) (x1) from by first | with_reducible assumption | assumption) (show (s28.1 95 13) + (s28.1 95 19) = s0.1 95 13 + s0.1 95 19 ∧ (s28.1 95 19) ≤ s0.1 95 19 ∧ (s28.1 95 7) = s0.1 95 7 ∧ (s28.1 95 8) = s0.1 95 8 ∧ (s28.1 95 9) = s0.1 95 9 ∧ (s28.1 95 12) = s0.1 95 12 ∧ (s28.1 95 21) = s0.1 95 21 ∧ (s28.1 95 22) = s0.1 95 22 ∧ (s28.1 95 23) = s0.1 95 23 from by omega) (show pz_op ((s28.1 100)) ((s28.1 95 19)) = pz_op (s0.1 100) (s0.1 95 19) from by omega) (show (s28.1 100) = s0.1 100 from by first | with_reducible assumption | assumption) (show ((s28.1 95 19)).toNat < M0 from by omega)
        · skip
          replace c85 : ¬ (s28.1 100 (s28.1 95 19) ≠ 20) := c85
          have b91 : 0 ≤ s28.1 95 20 ∧ s28.1 95 20 ≤ 8 := iv_r95_20 hI36
          have b92 : 0 ≤ s28.1 95 7 ∧ s28.1 95 7 ≤ 300 := iv_r95_7 hI36
          have b93 : (-2147483648) ≤ s28.1 95 9 ∧ s28.1 95 9 ≤ 2147483647 := iv_full hI36
          have b94 : 0 ≤ s28.1 95 23 ∧ s28.1 95 23 ≤ 1 := iv_r95_23 hI36
          have b95 : pz_W ((s28.1 100)) ((s28.1 98)) ((s28.1 95 12)) ((s28.1 95 13)) ((s28.1 95 19)) ((s28.1 95 20) - 1) ((s28.1 95 21)) ((s28.1 95 22)) ((s28.1 95 8)) (s0.1 98 (s0.1 95 12)) (x1) := by first | with_reducible assumption | exact pz_cW rfl rfl (by first | with_reducible assumption | assumption) rfl rfl rfl (by omega) rfl rfl rfl rfl rfl
          exact sm_224_p76 (s0 := s0) (fun t9 i9 f9 => hQ t9 i9 (lf_fq_tr fr42 f9)) (fun  t9 i9 f9 => hX0  t9 i9 (lf_fq_tr fr42 f9)) (show ((s28.1 95 19) + 1).toNat ≤ M0 from by omega) hI36 (show (0 : Int) ≤ x1 ∧ x1 ≤ (7 : Int) from by omega) (show 1 ≤ x1 from by omega) (show pz_W ((s28.1 100)) ((s28.1 98)) ((s28.1 95 12)) ((s28.1 95 13)) ((s28.1 95 19)) ((s28.1 95 20) - 1) ((s28.1 95 21)) ((s28.1 95 22)) ((s28.1 95 8)) (s0.1 98 (s0.1 95 12)) (x1) from by first | with_reducible assumption | assumption) (show (s28.1 95 13) + (s28.1 95 19) = s0.1 95 13 + s0.1 95 19 ∧ (s28.1 95 19) ≤ s0.1 95 19 ∧ (s28.1 95 7) = s0.1 95 7 ∧ (s28.1 95 8) = s0.1 95 8 ∧ (s28.1 95 9) = s0.1 95 9 ∧ (s28.1 95 12) = s0.1 95 12 ∧ (s28.1 95 21) = s0.1 95 21 ∧ (s28.1 95 22) = s0.1 95 22 ∧ (s28.1 95 23) = s0.1 95 23 from by omega) (show pz_op ((s28.1 100)) ((s28.1 95 19)) = pz_op (s0.1 100) (s0.1 95 19) from by omega) (show (s28.1 100) = s0.1 100 from by first | with_reducible assumption | assumption) (show 1 ≤ (s28.1 95 20) from by omega)
theorem sm_224_p0L {Q : lf_Z → Prop} {x1 : Int} {s : lf_Z} {s0 : lf_Z} (hQ : ∀  (s' : lf_Z), iv_A s'.1 s'.2.2 → lf_fq [95, 98] 1000000 true s.1 s.2.2 s'.1 s'.2.2 → (pz_R (s'.1 100) (s'.1 98) (s'.1 95 12) (s'.1 95 13) (s'.1 95 19) (s'.1 95 20) (s'.1 95 21) (s'.1 95 22) (s'.1 95 8) (s0.1 98 (s0.1 95 12)) (x1) (pz_op (s0.1 100) (s0.1 95 19))) → (s'.1 95 13 + s'.1 95 19 = s0.1 95 13 + s0.1 95 19 ∧ s'.1 95 19 ≤ s0.1 95 19 ∧ s'.1 95 7 = s0.1 95 7 ∧ s'.1 95 8 = s0.1 95 8 ∧ s'.1 95 9 = s0.1 95 9 ∧ s'.1 95 12 = s0.1 95 12 ∧ s'.1 95 21 = s0.1 95 21 ∧ s'.1 95 22 = s0.1 95 22 ∧ s'.1 95 23 = s0.1 95 23) → (pz_op (s'.1 100) (s'.1 95 19) = pz_op (s0.1 100) (s0.1 95 19)) → (s'.1 95 19 ≤ 0 ∨ pz_rk (s'.1 100 (s'.1 95 19 - 1)) < x1) → Q  s') (hI : iv_A s.1 s.2.2) (bx1 : 0 ≤ x1 ∧ x1 ≤ 7) (kv0 : 1 ≤ x1) (kv1 : pz_W (s.1 100) (s.1 98) (s.1 95 12) (s.1 95 13) (s.1 95 19) (s.1 95 20) (s.1 95 21) (s.1 95 22) (s.1 95 8) (s0.1 98 (s0.1 95 12)) (x1)) (kv2 : s.1 95 13 + s.1 95 19 = s0.1 95 13 + s0.1 95 19 ∧ s.1 95 19 ≤ s0.1 95 19 ∧ s.1 95 7 = s0.1 95 7 ∧ s.1 95 8 = s0.1 95 8 ∧ s.1 95 9 = s0.1 95 9 ∧ s.1 95 12 = s0.1 95 12 ∧ s.1 95 21 = s0.1 95 21 ∧ s.1 95 22 = s0.1 95 22 ∧ s.1 95 23 = s0.1 95 23) (kv3 : pz_op (s.1 100) (s.1 95 19) = pz_op (s0.1 100) (s0.1 95 19)) (kv4 : s.1 100 = s0.1 100) : fm_224_p0L Q x1 s := by
  intro X0 hX
  have key : ∀ (m9 : Nat) (s' : lf_Z), iv_A s'.1 s'.2.2 → lf_fq [95, 98] 1000000 true s.1 s.2.2 s'.1 s'.2.2 → (1 ≤ x1) → (pz_W (s'.1 100) (s'.1 98) (s'.1 95 12) (s'.1 95 13) (s'.1 95 19) (s'.1 95 20) (s'.1 95 21) (s'.1 95 22) (s'.1 95 8) (s0.1 98 (s0.1 95 12)) (x1)) → (s'.1 95 13 + s'.1 95 19 = s0.1 95 13 + s0.1 95 19 ∧ s'.1 95 19 ≤ s0.1 95 19 ∧ s'.1 95 7 = s0.1 95 7 ∧ s'.1 95 8 = s0.1 95 8 ∧ s'.1 95 9 = s0.1 95 9 ∧ s'.1 95 12 = s0.1 95 12 ∧ s'.1 95 21 = s0.1 95 21 ∧ s'.1 95 22 = s0.1 95 22 ∧ s'.1 95 23 = s0.1 95 23) → (pz_op (s'.1 100) (s'.1 95 19) = pz_op (s0.1 100) (s0.1 95 19)) → (s'.1 100 = s0.1 100) → (s'.1 95 19).toNat < m9 → X0 s' := by
    intro m9
    induction m9 with
    | zero => intro  s' _ _ kv0 kv1 kv2 kv3 kv4 h9; exact absurd h9 (Nat.not_lt_zero _)
    | succ m9 ih => intro  s' i7 f7 kv0 kv1 kv2 kv3 kv4 h9; exact hX  _ (sm_224_p0 (s0 := s0) (fun t9 i9 f9 => hQ t9 i9 (lf_fq_tr f7 f9))   (fun  t8 i8 f8 kv0' kv1' kv2' kv3' kv4' h8 => ih  t8 i8 (lf_fq_tr f7 f8) kv0' kv1' kv2' kv3' kv4' (by omega)) (Nat.le_refl _)  i7  bx1  kv0 kv1 kv2 kv3 kv4)
  exact key _  s hI lf_fq_rf kv0 kv1 kv2 kv3 kv4 (Nat.lt_succ_self _)
theorem sm_224 {a1 : Int} {Q : lf_Z → Prop} {s : lf_Z} (hI : iv_A s.1 s.2.2) (ba1 : 0 ≤ a1 ∧ a1 ≤ 7) (kp0 : 1 ≤ a1) (kp1 : pz_W (s.1 100) (s.1 98) (s.1 95 12) (s.1 95 13) (s.1 95 19) (s.1 95 20) (s.1 95 21) (s.1 95 22) (s.1 95 8) (s.1 98 (s.1 95 12)) (a1)) (kp2 : s.1 95 8 ≤ 300) (hQ : ∀  (s' : lf_Z), iv_A s'.1 s'.2.2 → lf_fq [95, 98] 1000000 true s.1 s.2.2 s'.1 s'.2.2 → (pz_R (s'.1 100) (s'.1 98) (s'.1 95 12) (s'.1 95 13) (s'.1 95 19) (s'.1 95 20) (s'.1 95 21) (s'.1 95 22) (s'.1 95 8) (s.1 98 (s.1 95 12)) (a1) (pz_op (s.1 100) (s.1 95 19))) → (s'.1 95 13 + s'.1 95 19 = s.1 95 13 + s.1 95 19 ∧ s'.1 95 19 ≤ s.1 95 19 ∧ s'.1 95 7 = s.1 95 7 ∧ s'.1 95 8 = s.1 95 8 ∧ s'.1 95 9 = s.1 95 9 ∧ s'.1 95 12 = s.1 95 12 ∧ s'.1 95 21 = s.1 95 21 ∧ s'.1 95 22 = s.1 95 22 ∧ s'.1 95 23 = s.1 95 23) → (pz_op (s'.1 100) (s'.1 95 19) = pz_op (s.1 100) (s.1 95 19)) → (s'.1 95 19 ≤ 0 ∨ pz_rk (s'.1 100 (s'.1 95 19 - 1)) < a1) → Q  s') : fm_224 a1 Q s := by
  unfold fm_224
  have b1 : 0 ≤ s.1 95 12 ∧ s.1 95 12 ≤ 2115 := iv_r95_12 hI
  have b2 : 0 ≤ s.1 95 13 ∧ s.1 95 13 ≤ 304 := iv_r95_13 hI
  have b3 : 0 ≤ s.1 95 19 ∧ s.1 95 19 ≤ 160 := iv_r95_19 hI
  have b4 : 0 ≤ s.1 95 20 ∧ s.1 95 20 ≤ 8 := iv_r95_20 hI
  have b5 : 0 ≤ s.1 95 21 ∧ s.1 95 21 ≤ 8 := iv_r95_21 hI
  have b6 : 0 ≤ s.1 95 22 ∧ s.1 95 22 ≤ 80 := iv_r95_22 hI
  have b7 : 0 ≤ s.1 95 8 ∧ s.1 95 8 ≤ 300 := iv_r95_8 hI
  have b8 : 0 ≤ s.1 95 7 ∧ s.1 95 7 ≤ 300 := iv_r95_7 hI
  have b9 : (-2147483648) ≤ s.1 95 9 ∧ s.1 95 9 ≤ 2147483647 := iv_full hI
  have b10 : 0 ≤ s.1 95 23 ∧ s.1 95 23 ≤ 1 := iv_r95_23 hI
  have b11 : pz_W ((s.1 100)) ((s.1 98)) ((s.1 95 12)) ((s.1 95 13)) ((s.1 95 19)) ((s.1 95 20)) ((s.1 95 21)) ((s.1 95 22)) ((s.1 95 8)) (s.1 98 (s.1 95 12)) (a1) := by first | with_reducible assumption | exact pz_cW rfl rfl (by first | with_reducible assumption | assumption) rfl rfl rfl (by omega) rfl rfl rfl rfl rfl
  have b12 : (s.1 100) = s.1 100 := by first | with_reducible assumption | rfl
  exact sm_224_p0L (s0 := s) hQ hI (show (0 : Int) ≤ a1 ∧ a1 ≤ (7 : Int) from by omega) (show 1 ≤ a1 from by omega) (show pz_W ((s.1 100)) ((s.1 98)) ((s.1 95 12)) ((s.1 95 13)) ((s.1 95 19)) ((s.1 95 20)) ((s.1 95 21)) ((s.1 95 22)) ((s.1 95 8)) (s.1 98 (s.1 95 12)) (a1) from by first | with_reducible assumption | assumption) (show (s.1 95 13) + (s.1 95 19) = s.1 95 13 + s.1 95 19 ∧ (s.1 95 19) ≤ s.1 95 19 ∧ (s.1 95 7) = s.1 95 7 ∧ (s.1 95 8) = s.1 95 8 ∧ (s.1 95 9) = s.1 95 9 ∧ (s.1 95 12) = s.1 95 12 ∧ (s.1 95 21) = s.1 95 21 ∧ (s.1 95 22) = s.1 95 22 ∧ (s.1 95 23) = s.1 95 23 from by omega) (show pz_op ((s.1 100)) ((s.1 95 19)) = pz_op (s.1 100) (s.1 95 19) from by omega) (show (s.1 100) = s.1 100 from by first | with_reducible assumption | assumption)
-- fm_233 Model.one 95 i i
theorem sm_233 {a1 : Int} {a2 : Int} {Q : lf_Z → Prop} {s : lf_Z} (hI : iv_A s.1 s.2.2) (ba1 : 0 ≤ a1 ∧ a1 ≤ 31) (ba2 : (-2147483648) ≤ a2 ∧ a2 ≤ 2147483647) (kp0 : pz_Y (s.1 100) (s.1 98) (s.1 95 12) (s.1 95 13) (s.1 95 19) (s.1 95 20) (s.1 95 21) (s.1 95 22) (s.1 95 8) (s.1 98 (s.1 95 12)) (0) (0)) (kp1 : s.1 95 9 ≠ 0 ∧ s.1 95 8 < s.1 95 7) (kp2 : a1 = 0 ∨ (a1 = 1 ∧ 0 ≤ a2 ∧ a2 < 11) ∨ (a1 = 31 ∧ 0 ≤ a2 ∧ a2 < 80)) (hQ : ∀  (s' : lf_Z), iv_A s'.1 s'.2.2 → lf_fq [95, 98] 1000000 true s.1 s.2.2 s'.1 s'.2.2 → (pz_Y (s'.1 100) (s'.1 98) (s'.1 95 12) (s'.1 95 13) (s'.1 95 19) (s'.1 95 20) (s'.1 95 21) (s'.1 95 22) (s'.1 95 8) (s.1 98 (s.1 95 12)) (1) (0)) → (s.1 95 8 < s'.1 95 8 ∧ (s'.1 95 9 = 0 ∨ s'.1 95 8 < s'.1 95 7) ∧ s'.1 95 23 = 1) → (s'.1 95 12 = s.1 95 12) → Q  s') : fm_233 a1 a2 Q s := by
  unfold fm_233
  have b1 : 0 ≤ s.1 95 19 ∧ s.1 95 19 ≤ 160 := iv_r95_19 hI
  have b2 : 0 ≤ s.1 95 20 ∧ s.1 95 20 ≤ 8 := iv_r95_20 hI
  have b3 : 0 ≤ s.1 95 21 ∧ s.1 95 21 ≤ 8 := iv_r95_21 hI
  have b4 : 0 ≤ s.1 95 13 ∧ s.1 95 13 ≤ 304 := iv_r95_13 hI
  have b5 : 0 ≤ s.1 95 8 ∧ s.1 95 8 ≤ 300 := iv_r95_8 hI
  have b6 : 0 ≤ s.1 95 22 ∧ s.1 95 22 ≤ 80 := iv_r95_22 hI
  have b7 : 0 ≤ s.1 95 12 ∧ s.1 95 12 ≤ 2115 := iv_r95_12 hI
  have b8 : 0 ≤ (s.1 95 19) ∧ (s.1 95 19) ≤ 6 * (s.1 95 20) + 5 ∧ 0 ≤ (s.1 95 20) ∧ 0 ≤ (s.1 95 21) ∧ (s.1 95 21) ≤ (s.1 95 20) ∧ 0 ≤ (s.1 95 13) ∧ (s.1 95 13) + (s.1 95 19) ≤ (s.1 95 8) ∧ 4 * (s.1 95 22) + 3 * pz_4 ((s.1 100)) ((s.1 95 19)) ≤ (s.1 95 8) ∧ 0 ≤ pz_4 ((s.1 100)) ((s.1 95 19)) ∧ (s.1 98) ((s.1 95 12)) = (s.1 98) ((s.1 95 12)) ∧ 0 ≤ (s.1 98) ((s.1 95 12)) ∧ (s.1 98) ((s.1 95 12)) < 24 := pz_Yn2 kp0
  have b9 : wk_E ((s.1 98)) ((s.1 95 12)) ((s.1 95 13)) := pz_YE kp0
  have b10 : (s.1 95 8) ≤ 300 := (iv_r95_8 hI).2
  refine sm_225 hI (show (0 : Int) ≤ a1 ∧ a1 ≤ (45 : Int) from by omega) (show (-2147483648 : Int) ≤ a2 ∧ a2 ≤ (2147483647 : Int) from by omega) (show wk_E ((s.1 98)) ((s.1 95 12)) ((s.1 95 13)) from by first | with_reducible assumption | assumption) (show (s.1 95 13) ≤ 303 from by omega) (fun s21 hI12 fr11 ps14 ps15 => ?_)
  replace ps14 : s21.1 98 = pz_em ((s.1 98)) ((s.1 95 12) + 97 + 2 * (s.1 95 13)) a1 a2 := ps14
  replace ps15 : s21.1 95 13 = (s.1 95 13) + 1 ∧ s21.1 95 7 = (s.1 95 7) ∧ s21.1 95 8 = (s.1 95 8) ∧ s21.1 95 9 = (s.1 95 9) ∧ s21.1 95 12 = (s.1 95 12) ∧ s21.1 95 19 = (s.1 95 19) ∧ s21.1 95 20 = (s.1 95 20) ∧ s21.1 95 21 = (s.1 95 21) ∧ s21.1 95 22 = (s.1 95 22) ∧ s21.1 95 23 = (s.1 95 23) := ps15
  have fr16 : lf_fq [95, 98] 1000000 true s.1 s.2.2 s21.1 s21.2.2 := lf_fq_tr (lf_fq_rf) (lf_fq_wk fr11 rfl (by decide) (by decide))
  have b17 : 0 ≤ s21.1 95 12 ∧ s21.1 95 12 ≤ 2115 := iv_r95_12 hI12
  have b18 : 0 ≤ s21.1 95 13 ∧ s21.1 95 13 ≤ 304 := iv_r95_13 hI12
  have b19 : 0 ≤ s21.1 95 19 ∧ s21.1 95 19 ≤ 160 := iv_r95_19 hI12
  have b20 : 0 ≤ s21.1 95 20 ∧ s21.1 95 20 ≤ 8 := iv_r95_20 hI12
  have b21 : 0 ≤ s21.1 95 21 ∧ s21.1 95 21 ≤ 8 := iv_r95_21 hI12
  have b22 : 0 ≤ s21.1 95 22 ∧ s21.1 95 22 ≤ 80 := iv_r95_22 hI12
  have b23 : pz_Y ((s21.1 100)) ((s21.1 98)) ((s21.1 95 12)) ((s21.1 95 13)) ((s21.1 95 19)) ((s21.1 95 20)) ((s21.1 95 21)) ((s21.1 95 22)) (s.1 95 8 + 1) (s.1 98 (s.1 95 12)) (1) (0) := pz_cg (fr11.1 100 rfl) ps14 (pz_Yval kp0 (by omega)) (by omega) (by omega) (by omega) (by omega) (by omega) (by omega) (by omega) rfl rfl rfl
  refine sm_197 hI12 (fun s22 hI25 fr24 ps27 ps28 => ?_)
  replace ps27 : (s21.1 95 7) ≤ s22.1 95 8 ∧ (s22.1 95 9 = 0 ∨ s22.1 95 8 < s22.1 95 7) := ps27
  replace ps28 : s22.1 95 12 = (s21.1 95 12) ∧ s22.1 95 13 = (s21.1 95 13) ∧ s22.1 95 19 = (s21.1 95 19) ∧ s22.1 95 20 = (s21.1 95 20) ∧ s22.1 95 21 = (s21.1 95 21) ∧ s22.1 95 22 = (s21.1 95 22) ∧ s22.1 95 23 = (s21.1 95 23) := ps28
  have fr29 : lf_fq [95, 98] 1000000 true s.1 s.2.2 s22.1 s22.2.2 := lf_fq_tr fr16 (lf_fq_wk fr24 rfl (by decide) (by decide))
  have b30 : 0 ≤ s22.1 95 12 ∧ s22.1 95 12 ≤ 2115 := iv_r95_12 hI25
  have b31 : 0 ≤ s22.1 95 13 ∧ s22.1 95 13 ≤ 304 := iv_r95_13 hI25
  have b32 : 0 ≤ s22.1 95 19 ∧ s22.1 95 19 ≤ 160 := iv_r95_19 hI25
  have b33 : 0 ≤ s22.1 95 20 ∧ s22.1 95 20 ≤ 8 := iv_r95_20 hI25
  have b34 : 0 ≤ s22.1 95 21 ∧ s22.1 95 21 ≤ 8 := iv_r95_21 hI25
  have b35 : 0 ≤ s22.1 95 22 ∧ s22.1 95 22 ≤ 80 := iv_r95_22 hI25
  have b36 : 0 ≤ s22.1 95 8 ∧ s22.1 95 8 ≤ 300 := iv_r95_8 hI25
  have b37 : pz_Y ((s22.1 100)) ((s22.1 98)) ((s22.1 95 12)) ((s22.1 95 13)) ((s22.1 95 19)) ((s22.1 95 20)) ((s22.1 95 21)) ((s22.1 95 22)) ((s22.1 95 8)) (s.1 98 (s.1 95 12)) (1) (0) := pz_cg (fr24.1 100 rfl) (fr24.1 98 rfl) (by first | with_reducible assumption | assumption) (by omega) (by omega) (by omega) (by omega) (by omega) (by omega) (by omega) (by omega) rfl rfl
  have hI38 : iv_A (lf_up s22.1 95 23 1) s22.2.2 := iv_w95_23 hI25 (by omega)
  have fr39 : lf_fq [95, 98] 1000000 true s.1 s.2.2 (lf_up s22.1 95 23 1) s22.2.2 := lf_fq_up fr29 rfl (fun h => absurd h (by decide))
  have b40 : (lf_up s22.1 95 23 1) 95 12 = s22.1 95 12 := lf_up_i (by omega)
  have b41 : (s22.1 98) ((s22.1 95 12)) = s.1 98 (s.1 95 12) := (by first | with_reducible assumption | assumption : pz_Y ((s22.1 100)) ((s22.1 98)) ((s22.1 95 12)) ((s22.1 95 13)) ((s22.1 95 19)) ((s22.1 95 20)) ((s22.1 95 21)) ((s22.1 95 22)) ((s22.1 95 8)) (s.1 98 (s.1 95 12)) (1) (0)).2.2.2
  have b42 : (lf_up s22.1 95 23 1) 95 13 = s22.1 95 13 := lf_up_i (by omega)
  have b43 : (lf_up s22.1 95 23 1) 95 19 = s22.1 95 19 := lf_up_i (by omega)
  have b44 : (lf_up s22.1 95 23 1) 95 20 = s22.1 95 20 := lf_up_i (by omega)
  have b45 : (lf_up s22.1 95 23 1) 95 21 = s22.1 95 21 := lf_up_i (by omega)
  have b46 : (lf_up s22.1 95 23 1) 95 22 = s22.1 95 22 := lf_up_i (by omega)
  have b47 : (lf_up s22.1 95 23 1) 95 8 = s22.1 95 8 := lf_up_i (by omega)
  have b48 : pz_W ((s22.1 100)) ((s22.1 98)) ((s22.1 95 12)) ((s22.1 95 13)) ((s22.1 95 19)) ((s22.1 95 20)) ((s22.1 95 21)) ((s22.1 95 22)) ((s22.1 95 8)) ((s22.1 98) ((s22.1 95 12))) (7) := pz_Wi (pz_Ym (by first | with_reducible assumption | assumption)) (by omega)
  have b49 : (s22.1 95 8) ≤ 300 := (iv_r95_8 hI38).2
  refine sm_224 hI38 (show (0 : Int) ≤ 7 ∧ 7 ≤ (7 : Int) from by omega) (show 1 ≤ 7 from by omega) (show pz_W ((s22.1 100)) ((s22.1 98)) ((s22.1 95 12)) ((s22.1 95 13)) ((s22.1 95 19)) ((s22.1 95 20)) ((s22.1 95 21)) ((s22.1 95 22)) ((s22.1 95 8)) ((s22.1 98) ((s22.1 95 12))) (7) from by first | with_reducible assumption | assumption) (show (s22.1 95 8) ≤ 300 from by omega) (fun s23 hI51 fr50 ps53 ps54 ps55 ps56 => ?_)
  replace ps53 : pz_R (s23.1 100) (s23.1 98) (s23.1 95 12) (s23.1 95 13) (s23.1 95 19) (s23.1 95 20) (s23.1 95 21) (s23.1 95 22) (s23.1 95 8) ((s22.1 98) ((s22.1 95 12))) (7) (pz_op ((s22.1 100)) ((s22.1 95 19))) := ps53
  replace ps54 : s23.1 95 13 + s23.1 95 19 = (s22.1 95 13) + (s22.1 95 19) ∧ s23.1 95 19 ≤ (s22.1 95 19) ∧ s23.1 95 7 = (s22.1 95 7) ∧ s23.1 95 8 = (s22.1 95 8) ∧ s23.1 95 9 = (s22.1 95 9) ∧ s23.1 95 12 = (s22.1 95 12) ∧ s23.1 95 21 = (s22.1 95 21) ∧ s23.1 95 22 = (s22.1 95 22) ∧ s23.1 95 23 = 1 := ps54
  replace ps55 : pz_op (s23.1 100) (s23.1 95 19) = pz_op ((s22.1 100)) ((s22.1 95 19)) := ps55
  replace ps56 : s23.1 95 19 ≤ 0 ∨ pz_rk (s23.1 100 (s23.1 95 19 - 1)) < 7 := ps56
  have fr57 : lf_fq [95, 98] 1000000 true s.1 s.2.2 s23.1 s23.2.2 := lf_fq_tr fr39 (lf_fq_wk fr50 rfl (by decide) (by decide))
  have b58 : 0 ≤ s23.1 95 12 ∧ s23.1 95 12 ≤ 2115 := iv_r95_12 hI51
  have b59 : 0 ≤ s23.1 95 13 ∧ s23.1 95 13 ≤ 304 := iv_r95_13 hI51
  have b60 : 0 ≤ s23.1 95 19 ∧ s23.1 95 19 ≤ 160 := iv_r95_19 hI51
  have b61 : 0 ≤ s23.1 95 20 ∧ s23.1 95 20 ≤ 8 := iv_r95_20 hI51
  have b62 : 0 ≤ s23.1 95 21 ∧ s23.1 95 21 ≤ 8 := iv_r95_21 hI51
  have b63 : 0 ≤ s23.1 95 22 ∧ s23.1 95 22 ≤ 80 := iv_r95_22 hI51
  have b64 : 0 ≤ s23.1 95 8 ∧ s23.1 95 8 ≤ 300 := iv_r95_8 hI51
  have b65 : pz_Y ((s23.1 100)) ((s23.1 98)) ((s23.1 95 12)) ((s23.1 95 13)) ((s23.1 95 19)) ((s23.1 95 20)) ((s23.1 95 21)) ((s23.1 95 22)) ((s23.1 95 8)) (s.1 98 (s.1 95 12)) (1) (0) := pz_Yk (pz_R1 ps53 (by omega)) (by omega)
  exact hQ s23 hI51 fr57 (show pz_Y ((s23.1 100)) ((s23.1 98)) ((s23.1 95 12)) ((s23.1 95 13)) ((s23.1 95 19)) ((s23.1 95 20)) ((s23.1 95 21)) ((s23.1 95 22)) ((s23.1 95 8)) (s.1 98 (s.1 95 12)) (1) (0) from by first | with_reducible assumption | assumption) (show s.1 95 8 < (s23.1 95 8) ∧ ((s23.1 95 9) = 0 ∨ (s23.1 95 8) < (s23.1 95 7)) ∧ (s23.1 95 23) = 1 from by omega) (show (s23.1 95 12) = s.1 95 12 from by omega)
-- fm_220 Model.openAt 95
theorem sm_220_p7 {X7 : Int → lf_Z → Prop} {Q : Int → lf_Z → Prop} {x1 : Int} {s : lf_Z} {s0 : lf_Z} (hQ : ∀ (r : Int), (((r < 0 ∧ pz_op (s.1 100) (s.1 95 19) = -1) ∨ (0 ≤ r ∧ r < s.1 95 19 ∧ pz_op (s.1 100) (s.1 95 19) = s.1 100 (r) ∧ 40 ≤ s.1 100 (r))) ∧ (s.1 95 19 ≤ 0 ∨ s.1 100 (s.1 95 19 - 1) < 40 ∨ r = s.1 95 19 - 1)) → ((-1) ≤ r ∧ r ≤ 159) → Q r s) {M7 : Nat} (hX7 : ∀ (x1 : Int), (-1) ≤ x1 ∧ x1 ≤ 159 → (pz_op (s.1 100) (s.1 95 19) = pz_oq (s.1 100) (x1)) → (x1 < s.1 95 19) → (s.1 95 19 ≤ 0 ∨ s.1 100 (s.1 95 19 - 1) < 40 ∨ x1 = s.1 95 19 - 1) → (x1 - (-1)).toNat < M7 → X7 x1 s) (hM7 : (x1 - (-1)).toNat ≤ M7) (hI : iv_A s.1 s.2.2) (bx1 : (-1) ≤ x1 ∧ x1 ≤ 159) (kv0 : pz_op (s.1 100) (s.1 95 19) = pz_oq (s.1 100) (x1)) (kv1 : x1 < s.1 95 19) (kv2 : s.1 95 19 ≤ 0 ∨ s.1 100 (s.1 95 19 - 1) < 40 ∨ x1 = s.1 95 19 - 1) : fm_220_p7 Q X7 x1 s := by
  unfold fm_220_p7
  have b3 : (x1 < 0 → pz_oq ((s.1 100)) x1 = -1) ∧ (0 ≤ x1 → (40 ≤ (s.1 100 x1) → pz_oq ((s.1 100)) x1 = (s.1 100 x1)) ∧ ((s.1 100 x1) < 40 → pz_oq ((s.1 100)) x1 = pz_oq ((s.1 100)) (x1 + -1))) := pz_oqA _ _
  have b4 : 0 ≤ s.1 95 19 ∧ s.1 95 19 ≤ 160 := iv_r95_19 hI
  have b5 : x1 ≠ (s.1 95 19) - 1 ∨ (s.1 100 x1) = (s.1 100) ((s.1 95 19) - 1) := lf_eqx
  refine ⟨(show lf_R x1 from lf_Rof (by omega)), ?_⟩
  refine ⟨fun c6 => ?_, fun c6 => ?_⟩
  · skip
    replace c6 : x1 < 0 := c6
    exact hQ x1 (show ((x1 < 0 ∧ pz_op ((s.1 100)) ((s.1 95 19)) = -1) ∨ (0 ≤ x1 ∧ x1 < (s.1 95 19) ∧ pz_op ((s.1 100)) ((s.1 95 19)) = (s.1 100) (x1) ∧ 40 ≤ (s.1 100) (x1))) ∧ ((s.1 95 19) ≤ 0 ∨ (s.1 100) ((s.1 95 19) - 1) < 40 ∨ x1 = (s.1 95 19) - 1) from by omega) (show (-1 : Int) ≤ x1 ∧ x1 ≤ (159 : Int) from by omega)
  · skip
    replace c6 : ¬ (x1 < 0) := c6
    refine ⟨(show (0 : Int) ≤ x1 ∧ x1 < (160 : Int) from by omega), ?_⟩
    have b7 : 0 ≤ s.1 100 x1 ∧ s.1 100 x1 ≤ 45 := iv_r100 hI _
    refine ⟨(show lf_R (s.1 100 x1) from lf_Rof (by omega)), ?_⟩
    refine ⟨fun c8 => ?_, fun c8 => ?_⟩
    · skip
      replace c8 : 40 ≤ s.1 100 x1 := c8
      exact hQ x1 (show ((x1 < 0 ∧ pz_op ((s.1 100)) ((s.1 95 19)) = -1) ∨ (0 ≤ x1 ∧ x1 < (s.1 95 19) ∧ pz_op ((s.1 100)) ((s.1 95 19)) = (s.1 100) (x1) ∧ 40 ≤ (s.1 100) (x1))) ∧ ((s.1 95 19) ≤ 0 ∨ (s.1 100) ((s.1 95 19) - 1) < 40 ∨ x1 = (s.1 95 19) - 1) from by omega) (show (-1 : Int) ≤ x1 ∧ x1 ≤ (159 : Int) from by omega)
    · skip
      replace c8 : ¬ (40 ≤ s.1 100 x1) := c8
      have b9 : pz_op ((s.1 100)) ((s.1 95 19)) = pz_oq ((s.1 100)) ((s.1 95 19) - 1) := pz_oqE
      exact hX7 (x1 + (-1)) (show (-1 : Int) ≤ x1 + (-1) ∧ x1 + (-1) ≤ (159 : Int) from by omega) (show pz_op ((s.1 100)) ((s.1 95 19)) = pz_oq ((s.1 100)) ((x1 + (-1))) from by omega) (show (x1 + (-1)) < (s.1 95 19) from by omega) (show (s.1 95 19) ≤ 0 ∨ (s.1 100) ((s.1 95 19) - 1) < 40 ∨ (x1 + (-1)) = (s.1 95 19) - 1 from by omega) (show ((x1 + (-1)) - (-1)).toNat < M7 from by omega)
theorem sm_220_p7L {Q : Int → lf_Z → Prop} {x1 : Int} {s : lf_Z} {s0 : lf_Z} (hQ : ∀ (r : Int), (((r < 0 ∧ pz_op (s.1 100) (s.1 95 19) = -1) ∨ (0 ≤ r ∧ r < s.1 95 19 ∧ pz_op (s.1 100) (s.1 95 19) = s.1 100 (r) ∧ 40 ≤ s.1 100 (r))) ∧ (s.1 95 19 ≤ 0 ∨ s.1 100 (s.1 95 19 - 1) < 40 ∨ r = s.1 95 19 - 1)) → ((-1) ≤ r ∧ r ≤ 159) → Q r s) (hI : iv_A s.1 s.2.2) (bx1 : (-1) ≤ x1 ∧ x1 ≤ 159) (kv0 : pz_op (s.1 100) (s.1 95 19) = pz_oq (s.1 100) (x1)) (kv1 : x1 < s.1 95 19) (kv2 : s.1 95 19 ≤ 0 ∨ s.1 100 (s.1 95 19 - 1) < 40 ∨ x1 = s.1 95 19 - 1) : fm_220_p7L Q x1 s := by
  intro X7 hX
  have key : ∀ (m9 : Nat) (x1 : Int), (-1) ≤ x1 ∧ x1 ≤ 159 → (pz_op (s.1 100) (s.1 95 19) = pz_oq (s.1 100) (x1)) → (x1 < s.1 95 19) → (s.1 95 19 ≤ 0 ∨ s.1 100 (s.1 95 19 - 1) < 40 ∨ x1 = s.1 95 19 - 1) → (x1 - (-1)).toNat < m9 → X7 x1 s := by
    intro m9
    induction m9 with
    | zero => intro x1 bx1 kv0 kv1 kv2 h9; exact absurd h9 (Nat.not_lt_zero _)
    | succ m9 ih => intro x1 bx1 kv0 kv1 kv2 h9; exact hX _ _ (sm_220_p7 (s0 := s0) hQ   (fun x1' bx1' kv0' kv1' kv2' h8 => ih x1' bx1' kv0' kv1' kv2' (by omega)) (Nat.le_refl _)  hI  bx1  kv0 kv1 kv2)
  exact key _ _ bx1  kv0 kv1 kv2 (Nat.lt_succ_self _)
theorem sm_220 {Q : Int → lf_Z → Prop} {s : lf_Z} (hI : iv_A s.1 s.2.2) (hQ : ∀ (r : Int), (((r < 0 ∧ pz_op (s.1 100) (s.1 95 19) = -1) ∨ (0 ≤ r ∧ r < s.1 95 19 ∧ pz_op (s.1 100) (s.1 95 19) = s.1 100 (r) ∧ 40 ≤ s.1 100 (r))) ∧ (s.1 95 19 ≤ 0 ∨ s.1 100 (s.1 95 19 - 1) < 40 ∨ r = s.1 95 19 - 1)) → ((-1) ≤ r ∧ r ≤ 159) → Q r s) : fm_220 Q s := by
  unfold fm_220
  have b1 : 0 ≤ s.1 95 19 ∧ s.1 95 19 ≤ 160 := iv_r95_19 hI
  have b2 : pz_op ((s.1 100)) ((s.1 95 19)) = pz_oq ((s.1 100)) ((s.1 95 19) - 1) := pz_oqE
  exact sm_220_p7L (s0 := s) hQ hI (show (-1 : Int) ≤ (s.1 95 19) - 1 ∧ (s.1 95 19) - 1 ≤ (159 : Int) from by omega) (show pz_op ((s.1 100)) ((s.1 95 19)) = pz_oq ((s.1 100)) (((s.1 95 19) - 1)) from by omega) (show ((s.1 95 19) - 1) < (s.1 95 19) from by omega) (show (s.1 95 19) ≤ 0 ∨ (s.1 100) ((s.1 95 19) - 1) < 40 ∨ ((s.1 95 19) - 1) = (s.1 95 19) - 1 from by omega)
