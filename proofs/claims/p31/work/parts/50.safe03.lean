-- fm_38 Reader.readClause 31
theorem sm_38_p146 {Q : lf_Z → Prop} {s : lf_Z} (hQ : ∀  (s' : lf_Z), iv_A s'.1 s'.2.2 → lf_fq [31, 33, 35, 36, 37, 38, 39, 40, 41, 42, 43, 44, 45, 46, 47, 48, 49, 50, 51, 52, 53, 54, 55, 56, 57, 58, 59, 60, 61, 62] 1000000 true s.1 s.2.2 s'.1 s'.2.2 → Q  s') (hI : iv_A s.1 s.2.2) (n2 : s.2.2 2 ≠ none) : fm_38_p146 Q s := by
  unfold fm_38_p146
  refine sm_48 hI (show (0 : Int) ≤ 16 ∧ 16 ≤ (99 : Int) from by omega) (fun s31 hI20 fr19 => ?_)
  have fr22 : lf_fq [31, 33, 35, 36, 37, 38, 39, 40, 41, 42, 43, 44, 45, 46, 47, 48, 49, 50, 51, 52, 53, 54, 55, 56, 57, 58, 59, 60, 61, 62] 1000000 true s.1 s.2.2 s31.1 s31.2.2 := lf_fq_tr (lf_fq_rf) (lf_fq_wk fr19 rfl (by decide) (by decide))
  have n23 : s31.2.2 2 ≠ none := lf_fq_n2 fr19 rfl n2
  exact hQ s31 hI20 fr22
theorem sm_38 {Q : lf_Z → Prop} {s : lf_Z} (hI : iv_A s.1 s.2.2) (n2 : s.2.2 2 ≠ none) (hQ : ∀  (s' : lf_Z), iv_A s'.1 s'.2.2 → lf_fq [31, 33, 35, 36, 37, 38, 39, 40, 41, 42, 43, 44, 45, 46, 47, 48, 49, 50, 51, 52, 53, 54, 55, 56, 57, 58, 59, 60, 61, 62] 1000000 true s.1 s.2.2 s'.1 s'.2.2 → Q  s') : fm_38 Q s := by
  unfold fm_38
  have b1 : 0 ≤ s.1 31 8 ∧ s.1 31 8 ≤ 300 := iv_r31_8 hI
  refine sm_15 hI (show (-2147483648 : Int) ≤ s.1 31 8 ∧ s.1 31 8 ≤ (2147483647 : Int) from by omega) (show (-1 : Int) ≤ 20 ∧ 20 ≤ (99 : Int) from by omega) (show (-2147483648 : Int) ≤ 32 ∧ 32 ≤ (2147483647 : Int) from by omega) (fun z22 q2 => ?_)
  refine ⟨fun c3 => ?_, fun c3 => ?_⟩
  · skip
    have dc3 := q2.1 c3
    refine ⟨fun et23 => ?_, fun t23 et23 => ?_⟩
    · skip
      exact absurd et23 n2
    · have htt23 : t23 < 4 := iv_t2 hI et23
      refine ⟨htt23, ?_⟩
      refine sm_40 htt23 hI (show (0 : Int) ≤ (s.1 31 8) - 20 ∧ (s.1 31 8) - 20 ≤ (12 : Int) from by omega) (fun z25 => ?_)
      refine ⟨fun c5 => ?_, fun c5 => ?_⟩
      · skip
        refine ⟨fun et26 => ?_, fun t26 et26 => ?_⟩
        · skip
          exact absurd et26 n2
        · have htt26 : t26 < 4 := iv_t2 hI et26
          refine ⟨htt26, ?_⟩
          have b6 : 0 ≤ s.1 (35 + 7 * t26) 7 ∧ s.1 (35 + 7 * t26) 7 ≤ 24 := iv_rT_7 hI htt26
          refine ⟨(show lf_R (s.1 (35 + 7 * t26) 7) from lf_Rof (by omega)), ?_⟩
          refine ⟨fun c7 => ?_, fun c7 => ?_⟩
          · skip
            have c7 : s.1 (35 + 7 * t26) 7 < 24 := c7
            refine sm_31 hI (fun s28 hI9 fr8 => ?_)
            have fr11 : lf_fq [31, 33, 35, 36, 37, 38, 39, 40, 41, 42, 43, 44, 45, 46, 47, 48, 49, 50, 51, 52, 53, 54, 55, 56, 57, 58, 59, 60, 61, 62] 1000000 true s.1 s.2.2 s28.1 s28.2.2 := lf_fq_tr (lf_fq_rf) (lf_fq_wk fr8 rfl (by decide) (by decide))
            have n12 : s28.2.2 2 ≠ none := lf_fq_n2 fr8 rfl n2
            refine ⟨(show lf_R (s.1 31 8) from lf_Rof (by omega)), ?_⟩
            refine ⟨fun c13 => ?_, fun c13 => ?_⟩
            · skip
              have c13 : 22 < s.1 31 8 := c13
              refine sm_58 hI9 n12 (show (23 : Int) ≤ s.1 31 8 ∧ s.1 31 8 ≤ (32 : Int) from by omega) (fun s30 hI15 fr14 => ?_)
              have fr17 : lf_fq [31, 33, 35, 36, 37, 38, 39, 40, 41, 42, 43, 44, 45, 46, 47, 48, 49, 50, 51, 52, 53, 54, 55, 56, 57, 58, 59, 60, 61, 62] 1000000 true s.1 s.2.2 s30.1 s30.2.2 := lf_fq_tr fr11 (lf_fq_wk fr14 rfl (by decide) (by decide))
              have n18 : s30.2.2 2 ≠ none := lf_fq_n2 fr14 rfl n12
              exact sm_38_p146 (fun t9 i9 f9 => hQ t9 i9 (lf_fq_tr fr17 f9)) hI15 n18
            · skip
              have c13 : ¬ (22 < s.1 31 8) := c13
              have hI24 : iv_A (lf_up s28.1 31 6 ((s.1 31 8) - 20)) s28.2.2 := iv_w31_6 hI9 (by omega)
              have fr25 : lf_fq [31, 33, 35, 36, 37, 38, 39, 40, 41, 42, 43, 44, 45, 46, 47, 48, 49, 50, 51, 52, 53, 54, 55, 56, 57, 58, 59, 60, 61, 62] 1000000 true s.1 s.2.2 (lf_up s28.1 31 6 ((s.1 31 8) - 20)) s28.2.2 := lf_fq_up fr11 rfl (fun h => absurd h (by decide))
              refine ⟨fun et32 => ?_, fun t32 et32 => ?_⟩
              · skip
                exact absurd et32 n12
              · have htt32 : t32 < 4 := iv_t2 hI24 et32
                refine ⟨htt32, ?_⟩
                refine ⟨fun et33 => ?_, fun t33 et33 => ?_⟩
                · skip
                  exact absurd et33 n12
                · have htt33 : t33 < 4 := iv_t2 hI24 et33
                  refine ⟨htt33, ?_⟩
                  have b26 : 0 ≤ (lf_up s28.1 31 6 ((s.1 31 8) - 20)) (35 + 7 * t33) 1 ∧ (lf_up s28.1 31 6 ((s.1 31 8) - 20)) (35 + 7 * t33) 1 ≤ 300 := iv_rT_1 hI24 htt33
                  have b27 : (lf_up s28.1 31 6 ((s.1 31 8) - 20)) (35 + 7 * t33) 1 = s28.1 (35 + 7 * t33) 1 := lf_up_c (by omega)
                  refine ⟨(show (0 : Int) ≤ (s.1 31 8) - 20 ∧ (s.1 31 8) - 20 < (3 : Int) from by omega), ?_⟩
                  have hI28 : iv_A (lf_up (lf_up s28.1 31 6 ((s.1 31 8) - 20)) (37 + 7 * t32) ((s.1 31 8) - 20) ((lf_up s28.1 31 6 ((s.1 31 8) - 20)) (35 + 7 * t33) 1)) s28.2.2 := iv_wTA37 hI24 htt32 (by omega)
                  have fr29 : lf_fq [31, 33, 35, 36, 37, 38, 39, 40, 41, 42, 43, 44, 45, 46, 47, 48, 49, 50, 51, 52, 53, 54, 55, 56, 57, 58, 59, 60, 61, 62] 1000000 true s.1 s.2.2 (lf_up (lf_up s28.1 31 6 ((s.1 31 8) - 20)) (37 + 7 * t32) ((s.1 31 8) - 20) ((lf_up s28.1 31 6 ((s.1 31 8) - 20)) (35 + 7 * t33) 1)) s28.2.2 := lf_fq_upT fr25 htt32 rfl (by decide)
                  refine sc_41 hI28 n12 (show (0 : Int) ≤ 0 ∧ 0 ≤ (8 : Int) from by omega) (fun s35 hI31 fr30 => ?_)
                  have fr33 : lf_fq [31, 33, 35, 36, 37, 38, 39, 40, 41, 42, 43, 44, 45, 46, 47, 48, 49, 50, 51, 52, 53, 54, 55, 56, 57, 58, 59, 60, 61, 62] 1000000 true s.1 s.2.2 s35.1 s35.2.2 := lf_fq_tr fr29 (lf_fq_wk fr30 rfl (by decide) (by decide))
                  have n34 : s35.2.2 2 ≠ none := lf_fq_n2 fr30 rfl n12
                  refine ⟨fun et36 => ?_, fun t36 et36 => ?_⟩
                  · skip
                    exact absurd et36 n34
                  · have htt36 : t36 < 4 := iv_t2 hI31 et36
                    refine ⟨htt36, ?_⟩
                    have b35 : 0 ≤ s35.1 31 6 ∧ s35.1 31 6 ≤ 2 := iv_r31_6 hI31
                    refine ⟨fun et37 => ?_, fun t37 et37 => ?_⟩
                    · skip
                      exact absurd et37 n34
                    · have htt37 : t37 < 4 := iv_t2 hI31 et37
                      refine ⟨htt37, ?_⟩
                      have b36 : 0 ≤ s35.1 (35 + 7 * t37) 1 ∧ s35.1 (35 + 7 * t37) 1 ≤ 300 := iv_rT_1 hI31 htt37
                      refine ⟨(show (0 : Int) ≤ s35.1 31 6 ∧ s35.1 31 6 < (3 : Int) from by omega), ?_⟩
                      have hI37 : iv_A (lf_up s35.1 (38 + 7 * t36) (s35.1 31 6) (s35.1 (35 + 7 * t37) 1)) s35.2.2 := iv_wTA38 hI31 htt36 (by omega)
                      have fr38 : lf_fq [31, 33, 35, 36, 37, 38, 39, 40, 41, 42, 43, 44, 45, 46, 47, 48, 49, 50, 51, 52, 53, 54, 55, 56, 57, 58, 59, 60, 61, 62] 1000000 true s.1 s.2.2 (lf_up s35.1 (38 + 7 * t36) (s35.1 31 6) (s35.1 (35 + 7 * t37) 1)) s35.2.2 := lf_fq_upT fr33 htt36 rfl (by decide)
                      refine ⟨fun et39 => ?_, fun t39 et39 => ?_⟩
                      · skip
                        exact absurd et39 n34
                      · have htt39 : t39 < 4 := iv_t2 hI37 et39
                        refine ⟨htt39, ?_⟩
                        refine sm_57 htt39 hI37 (show (20 : Int) ≤ s.1 31 8 ∧ s.1 31 8 ≤ (32 : Int) from by omega) (show (0 : Int) ≤ 0 ∧ 0 ≤ (9999 : Int) from by omega) (show (0 : Int) ≤ 0 ∧ 0 ≤ (9999 : Int) from by omega) (fun s40 hI40 fr39 => ?_)
                        have fr42 : lf_fq [31, 33, 35, 36, 37, 38, 39, 40, 41, 42, 43, 44, 45, 46, 47, 48, 49, 50, 51, 52, 53, 54, 55, 56, 57, 58, 59, 60, 61, 62] 1000000 true s.1 s.2.2 s40.1 s40.2.2 := lf_fq_tr fr38 (lf_fq_wk fr39 rfl (by decide) (by decide))
                        have n43 : s40.2.2 2 ≠ none := lf_fq_n2 fr39 rfl n34
                        exact sm_38_p146 (fun t9 i9 f9 => hQ t9 i9 (lf_fq_tr fr42 f9)) hI40 n43
          · skip
            have c7 : ¬ (s.1 (35 + 7 * t26) 7 < 24) := c7
            refine sm_39 hI (show (1 : Int) ≤ 6 ∧ 6 ≤ (6 : Int) from by omega) (fun s41 hI45 fr44 => ?_)
            have fr47 : lf_fq [31, 33, 35, 36, 37, 38, 39, 40, 41, 42, 43, 44, 45, 46, 47, 48, 49, 50, 51, 52, 53, 54, 55, 56, 57, 58, 59, 60, 61, 62] 1000000 true s.1 s.2.2 s41.1 s41.2.2 := lf_fq_tr (lf_fq_rf) (lf_fq_wk fr44 rfl (by decide) (by decide))
            have n48 : s41.2.2 2 ≠ none := lf_fq_n2 fr44 rfl n2
            exact hQ s41 hI45 fr47
      · skip
        refine sm_39 hI (show (1 : Int) ≤ 4 ∧ 4 ≤ (6 : Int) from by omega) (fun s42 hI50 fr49 => ?_)
        have fr52 : lf_fq [31, 33, 35, 36, 37, 38, 39, 40, 41, 42, 43, 44, 45, 46, 47, 48, 49, 50, 51, 52, 53, 54, 55, 56, 57, 58, 59, 60, 61, 62] 1000000 true s.1 s.2.2 s42.1 s42.2.2 := lf_fq_tr (lf_fq_rf) (lf_fq_wk fr49 rfl (by decide) (by decide))
        have n53 : s42.2.2 2 ≠ none := lf_fq_n2 fr49 rfl n2
        exact hQ s42 hI50 fr52
  · skip
    have dc3 := q2.2 c3
    refine sm_39 hI (show (1 : Int) ≤ 1 ∧ 1 ≤ (6 : Int) from by omega) (fun s43 hI55 fr54 => ?_)
    have fr57 : lf_fq [31, 33, 35, 36, 37, 38, 39, 40, 41, 42, 43, 44, 45, 46, 47, 48, 49, 50, 51, 52, 53, 54, 55, 56, 57, 58, 59, 60, 61, 62] 1000000 true s.1 s.2.2 s43.1 s43.2.2 := lf_fq_tr (lf_fq_rf) (lf_fq_wk fr54 rfl (by decide) (by decide))
    have n58 : s43.2.2 2 ≠ none := lf_fq_n2 fr54 rfl n2
    exact hQ s43 hI55 fr57
-- fm_29 Reader.readAll 31 t
theorem sm_29_p72 {Q : Bool → lf_Z → Prop} {s : lf_Z} (hQ : ∀ (z : Bool) (s' : lf_Z), iv_A s'.1 s'.2.2 → lf_fq [31, 33, 35, 36, 37, 38, 39, 40, 41, 42, 43, 44, 45, 46, 47, 48, 49, 50, 51, 52, 53, 54, 55, 56, 57, 58, 59, 60, 61, 62] 1000000 false s.1 s.2.2 s'.1 s'.2.2 → Q z s') (hI : iv_A s.1 s.2.2) (n2 : s.2.2 2 ≠ none) : fm_29_p72 Q s := by
  unfold fm_29_p72
  have hI23 : iv_A (lf_up s.1 31 1 0) s.2.2 := iv_w31_1 hI (by omega)
  have fr24 : lf_fq [31, 33, 35, 36, 37, 38, 39, 40, 41, 42, 43, 44, 45, 46, 47, 48, 49, 50, 51, 52, 53, 54, 55, 56, 57, 58, 59, 60, 61, 62] 1000000 false s.1 s.2.2 (lf_up s.1 31 1 0) s.2.2 := lf_fq_up (lf_fq_rf) rfl (fun h => absurd h (by decide))
  have b25 : (-2147483648) ≤ s.1 31 2 ∧ s.1 31 2 ≤ 2147483647 := (show (-2147483648) ≤ (lf_up s.1 31 1 0) 31 2 ∧ (lf_up s.1 31 1 0) 31 2 ≤ 2147483647 from iv_full hI23)
  have b26 : (lf_up s.1 31 1 0) 31 2 = s.1 31 2 := lf_up_i (by omega)
  refine ⟨(show lf_R (s.1 31 2) from lf_Rof (by omega)), ?_⟩
  refine ⟨fun c27 => ?_, fun c27 => ?_⟩
  · skip
    have c27 : s.1 31 2 ≠ 0 := c27
    exact hQ false (lf_up s.1 31 1 0, s.2.1, s.2.2) hI23 fr24
  · skip
    have c27 : ¬ (s.1 31 2 ≠ 0) := c27
    exact hQ true (lf_up s.1 31 1 0, s.2.1, s.2.2) hI23 fr24
theorem sm_29_p41 {X41 : Int → lf_Z → Prop} {Q : Bool → lf_Z → Prop} {x2 : Int} {s : lf_Z} (hQ : ∀ (z : Bool) (s' : lf_Z), iv_A s'.1 s'.2.2 → lf_fq [31, 33, 35, 36, 37, 38, 39, 40, 41, 42, 43, 44, 45, 46, 47, 48, 49, 50, 51, 52, 53, 54, 55, 56, 57, 58, 59, 60, 61, 62] 1000000 false s.1 s.2.2 s'.1 s'.2.2 → Q z s') {M41 : Nat} (hX41 : ∀ (x2 : Int) (s' : lf_Z), iv_A s'.1 s'.2.2 → lf_fq [31, 33, 35, 36, 37, 38, 39, 40, 41, 42, 43, 44, 45, 46, 47, 48, 49, 50, 51, 52, 53, 54, 55, 56, 57, 58, 59, 60, 61, 62] 1000000 false s.1 s.2.2 s'.1 s'.2.2 → s'.2.2 2 ≠ none → 0 ≤ x2 ∧ x2 ≤ 301 → (301 - x2).toNat < M41 → X41 x2 s') (hM41 : (301 - x2).toNat ≤ M41) (hI : iv_A s.1 s.2.2) (n2 : s.2.2 2 ≠ none) (bx2 : 0 ≤ x2 ∧ x2 ≤ 301) : fm_29_p41 Q X41 x2 s := by
  unfold fm_29_p41
  refine ⟨(show lf_R x2 from lf_Rof (by omega)), ?_⟩
  refine ⟨fun c22 => ?_, fun c22 => ?_⟩
  · skip
    have c22 : 300 < x2 := c22
    exact sm_29_p72 hQ hI n2
  · skip
    have c22 : ¬ (300 < x2) := c22
    have b28 : 0 ≤ s.1 31 8 ∧ s.1 31 8 ≤ 300 := iv_r31_8 hI
    refine ⟨(show lf_R (s.1 31 8) from lf_Rof (by omega)), ?_⟩
    refine ⟨fun c29 => ?_, fun c29 => ?_⟩
    · skip
      have c29 : s.1 31 8 = 0 := c29
      exact sm_29_p72 hQ hI n2
    · skip
      have c29 : ¬ (s.1 31 8 = 0) := c29
      have b30 : (-2147483648) ≤ s.1 31 2 ∧ s.1 31 2 ≤ 2147483647 := iv_full hI
      refine ⟨(show lf_R (s.1 31 2) from lf_Rof (by omega)), ?_⟩
      refine ⟨fun c31 => ?_, fun c31 => ?_⟩
      · skip
        have c31 : s.1 31 2 ≠ 0 := c31
        exact sm_29_p72 hQ hI n2
      · skip
        have c31 : ¬ (s.1 31 2 ≠ 0) := c31
        refine sm_38 hI n2 (fun s28 hI33 fr32 => ?_)
        have fr35 : lf_fq [31, 33, 35, 36, 37, 38, 39, 40, 41, 42, 43, 44, 45, 46, 47, 48, 49, 50, 51, 52, 53, 54, 55, 56, 57, 58, 59, 60, 61, 62] 1000000 false s.1 s.2.2 s28.1 s28.2.2 := lf_fq_tr (lf_fq_rf) (lf_fq_wk fr32 rfl (by decide) (by decide))
        have n36 : s28.2.2 2 ≠ none := lf_fq_n2 fr32 rfl n2
        exact hX41 (x2 + 1) s28 hI33 fr35 n36 (show (0 : Int) ≤ x2 + 1 ∧ x2 + 1 ≤ (301 : Int) from by omega) (show (301 - (x2 + 1)).toNat < M41 from by omega)
theorem sm_29_p41L {Q : Bool → lf_Z → Prop} {x2 : Int} {s : lf_Z} (hQ : ∀ (z : Bool) (s' : lf_Z), iv_A s'.1 s'.2.2 → lf_fq [31, 33, 35, 36, 37, 38, 39, 40, 41, 42, 43, 44, 45, 46, 47, 48, 49, 50, 51, 52, 53, 54, 55, 56, 57, 58, 59, 60, 61, 62] 1000000 false s.1 s.2.2 s'.1 s'.2.2 → Q z s') (hI : iv_A s.1 s.2.2) (n2 : s.2.2 2 ≠ none) (bx2 : 0 ≤ x2 ∧ x2 ≤ 301) : fm_29_p41L Q x2 s := by
  intro X41 hX
  have key : ∀ (m9 : Nat) (x2 : Int) (s' : lf_Z), iv_A s'.1 s'.2.2 → lf_fq [31, 33, 35, 36, 37, 38, 39, 40, 41, 42, 43, 44, 45, 46, 47, 48, 49, 50, 51, 52, 53, 54, 55, 56, 57, 58, 59, 60, 61, 62] 1000000 false s.1 s.2.2 s'.1 s'.2.2 → s'.2.2 2 ≠ none → 0 ≤ x2 ∧ x2 ≤ 301 → (301 - x2).toNat < m9 → X41 x2 s' := by
    intro m9
    induction m9 with
    | zero => intro x2 s' _ _ n2 bx2 h9; exact absurd h9 (Nat.not_lt_zero _)
    | succ m9 ih => intro x2 s' i7 f7 n2 bx2 h9; exact hX _ _ (sm_29_p41 (fun r9 t9 i9 f9 => hQ r9 t9 i9 (lf_fq_tr f7 f9))   (fun x2' t8 i8 f8 n2' bx2' h8 => ih x2' t8 i8 (lf_fq_tr f7 f8) n2' bx2' (by omega)) (Nat.le_refl _)  i7 n2 bx2  )
  exact key _ _ s hI lf_fq_rf n2 bx2 (Nat.lt_succ_self _)
theorem sm_29 {t1 : Nat} {Q : Bool → lf_Z → Prop} {s : lf_Z} (htt1 : t1 < 4) (hI : iv_A s.1 s.2.2) (hQ : ∀ (z : Bool) (s' : lf_Z), iv_A s'.1 s'.2.2 → lf_fq [31, 33, 35, 36, 37, 38, 39, 40, 41, 42, 43, 44, 45, 46, 47, 48, 49, 50, 51, 52, 53, 54, 55, 56, 57, 58, 59, 60, 61, 62] 1000000 false s.1 s.2.2 s'.1 s'.2.2 → Q z s') : fm_29 t1 Q s := by
  unfold fm_29
  have hI1 : iv_A s.1 (lf_ur s.2.2 2 (some t1)) := iv_ut2 hI htt1
  have fr2 : lf_fq [31, 33, 35, 36, 37, 38, 39, 40, 41, 42, 43, 44, 45, 46, 47, 48, 49, 50, 51, 52, 53, 54, 55, 56, 57, 58, 59, 60, 61, 62] 1000000 false s.1 s.2.2 s.1 (lf_ur s.2.2 2 (some t1)) := lf_fq_pp (lf_fq_rf)
  have n3 : (lf_ur s.2.2 2 (some t1)) 2 ≠ none := lf_ur2
  refine ⟨fun et21 => ?_, fun t21 et21 => ?_⟩
  · skip
    exact absurd et21 n3
  · have htt21 : t21 < 4 := iv_t2 hI1 et21
    refine ⟨htt21, ?_⟩
    refine sm_30 htt21 hI1 (fun s22 hI5 fr4 => ?_)
    have fr7 : lf_fq [31, 33, 35, 36, 37, 38, 39, 40, 41, 42, 43, 44, 45, 46, 47, 48, 49, 50, 51, 52, 53, 54, 55, 56, 57, 58, 59, 60, 61, 62] 1000000 false s.1 s.2.2 s22.1 s22.2.2 := lf_fq_tr fr2 (lf_fq_wk fr4 rfl (by decide) (by decide))
    have n8 : s22.2.2 2 ≠ none := lf_fq_n2 fr4 rfl n3
    have hI9 : iv_A (lf_up s22.1 31 2 0) s22.2.2 := iv_w31_2 hI5 (by omega)
    have fr10 : lf_fq [31, 33, 35, 36, 37, 38, 39, 40, 41, 42, 43, 44, 45, 46, 47, 48, 49, 50, 51, 52, 53, 54, 55, 56, 57, 58, 59, 60, 61, 62] 1000000 false s.1 s.2.2 (lf_up s22.1 31 2 0) s22.2.2 := lf_fq_up fr7 rfl (fun h => absurd h (by decide))
    have hI11 : iv_A (lf_up (lf_up s22.1 31 2 0) 31 3 (-1)) s22.2.2 := iv_w31_3 hI9 (by omega)
    have fr12 : lf_fq [31, 33, 35, 36, 37, 38, 39, 40, 41, 42, 43, 44, 45, 46, 47, 48, 49, 50, 51, 52, 53, 54, 55, 56, 57, 58, 59, 60, 61, 62] 1000000 false s.1 s.2.2 (lf_up (lf_up s22.1 31 2 0) 31 3 (-1)) s22.2.2 := lf_fq_up fr10 rfl (fun h => absurd h (by decide))
    have hI13 : iv_A (lf_fl (lf_up (lf_up s22.1 31 2 0) 31 3 (-1)) 33 26 (-1)) s22.2.2 := iv_fl33 hI11 (by omega)
    have fr14 : lf_fq [31, 33, 35, 36, 37, 38, 39, 40, 41, 42, 43, 44, 45, 46, 47, 48, 49, 50, 51, 52, 53, 54, 55, 56, 57, 58, 59, 60, 61, 62] 1000000 false s.1 s.2.2 (lf_fl (lf_up (lf_up s22.1 31 2 0) 31 3 (-1)) 33 26 (-1)) s22.2.2 := lf_fq_fl fr12 rfl (by decide)
    have hI15 : iv_A (lf_up (lf_fl (lf_up (lf_up s22.1 31 2 0) 31 3 (-1)) 33 26 (-1)) 31 7 0) s22.2.2 := iv_w31_7 hI13 (by omega)
    have fr16 : lf_fq [31, 33, 35, 36, 37, 38, 39, 40, 41, 42, 43, 44, 45, 46, 47, 48, 49, 50, 51, 52, 53, 54, 55, 56, 57, 58, 59, 60, 61, 62] 1000000 false s.1 s.2.2 (lf_up (lf_fl (lf_up (lf_up s22.1 31 2 0) 31 3 (-1)) 33 26 (-1)) 31 7 0) s22.2.2 := lf_fq_up fr14 rfl (fun h => absurd h (by decide))
    refine sm_31 hI15 (fun s23 hI18 fr17 => ?_)
    have fr20 : lf_fq [31, 33, 35, 36, 37, 38, 39, 40, 41, 42, 43, 44, 45, 46, 47, 48, 49, 50, 51, 52, 53, 54, 55, 56, 57, 58, 59, 60, 61, 62] 1000000 false s.1 s.2.2 s23.1 s23.2.2 := lf_fq_tr fr16 (lf_fq_wk fr17 rfl (by decide) (by decide))
    have n21 : s23.2.2 2 ≠ none := lf_fq_n2 fr17 rfl n8
    exact sm_29_p41L (fun r9 t9 i9 f9 => hQ r9 t9 i9 (lf_fq_tr fr20 f9)) hI18 n21 (show (0 : Int) ≤ 0 ∧ 0 ≤ (301 : Int) from by omega)
-- fm_28 ElevenBullocks.text 0
theorem sm_28 {Q : Int → lf_Z → Prop} {s : lf_Z} (hI : iv_A s.1 s.2.2) (hQ : ∀ (r : Int) (s' : lf_Z), iv_A s'.1 s'.2.2 → lf_fq [0, 31, 33, 35, 36, 37, 38, 39, 40, 41, 42, 43, 44, 45, 46, 47, 48, 49, 50, 51, 52, 53, 54, 55, 56, 57, 58, 59, 60, 61, 62] 1000000 false s.1 s.2.2 s'.1 s'.2.2 → ((-1) ≤ r ∧ r ≤ 3) → Q r s') : fm_28 Q s := by
  unfold fm_28
  have b1 : 0 ≤ s.1 0 11 ∧ s.1 0 11 ≤ 4 := iv_r0_11 hI
  refine ⟨(show lf_R (s.1 0 11) from lf_Rof (by omega)), ?_⟩
  refine ⟨fun c2 => ?_, fun c2 => ?_⟩
  · skip
    have c2 : s.1 0 11 < 4 := c2
    refine ⟨(show (0 : Int) ≤ s.1 0 11 ∧ s.1 0 11 < (4 : Int) from by omega), ?_⟩
    intro t23 et23
    have htt23 : t23 < 4 := by have e9 : t23 = (s.1 0 11).toNat := et23; omega
    refine sm_29 htt23 hI (fun z25 s24 hI4 fr3 => ?_)
    have fr6 : lf_fq [0, 31, 33, 35, 36, 37, 38, 39, 40, 41, 42, 43, 44, 45, 46, 47, 48, 49, 50, 51, 52, 53, 54, 55, 56, 57, 58, 59, 60, 61, 62] 1000000 false s.1 s.2.2 s24.1 s24.2.2 := lf_fq_tr (lf_fq_rf) (lf_fq_wk fr3 rfl (by decide) (by decide))
    refine ⟨fun c7 => ?_, fun c7 => ?_⟩
    · skip
      have b8 : 0 ≤ s24.1 0 11 ∧ s24.1 0 11 ≤ 4 := iv_r0_11 hI4
      have b9 : s24.1 0 11 = s.1 0 11 := congrFun (fr3.1 0 rfl) _
      have hI10 : iv_A (lf_up s24.1 0 11 ((s24.1 0 11) + 1)) s24.2.2 := iv_w0_11 hI4 (by omega)
      have fr11 : lf_fq [0, 31, 33, 35, 36, 37, 38, 39, 40, 41, 42, 43, 44, 45, 46, 47, 48, 49, 50, 51, 52, 53, 54, 55, 56, 57, 58, 59, 60, 61, 62] 1000000 false s.1 s.2.2 (lf_up s24.1 0 11 ((s24.1 0 11) + 1)) s24.2.2 := lf_fq_up fr6 rfl (fun h => absurd h (by decide))
      exact hQ (((s24.1 0 11) + 1) - 1) (lf_up s24.1 0 11 ((s24.1 0 11) + 1), s24.2.1, s24.2.2) hI10 fr11 (show (-1 : Int) ≤ ((s24.1 0 11) + 1) - 1 ∧ ((s24.1 0 11) + 1) - 1 ≤ (3 : Int) from by omega)
    · skip
      exact hQ (-1) s24 hI4 fr6 (show (-1 : Int) ≤ (-1) ∧ (-1) ≤ (3 : Int) from by omega)
  · skip
    have c2 : ¬ (s.1 0 11 < 4) := c2
    exact hQ (-1) s hI (lf_fq_rf) (show (-1 : Int) ≤ (-1) ∧ (-1) ≤ (3 : Int) from by omega)
-- fm_198 Model.byteAt 95 i
theorem sm_198 {a1 : Int} {Q : Int → lf_Z → Prop} {s : lf_Z} (hI : iv_A s.1 s.2.2) (ba1 : 0 ≤ a1 ∧ a1 ≤ 300) (hQ : ∀ (r : Int), (((-1) ≤ r ∧ r ≤ 255) ∧ (r < 0 ∨ a1 < s.1 95 4)) → Q r s) : fm_198 a1 Q s := by
  unfold fm_198
  have b1 : 0 ≤ s.1 95 4 ∧ s.1 95 4 ≤ 300 := iv_r95_4 hI
  refine ⟨(show lf_R a1 from lf_Rof (by omega)), ?_⟩
  refine ⟨(show lf_R (s.1 95 4) from lf_Rof (by omega)), ?_⟩
  refine ⟨fun c2 => ?_, fun c2 => ?_⟩
  · skip
    have c2 : s.1 95 4 ≤ a1 := c2
    exact hQ (-1) ⟨(show (-1 : Int) ≤ (-1) ∧ (-1) ≤ (255 : Int) from by omega), (show (-1) < 0 ∨ a1 < s.1 95 4 from by omega)⟩
  · skip
    have c2 : ¬ (s.1 95 4 ≤ a1) := c2
    refine ⟨(show (0 : Int) ≤ a1 ∧ a1 < (300 : Int) from by omega), ?_⟩
    have b3 : 0 ≤ s.1 99 a1 ∧ s.1 99 a1 ≤ 255 := iv_r99 hI _
    exact hQ (s.1 99 a1) ⟨(show (-1 : Int) ≤ s.1 99 a1 ∧ s.1 99 a1 ≤ (255 : Int) from by omega), (show s.1 99 a1 < 0 ∨ a1 < s.1 95 4 from by omega)⟩
-- fm_199 Model.isFigure i
theorem sm_199 {a0 : Int} {Q : Bool → lf_Z → Prop} {s : lf_Z} (hI : iv_A s.1 s.2.2) (ba0 : (-1) ≤ a0 ∧ a0 ≤ 255) (hQ : ∀ (z : Bool), ((z = true → (48 ≤ a0)) ∧ (z = false → True)) → Q z s) : fm_199 a0 Q s := by
  unfold fm_199
  refine ⟨(show lf_R a0 from lf_Rof (by omega)), ?_⟩
  refine ⟨fun c1 => ?_, fun c1 => ?_⟩
  · skip
    have c1 : a0 < 48 := c1
    exact hQ false ⟨fun h => (by cases h), fun _ => trivial⟩
  · skip
    have c1 : ¬ (a0 < 48) := c1
    refine ⟨fun c2 => ?_, fun c2 => ?_⟩
    · skip
      have c2 : 57 < a0 := c2
      exact hQ false ⟨fun h => (by cases h), fun _ => trivial⟩
    · skip
      have c2 : ¬ (57 < a0) := c2
      exact hQ true ⟨fun _ => by omega, fun _ => trivial⟩
-- fm_200 Model.isLetterByte i
theorem sm_200_p12 {Q : Bool → lf_Z → Prop} {x0 : Int} {s : lf_Z} (hQ : ∀ (z : Bool), ((z = true → (65 ≤ x0)) ∧ (z = false → True)) → Q z s) (hI : iv_A s.1 s.2.2) (bx0 : 0 ≤ x0 ∧ x0 ≤ 47) : fm_200_p12 Q x0 s := by
  unfold fm_200_p12
  refine ⟨(show lf_R x0 from lf_Rof (by omega)), ?_⟩
  refine ⟨fun c2 => ?_, fun c2 => ?_⟩
  · skip
    have c2 : x0 < 65 := c2
    exact hQ false ⟨fun h => (by cases h), fun _ => trivial⟩
  · skip
    have c2 : ¬ (x0 < 65) := c2
    exfalso
    omega
theorem sm_200 {a0 : Int} {Q : Bool → lf_Z → Prop} {s : lf_Z} (hI : iv_A s.1 s.2.2) (ba0 : 0 ≤ a0 ∧ a0 ≤ 47) (hQ : ∀ (z : Bool), ((z = true → (65 ≤ a0)) ∧ (z = false → True)) → Q z s) : fm_200 a0 Q s := by
  unfold fm_200
  refine ⟨(show lf_R a0 from lf_Rof (by omega)), ?_⟩
  refine ⟨fun c1 => ?_, fun c1 => ?_⟩
  · skip
    have c1 : a0 < 97 := c1
    exact sm_200_p12 hQ hI (show (0 : Int) ≤ a0 ∧ a0 ≤ (47 : Int) from by omega)
  · skip
    have c1 : ¬ (a0 < 97) := c1
    exfalso
    omega
-- fm_201 Model.isSign i
theorem sm_201 {a0 : Int} {Q : Bool → lf_Z → Prop} {s : lf_Z} (hI : iv_A s.1 s.2.2) (ba0 : 0 ≤ a0 ∧ a0 ≤ 47) (hQ : ∀ (z : Bool), Q z s) : fm_201 a0 Q s := by
  unfold fm_201
  refine ⟨(show lf_R a0 from lf_Rof (by omega)), ?_⟩
  refine ⟨fun c1 => ?_, fun c1 => ?_, fun c1 => ?_, fun c1 => ?_, fun c1 => ?_, fun c1 => ?_, fun c1 => ?_, fun c1 => ?_, fun c1 => ?_, fun c1 => ?_, fun c1 => ?_, fun c1 => ?_, fun c1 => ?_, fun c1 => ?_, fun c1 => ?_, fun c1 => ?_, fun c1 => ?_, fun c1 => ?_, fun c1 => ?_, fun c1 => ?_, fun c1 => ?_, fun c1 => ?_, fun c1 => ?_, fun c1 => ?_, fun c1 => ?_, fun c1 => ?_, fun c1 => ?_, fun c1 => ?_, fun c1 => ?_⟩
  · have c1 : a0 < 35 ∨ 62 < a0 := c1
    exact hQ false
  · have c1 : a0 = 35 := c1
    exact hQ true
  · have c1 : a0 = 36 := c1
    exact hQ false
  · have c1 : a0 = 37 := c1
    exact hQ false
  · have c1 : a0 = 38 := c1
    exact hQ false
  · have c1 : a0 = 39 := c1
    exact hQ false
  · have c1 : a0 = 40 := c1
    exact hQ true
  · have c1 : a0 = 41 := c1
    exact hQ true
  · have c1 : a0 = 42 := c1
    exact hQ true
  · have c1 : a0 = 43 := c1
    exact hQ true
  · have c1 : a0 = 44 := c1
    exact hQ false
  · have c1 : a0 = 45 := c1
    exact hQ true
  · have c1 : a0 = 46 := c1
    exact hQ false
  · have c1 : a0 = 47 := c1
    exact hQ true
  · have c1 : a0 = 48 := c1
    exfalso
    omega
  · have c1 : a0 = 49 := c1
    exfalso
    omega
  · have c1 : a0 = 50 := c1
    exfalso
    omega
  · have c1 : a0 = 51 := c1
    exfalso
    omega
  · have c1 : a0 = 52 := c1
    exfalso
    omega
  · have c1 : a0 = 53 := c1
    exfalso
    omega
  · have c1 : a0 = 54 := c1
    exfalso
    omega
  · have c1 : a0 = 55 := c1
    exfalso
    omega
  · have c1 : a0 = 56 := c1
    exfalso
    omega
  · have c1 : a0 = 57 := c1
    exfalso
    omega
  · have c1 : a0 = 58 := c1
    exfalso
    omega
  · have c1 : a0 = 59 := c1
    exfalso
    omega
  · have c1 : a0 = 60 := c1
    exfalso
    omega
  · have c1 : a0 = 61 := c1
    exfalso
    omega
  · have c1 : a0 = 62 := c1
    exfalso
    omega
-- fm_197 Model.nextToken 95
theorem sm_197_p26 {X0 : lf_Z → Prop} {Q : lf_Z → Prop} {s : lf_Z} (hQ : ∀  (s' : lf_Z), iv_A s'.1 s'.2.2 → lf_fq [95] 1000000 true s.1 s.2.2 s'.1 s'.2.2 → Q  s') {M0 : Nat} (hX0 : ∀ (s' : lf_Z), iv_A s'.1 s'.2.2 → lf_fq [95] 1000000 true s.1 s.2.2 s'.1 s'.2.2 → (300 - s'.1 95 7).toNat < M0 → X0 s') (hM0 : (300 - s.1 95 7).toNat ≤ M0) (hI : iv_A s.1 s.2.2) (kv0 : s.1 95 7 < 300) : fm_197_p26 X0 Q s := by
  unfold fm_197_p26
  have b5 : 0 ≤ s.1 95 7 ∧ s.1 95 7 ≤ 300 := iv_r95_7 hI
  have hI6 : iv_A (lf_up s.1 95 7 ((s.1 95 7) + 1)) s.2.2 := iv_w95_7 hI (by omega)
  have fr7 : lf_fq [95] 1000000 true s.1 s.2.2 (lf_up s.1 95 7 ((s.1 95 7) + 1)) s.2.2 := lf_fq_up (lf_fq_rf) rfl (fun h => absurd h (by decide))
  exact hX0  (lf_up s.1 95 7 ((s.1 95 7) + 1), s.2.1, s.2.2) hI6 fr7 (show (300 - ((s.1 95 7) + 1)).toNat < M0 from by omega)
theorem sm_197_p297 {Q : lf_Z → Prop} {y1 : Int} {s : lf_Z} (hQ : ∀  (s' : lf_Z), iv_A s'.1 s'.2.2 → lf_fq [95] 1000000 true s.1 s.2.2 s'.1 s'.2.2 → Q  s') (hI : iv_A s.1 s.2.2) (by1 : (-2147483648) ≤ y1 ∧ y1 ≤ 2147483647) (kv0 : s.1 95 7 < 300) : fm_197_p297 Q y1 s := by
  unfold fm_197_p297
  have hI36 : iv_A (lf_up s.1 95 9 y1) s.2.2 := iv_w95_9 hI (by omega)
  have fr37 : lf_fq [95] 1000000 true s.1 s.2.2 (lf_up s.1 95 9 y1) s.2.2 := lf_fq_up (lf_fq_rf) rfl (fun h => absurd h (by decide))
  have b38 : 0 ≤ s.1 95 7 ∧ s.1 95 7 ≤ 300 := (show 0 ≤ (lf_up s.1 95 9 y1) 95 7 ∧ (lf_up s.1 95 9 y1) 95 7 ≤ 300 from iv_r95_7 hI36)
  have b39 : (lf_up s.1 95 9 y1) 95 7 = s.1 95 7 := lf_up_i (by omega)
  have hI40 : iv_A (lf_up (lf_up s.1 95 9 y1) 95 7 ((s.1 95 7) + 1)) s.2.2 := iv_w95_7 hI36 (by omega)
  have fr41 : lf_fq [95] 1000000 true s.1 s.2.2 (lf_up (lf_up s.1 95 9 y1) 95 7 ((s.1 95 7) + 1)) s.2.2 := lf_fq_up fr37 rfl (fun h => absurd h (by decide))
  exact hQ (lf_up (lf_up s.1 95 9 y1) 95 7 ((s.1 95 7) + 1), s.2.1, s.2.2) hI40 fr41
theorem sm_197_p272 {Q : lf_Z → Prop} {x1 : Int} {s : lf_Z} (hQ : ∀  (s' : lf_Z), iv_A s'.1 s'.2.2 → lf_fq [95] 1000000 true s.1 s.2.2 s'.1 s'.2.2 → Q  s') (hI : iv_A s.1 s.2.2) (bx1 : (-2147483648) ≤ x1 ∧ x1 ≤ 2147483647) (kv0 : s.1 95 7 < 300) : fm_197_p272 Q x1 s := by
  unfold fm_197_p272
  have b31 : 0 ≤ s.1 95 7 ∧ s.1 95 7 ≤ 300 := iv_r95_7 hI
  refine sm_198 hI (show (0 : Int) ≤ s.1 95 7 ∧ s.1 95 7 ≤ (300 : Int) from by omega) (fun r38 q32 => ?_)
  obtain ⟨q32, q32x⟩ := q32
  have q32x : r38 < 0 ∨ (s.1 95 7) < s.1 95 4 := q32x
  have b33 : 0 ≤ s.1 95 4 ∧ s.1 95 4 ≤ 300 := iv_r95_4 hI
  refine ⟨(show lf_R r38 from lf_Rof (by omega)), ?_⟩
  refine ⟨fun c34 => ?_, fun c34 => ?_⟩
  · skip
    have c34 : r38 ≠ 61 := c34
    exact hQ s hI (lf_fq_rf)
  · skip
    have c34 : ¬ (r38 ≠ 61) := c34
    refine ⟨(show lf_R x1 from lf_Rof (by omega)), ?_⟩
    refine ⟨fun c35 => ?_, fun c35 => ?_⟩
    · skip
      have c35 : x1 ≠ 60 := c35
      exact sm_197_p297 hQ hI (show (-2147483648 : Int) ≤ 5 ∧ 5 ≤ (2147483647 : Int) from by omega) (show (s.1 95 7) < 300 from by omega)
    · skip
      have c35 : ¬ (x1 ≠ 60) := c35
      exact sm_197_p297 hQ hI (show (-2147483648 : Int) ≤ 4 ∧ 4 ≤ (2147483647 : Int) from by omega) (show (s.1 95 7) < 300 from by omega)
theorem sm_197_p247 {Q : lf_Z → Prop} {x1 : Int} {y1 : Int} {s : lf_Z} (hQ : ∀  (s' : lf_Z), iv_A s'.1 s'.2.2 → lf_fq [95] 1000000 true s.1 s.2.2 s'.1 s'.2.2 → Q  s') (hI : iv_A s.1 s.2.2) (bx1 : 0 ≤ x1 ∧ x1 ≤ 47) (by1 : 0 ≤ y1 ∧ y1 ≤ 47) (kv0 : s.1 95 7 < 300) : fm_197_p247 Q x1 y1 s := by
  unfold fm_197_p247
  have hI24 : iv_A (lf_up s.1 95 9 y1) s.2.2 := iv_w95_9 hI (by omega)
  have fr25 : lf_fq [95] 1000000 true s.1 s.2.2 (lf_up s.1 95 9 y1) s.2.2 := lf_fq_up (lf_fq_rf) rfl (fun h => absurd h (by decide))
  have b26 : 0 ≤ s.1 95 7 ∧ s.1 95 7 ≤ 300 := (show 0 ≤ (lf_up s.1 95 9 y1) 95 7 ∧ (lf_up s.1 95 9 y1) 95 7 ≤ 300 from iv_r95_7 hI24)
  have b27 : (lf_up s.1 95 9 y1) 95 7 = s.1 95 7 := lf_up_i (by omega)
  have hI28 : iv_A (lf_up (lf_up s.1 95 9 y1) 95 7 ((s.1 95 7) + 1)) s.2.2 := iv_w95_7 hI24 (by omega)
  have fr29 : lf_fq [95] 1000000 true s.1 s.2.2 (lf_up (lf_up s.1 95 9 y1) 95 7 ((s.1 95 7) + 1)) s.2.2 := lf_fq_up fr25 rfl (fun h => absurd h (by decide))
  refine ⟨(show lf_R x1 from lf_Rof (by omega)), ?_⟩
  refine ⟨fun c30 => ?_, fun c30 => ?_⟩
  · skip
    have c30 : x1 = 60 := c30
    exfalso
    omega
  · skip
    have c30 : ¬ (x1 = 60) := c30
    refine ⟨fun c42 => ?_, fun c42 => ?_⟩
    · skip
      have c42 : x1 ≠ 62 := c42
      exact hQ (lf_up (lf_up s.1 95 9 y1) 95 7 ((s.1 95 7) + 1), s.2.1, s.2.2) hI28 fr29
    · skip
      have c42 : ¬ (x1 ≠ 62) := c42
      exfalso
      omega
theorem sm_197_p218 {X168 : lf_Z → Prop} {Q : lf_Z → Prop} {y1 : Int} {s : lf_Z} (hQ : ∀  (s' : lf_Z), iv_A s'.1 s'.2.2 → lf_fq [95] 1000000 true s.1 s.2.2 s'.1 s'.2.2 → Q  s') {M168 : Nat} (hX168 : ∀ (s' : lf_Z), iv_A s'.1 s'.2.2 → lf_fq [95] 1000000 true s.1 s.2.2 s'.1 s'.2.2 → (300 - s'.1 95 7).toNat < M168 → X168 s') (hM168 : (300 - s.1 95 7).toNat ≤ M168) (hI : iv_A s.1 s.2.2) (kv0 : s.1 95 7 < 300) : fm_197_p218 X168 Q y1 s := by
  unfold fm_197_p218
  have b54 : 0 ≤ s.1 95 7 ∧ s.1 95 7 ≤ 300 := iv_r95_7 hI
  have hI55 : iv_A (lf_up s.1 95 7 ((s.1 95 7) + 1)) s.2.2 := iv_w95_7 hI (by omega)
  have fr56 : lf_fq [95] 1000000 true s.1 s.2.2 (lf_up s.1 95 7 ((s.1 95 7) + 1)) s.2.2 := lf_fq_up (lf_fq_rf) rfl (fun h => absurd h (by decide))
  exact hX168  (lf_up s.1 95 7 ((s.1 95 7) + 1), lf_up s.2.1 95 11 (lf_wl y1), s.2.2) hI55 fr56 (show (300 - ((s.1 95 7) + 1)).toNat < M168 from by omega)
theorem sm_197_p168 {X168 : lf_Z → Prop} {Q : lf_Z → Prop} {s : lf_Z} (hQ : ∀  (s' : lf_Z), iv_A s'.1 s'.2.2 → lf_fq [95] 1000000 true s.1 s.2.2 s'.1 s'.2.2 → Q  s') {M168 : Nat} (hX168 : ∀ (s' : lf_Z), iv_A s'.1 s'.2.2 → lf_fq [95] 1000000 true s.1 s.2.2 s'.1 s'.2.2 → (300 - s'.1 95 7).toNat < M168 → X168 s') (hM168 : (300 - s.1 95 7).toNat ≤ M168) (hI : iv_A s.1 s.2.2) : fm_197_p168 Q X168 s := sorry
theorem sm_197_p168L {Q : lf_Z → Prop} {s : lf_Z} (hQ : ∀  (s' : lf_Z), iv_A s'.1 s'.2.2 → lf_fq [95] 1000000 true s.1 s.2.2 s'.1 s'.2.2 → Q  s') (hI : iv_A s.1 s.2.2) : fm_197_p168L Q s := by
  intro X168 hX
  have key : ∀ (m9 : Nat) (s' : lf_Z), iv_A s'.1 s'.2.2 → lf_fq [95] 1000000 true s.1 s.2.2 s'.1 s'.2.2 → (300 - s'.1 95 7).toNat < m9 → X168 s' := by
    intro m9
    induction m9 with
    | zero => intro  s' _ _  h9; exact absurd h9 (Nat.not_lt_zero _)
    | succ m9 ih => intro  s' i7 f7  h9; exact hX  _ (sm_197_p168 (fun t9 i9 f9 => hQ t9 i9 (lf_fq_tr f7 f9))   (fun  t8 i8 f8  h8 => ih  t8 i8 (lf_fq_tr f7 f8)  (by omega)) (Nat.le_refl _)  i7    )
  exact key _  s hI lf_fq_rf  (Nat.lt_succ_self _)
theorem sm_197_p135 {X85 : lf_Z → Prop} {Q : lf_Z → Prop} {y1 : Int} {s : lf_Z} (hQ : ∀  (s' : lf_Z), iv_A s'.1 s'.2.2 → lf_fq [95] 1000000 true s.1 s.2.2 s'.1 s'.2.2 → Q  s') {M85 : Nat} (hX85 : ∀ (s' : lf_Z), iv_A s'.1 s'.2.2 → lf_fq [95] 1000000 true s.1 s.2.2 s'.1 s'.2.2 → (300 - s'.1 95 7).toNat < M85 → X85 s') (hM85 : (300 - s.1 95 7).toNat ≤ M85) (hI : iv_A s.1 s.2.2) (by1 : (-2147483648) ≤ y1 ∧ y1 ≤ 2147483647) (kv0 : s.1 95 7 < 300) : fm_197_p135 X85 Q y1 s := by
  unfold fm_197_p135
  have hI75 : iv_A (lf_up s.1 95 10 y1) s.2.2 := iv_w95_10 hI (by omega)
  have fr76 : lf_fq [95] 1000000 true s.1 s.2.2 (lf_up s.1 95 10 y1) s.2.2 := lf_fq_up (lf_fq_rf) rfl (fun h => absurd h (by decide))
  have b77 : 0 ≤ s.1 95 7 ∧ s.1 95 7 ≤ 300 := (show 0 ≤ (lf_up s.1 95 10 y1) 95 7 ∧ (lf_up s.1 95 10 y1) 95 7 ≤ 300 from iv_r95_7 hI75)
  have b78 : (lf_up s.1 95 10 y1) 95 7 = s.1 95 7 := lf_up_i (by omega)
  have hI79 : iv_A (lf_up (lf_up s.1 95 10 y1) 95 7 ((s.1 95 7) + 1)) s.2.2 := iv_w95_7 hI75 (by omega)
  have fr80 : lf_fq [95] 1000000 true s.1 s.2.2 (lf_up (lf_up s.1 95 10 y1) 95 7 ((s.1 95 7) + 1)) s.2.2 := lf_fq_up fr76 rfl (fun h => absurd h (by decide))
  exact hX85  (lf_up (lf_up s.1 95 10 y1) 95 7 ((s.1 95 7) + 1), s.2.1, s.2.2) hI79 fr80 (show (300 - ((s.1 95 7) + 1)).toNat < M85 from by omega)
theorem sm_197_p85 {X85 : lf_Z → Prop} {Q : lf_Z → Prop} {s : lf_Z} (hQ : ∀  (s' : lf_Z), iv_A s'.1 s'.2.2 → lf_fq [95] 1000000 true s.1 s.2.2 s'.1 s'.2.2 → Q  s') {M85 : Nat} (hX85 : ∀ (s' : lf_Z), iv_A s'.1 s'.2.2 → lf_fq [95] 1000000 true s.1 s.2.2 s'.1 s'.2.2 → (300 - s'.1 95 7).toNat < M85 → X85 s') (hM85 : (300 - s.1 95 7).toNat ≤ M85) (hI : iv_A s.1 s.2.2) : fm_197_p85 Q X85 s := by
  unfold fm_197_p85
  have b63 : 0 ≤ s.1 95 7 ∧ s.1 95 7 ≤ 300 := iv_r95_7 hI
  refine sm_198 hI (show (0 : Int) ≤ s.1 95 7 ∧ s.1 95 7 ≤ (300 : Int) from by omega) (fun r49 q64 => ?_)
  obtain ⟨q64, q64x⟩ := q64
  have q64x : r49 < 0 ∨ (s.1 95 7) < s.1 95 4 := q64x
  have b65 : 0 ≤ s.1 95 4 ∧ s.1 95 4 ≤ 300 := iv_r95_4 hI
  refine sm_199 hI (show (-1 : Int) ≤ r49 ∧ r49 ≤ (255 : Int) from by omega) (fun z51 q66 => ?_)
  refine ⟨fun c67 => ?_, fun c67 => ?_⟩
  · skip
    have dc67 := q66.2 c67
    exact hQ s hI (lf_fq_rf)
  · skip
    have dc67 := q66.1 c67
    have b68 : (-2147483648) ≤ s.1 95 10 ∧ s.1 95 10 ≤ 2147483647 := iv_full hI
    refine ⟨(show lf_R (s.1 95 10) from lf_Rof (by omega)), ?_⟩
    refine ⟨fun c69 => ?_, fun c69 => ?_⟩
    · skip
      have c69 : s.1 95 10 ≤ 99999 := c69
      have b70 : (-2147483648) ≤ lf_w (10 * (s.1 95 10)) ∧ lf_w (10 * (s.1 95 10)) ≤ 2147483647 := lf_wB
      refine sm_198 hI (show (0 : Int) ≤ s.1 95 7 ∧ s.1 95 7 ≤ (300 : Int) from by omega) (fun r54 q71 => ?_)
      obtain ⟨q71, q71x⟩ := q71
      have q71x : r54 < 0 ∨ (s.1 95 7) < s.1 95 4 := q71x
      have b72 : 0 ≤ s.1 95 4 ∧ s.1 95 4 ≤ 300 := iv_r95_4 hI
      have b73 : (-2147483648) ≤ lf_w ((lf_w (10 * (s.1 95 10))) + r54) ∧ lf_w ((lf_w (10 * (s.1 95 10))) + r54) ≤ 2147483647 := lf_wB
      have b74 : (-2147483648) ≤ lf_w ((lf_w ((lf_w (10 * (s.1 95 10))) + r54)) - 48) ∧ lf_w ((lf_w ((lf_w (10 * (s.1 95 10))) + r54)) - 48) ≤ 2147483647 := lf_wB
      exact sm_197_p135 hQ hX85 (show (300 - (s.1 95 7)).toNat ≤ M85 from by omega) hI (show (-2147483648 : Int) ≤ lf_w ((lf_w ((lf_w (10 * (s.1 95 10))) + r54)) - 48) ∧ lf_w ((lf_w ((lf_w (10 * (s.1 95 10))) + r54)) - 48) ≤ (2147483647 : Int) from by omega) (show (s.1 95 7) < 300 from by omega)
    · skip
      have c69 : ¬ (s.1 95 10 ≤ 99999) := c69
      exact sm_197_p135 hQ hX85 (show (300 - (s.1 95 7)).toNat ≤ M85 from by omega) hI (show (-2147483648 : Int) ≤ s.1 95 10 ∧ s.1 95 10 ≤ (2147483647 : Int) from by omega) (show (s.1 95 7) < 300 from by omega)
theorem sm_197_p85L {Q : lf_Z → Prop} {s : lf_Z} (hQ : ∀  (s' : lf_Z), iv_A s'.1 s'.2.2 → lf_fq [95] 1000000 true s.1 s.2.2 s'.1 s'.2.2 → Q  s') (hI : iv_A s.1 s.2.2) : fm_197_p85L Q s := by
  intro X85 hX
  have key : ∀ (m9 : Nat) (s' : lf_Z), iv_A s'.1 s'.2.2 → lf_fq [95] 1000000 true s.1 s.2.2 s'.1 s'.2.2 → (300 - s'.1 95 7).toNat < m9 → X85 s' := by
    intro m9
    induction m9 with
    | zero => intro  s' _ _  h9; exact absurd h9 (Nat.not_lt_zero _)
    | succ m9 ih => intro  s' i7 f7  h9; exact hX  _ (sm_197_p85 (fun t9 i9 f9 => hQ t9 i9 (lf_fq_tr f7 f9))   (fun  t8 i8 f8  h8 => ih  t8 i8 (lf_fq_tr f7 f8)  (by omega)) (Nat.le_refl _)  i7    )
  exact key _  s hI lf_fq_rf  (Nat.lt_succ_self _)
theorem sm_197_p0 {X0 : lf_Z → Prop} {Q : lf_Z → Prop} {s : lf_Z} (hQ : ∀  (s' : lf_Z), iv_A s'.1 s'.2.2 → lf_fq [95] 1000000 true s.1 s.2.2 s'.1 s'.2.2 → Q  s') {M0 : Nat} (hX0 : ∀ (s' : lf_Z), iv_A s'.1 s'.2.2 → lf_fq [95] 1000000 true s.1 s.2.2 s'.1 s'.2.2 → (300 - s'.1 95 7).toNat < M0 → X0 s') (hM0 : (300 - s.1 95 7).toNat ≤ M0) (hI : iv_A s.1 s.2.2) : fm_197_p0 Q X0 s := sorry
theorem sm_197_p0L {Q : lf_Z → Prop} {s : lf_Z} (hQ : ∀  (s' : lf_Z), iv_A s'.1 s'.2.2 → lf_fq [95] 1000000 true s.1 s.2.2 s'.1 s'.2.2 → Q  s') (hI : iv_A s.1 s.2.2) : fm_197_p0L Q s := by
  intro X0 hX
  have key : ∀ (m9 : Nat) (s' : lf_Z), iv_A s'.1 s'.2.2 → lf_fq [95] 1000000 true s.1 s.2.2 s'.1 s'.2.2 → (300 - s'.1 95 7).toNat < m9 → X0 s' := by
    intro m9
    induction m9 with
    | zero => intro  s' _ _  h9; exact absurd h9 (Nat.not_lt_zero _)
    | succ m9 ih => intro  s' i7 f7  h9; exact hX  _ (sm_197_p0 (fun t9 i9 f9 => hQ t9 i9 (lf_fq_tr f7 f9))   (fun  t8 i8 f8  h8 => ih  t8 i8 (lf_fq_tr f7 f8)  (by omega)) (Nat.le_refl _)  i7    )
  exact key _  s hI lf_fq_rf  (Nat.lt_succ_self _)
theorem sm_197 {Q : lf_Z → Prop} {s : lf_Z} (hI : iv_A s.1 s.2.2) (hQ : ∀  (s' : lf_Z), iv_A s'.1 s'.2.2 → lf_fq [95] 1000000 true s.1 s.2.2 s'.1 s'.2.2 → Q  s') : fm_197 Q s := by
  unfold fm_197
  exact sm_197_p0L hQ hI
-- fm_206 Model.w2 i i
theorem sm_206 {a0 : Int} {a1 : Int} {Q : Int → lf_Z → Prop} {s : lf_Z} (hI : iv_A s.1 s.2.2) (ba0 : 97 ≤ a0 ∧ a0 ≤ 119) (ba1 : 97 ≤ a1 ∧ a1 ≤ 121) (hQ : ∀ (r : Int), Q r s) : fm_206 a0 a1 Q s := by
  unfold fm_206
  refine ⟨(show lf_R a0 from lf_Rof (by omega)), ?_⟩
  refine ⟨(show lf_R a1 from lf_Rof (by omega)), ?_⟩
  exact hQ (lf_lor (lf_lshl a0 8) a1)
-- fm_205 Model.w3 i i i
theorem sm_205 {a0 : Int} {a1 : Int} {a2 : Int} {Q : Int → lf_Z → Prop} {s : lf_Z} (hI : iv_A s.1 s.2.2) (ba0 : 97 ≤ a0 ∧ a0 ≤ 119) (ba1 : 97 ≤ a1 ∧ a1 ≤ 117) (ba2 : 97 ≤ a2 ∧ a2 ≤ 122) (hQ : ∀ (r : Int), Q r s) : fm_205 a0 a1 a2 Q s := by
  unfold fm_205
  refine sm_206 hI (show (97 : Int) ≤ a0 ∧ a0 ≤ (119 : Int) from by omega) (show (97 : Int) ≤ a1 ∧ a1 ≤ (121 : Int) from by omega) (fun r22 => ?_)
  refine ⟨(show lf_R a2 from lf_Rof (by omega)), ?_⟩
  exact hQ (lf_lor (lf_lshl (lf_wl r22) 8) a2)
-- fm_204 Model.w4 i i i i
theorem sm_204 {a0 : Int} {a1 : Int} {a2 : Int} {a3 : Int} {Q : Int → lf_Z → Prop} {s : lf_Z} (hI : iv_A s.1 s.2.2) (ba0 : 97 ≤ a0 ∧ a0 ≤ 116) (ba1 : 97 ≤ a1 ∧ a1 ≤ 117) (ba2 : 97 ≤ a2 ∧ a2 ≤ 122) (ba3 : 97 ≤ a3 ∧ a3 ≤ 117) (hQ : ∀ (r : Int), Q r s) : fm_204 a0 a1 a2 a3 Q s := by
  unfold fm_204
  refine sm_205 hI (show (97 : Int) ≤ a0 ∧ a0 ≤ (119 : Int) from by omega) (show (97 : Int) ≤ a1 ∧ a1 ≤ (117 : Int) from by omega) (show (97 : Int) ≤ a2 ∧ a2 ≤ (122 : Int) from by omega) (fun r22 => ?_)
  refine ⟨(show lf_R a3 from lf_Rof (by omega)), ?_⟩
  exact hQ (lf_lor (lf_lshl (lf_wl r22) 8) a3)
-- fm_207 Model.isWord 95 l
theorem sm_207 {a1 : Int} {Q : Bool → lf_Z → Prop} {s : lf_Z} (hI : iv_A s.1 s.2.2) (hQ : ∀ (z : Bool), Q z s) : fm_207 a1 Q s := by
  unfold fm_207
  have b1 : (-2147483648) ≤ s.1 95 9 ∧ s.1 95 9 ≤ 2147483647 := iv_full hI
  refine ⟨(show lf_R (s.1 95 9) from lf_Rof (by omega)), ?_⟩
  refine ⟨fun c2 => ?_, fun c2 => ?_⟩
  · skip
    have c2 : s.1 95 9 ≠ 2 := c2
    exact hQ false
  · skip
    have c2 : ¬ (s.1 95 9 ≠ 2) := c2
    refine ⟨fun c3 => ?_, fun c3 => ?_⟩
    · have c3 : lf_wl (s.2.1 95 11) ≠ lf_wl a1 := c3
      exact hQ false
    · have c3 : ¬ (lf_wl (s.2.1 95 11) ≠ lf_wl a1) := c3
      exact hQ true
-- fm_208 Model.w5 i i i i i
theorem sm_208 {a0 : Int} {a1 : Int} {a2 : Int} {a3 : Int} {a4 : Int} {Q : Int → lf_Z → Prop} {s : lf_Z} (hI : iv_A s.1 s.2.2) (ba0 : 97 ≤ a0 ∧ a0 ≤ 116) (ba1 : 97 ≤ a1 ∧ a1 ≤ 117) (ba2 : 97 ≤ a2 ∧ a2 ≤ 114) (ba3 : 97 ≤ a3 ∧ a3 ≤ 117) (ba4 : 100 ≤ a4 ∧ a4 ≤ 121) (hQ : ∀ (r : Int), Q r s) : fm_208 a0 a1 a2 a3 a4 Q s := by
  unfold fm_208
  refine sm_204 hI (show (97 : Int) ≤ a0 ∧ a0 ≤ (116 : Int) from by omega) (show (97 : Int) ≤ a1 ∧ a1 ≤ (117 : Int) from by omega) (show (97 : Int) ≤ a2 ∧ a2 ≤ (122 : Int) from by omega) (show (97 : Int) ≤ a3 ∧ a3 ≤ (117 : Int) from by omega) (fun r22 => ?_)
  refine ⟨(show lf_R a4 from lf_Rof (by omega)), ?_⟩
  exact hQ (lf_lor (lf_lshl (lf_wl r22) 8) a4)
-- fm_209 Model.w6 i i i i i i
theorem sm_209 {a0 : Int} {a1 : Int} {a2 : Int} {a3 : Int} {a4 : Int} {a5 : Int} {Q : Int → lf_Z → Prop} {s : lf_Z} (hI : iv_A s.1 s.2.2) (ba0 : 98 ≤ a0 ∧ a0 ≤ 109) (ba1 : 101 ≤ a1 ∧ a1 ≤ 117) (ba2 : 99 ≤ a2 ∧ a2 ≤ 110) (ba3 : 105 ≤ a3 ∧ a3 ≤ 117) (ba4 : 101 ≤ a4 ∧ a4 ≤ 116) (ba5 : 100 ≤ a5 ∧ a5 ≤ 116) (hQ : ∀ (r : Int), Q r s) : fm_209 a0 a1 a2 a3 a4 a5 Q s := by
  unfold fm_209
  refine sm_208 hI (show (97 : Int) ≤ a0 ∧ a0 ≤ (116 : Int) from by omega) (show (97 : Int) ≤ a1 ∧ a1 ≤ (117 : Int) from by omega) (show (97 : Int) ≤ a2 ∧ a2 ≤ (114 : Int) from by omega) (show (97 : Int) ≤ a3 ∧ a3 ≤ (117 : Int) from by omega) (show (100 : Int) ≤ a4 ∧ a4 ≤ (121 : Int) from by omega) (fun r22 => ?_)
  refine ⟨(show lf_R a5 from lf_Rof (by omega)), ?_⟩
  exact hQ (lf_lor (lf_lshl (lf_wl r22) 8) a5)
-- fm_203 Model.sortOf 95
theorem sm_203 {Q : Int → lf_Z → Prop} {s : lf_Z} (hI : iv_A s.1 s.2.2) (hQ : ∀ (r : Int), ((-1) ≤ r ∧ r ≤ 12) → Q r s) : fm_203 Q s := by
  unfold fm_203
  refine sm_204 hI (show (97 : Int) ≤ 112 ∧ 112 ≤ (116 : Int) from by omega) (show (97 : Int) ≤ 97 ∧ 97 ≤ (117 : Int) from by omega) (show (97 : Int) ≤ 99 ∧ 99 ≤ (122 : Int) from by omega) (show (97 : Int) ≤ 101 ∧ 101 ≤ (117 : Int) from by omega) (fun r22 => ?_)
  refine sm_207 hI (fun z24 => ?_)
  refine ⟨fun c3 => ?_, fun c3 => ?_⟩
  · skip
    refine sm_208 hI (show (97 : Int) ≤ 116 ∧ 116 ≤ (116 : Int) from by omega) (show (97 : Int) ≤ 97 ∧ 97 ≤ (117 : Int) from by omega) (show (97 : Int) ≤ 107 ∧ 107 ≤ (114 : Int) from by omega) (show (97 : Int) ≤ 101 ∧ 101 ≤ (117 : Int) from by omega) (show (100 : Int) ≤ 115 ∧ 115 ≤ (121 : Int) from by omega) (fun r26 => ?_)
    refine sm_207 hI (fun z28 => ?_)
    refine ⟨fun c6 => ?_, fun c6 => ?_⟩
    · skip
      refine sm_204 hI (show (97 : Int) ≤ 112 ∧ 112 ≤ (116 : Int) from by omega) (show (97 : Int) ≤ 97 ∧ 97 ≤ (117 : Int) from by omega) (show (97 : Int) ≤ 121 ∧ 121 ≤ (122 : Int) from by omega) (show (97 : Int) ≤ 115 ∧ 115 ≤ (117 : Int) from by omega) (fun r30 => ?_)
      refine sm_207 hI (fun z32 => ?_)
      refine ⟨fun c9 => ?_, fun c9 => ?_⟩
      · skip
        refine sm_205 hI (show (97 : Int) ≤ 115 ∧ 115 ≤ (119 : Int) from by omega) (show (97 : Int) ≤ 116 ∧ 116 ≤ (117 : Int) from by omega) (show (97 : Int) ≤ 114 ∧ 114 ≤ (122 : Int) from by omega) (fun r34 => ?_)
        refine sm_204 hI (show (97 : Int) ≤ 101 ∧ 101 ≤ (116 : Int) from by omega) (show (97 : Int) ≤ 116 ∧ 116 ≤ (117 : Int) from by omega) (show (97 : Int) ≤ 99 ∧ 99 ≤ (122 : Int) from by omega) (show (97 : Int) ≤ 104 ∧ 104 ≤ (117 : Int) from by omega) (fun r36 => ?_)
        refine sm_207 hI (fun z38 => ?_)
        refine ⟨fun c13 => ?_, fun c13 => ?_⟩
        · skip
          refine sm_205 hI (show (97 : Int) ≤ 119 ∧ 119 ≤ (119 : Int) from by omega) (show (97 : Int) ≤ 97 ∧ 97 ≤ (117 : Int) from by omega) (show (97 : Int) ≤ 121 ∧ 121 ≤ (122 : Int) from by omega) (fun r40 => ?_)
          refine sm_207 hI (fun z42 => ?_)
          refine ⟨fun c16 => ?_, fun c16 => ?_⟩
          · skip
            refine sm_204 hI (show (97 : Int) ≤ 112 ∧ 112 ≤ (116 : Int) from by omega) (show (97 : Int) ≤ 97 ∧ 97 ≤ (117 : Int) from by omega) (show (97 : Int) ≤ 116 ∧ 116 ≤ (122 : Int) from by omega) (show (97 : Int) ≤ 104 ∧ 104 ≤ (117 : Int) from by omega) (fun r44 => ?_)
            refine sm_207 hI (fun z46 => ?_)
            refine ⟨fun c19 => ?_, fun c19 => ?_⟩
            · skip
              refine sm_205 hI (show (97 : Int) ≤ 111 ∧ 111 ≤ (119 : Int) from by omega) (show (97 : Int) ≤ 110 ∧ 110 ≤ (117 : Int) from by omega) (show (97 : Int) ≤ 101 ∧ 101 ≤ (122 : Int) from by omega) (fun r48 => ?_)
              refine sm_207 hI (fun z50 => ?_)
              refine ⟨fun c22 => ?_, fun c22 => ?_⟩
              · skip
                refine sm_208 hI (show (97 : Int) ≤ 115 ∧ 115 ≤ (116 : Int) from by omega) (show (97 : Int) ≤ 116 ∧ 116 ≤ (117 : Int) from by omega) (show (97 : Int) ≤ 114 ∧ 114 ≤ (114 : Int) from by omega) (show (97 : Int) ≤ 97 ∧ 97 ≤ (117 : Int) from by omega) (show (100 : Int) ≤ 121 ∧ 121 ≤ (121 : Int) from by omega) (fun r52 => ?_)
                refine sm_207 hI (fun z54 => ?_)
                refine ⟨fun c25 => ?_, fun c25 => ?_⟩
                · skip
                  refine sm_204 hI (show (97 : Int) ≤ 115 ∧ 115 ≤ (116 : Int) from by omega) (show (97 : Int) ≤ 101 ∧ 101 ≤ (117 : Int) from by omega) (show (97 : Int) ≤ 110 ∧ 110 ≤ (122 : Int) from by omega) (show (97 : Int) ≤ 100 ∧ 100 ≤ (117 : Int) from by omega) (fun r56 => ?_)
                  refine sm_207 hI (fun z58 => ?_)
                  refine ⟨fun c28 => ?_, fun c28 => ?_⟩
                  · skip
                    refine sm_204 hI (show (97 : Int) ≤ 115 ∧ 115 ≤ (116 : Int) from by omega) (show (97 : Int) ≤ 104 ∧ 104 ≤ (117 : Int) from by omega) (show (97 : Int) ≤ 117 ∧ 117 ≤ (122 : Int) from by omega) (show (97 : Int) ≤ 116 ∧ 116 ≤ (117 : Int) from by omega) (fun r60 => ?_)
                    refine sm_207 hI (fun z62 => ?_)
                    refine ⟨fun c31 => ?_, fun c31 => ?_⟩
                    · skip
                      refine sm_204 hI (show (97 : Int) ≤ 111 ∧ 111 ≤ (116 : Int) from by omega) (show (97 : Int) ≤ 112 ∧ 112 ≤ (117 : Int) from by omega) (show (97 : Int) ≤ 101 ∧ 101 ≤ (122 : Int) from by omega) (show (97 : Int) ≤ 110 ∧ 110 ≤ (117 : Int) from by omega) (fun r64 => ?_)
                      refine sm_207 hI (fun z66 => ?_)
                      refine ⟨fun c34 => ?_, fun c34 => ?_⟩
                      · skip
                        refine sm_208 hI (show (97 : Int) ≤ 115 ∧ 115 ≤ (116 : Int) from by omega) (show (97 : Int) ≤ 112 ∧ 112 ≤ (117 : Int) from by omega) (show (97 : Int) ≤ 108 ∧ 108 ≤ (114 : Int) from by omega) (show (97 : Int) ≤ 105 ∧ 105 ≤ (117 : Int) from by omega) (show (100 : Int) ≤ 116 ∧ 116 ≤ (121 : Int) from by omega) (fun r68 => ?_)
                        refine sm_207 hI (fun z70 => ?_)
                        refine ⟨fun c37 => ?_, fun c37 => ?_⟩
                        · skip
                          refine sm_209 hI (show (98 : Int) ≤ 109 ∧ 109 ≤ (109 : Int) from by omega) (show (101 : Int) ≤ 105 ∧ 105 ≤ (117 : Int) from by omega) (show (99 : Int) ≤ 110 ∧ 110 ≤ (110 : Int) from by omega) (show (105 : Int) ≤ 117 ∧ 117 ≤ (117 : Int) from by omega) (show (101 : Int) ≤ 116 ∧ 116 ≤ (116 : Int) from by omega) (show (100 : Int) ≤ 101 ∧ 101 ≤ (116 : Int) from by omega) (fun r72 => ?_)
                          refine sm_207 hI (fun z74 => ?_)
                          refine ⟨fun c40 => ?_, fun c40 => ?_⟩
                          · skip
                            exact hQ (-1) (show (-1 : Int) ≤ (-1) ∧ (-1) ≤ (12 : Int) from by omega)
                          · skip
                            exact hQ 12 (show (-1 : Int) ≤ 12 ∧ 12 ≤ (12 : Int) from by omega)
                        · skip
                          exact hQ 11 (show (-1 : Int) ≤ 11 ∧ 11 ≤ (12 : Int) from by omega)
                      · skip
                        exact hQ 10 (show (-1 : Int) ≤ 10 ∧ 10 ≤ (12 : Int) from by omega)
                    · skip
                      exact hQ 9 (show (-1 : Int) ≤ 9 ∧ 9 ≤ (12 : Int) from by omega)
                  · skip
                    exact hQ 8 (show (-1 : Int) ≤ 8 ∧ 8 ≤ (12 : Int) from by omega)
                · skip
                  exact hQ 7 (show (-1 : Int) ≤ 7 ∧ 7 ≤ (12 : Int) from by omega)
              · skip
                exact hQ 6 (show (-1 : Int) ≤ 6 ∧ 6 ≤ (12 : Int) from by omega)
            · skip
              exact hQ 5 (show (-1 : Int) ≤ 5 ∧ 5 ≤ (12 : Int) from by omega)
          · skip
            exact hQ 4 (show (-1 : Int) ≤ 4 ∧ 4 ≤ (12 : Int) from by omega)
        · skip
          exact hQ 3 (show (-1 : Int) ≤ 3 ∧ 3 ≤ (12 : Int) from by omega)
      · skip
        exact hQ 2 (show (-1 : Int) ≤ 2 ∧ 2 ≤ (12 : Int) from by omega)
    · skip
      exact hQ 1 (show (-1 : Int) ≤ 1 ∧ 1 ≤ (12 : Int) from by omega)
  · skip
    exact hQ 0 (show (-1 : Int) ≤ 0 ∧ 0 ≤ (12 : Int) from by omega)
-- fm_230 Model.nameOf 95
theorem sm_230 {Q : Int → lf_Z → Prop} {s : lf_Z} (hI : iv_A s.1 s.2.2) (hQ : ∀ (r : Int), ((-1) ≤ r ∧ r ≤ 10) → Q r s) : fm_230 Q s := by
  unfold fm_230
  have b1 : (-2147483648) ≤ s.1 95 9 ∧ s.1 95 9 ≤ 2147483647 := iv_full hI
  refine ⟨(show lf_R (s.1 95 9) from lf_Rof (by omega)), ?_⟩
  refine ⟨fun c2 => ?_, fun c2 => ?_⟩
  · skip
    have c2 : s.1 95 9 = 2 := c2
    refine sm_204 hI (show (97 : Int) ≤ 115 ∧ 115 ≤ (116 : Int) from by omega) (show (97 : Int) ≤ 105 ∧ 105 ≤ (117 : Int) from by omega) (show (97 : Int) ≤ 122 ∧ 122 ≤ (122 : Int) from by omega) (show (97 : Int) ≤ 101 ∧ 101 ≤ (117 : Int) from by omega) (fun r23 => ?_)
    refine ⟨fun c4 => ?_, fun c4 => ?_⟩
    · have c4 : lf_wl (s.2.1 95 11) ≠ lf_wl r23 := c4
      refine sm_208 hI (show (97 : Int) ≤ 112 ∧ 112 ≤ (116 : Int) from by omega) (show (97 : Int) ≤ 108 ∧ 108 ≤ (117 : Int) from by omega) (show (97 : Int) ≤ 97 ∧ 97 ≤ (114 : Int) from by omega) (show (97 : Int) ≤ 99 ∧ 99 ≤ (117 : Int) from by omega) (show (100 : Int) ≤ 101 ∧ 101 ≤ (121 : Int) from by omega) (fun r25 => ?_)
      refine ⟨fun c6 => ?_, fun c6 => ?_⟩
      · have c6 : lf_wl (s.2.1 95 11) ≠ lf_wl r25 := c6
        refine sm_204 hI (show (97 : Int) ≤ 107 ∧ 107 ≤ (116 : Int) from by omega) (show (97 : Int) ≤ 105 ∧ 105 ≤ (117 : Int) from by omega) (show (97 : Int) ≤ 110 ∧ 110 ≤ (122 : Int) from by omega) (show (97 : Int) ≤ 100 ∧ 100 ≤ (117 : Int) from by omega) (fun r27 => ?_)
        refine ⟨fun c8 => ?_, fun c8 => ?_⟩
        · have c8 : lf_wl (s.2.1 95 11) ≠ lf_wl r27 := c8
          refine sm_204 hI (show (97 : Int) ≤ 104 ∧ 104 ≤ (116 : Int) from by omega) (show (97 : Int) ≤ 101 ∧ 101 ≤ (117 : Int) from by omega) (show (97 : Int) ≤ 114 ∧ 114 ≤ (122 : Int) from by omega) (show (97 : Int) ≤ 101 ∧ 101 ≤ (117 : Int) from by omega) (fun r29 => ?_)
          refine ⟨fun c10 => ?_, fun c10 => ?_⟩
          · have c10 : lf_wl (s.2.1 95 11) ≠ lf_wl r29 := c10
            refine sm_209 hI (show (98 : Int) ≤ 98 ∧ 98 ≤ (109 : Int) from by omega) (show (101 : Int) ≤ 101 ∧ 101 ≤ (117 : Int) from by omega) (show (99 : Int) ≤ 104 ∧ 104 ≤ (110 : Int) from by omega) (show (105 : Int) ≤ 105 ∧ 105 ≤ (117 : Int) from by omega) (show (101 : Int) ≤ 110 ∧ 110 ≤ (116 : Int) from by omega) (show (100 : Int) ≤ 100 ∧ 100 ≤ (116 : Int) from by omega) (fun r31 => ?_)
            refine ⟨fun c12 => ?_, fun c12 => ?_⟩
            · have c12 : lf_wl (s.2.1 95 11) ≠ lf_wl r31 := c12
              refine sm_208 hI (show (97 : Int) ≤ 97 ∧ 97 ≤ (116 : Int) from by omega) (show (97 : Int) ≤ 104 ∧ 104 ≤ (117 : Int) from by omega) (show (97 : Int) ≤ 101 ∧ 101 ≤ (114 : Int) from by omega) (show (97 : Int) ≤ 97 ∧ 97 ≤ (117 : Int) from by omega) (show (100 : Int) ≤ 100 ∧ 100 ≤ (121 : Int) from by omega) (fun r33 => ?_)
              refine ⟨fun c14 => ?_, fun c14 => ?_⟩
              · have c14 : lf_wl (s.2.1 95 11) ≠ lf_wl r33 := c14
                refine sm_208 hI (show (97 : Int) ≤ 115 ∧ 115 ≤ (116 : Int) from by omega) (show (97 : Int) ≤ 116 ∧ 116 ≤ (117 : Int) from by omega) (show (97 : Int) ≤ 111 ∧ 111 ≤ (114 : Int) from by omega) (show (97 : Int) ≤ 111 ∧ 111 ≤ (117 : Int) from by omega) (show (100 : Int) ≤ 100 ∧ 100 ≤ (121 : Int) from by omega) (fun r35 => ?_)
                refine ⟨fun c16 => ?_, fun c16 => ?_⟩
                · have c16 : lf_wl (s.2.1 95 11) ≠ lf_wl r35 := c16
                  refine sm_209 hI (show (98 : Int) ≤ 98 ∧ 98 ≤ (109 : Int) from by omega) (show (101 : Int) ≤ 117 ∧ 117 ≤ (117 : Int) from by omega) (show (99 : Int) ≤ 99 ∧ 99 ≤ (110 : Int) from by omega) (show (105 : Int) ≤ 107 ∧ 107 ≤ (117 : Int) from by omega) (show (101 : Int) ≤ 101 ∧ 101 ≤ (116 : Int) from by omega) (show (100 : Int) ≤ 116 ∧ 116 ≤ (116 : Int) from by omega) (fun r37 => ?_)
                  refine ⟨fun c18 => ?_, fun c18 => ?_⟩
                  · have c18 : lf_wl (s.2.1 95 11) ≠ lf_wl r37 := c18
                    refine sm_204 hI (show (97 : Int) ≤ 98 ∧ 98 ≤ (116 : Int) from by omega) (show (97 : Int) ≤ 97 ∧ 97 ≤ (117 : Int) from by omega) (show (97 : Int) ≤ 99 ∧ 99 ≤ (122 : Int) from by omega) (show (97 : Int) ≤ 107 ∧ 107 ≤ (117 : Int) from by omega) (fun r39 => ?_)
                    refine ⟨fun c20 => ?_, fun c20 => ?_⟩
                    · have c20 : lf_wl (s.2.1 95 11) ≠ lf_wl r39 := c20
                      refine sm_205 hI (show (97 : Int) ≤ 119 ∧ 119 ≤ (119 : Int) from by omega) (show (97 : Int) ≤ 97 ∧ 97 ≤ (117 : Int) from by omega) (show (97 : Int) ≤ 121 ∧ 121 ≤ (122 : Int) from by omega) (fun r41 => ?_)
                      refine ⟨fun c22 => ?_, fun c22 => ?_⟩
                      · have c22 : lf_wl (s.2.1 95 11) ≠ lf_wl r41 := c22
                        refine sm_204 hI (show (97 : Int) ≤ 100 ∧ 100 ≤ (116 : Int) from by omega) (show (97 : Int) ≤ 111 ∧ 111 ≤ (117 : Int) from by omega) (show (97 : Int) ≤ 110 ∧ 110 ≤ (122 : Int) from by omega) (show (97 : Int) ≤ 101 ∧ 101 ≤ (117 : Int) from by omega) (fun r43 => ?_)
                        refine ⟨fun c24 => ?_, fun c24 => ?_⟩
                        · have c24 : lf_wl (s.2.1 95 11) ≠ lf_wl r43 := c24
                          exact hQ (-1) (show (-1 : Int) ≤ (-1) ∧ (-1) ≤ (10 : Int) from by omega)
                        · have c24 : ¬ (lf_wl (s.2.1 95 11) ≠ lf_wl r43) := c24
                          exact hQ 10 (show (-1 : Int) ≤ 10 ∧ 10 ≤ (10 : Int) from by omega)
                      · have c22 : ¬ (lf_wl (s.2.1 95 11) ≠ lf_wl r41) := c22
                        exact hQ 9 (show (-1 : Int) ≤ 9 ∧ 9 ≤ (10 : Int) from by omega)
                    · have c20 : ¬ (lf_wl (s.2.1 95 11) ≠ lf_wl r39) := c20
                      exact hQ 8 (show (-1 : Int) ≤ 8 ∧ 8 ≤ (10 : Int) from by omega)
                  · have c18 : ¬ (lf_wl (s.2.1 95 11) ≠ lf_wl r37) := c18
                    exact hQ 7 (show (-1 : Int) ≤ 7 ∧ 7 ≤ (10 : Int) from by omega)
                · have c16 : ¬ (lf_wl (s.2.1 95 11) ≠ lf_wl r35) := c16
                  exact hQ 6 (show (-1 : Int) ≤ 6 ∧ 6 ≤ (10 : Int) from by omega)
              · have c14 : ¬ (lf_wl (s.2.1 95 11) ≠ lf_wl r33) := c14
                exact hQ 5 (show (-1 : Int) ≤ 5 ∧ 5 ≤ (10 : Int) from by omega)
            · have c12 : ¬ (lf_wl (s.2.1 95 11) ≠ lf_wl r31) := c12
              exact hQ 4 (show (-1 : Int) ≤ 4 ∧ 4 ≤ (10 : Int) from by omega)
          · have c10 : ¬ (lf_wl (s.2.1 95 11) ≠ lf_wl r29) := c10
            exact hQ 3 (show (-1 : Int) ≤ 3 ∧ 3 ≤ (10 : Int) from by omega)
        · have c8 : ¬ (lf_wl (s.2.1 95 11) ≠ lf_wl r27) := c8
          exact hQ 2 (show (-1 : Int) ≤ 2 ∧ 2 ≤ (10 : Int) from by omega)
      · have c6 : ¬ (lf_wl (s.2.1 95 11) ≠ lf_wl r25) := c6
        exact hQ 1 (show (-1 : Int) ≤ 1 ∧ 1 ≤ (10 : Int) from by omega)
    · have c4 : ¬ (lf_wl (s.2.1 95 11) ≠ lf_wl r23) := c4
      exact hQ 0 (show (-1 : Int) ≤ 0 ∧ 0 ≤ (10 : Int) from by omega)
  · skip
    have c2 : ¬ (s.1 95 9 = 2) := c2
    exact hQ (-1) (show (-1 : Int) ≤ (-1) ∧ (-1) ≤ (10 : Int) from by omega)
-- fm_232 Model.letter 95
theorem sm_232 {Q : Int → lf_Z → Prop} {s : lf_Z} (hI : iv_A s.1 s.2.2) (hQ : ∀ (r : Int), ((-98) ≤ r ∧ r ≤ 158) → Q r s) : fm_232 Q s := by
  unfold fm_232
  have b1 : (-2147483648) ≤ s.1 95 9 ∧ s.1 95 9 ≤ 2147483647 := iv_full hI
  refine ⟨(show lf_R (s.1 95 9) from lf_Rof (by omega)), ?_⟩
  refine ⟨fun c2 => ?_, fun c2 => ?_⟩
  · skip
    have c2 : s.1 95 9 ≠ 2 := c2
    exact hQ (-1) (show (-98 : Int) ≤ (-1) ∧ (-1) ≤ (158 : Int) from by omega)
  · skip
    have c2 : ¬ (s.1 95 9 ≠ 2) := c2
    have b3 : 0 ≤ s.1 95 7 ∧ s.1 95 7 ≤ 300 := iv_r95_7 hI
    have b4 : 0 ≤ s.1 95 8 ∧ s.1 95 8 ≤ 300 := iv_r95_8 hI
    refine ⟨(show lf_R ((s.1 95 7) - (s.1 95 8)) from lf_Rof (by omega)), ?_⟩
    refine ⟨fun c5 => ?_, fun c5 => ?_⟩
    · skip
      have c5 : (s.1 95 7) - (s.1 95 8) ≠ 1 := c5
      exact hQ (-1) (show (-98 : Int) ≤ (-1) ∧ (-1) ≤ (158 : Int) from by omega)
    · skip
      have c5 : ¬ ((s.1 95 7) - (s.1 95 8) ≠ 1) := c5
      refine sm_198 hI (show (0 : Int) ≤ s.1 95 8 ∧ s.1 95 8 ≤ (300 : Int) from by omega) (fun r24 q6 => ?_)
      obtain ⟨q6, q6x⟩ := q6
      have q6x : r24 < 0 ∨ (s.1 95 8) < s.1 95 4 := q6x
      have b7 : 0 ≤ s.1 95 4 ∧ s.1 95 4 ≤ 300 := iv_r95_4 hI
      refine sm_183 hI (show (-2147483648 : Int) ≤ r24 ∧ r24 ≤ (2147483647 : Int) from by omega) (show (-1 : Int) ≤ 97 ∧ 97 ≤ (97 : Int) from by omega) (show (-2147483648 : Int) ≤ 122 ∧ 122 ≤ (2147483647 : Int) from by omega) (fun z26 q8 => ?_)
      refine ⟨fun c9 => ?_, fun c9 => ?_⟩
      · skip
        have dc9 := q8.2 c9
        exact hQ (-1) (show (-98 : Int) ≤ (-1) ∧ (-1) ≤ (158 : Int) from by omega)
      · skip
        have dc9 := q8.1 c9
        refine sm_198 hI (show (0 : Int) ≤ s.1 95 8 ∧ s.1 95 8 ≤ (300 : Int) from by omega) (fun r28 q10 => ?_)
        obtain ⟨q10, q10x⟩ := q10
        have q10x : r28 < 0 ∨ (s.1 95 8) < s.1 95 4 := q10x
        have b11 : 0 ≤ s.1 95 4 ∧ s.1 95 4 ≤ 300 := iv_r95_4 hI
        exact hQ (r28 - 97) (show (-98 : Int) ≤ r28 - 97 ∧ r28 - 97 ≤ (158 : Int) from by omega)
-- fm_225 Model.emit 95 i i
theorem sm_225 {a1 : Int} {a2 : Int} {Q : lf_Z → Prop} {s : lf_Z} (hI : iv_A s.1 s.2.2) (ba1 : 0 ≤ a1 ∧ a1 ≤ 45) (ba2 : (-2147483648) ≤ a2 ∧ a2 ≤ 2147483647) (hQ : ∀  (s' : lf_Z), iv_A s'.1 s'.2.2 → lf_fq [95, 98] 1000000 true s.1 s.2.2 s'.1 s'.2.2 → Q  s') : fm_225 a1 a2 Q s := sorry
-- fm_222 Model.rank i
theorem sm_222 {a0 : Int} {Q : Int → lf_Z → Prop} {s : lf_Z} (hI : iv_A s.1 s.2.2) (ba0 : 0 ≤ a0 ∧ a0 ≤ 45) (hQ : ∀ (r : Int), (0 ≤ r ∧ r ≤ 7) → Q r s) : fm_222 a0 Q s := by
  unfold fm_222
  refine ⟨(show lf_R a0 from lf_Rof (by omega)), ?_⟩
  refine ⟨fun c1 => ?_, fun c1 => ?_⟩
  · skip
    have c1 : a0 < 40 := c1
    refine ⟨fun c2 => ?_, fun c2 => ?_⟩
    · skip
      have c2 : a0 ≠ 22 := c2
      refine ⟨fun c3 => ?_, fun c3 => ?_⟩
      · skip
        have c3 : a0 ≠ 21 := c3
        refine ⟨fun c4 => ?_, fun c4 => ?_⟩
        · skip
          have c4 : a0 ≠ 20 := c4
          refine ⟨fun c5 => ?_, fun c5 => ?_⟩
          · skip
            have c5 : a0 < 10 := c5
            refine ⟨fun c6 => ?_, fun c6 => ?_⟩
            · skip
              have c6 : a0 ≠ 3 := c6
              refine ⟨fun c7 => ?_, fun c7 => ?_⟩
              · skip
                have c7 : a0 < 6 := c7
                exact hQ 5 (show (0 : Int) ≤ 5 ∧ 5 ≤ (7 : Int) from by omega)
              · skip
                have c7 : ¬ (a0 < 6) := c7
                exact hQ 6 (show (0 : Int) ≤ 6 ∧ 6 ≤ (7 : Int) from by omega)
            · skip
              have c6 : ¬ (a0 ≠ 3) := c6
              exact hQ 7 (show (0 : Int) ≤ 7 ∧ 7 ≤ (7 : Int) from by omega)
          · skip
            have c5 : ¬ (a0 < 10) := c5
            exact hQ 4 (show (0 : Int) ≤ 4 ∧ 4 ≤ (7 : Int) from by omega)
        · skip
          have c4 : ¬ (a0 ≠ 20) := c4
          exact hQ 3 (show (0 : Int) ≤ 3 ∧ 3 ≤ (7 : Int) from by omega)
      · skip
        have c3 : ¬ (a0 ≠ 21) := c3
        exact hQ 2 (show (0 : Int) ≤ 2 ∧ 2 ≤ (7 : Int) from by omega)
    · skip
      have c2 : ¬ (a0 ≠ 22) := c2
      exact hQ 1 (show (0 : Int) ≤ 1 ∧ 1 ≤ (7 : Int) from by omega)
  · skip
    have c1 : ¬ (a0 < 40) := c1
    exact hQ 0 (show (0 : Int) ≤ 0 ∧ 0 ≤ (7 : Int) from by omega)
-- fm_224 Model.settle 95 i
theorem sm_224_p76 {X0 : lf_Z → Prop} {Q : lf_Z → Prop} {x1 : Int} {s : lf_Z} (hQ : ∀  (s' : lf_Z), iv_A s'.1 s'.2.2 → lf_fq [95, 98] 1000000 true s.1 s.2.2 s'.1 s'.2.2 → Q  s') {M0 : Nat} (hX0 : ∀ (s' : lf_Z), iv_A s'.1 s'.2.2 → lf_fq [95, 98] 1000000 true s.1 s.2.2 s'.1 s'.2.2 → (s'.1 95 19).toNat < M0 → X0 s') (hM0 : (s.1 95 19).toNat ≤ M0) (hI : iv_A s.1 s.2.2) (bx1 : 0 ≤ x1 ∧ x1 ≤ 7) : fm_224_p76 X0 Q x1 s := sorry
theorem sm_224_p0 {X0 : lf_Z → Prop} {Q : lf_Z → Prop} {x1 : Int} {s : lf_Z} (hQ : ∀  (s' : lf_Z), iv_A s'.1 s'.2.2 → lf_fq [95, 98] 1000000 true s.1 s.2.2 s'.1 s'.2.2 → Q  s') {M0 : Nat} (hX0 : ∀ (s' : lf_Z), iv_A s'.1 s'.2.2 → lf_fq [95, 98] 1000000 true s.1 s.2.2 s'.1 s'.2.2 → (s'.1 95 19).toNat < M0 → X0 s') (hM0 : (s.1 95 19).toNat ≤ M0) (hI : iv_A s.1 s.2.2) (bx1 : 0 ≤ x1 ∧ x1 ≤ 7) : fm_224_p0 Q x1 X0 s := sorry
theorem sm_224_p0L {Q : lf_Z → Prop} {x1 : Int} {s : lf_Z} (hQ : ∀  (s' : lf_Z), iv_A s'.1 s'.2.2 → lf_fq [95, 98] 1000000 true s.1 s.2.2 s'.1 s'.2.2 → Q  s') (hI : iv_A s.1 s.2.2) (bx1 : 0 ≤ x1 ∧ x1 ≤ 7) : fm_224_p0L Q x1 s := by
  intro X0 hX
  have key : ∀ (m9 : Nat) (s' : lf_Z), iv_A s'.1 s'.2.2 → lf_fq [95, 98] 1000000 true s.1 s.2.2 s'.1 s'.2.2 → (s'.1 95 19).toNat < m9 → X0 s' := by
    intro m9
    induction m9 with
    | zero => intro  s' _ _  h9; exact absurd h9 (Nat.not_lt_zero _)
    | succ m9 ih => intro  s' i7 f7  h9; exact hX  _ (sm_224_p0 (fun t9 i9 f9 => hQ t9 i9 (lf_fq_tr f7 f9))   (fun  t8 i8 f8  h8 => ih  t8 i8 (lf_fq_tr f7 f8)  (by omega)) (Nat.le_refl _)  i7  bx1  )
  exact key _  s hI lf_fq_rf  (Nat.lt_succ_self _)
theorem sm_224 {a1 : Int} {Q : lf_Z → Prop} {s : lf_Z} (hI : iv_A s.1 s.2.2) (ba1 : 0 ≤ a1 ∧ a1 ≤ 7) (hQ : ∀  (s' : lf_Z), iv_A s'.1 s'.2.2 → lf_fq [95, 98] 1000000 true s.1 s.2.2 s'.1 s'.2.2 → Q  s') : fm_224 a1 Q s := by
  unfold fm_224
  exact sm_224_p0L hQ hI (show (0 : Int) ≤ a1 ∧ a1 ≤ (7 : Int) from by omega)
-- fm_233 Model.one 95 i i
theorem sm_233 {a1 : Int} {a2 : Int} {Q : lf_Z → Prop} {s : lf_Z} (hI : iv_A s.1 s.2.2) (ba1 : 0 ≤ a1 ∧ a1 ≤ 31) (ba2 : (-2147483648) ≤ a2 ∧ a2 ≤ 2147483647) (hQ : ∀  (s' : lf_Z), iv_A s'.1 s'.2.2 → lf_fq [95, 98] 1000000 true s.1 s.2.2 s'.1 s'.2.2 → Q  s') : fm_233 a1 a2 Q s := by
  unfold fm_233
  refine sm_225 hI (show (0 : Int) ≤ a1 ∧ a1 ≤ (45 : Int) from by omega) (show (-2147483648 : Int) ≤ a2 ∧ a2 ≤ (2147483647 : Int) from by omega) (fun s21 hI2 fr1 => ?_)
  have fr4 : lf_fq [95, 98] 1000000 true s.1 s.2.2 s21.1 s21.2.2 := lf_fq_tr (lf_fq_rf) (lf_fq_wk fr1 rfl (by decide) (by decide))
  refine sm_197 hI2 (fun s22 hI6 fr5 => ?_)
  have fr8 : lf_fq [95, 98] 1000000 true s.1 s.2.2 s22.1 s22.2.2 := lf_fq_tr fr4 (lf_fq_wk fr5 rfl (by decide) (by decide))
  have hI9 : iv_A (lf_up s22.1 95 23 1) s22.2.2 := iv_w95_23 hI6 (by omega)
  have fr10 : lf_fq [95, 98] 1000000 true s.1 s.2.2 (lf_up s22.1 95 23 1) s22.2.2 := lf_fq_up fr8 rfl (fun h => absurd h (by decide))
  refine sm_224 hI9 (show (0 : Int) ≤ 7 ∧ 7 ≤ (7 : Int) from by omega) (fun s23 hI12 fr11 => ?_)
  have fr14 : lf_fq [95, 98] 1000000 true s.1 s.2.2 s23.1 s23.2.2 := lf_fq_tr fr10 (lf_fq_wk fr11 rfl (by decide) (by decide))
  exact hQ s23 hI12 fr14
-- fm_220 Model.openAt 95
theorem sm_220_p7 {X7 : Int → lf_Z → Prop} {Q : Int → lf_Z → Prop} {x1 : Int} {s : lf_Z} (hQ : ∀ (r : Int), ((-1) ≤ r ∧ r ≤ 159) → Q r s) {M7 : Nat} (hX7 : ∀ (x1 : Int), (-1) ≤ x1 ∧ x1 ≤ 159 → (x1 - (-1)).toNat < M7 → X7 x1 s) (hM7 : (x1 - (-1)).toNat ≤ M7) (hI : iv_A s.1 s.2.2) (bx1 : (-1) ≤ x1 ∧ x1 ≤ 159) : fm_220_p7 Q X7 x1 s := by
  unfold fm_220_p7
  refine ⟨(show lf_R x1 from lf_Rof (by omega)), ?_⟩
  refine ⟨fun c2 => ?_, fun c2 => ?_⟩
  · skip
    have c2 : x1 < 0 := c2
    exact hQ x1 (show (-1 : Int) ≤ x1 ∧ x1 ≤ (159 : Int) from by omega)
  · skip
    have c2 : ¬ (x1 < 0) := c2
    refine ⟨(show (0 : Int) ≤ x1 ∧ x1 < (160 : Int) from by omega), ?_⟩
    have b3 : 0 ≤ s.1 100 x1 ∧ s.1 100 x1 ≤ 45 := iv_r100 hI _
    refine ⟨(show lf_R (s.1 100 x1) from lf_Rof (by omega)), ?_⟩
    refine ⟨fun c4 => ?_, fun c4 => ?_⟩
    · skip
      have c4 : 40 ≤ s.1 100 x1 := c4
      exact hQ x1 (show (-1 : Int) ≤ x1 ∧ x1 ≤ (159 : Int) from by omega)
    · skip
      have c4 : ¬ (40 ≤ s.1 100 x1) := c4
      exact hX7 (x1 + (-1)) (show (-1 : Int) ≤ x1 + (-1) ∧ x1 + (-1) ≤ (159 : Int) from by omega) (show ((x1 + (-1)) - (-1)).toNat < M7 from by omega)
theorem sm_220_p7L {Q : Int → lf_Z → Prop} {x1 : Int} {s : lf_Z} (hQ : ∀ (r : Int), ((-1) ≤ r ∧ r ≤ 159) → Q r s) (hI : iv_A s.1 s.2.2) (bx1 : (-1) ≤ x1 ∧ x1 ≤ 159) : fm_220_p7L Q x1 s := by
  intro X7 hX
  have key : ∀ (m9 : Nat) (x1 : Int), (-1) ≤ x1 ∧ x1 ≤ 159 → (x1 - (-1)).toNat < m9 → X7 x1 s := by
    intro m9
    induction m9 with
    | zero => intro x1 bx1 h9; exact absurd h9 (Nat.not_lt_zero _)
    | succ m9 ih => intro x1 bx1 h9; exact hX _ _ (sm_220_p7 hQ   (fun x1' bx1' h8 => ih x1' bx1' (by omega)) (Nat.le_refl _)  hI  bx1  )
  exact key _ _ bx1   (Nat.lt_succ_self _)
theorem sm_220 {Q : Int → lf_Z → Prop} {s : lf_Z} (hI : iv_A s.1 s.2.2) (hQ : ∀ (r : Int), ((-1) ≤ r ∧ r ≤ 159) → Q r s) : fm_220 Q s := by
  unfold fm_220
  have b1 : 0 ≤ s.1 95 19 ∧ s.1 95 19 ≤ 160 := iv_r95_19 hI
  exact sm_220_p7L hQ hI (show (-1 : Int) ≤ (s.1 95 19) - 1 ∧ (s.1 95 19) - 1 ≤ (159 : Int) from by omega)
-- fm_219 Model.openNow 95
theorem sm_219 {Q : Int → lf_Z → Prop} {s : lf_Z} (hI : iv_A s.1 s.2.2) (hQ : ∀ (r : Int), ((-1) ≤ r ∧ r ≤ 45) → Q r s) : fm_219 Q s := sorry
-- fm_235 Model.isAskAhead 95
theorem sm_235 {Q : Bool → lf_Z → Prop} {s : lf_Z} (hI : iv_A s.1 s.2.2) (hQ : ∀ (z : Bool), Q z s) : fm_235 Q s := sorry
-- fm_234 Model.opened 95 i
theorem sm_234 {a1 : Int} {Q : Int → lf_Z → Prop} {s : lf_Z} (hI : iv_A s.1 s.2.2) (ba1 : 3 ≤ a1 ∧ a1 ≤ 44) (hQ : ∀ (r : Int) (s' : lf_Z), iv_A s'.1 s'.2.2 → lf_fq [95, 100, 101] 1000000 true s.1 s.2.2 s'.1 s'.2.2 → (0 ≤ r ∧ r ≤ 3) → Q r s') : fm_234 a1 Q s := sorry
-- fm_231 Model.isOf 95 i
theorem sm_231 {a1 : Int} {Q : Bool → lf_Z → Prop} {s : lf_Z} (hI : iv_A s.1 s.2.2) (ba1 : 0 ≤ a1 ∧ a1 ≤ 10) (hQ : ∀ (z : Bool), Q z s) : fm_231 a1 Q s := by
  unfold fm_231
  refine ⟨(show lf_R a1 from lf_Rof (by omega)), ?_⟩
  refine ⟨fun c1 => ?_, fun c1 => ?_⟩
  · skip
    have c1 : a1 < 4 := c1
    exact hQ true
  · skip
    have c1 : ¬ (a1 < 4) := c1
    refine ⟨fun c2 => ?_, fun c2 => ?_⟩
    · skip
      have c2 : a1 ≠ 4 := c2
      refine ⟨fun c3 => ?_, fun c3 => ?_⟩
      · skip
        have c3 : a1 ≠ 10 := c3
        have b4 : 0 ≤ s.1 95 14 ∧ s.1 95 14 ≤ 12 := iv_r95_14 hI
        refine ⟨(show lf_R (s.1 95 14) from lf_Rof (by omega)), ?_⟩
        refine ⟨fun c5 => ?_, fun c5 => ?_⟩
        · skip
          have c5 : s.1 95 14 ≠ 1 := c5
          exact hQ false
        · skip
          have c5 : ¬ (s.1 95 14 ≠ 1) := c5
          exact hQ true
      · skip
        have c3 : ¬ (a1 ≠ 10) := c3
        have b6 : 0 ≤ s.1 95 14 ∧ s.1 95 14 ≤ 12 := iv_r95_14 hI
        refine ⟨(show lf_R (s.1 95 14) from lf_Rof (by omega)), ?_⟩
        refine ⟨fun c7 => ?_, fun c7 => ?_⟩
        · skip
          have c7 : s.1 95 14 ≠ 2 := c7
          exact hQ false
        · skip
          have c7 : ¬ (s.1 95 14 ≠ 2) := c7
          exact hQ true
    · skip
      have c2 : ¬ (a1 ≠ 4) := c2
      have b8 : 0 ≤ s.1 95 14 ∧ s.1 95 14 ≤ 12 := iv_r95_14 hI
      refine ⟨(show lf_R (s.1 95 14) from lf_Rof (by omega)), ?_⟩
      refine ⟨fun c9 => ?_, fun c9 => ?_⟩
      · skip
        have c9 : s.1 95 14 ≠ 0 := c9
        exact hQ false
      · skip
        have c9 : ¬ (s.1 95 14 ≠ 0) := c9
        exact hQ true
-- fm_229 Model.beginOne 95
theorem sm_229_p79 {Q : Int → lf_Z → Prop} {x1 : Int} {s : lf_Z} (hQ : ∀ (r : Int) (s' : lf_Z), iv_A s'.1 s'.2.2 → lf_fq [95, 98, 100, 101] 1000000 true s.1 s.2.2 s'.1 s'.2.2 → (0 ≤ r ∧ r ≤ 5) → Q r s') (hI : iv_A s.1 s.2.2) (bx1 : (-1) ≤ x1 ∧ x1 ≤ 10) : fm_229_p79 Q x1 s := sorry
theorem sm_229_p60 {Q : Int → lf_Z → Prop} {x1 : Int} {s : lf_Z} (hQ : ∀ (r : Int) (s' : lf_Z), iv_A s'.1 s'.2.2 → lf_fq [95, 98, 100, 101] 1000000 true s.1 s.2.2 s'.1 s'.2.2 → (0 ≤ r ∧ r ≤ 5) → Q r s') (hI : iv_A s.1 s.2.2) (bx1 : (-1) ≤ x1 ∧ x1 ≤ 10) : fm_229_p60 Q x1 s := by
  unfold fm_229_p60
  have b7 : (-2147483648) ≤ s.1 95 9 ∧ s.1 95 9 ≤ 2147483647 := iv_full hI
  refine ⟨(show lf_R (s.1 95 9) from lf_Rof (by omega)), ?_⟩
  refine ⟨fun c8 => ?_, fun c8 => ?_⟩
  · skip
    have c8 : s.1 95 9 = 1 := c8
    exact sm_229_p79 hQ hI (show (-1 : Int) ≤ x1 ∧ x1 ≤ (10 : Int) from by omega)
  · skip
    have c8 : ¬ (s.1 95 9 = 1) := c8
    refine ⟨(show lf_R x1 from lf_Rof (by omega)), ?_⟩
    refine ⟨fun c27 => ?_, fun c27 => ?_⟩
    · skip
      have c27 : 0 ≤ x1 := c27
      exact sm_229_p79 hQ hI (show (-1 : Int) ≤ x1 ∧ x1 ≤ (10 : Int) from by omega)
    · skip
      have c27 : ¬ (0 ≤ x1) := c27
      refine sm_232 hI (fun r39 q28 => ?_)
      refine ⟨(show lf_R r39 from lf_Rof (by omega)), ?_⟩
      refine ⟨fun c29 => ?_, fun c29 => ?_⟩
      · skip
        have c29 : r39 < 0 := c29
        refine ⟨(show lf_R (s.1 95 9) from lf_Rof (by omega)), ?_⟩
        refine ⟨fun c30 => ?_, fun c30 => ?_⟩
        · skip
          have c30 : s.1 95 9 ≠ 40 := c30
          refine ⟨fun c31 => ?_, fun c31 => ?_⟩
          · skip
            have c31 : s.1 95 9 ≠ 45 := c31
            refine sm_206 hI (show (97 : Int) ≤ 105 ∧ 105 ≤ (119 : Int) from by omega) (show (97 : Int) ≤ 102 ∧ 102 ≤ (121 : Int) from by omega) (fun r43 => ?_)
            refine sm_207 hI (fun z45 => ?_)
            refine ⟨fun c34 => ?_, fun c34 => ?_⟩
            · skip
              refine sm_205 hI (show (97 : Int) ≤ 108 ∧ 108 ≤ (119 : Int) from by omega) (show (97 : Int) ≤ 101 ∧ 101 ≤ (117 : Int) from by omega) (show (97 : Int) ≤ 116 ∧ 116 ≤ (122 : Int) from by omega) (fun r47 => ?_)
              refine sm_207 hI (fun z49 => ?_)
              refine ⟨fun c37 => ?_, fun c37 => ?_⟩
              · skip
                refine sm_205 hI (show (97 : Int) ≤ 110 ∧ 110 ≤ (119 : Int) from by omega) (show (97 : Int) ≤ 111 ∧ 111 ≤ (117 : Int) from by omega) (show (97 : Int) ≤ 116 ∧ 116 ≤ (122 : Int) from by omega) (fun r51 => ?_)
                refine sm_207 hI (fun z53 => ?_)
                refine ⟨fun c40 => ?_, fun c40 => ?_⟩
                · skip
                  exact hQ 1 s hI (lf_fq_rf) (show (0 : Int) ≤ 1 ∧ 1 ≤ (5 : Int) from by omega)
                · skip
                  refine sm_235 hI (fun z55 => ?_)
                  refine ⟨fun c42 => ?_, fun c42 => ?_⟩
                  · skip
                    exact hQ 1 s hI (lf_fq_rf) (show (0 : Int) ≤ 1 ∧ 1 ≤ (5 : Int) from by omega)
                  · skip
                    refine sm_234 hI (show (3 : Int) ≤ 20 ∧ 20 ≤ (44 : Int) from by omega) (fun r57 s56 hI44 fr43 q45 => ?_)
                    have fr46 : lf_fq [95, 98, 100, 101] 1000000 true s.1 s.2.2 s56.1 s56.2.2 := lf_fq_tr (lf_fq_rf) (lf_fq_wk fr43 rfl (by decide) (by decide))
                    exact hQ r57 s56 hI44 fr46 (show (0 : Int) ≤ r57 ∧ r57 ≤ (5 : Int) from by omega)
              · skip
                refine sm_234 hI (show (3 : Int) ≤ 44 ∧ 44 ≤ (44 : Int) from by omega) (fun r59 s58 hI48 fr47 q49 => ?_)
                have fr50 : lf_fq [95, 98, 100, 101] 1000000 true s.1 s.2.2 s58.1 s58.2.2 := lf_fq_tr (lf_fq_rf) (lf_fq_wk fr47 rfl (by decide) (by decide))
                exact hQ r59 s58 hI48 fr50 (show (0 : Int) ≤ r59 ∧ r59 ≤ (5 : Int) from by omega)
            · skip
              refine sm_234 hI (show (3 : Int) ≤ 41 ∧ 41 ≤ (44 : Int) from by omega) (fun r61 s60 hI52 fr51 q53 => ?_)
              have fr54 : lf_fq [95, 98, 100, 101] 1000000 true s.1 s.2.2 s60.1 s60.2.2 := lf_fq_tr (lf_fq_rf) (lf_fq_wk fr51 rfl (by decide) (by decide))
              exact hQ r61 s60 hI52 fr54 (show (0 : Int) ≤ r61 ∧ r61 ≤ (5 : Int) from by omega)
          · skip
            have c31 : ¬ (s.1 95 9 ≠ 45) := c31
            refine sm_234 hI (show (3 : Int) ≤ 3 ∧ 3 ≤ (44 : Int) from by omega) (fun r63 s62 hI56 fr55 q57 => ?_)
            have fr58 : lf_fq [95, 98, 100, 101] 1000000 true s.1 s.2.2 s62.1 s62.2.2 := lf_fq_tr (lf_fq_rf) (lf_fq_wk fr55 rfl (by decide) (by decide))
            exact hQ r63 s62 hI56 fr58 (show (0 : Int) ≤ r63 ∧ r63 ≤ (5 : Int) from by omega)
        · skip
          have c30 : ¬ (s.1 95 9 ≠ 40) := c30
          refine sm_234 hI (show (3 : Int) ≤ 40 ∧ 40 ≤ (44 : Int) from by omega) (fun r65 s64 hI60 fr59 q61 => ?_)
          have fr62 : lf_fq [95, 98, 100, 101] 1000000 true s.1 s.2.2 s64.1 s64.2.2 := lf_fq_tr (lf_fq_rf) (lf_fq_wk fr59 rfl (by decide) (by decide))
          exact hQ r65 s64 hI60 fr62 (show (0 : Int) ≤ r65 ∧ r65 ≤ (5 : Int) from by omega)
      · skip
        have c29 : ¬ (r39 < 0) := c29
        exact sm_229_p79 hQ hI (show (-1 : Int) ≤ x1 ∧ x1 ≤ (10 : Int) from by omega)
theorem sm_229_p39 {Q : Int → lf_Z → Prop} {x1 : Int} {s : lf_Z} (hQ : ∀ (r : Int) (s' : lf_Z), iv_A s'.1 s'.2.2 → lf_fq [95, 98, 100, 101] 1000000 true s.1 s.2.2 s'.1 s'.2.2 → (0 ≤ r ∧ r ≤ 5) → Q r s') (hI : iv_A s.1 s.2.2) (bx1 : (-1) ≤ x1 ∧ x1 ≤ 10) : fm_229_p39 Q x1 s := sorry
theorem sm_229_p20 {Q : Int → lf_Z → Prop} {s : lf_Z} (hQ : ∀ (r : Int) (s' : lf_Z), iv_A s'.1 s'.2.2 → lf_fq [95, 98, 100, 101] 1000000 true s.1 s.2.2 s'.1 s'.2.2 → (0 ≤ r ∧ r ≤ 5) → Q r s') (hI : iv_A s.1 s.2.2) : fm_229_p20 Q s := by
  unfold fm_229_p20
  refine sm_230 hI (fun r23 q3 => ?_)
  refine ⟨(show lf_R r23 from lf_Rof (by omega)), ?_⟩
  refine ⟨fun c4 => ?_, fun c4 => ?_⟩
  · skip
    have c4 : r23 < 0 := c4
    exact sm_229_p39 hQ hI (show (-1 : Int) ≤ r23 ∧ r23 ≤ (10 : Int) from by omega)
  · skip
    have c4 : ¬ (r23 < 0) := c4
    refine sm_231 hI (show (0 : Int) ≤ r23 ∧ r23 ≤ (10 : Int) from by omega) (fun z71 => ?_)
    refine ⟨fun c67 => ?_, fun c67 => ?_⟩
    · skip
      exact sm_229_p39 hQ hI (show (-1 : Int) ≤ r23 ∧ r23 ≤ (10 : Int) from by omega)
    · skip
      exact hQ 5 s hI (lf_fq_rf) (show (0 : Int) ≤ 5 ∧ 5 ≤ (5 : Int) from by omega)
theorem sm_229 {Q : Int → lf_Z → Prop} {s : lf_Z} (hI : iv_A s.1 s.2.2) (hQ : ∀ (r : Int) (s' : lf_Z), iv_A s'.1 s'.2.2 → lf_fq [95, 98, 100, 101] 1000000 true s.1 s.2.2 s'.1 s'.2.2 → (0 ≤ r ∧ r ≤ 5) → Q r s') : fm_229 Q s := by
  unfold fm_229
  have b1 : (-2147483648) ≤ s.1 95 9 ∧ s.1 95 9 ≤ 2147483647 := iv_full hI
  refine ⟨(show lf_R (s.1 95 9) from lf_Rof (by omega)), ?_⟩
  refine ⟨fun c2 => ?_, fun c2 => ?_⟩
  · skip
    have c2 : s.1 95 9 ≠ 1 := c2
    exact sm_229_p20 hQ hI
  · skip
    have c2 : ¬ (s.1 95 9 ≠ 1) := c2
    have b68 : (-2147483648) ≤ s.1 95 10 ∧ s.1 95 10 ≤ 2147483647 := iv_full hI
    refine ⟨(show lf_R (s.1 95 10) from lf_Rof (by omega)), ?_⟩
    refine ⟨fun c69 => ?_, fun c69 => ?_⟩
    · skip
      have c69 : s.1 95 10 ≤ 9999 := c69
      exact sm_229_p20 hQ hI
    · skip
      have c69 : ¬ (s.1 95 10 ≤ 9999) := c69
      exact hQ 2 s hI (lf_fq_rf) (show (0 : Int) ≤ 2 ∧ 2 ≤ (5 : Int) from by omega)
