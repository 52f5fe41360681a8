-- fm_28 ElevenBullocks.text 0
theorem sm_28 {Q : Int → lf_Z → Prop} {s : lf_Z} (hI : iv_A s.1 s.2.2) (hQ : ∀ (r : Int) (s' : lf_Z), iv_A s'.1 s'.2.2 → lf_fq [0, 31, 33, 35, 36, 37, 38, 39, 40, 41, 42, 43, 44, 45, 46, 47, 48, 49, 50, 51, 52, 53, 54, 55, 56, 57, 58, 59, 60, 61, 62] 1000000 false s.1 s.2.2 s'.1 s'.2.2 → ((-1) ≤ r ∧ r ≤ 3) → Q r s') : fm_28 Q s := by
  unfold fm_28
  have b1 : 0 ≤ s.1 0 11 ∧ s.1 0 11 ≤ 4 := iv_r0_11 hI
  refine ⟨(show lf_R (s.1 0 11) from lf_Rof (by omega)), ?_⟩
  refine ⟨fun c2 => ?_, fun c2 => ?_⟩
  · skip
    have c2 : s.1 0 11 < 4 := c2
    refine ⟨(show (0 : Int) ≤ s.1 0 11 ∧ s.1 0 11 < (4 : Int) from by omega), ?_⟩
    intro t23 et23
    have htt23 : t23 < 4 := by have e9 : t23 = (s.1 0 11).toNat := et23; omega
    refine sm_29 htt23 hI (fun z25 s24 hI4 fr3 => ?_)
    have fr6 : lf_fq [0, 31, 33, 35, 36, 37, 38, 39, 40, 41, 42, 43, 44, 45, 46, 47, 48, 49, 50, 51, 52, 53, 54, 55, 56, 57, 58, 59, 60, 61, 62] 1000000 false s.1 s.2.2 s24.1 s24.2.2 := lf_fq_tr (lf_fq_rf) (lf_fq_wk fr3 rfl (by decide) (by decide))
    refine ⟨fun c7 => ?_, fun c7 => ?_⟩
    · skip
      have b8 : 0 ≤ s24.1 0 11 ∧ s24.1 0 11 ≤ 4 := iv_r0_11 hI4
      have b9 : s24.1 0 11 = s.1 0 11 := congrFun (fr3.1 0 rfl) _
      have hI10 : iv_A (lf_up s24.1 0 11 ((s24.1 0 11) + 1)) s24.2.2 := iv_w0_11 hI4 (by omega)
      have fr11 : lf_fq [0, 31, 33, 35, 36, 37, 38, 39, 40, 41, 42, 43, 44, 45, 46, 47, 48, 49, 50, 51, 52, 53, 54, 55, 56, 57, 58, 59, 60, 61, 62] 1000000 false s.1 s.2.2 (lf_up s24.1 0 11 ((s24.1 0 11) + 1)) s24.2.2 := lf_fq_up fr6 rfl (fun h => absurd h (by decide))
      exact hQ (((s24.1 0 11) + 1) - 1) (lf_up s24.1 0 11 ((s24.1 0 11) + 1), s24.2.1, s24.2.2) hI10 fr11 (show (-1 : Int) ≤ ((s24.1 0 11) + 1) - 1 ∧ ((s24.1 0 11) + 1) - 1 ≤ (3 : Int) from by omega)
    · skip
      exact hQ (-1) s24 hI4 fr6 (show (-1 : Int) ≤ (-1) ∧ (-1) ≤ (3 : Int) from by omega)
  · skip
    have c2 : ¬ (s.1 0 11 < 4) := c2
    exact hQ (-1) s hI (lf_fq_rf) (show (-1 : Int) ≤ (-1) ∧ (-1) ≤ (3 : Int) from by omega)
-- fm_198 Model.byteAt 95 i
theorem sm_198 {a1 : Int} {Q : Int → lf_Z → Prop} {s : lf_Z} (hI : iv_A s.1 s.2.2) (ba1 : 0 ≤ a1 ∧ a1 ≤ 300) (hQ : ∀ (r : Int), (((-1) ≤ r ∧ r ≤ 255) ∧ ((r = -1 ∧ s.1 95 4 ≤ a1) ∨ (a1 < s.1 95 4 ∧ r = s.1 99 a1))) → Q r s) : fm_198 a1 Q s := by
  unfold fm_198
  have b1 : 0 ≤ s.1 95 4 ∧ s.1 95 4 ≤ 300 := iv_r95_4 hI
  refine ⟨(show lf_R a1 from lf_Rof (by omega)), ?_⟩
  refine ⟨(show lf_R (s.1 95 4) from lf_Rof (by omega)), ?_⟩
  refine ⟨fun c2 => ?_, fun c2 => ?_⟩
  · skip
    have c2 : s.1 95 4 ≤ a1 := c2
    exact hQ (-1) ⟨(show (-1 : Int) ≤ (-1) ∧ (-1) ≤ (255 : Int) from by omega), (show ((-1) = -1 ∧ s.1 95 4 ≤ a1) ∨ (a1 < s.1 95 4 ∧ (-1) = s.1 99 a1) from by omega)⟩
  · skip
    have c2 : ¬ (s.1 95 4 ≤ a1) := c2
    refine ⟨(show (0 : Int) ≤ a1 ∧ a1 < (300 : Int) from by omega), ?_⟩
    have b3 : 0 ≤ s.1 99 a1 ∧ s.1 99 a1 ≤ 255 := iv_r99 hI _
    exact hQ (s.1 99 a1) ⟨(show (-1 : Int) ≤ s.1 99 a1 ∧ s.1 99 a1 ≤ (255 : Int) from by omega), (show (s.1 99 a1 = -1 ∧ s.1 95 4 ≤ a1) ∨ (a1 < s.1 95 4 ∧ s.1 99 a1 = s.1 99 a1) from by omega)⟩
-- fm_199 Model.isFigure i
theorem sm_199 {a0 : Int} {Q : Bool → lf_Z → Prop} {s : lf_Z} (hI : iv_A s.1 s.2.2) (ba0 : (-1) ≤ a0 ∧ a0 ≤ 255) (hQ : ∀ (z : Bool), ((z = true → (48 ≤ a0 ∧ a0 ≤ 57)) ∧ (z = false → ¬ (48 ≤ a0 ∧ a0 ≤ 57))) → Q z s) : fm_199 a0 Q s := by
  unfold fm_199
  refine ⟨(show lf_R a0 from lf_Rof (by omega)), ?_⟩
  refine ⟨fun c1 => ?_, fun c1 => ?_⟩
  · skip
    have c1 : a0 < 48 := c1
    exact hQ false (lf_pf (by omega))
  · skip
    have c1 : ¬ (a0 < 48) := c1
    refine ⟨fun c2 => ?_, fun c2 => ?_⟩
    · skip
      have c2 : 57 < a0 := c2
      exact hQ false (lf_pf (by omega))
    · skip
      have c2 : ¬ (57 < a0) := c2
      exact hQ true (lf_pt (by omega))
-- fm_200 Model.isLetterByte i
theorem sm_200_p12 {Q : Bool → lf_Z → Prop} {x0 : Int} {s : lf_Z} (hQ : ∀ (z : Bool), ((z = true → ((97 ≤ x0 ∧ x0 ≤ 122) ∨ 65 ≤ x0 ∧ x0 ≤ 90)) ∧ (z = false → ¬ ((97 ≤ x0 ∧ x0 ≤ 122) ∨ 65 ≤ x0 ∧ x0 ≤ 90))) → Q z s) (hI : iv_A s.1 s.2.2) (bx0 : (-1) ≤ x0 ∧ x0 ≤ 255) (kv0 : x0 < 97 ∨ 122 < x0) : fm_200_p12 Q x0 s := sorry
theorem sm_200 {a0 : Int} {Q : Bool → lf_Z → Prop} {s : lf_Z} (hI : iv_A s.1 s.2.2) (ba0 : (-1) ≤ a0 ∧ a0 ≤ 255) (hQ : ∀ (z : Bool), ((z = true → ((97 ≤ a0 ∧ a0 ≤ 122) ∨ 65 ≤ a0 ∧ a0 ≤ 90)) ∧ (z = false → ¬ ((97 ≤ a0 ∧ a0 ≤ 122) ∨ 65 ≤ a0 ∧ a0 ≤ 90))) → Q z s) : fm_200 a0 Q s := by
  unfold fm_200
  refine ⟨(show lf_R a0 from lf_Rof (by omega)), ?_⟩
  refine ⟨fun c1 => ?_, fun c1 => ?_⟩
  · skip
    have c1 : a0 < 97 := c1
    exact sm_200_p12 hQ hI (show (-1 : Int) ≤ a0 ∧ a0 ≤ (255 : Int) from by omega) (show a0 < 97 ∨ 122 < a0 from by omega)
  · skip
    have c1 : ¬ (a0 < 97) := c1
    refine ⟨fun c4 => ?_, fun c4 => ?_⟩
    · skip
      have c4 : a0 ≤ 122 := c4
      exact hQ true (lf_pt (by omega))
    · skip
      have c4 : ¬ (a0 ≤ 122) := c4
      exact sm_200_p12 hQ hI (show (-1 : Int) ≤ a0 ∧ a0 ≤ (255 : Int) from by omega) (show a0 < 97 ∨ 122 < a0 from by omega)
-- fm_201 Model.isSign i
theorem sm_201 {a0 : Int} {Q : Bool → lf_Z → Prop} {s : lf_Z} (hI : iv_A s.1 s.2.2) (ba0 : 0 ≤ a0 ∧ a0 ≤ 255) (hQ : ∀ (z : Bool), Q z s) : fm_201 a0 Q s := by
  unfold fm_201
  refine ⟨(show lf_R a0 from lf_Rof (by omega)), ?_⟩
  refine ⟨fun c1 => ?_, fun c1 => ?_, fun c1 => ?_, fun c1 => ?_, fun c1 => ?_, fun c1 => ?_, fun c1 => ?_, fun c1 => ?_, fun c1 => ?_, fun c1 => ?_, fun c1 => ?_, fun c1 => ?_, fun c1 => ?_, fun c1 => ?_, fun c1 => ?_, fun c1 => ?_, fun c1 => ?_, fun c1 => ?_, fun c1 => ?_, fun c1 => ?_, fun c1 => ?_, fun c1 => ?_, fun c1 => ?_, fun c1 => ?_, fun c1 => ?_, fun c1 => ?_, fun c1 => ?_, fun c1 => ?_, fun c1 => ?_⟩
  · have c1 : a0 < 35 ∨ 62 < a0 := c1
    exact hQ false
  · have c1 : a0 = 35 := c1
    exact hQ true
  · have c1 : a0 = 36 := c1
    exact hQ false
  · have c1 : a0 = 37 := c1
    exact hQ false
  · have c1 : a0 = 38 := c1
    exact hQ false
  · have c1 : a0 = 39 := c1
    exact hQ false
  · have c1 : a0 = 40 := c1
    exact hQ true
  · have c1 : a0 = 41 := c1
    exact hQ true
  · have c1 : a0 = 42 := c1
    exact hQ true
  · have c1 : a0 = 43 := c1
    exact hQ true
  · have c1 : a0 = 44 := c1
    exact hQ false
  · have c1 : a0 = 45 := c1
    exact hQ true
  · have c1 : a0 = 46 := c1
    exact hQ false
  · have c1 : a0 = 47 := c1
    exact hQ true
  · have c1 : a0 = 48 := c1
    exact hQ false
  · have c1 : a0 = 49 := c1
    exact hQ false
  · have c1 : a0 = 50 := c1
    exact hQ false
  · have c1 : a0 = 51 := c1
    exact hQ false
  · have c1 : a0 = 52 := c1
    exact hQ false
  · have c1 : a0 = 53 := c1
    exact hQ false
  · have c1 : a0 = 54 := c1
    exact hQ false
  · have c1 : a0 = 55 := c1
    exact hQ false
  · have c1 : a0 = 56 := c1
    exact hQ false
  · have c1 : a0 = 57 := c1
    exact hQ false
  · have c1 : a0 = 58 := c1
    exact hQ false
  · have c1 : a0 = 59 := c1
    exact hQ true
  · have c1 : a0 = 60 := c1
    exact hQ true
  · have c1 : a0 = 61 := c1
    exact hQ true
  · have c1 : a0 = 62 := c1
    exact hQ true
-- fm_197 Model.nextToken 95
theorem sm_197_p26 {X0 : lf_Z → Prop} {Q : lf_Z → Prop} {s : lf_Z} {s0 : lf_Z} (hQ : ∀  (s' : lf_Z), iv_A s'.1 s'.2.2 → lf_fq [95] 1000000 true s.1 s.2.2 s'.1 s'.2.2 → (s0.1 95 7 ≤ s'.1 95 8 ∧ (s'.1 95 9 = 0 ∨ s'.1 95 8 < s'.1 95 7)) → (s'.1 95 12 = s0.1 95 12 ∧ s'.1 95 13 = s0.1 95 13 ∧ s'.1 95 19 = s0.1 95 19 ∧ s'.1 95 20 = s0.1 95 20 ∧ s'.1 95 21 = s0.1 95 21 ∧ s'.1 95 22 = s0.1 95 22 ∧ s'.1 95 23 = s0.1 95 23) → Q  s') {M0 : Nat} (hX0 : ∀ (s' : lf_Z), iv_A s'.1 s'.2.2 → lf_fq [95] 1000000 true s.1 s.2.2 s'.1 s'.2.2 → (s0.1 95 7 ≤ s'.1 95 7) → (s'.1 95 12 = s0.1 95 12 ∧ s'.1 95 13 = s0.1 95 13 ∧ s'.1 95 19 = s0.1 95 19 ∧ s'.1 95 20 = s0.1 95 20 ∧ s'.1 95 21 = s0.1 95 21 ∧ s'.1 95 22 = s0.1 95 22 ∧ s'.1 95 23 = s0.1 95 23) → (300 - s'.1 95 7).toNat < M0 → X0 s') (hM0 : (300 - s.1 95 7).toNat ≤ M0) (hI : iv_A s.1 s.2.2) (kv0 : s.1 95 7 < 300) (kv1 : s0.1 95 7 ≤ s.1 95 7) (kv2 : s.1 95 12 = s0.1 95 12 ∧ s.1 95 13 = s0.1 95 13 ∧ s.1 95 19 = s0.1 95 19 ∧ s.1 95 20 = s0.1 95 20 ∧ s.1 95 21 = s0.1 95 21 ∧ s.1 95 22 = s0.1 95 22 ∧ s.1 95 23 = s0.1 95 23) : fm_197_p26 X0 Q s := by
  unfold fm_197_p26
  have b20 : 0 ≤ s.1 95 7 ∧ s.1 95 7 ≤ 300 := iv_r95_7 hI
  have hI21 : iv_A (lf_up s.1 95 7 ((s.1 95 7) + 1)) s.2.2 := iv_w95_7 hI (by omega)
  have fr22 : lf_fq [95] 1000000 true s.1 s.2.2 (lf_up s.1 95 7 ((s.1 95 7) + 1)) s.2.2 := lf_fq_up (lf_fq_rf) rfl (fun h => absurd h (by decide))
  have b23 : 0 ≤ s.1 95 12 ∧ s.1 95 12 ≤ 2115 := (show 0 ≤ (lf_up s.1 95 7 ((s.1 95 7) + 1)) 95 12 ∧ (lf_up s.1 95 7 ((s.1 95 7) + 1)) 95 12 ≤ 2115 from iv_r95_12 hI21)
  have b24 : (lf_up s.1 95 7 ((s.1 95 7) + 1)) 95 12 = s.1 95 12 := lf_up_i (by omega)
  have b25 : 0 ≤ s.1 95 13 ∧ s.1 95 13 ≤ 304 := (show 0 ≤ (lf_up s.1 95 7 ((s.1 95 7) + 1)) 95 13 ∧ (lf_up s.1 95 7 ((s.1 95 7) + 1)) 95 13 ≤ 304 from iv_r95_13 hI21)
  have b26 : (lf_up s.1 95 7 ((s.1 95 7) + 1)) 95 13 = s.1 95 13 := lf_up_i (by omega)
  have b27 : 0 ≤ s.1 95 19 ∧ s.1 95 19 ≤ 160 := (show 0 ≤ (lf_up s.1 95 7 ((s.1 95 7) + 1)) 95 19 ∧ (lf_up s.1 95 7 ((s.1 95 7) + 1)) 95 19 ≤ 160 from iv_r95_19 hI21)
  have b28 : (lf_up s.1 95 7 ((s.1 95 7) + 1)) 95 19 = s.1 95 19 := lf_up_i (by omega)
  have b29 : 0 ≤ s.1 95 20 ∧ s.1 95 20 ≤ 8 := (show 0 ≤ (lf_up s.1 95 7 ((s.1 95 7) + 1)) 95 20 ∧ (lf_up s.1 95 7 ((s.1 95 7) + 1)) 95 20 ≤ 8 from iv_r95_20 hI21)
  have b30 : (lf_up s.1 95 7 ((s.1 95 7) + 1)) 95 20 = s.1 95 20 := lf_up_i (by omega)
  have b31 : 0 ≤ s.1 95 21 ∧ s.1 95 21 ≤ 8 := (show 0 ≤ (lf_up s.1 95 7 ((s.1 95 7) + 1)) 95 21 ∧ (lf_up s.1 95 7 ((s.1 95 7) + 1)) 95 21 ≤ 8 from iv_r95_21 hI21)
  have b32 : (lf_up s.1 95 7 ((s.1 95 7) + 1)) 95 21 = s.1 95 21 := lf_up_i (by omega)
  have b33 : 0 ≤ s.1 95 22 ∧ s.1 95 22 ≤ 80 := (show 0 ≤ (lf_up s.1 95 7 ((s.1 95 7) + 1)) 95 22 ∧ (lf_up s.1 95 7 ((s.1 95 7) + 1)) 95 22 ≤ 80 from iv_r95_22 hI21)
  have b34 : (lf_up s.1 95 7 ((s.1 95 7) + 1)) 95 22 = s.1 95 22 := lf_up_i (by omega)
  have b35 : 0 ≤ s.1 95 23 ∧ s.1 95 23 ≤ 1 := (show 0 ≤ (lf_up s.1 95 7 ((s.1 95 7) + 1)) 95 23 ∧ (lf_up s.1 95 7 ((s.1 95 7) + 1)) 95 23 ≤ 1 from iv_r95_23 hI21)
  have b36 : (lf_up s.1 95 7 ((s.1 95 7) + 1)) 95 23 = s.1 95 23 := lf_up_i (by omega)
  exact hX0  (lf_up s.1 95 7 ((s.1 95 7) + 1), s.2.1, s.2.2) hI21 fr22 (show s0.1 95 7 ≤ ((s.1 95 7) + 1) from by omega) (show (s.1 95 12) = s0.1 95 12 ∧ (s.1 95 13) = s0.1 95 13 ∧ (s.1 95 19) = s0.1 95 19 ∧ (s.1 95 20) = s0.1 95 20 ∧ (s.1 95 21) = s0.1 95 21 ∧ (s.1 95 22) = s0.1 95 22 ∧ (s.1 95 23) = s0.1 95 23 from by omega) (show (300 - ((s.1 95 7) + 1)).toNat < M0 from by omega)
theorem sm_197_p297 {Q : lf_Z → Prop} {y1 : Int} {s : lf_Z} {s0 : lf_Z} (hQ : ∀  (s' : lf_Z), iv_A s'.1 s'.2.2 → lf_fq [95] 1000000 true s.1 s.2.2 s'.1 s'.2.2 → (s0.1 95 7 ≤ s'.1 95 8 ∧ (s'.1 95 9 = 0 ∨ s'.1 95 8 < s'.1 95 7)) → (s'.1 95 12 = s0.1 95 12 ∧ s'.1 95 13 = s0.1 95 13 ∧ s'.1 95 19 = s0.1 95 19 ∧ s'.1 95 20 = s0.1 95 20 ∧ s'.1 95 21 = s0.1 95 21 ∧ s'.1 95 22 = s0.1 95 22 ∧ s'.1 95 23 = s0.1 95 23) → Q  s') (hI : iv_A s.1 s.2.2) (by1 : 4 ≤ y1 ∧ y1 ≤ 5) (kv0 : s.1 95 7 < 300) (kv1 : s0.1 95 7 ≤ s.1 95 8 ∧ s.1 95 8 < s.1 95 7) (kv2 : s.1 95 12 = s0.1 95 12 ∧ s.1 95 13 = s0.1 95 13 ∧ s.1 95 19 = s0.1 95 19 ∧ s.1 95 20 = s0.1 95 20 ∧ s.1 95 21 = s0.1 95 21 ∧ s.1 95 22 = s0.1 95 22 ∧ s.1 95 23 = s0.1 95 23) : fm_197_p297 Q y1 s := by
  unfold fm_197_p297
  have hI111 : iv_A (lf_up s.1 95 9 y1) s.2.2 := iv_w95_9 hI (by omega)
  have fr112 : lf_fq [95] 1000000 true s.1 s.2.2 (lf_up s.1 95 9 y1) s.2.2 := lf_fq_up (lf_fq_rf) rfl (fun h => absurd h (by decide))
  have b113 : 0 ≤ s.1 95 7 ∧ s.1 95 7 ≤ 300 := (show 0 ≤ (lf_up s.1 95 9 y1) 95 7 ∧ (lf_up s.1 95 9 y1) 95 7 ≤ 300 from iv_r95_7 hI111)
  have b114 : (lf_up s.1 95 9 y1) 95 7 = s.1 95 7 := lf_up_i (by omega)
  have hI115 : iv_A (lf_up (lf_up s.1 95 9 y1) 95 7 ((s.1 95 7) + 1)) s.2.2 := iv_w95_7 hI111 (by omega)
  have fr116 : lf_fq [95] 1000000 true s.1 s.2.2 (lf_up (lf_up s.1 95 9 y1) 95 7 ((s.1 95 7) + 1)) s.2.2 := lf_fq_up fr112 rfl (fun h => absurd h (by decide))
  exact hQ (lf_up (lf_up s.1 95 9 y1) 95 7 ((s.1 95 7) + 1), s.2.1, s.2.2) hI115 fr116 (show s0.1 95 7 ≤ (s.1 95 8) ∧ (y1 = 0 ∨ (s.1 95 8) < ((s.1 95 7) + 1)) from by omega) (show (s.1 95 12) = s0.1 95 12 ∧ (s.1 95 13) = s0.1 95 13 ∧ (s.1 95 19) = s0.1 95 19 ∧ (s.1 95 20) = s0.1 95 20 ∧ (s.1 95 21) = s0.1 95 21 ∧ (s.1 95 22) = s0.1 95 22 ∧ (s.1 95 23) = s0.1 95 23 from by omega)
theorem sm_197_p272 {Q : lf_Z → Prop} {x1 : Int} {s : lf_Z} {s0 : lf_Z} (hQ : ∀  (s' : lf_Z), iv_A s'.1 s'.2.2 → lf_fq [95] 1000000 true s.1 s.2.2 s'.1 s'.2.2 → (s0.1 95 7 ≤ s'.1 95 8 ∧ (s'.1 95 9 = 0 ∨ s'.1 95 8 < s'.1 95 7)) → (s'.1 95 12 = s0.1 95 12 ∧ s'.1 95 13 = s0.1 95 13 ∧ s'.1 95 19 = s0.1 95 19 ∧ s'.1 95 20 = s0.1 95 20 ∧ s'.1 95 21 = s0.1 95 21 ∧ s'.1 95 22 = s0.1 95 22 ∧ s'.1 95 23 = s0.1 95 23) → Q  s') (hI : iv_A s.1 s.2.2) (bx1 : 60 ≤ x1 ∧ x1 ≤ 62) (kv0 : s0.1 95 7 ≤ s.1 95 8 ∧ s.1 95 8 < s.1 95 7) (kv1 : s.1 95 12 = s0.1 95 12 ∧ s.1 95 13 = s0.1 95 13 ∧ s.1 95 19 = s0.1 95 19 ∧ s.1 95 20 = s0.1 95 20 ∧ s.1 95 21 = s0.1 95 21 ∧ s.1 95 22 = s0.1 95 22 ∧ s.1 95 23 = s0.1 95 23) : fm_197_p272 Q x1 s := by
  unfold fm_197_p272
  have b98 : 0 ≤ s.1 95 7 ∧ s.1 95 7 ≤ 300 := iv_r95_7 hI
  refine sm_198 hI (show (0 : Int) ≤ s.1 95 7 ∧ s.1 95 7 ≤ (300 : Int) from by omega) (fun r38 q99 => ?_)
  obtain ⟨q99, q99x⟩ := q99
  have b100 : 0 ≤ s.1 95 4 ∧ s.1 95 4 ≤ 300 := iv_r95_4 hI
  have q99x : (r38 = -1 ∧ s.1 95 4 ≤ (s.1 95 7)) ∨ ((s.1 95 7) < s.1 95 4 ∧ r38 = s.1 99 (s.1 95 7)) := q99x
  refine ⟨(show lf_R r38 from lf_Rof (by omega)), ?_⟩
  refine ⟨fun c101 => ?_, fun c101 => ?_⟩
  · skip
    have c101 : r38 ≠ 61 := c101
    exact hQ s hI (lf_fq_rf) (show s0.1 95 7 ≤ (s.1 95 8) ∧ ((s.1 95 9) = 0 ∨ (s.1 95 8) < (s.1 95 7)) from by omega) (show (s.1 95 12) = s0.1 95 12 ∧ (s.1 95 13) = s0.1 95 13 ∧ (s.1 95 19) = s0.1 95 19 ∧ (s.1 95 20) = s0.1 95 20 ∧ (s.1 95 21) = s0.1 95 21 ∧ (s.1 95 22) = s0.1 95 22 ∧ (s.1 95 23) = s0.1 95 23 from by omega)
  · skip
    have c101 : ¬ (r38 ≠ 61) := c101
    refine ⟨(show lf_R x1 from lf_Rof (by omega)), ?_⟩
    refine ⟨fun c102 => ?_, fun c102 => ?_⟩
    · skip
      have c102 : x1 ≠ 60 := c102
      have b103 : 0 ≤ s.1 95 8 ∧ s.1 95 8 ≤ 300 := iv_r95_8 hI
      have b104 : 0 ≤ s.1 95 12 ∧ s.1 95 12 ≤ 2115 := iv_r95_12 hI
      have b105 : 0 ≤ s.1 95 13 ∧ s.1 95 13 ≤ 304 := iv_r95_13 hI
      have b106 : 0 ≤ s.1 95 19 ∧ s.1 95 19 ≤ 160 := iv_r95_19 hI
      have b107 : 0 ≤ s.1 95 20 ∧ s.1 95 20 ≤ 8 := iv_r95_20 hI
      have b108 : 0 ≤ s.1 95 21 ∧ s.1 95 21 ≤ 8 := iv_r95_21 hI
      have b109 : 0 ≤ s.1 95 22 ∧ s.1 95 22 ≤ 80 := iv_r95_22 hI
      have b110 : 0 ≤ s.1 95 23 ∧ s.1 95 23 ≤ 1 := iv_r95_23 hI
      exact sm_197_p297 (s0 := s0) hQ hI (show (4 : Int) ≤ 5 ∧ 5 ≤ (5 : Int) from by omega) (show (s.1 95 7) < 300 from by omega) (show s0.1 95 7 ≤ (s.1 95 8) ∧ (s.1 95 8) < (s.1 95 7) from by omega) (show (s.1 95 12) = s0.1 95 12 ∧ (s.1 95 13) = s0.1 95 13 ∧ (s.1 95 19) = s0.1 95 19 ∧ (s.1 95 20) = s0.1 95 20 ∧ (s.1 95 21) = s0.1 95 21 ∧ (s.1 95 22) = s0.1 95 22 ∧ (s.1 95 23) = s0.1 95 23 from by omega)
    · skip
      have c102 : ¬ (x1 ≠ 60) := c102
      have b117 : 0 ≤ s.1 95 8 ∧ s.1 95 8 ≤ 300 := iv_r95_8 hI
      have b118 : 0 ≤ s.1 95 12 ∧ s.1 95 12 ≤ 2115 := iv_r95_12 hI
      have b119 : 0 ≤ s.1 95 13 ∧ s.1 95 13 ≤ 304 := iv_r95_13 hI
      have b120 : 0 ≤ s.1 95 19 ∧ s.1 95 19 ≤ 160 := iv_r95_19 hI
      have b121 : 0 ≤ s.1 95 20 ∧ s.1 95 20 ≤ 8 := iv_r95_20 hI
      have b122 : 0 ≤ s.1 95 21 ∧ s.1 95 21 ≤ 8 := iv_r95_21 hI
      have b123 : 0 ≤ s.1 95 22 ∧ s.1 95 22 ≤ 80 := iv_r95_22 hI
      have b124 : 0 ≤ s.1 95 23 ∧ s.1 95 23 ≤ 1 := iv_r95_23 hI
      exact sm_197_p297 (s0 := s0) hQ hI (show (4 : Int) ≤ 4 ∧ 4 ≤ (5 : Int) from by omega) (show (s.1 95 7) < 300 from by omega) (show s0.1 95 7 ≤ (s.1 95 8) ∧ (s.1 95 8) < (s.1 95 7) from by omega) (show (s.1 95 12) = s0.1 95 12 ∧ (s.1 95 13) = s0.1 95 13 ∧ (s.1 95 19) = s0.1 95 19 ∧ (s.1 95 20) = s0.1 95 20 ∧ (s.1 95 21) = s0.1 95 21 ∧ (s.1 95 22) = s0.1 95 22 ∧ (s.1 95 23) = s0.1 95 23 from by omega)
theorem sm_197_p247 {Q : lf_Z → Prop} {x1 : Int} {y1 : Int} {s : lf_Z} {s0 : lf_Z} (hQ : ∀  (s' : lf_Z), iv_A s'.1 s'.2.2 → lf_fq [95] 1000000 true s.1 s.2.2 s'.1 s'.2.2 → (s0.1 95 7 ≤ s'.1 95 8 ∧ (s'.1 95 9 = 0 ∨ s'.1 95 8 < s'.1 95 7)) → (s'.1 95 12 = s0.1 95 12 ∧ s'.1 95 13 = s0.1 95 13 ∧ s'.1 95 19 = s0.1 95 19 ∧ s'.1 95 20 = s0.1 95 20 ∧ s'.1 95 21 = s0.1 95 21 ∧ s'.1 95 22 = s0.1 95 22 ∧ s'.1 95 23 = s0.1 95 23) → Q  s') (hI : iv_A s.1 s.2.2) (bx1 : 0 ≤ x1 ∧ x1 ≤ 255) (by1 : 0 ≤ y1 ∧ y1 ≤ 255) (kv0 : s.1 95 7 < 300) (kv1 : s0.1 95 7 ≤ s.1 95 8 ∧ s.1 95 8 ≤ s.1 95 7) (kv2 : s.1 95 12 = s0.1 95 12 ∧ s.1 95 13 = s0.1 95 13 ∧ s.1 95 19 = s0.1 95 19 ∧ s.1 95 20 = s0.1 95 20 ∧ s.1 95 21 = s0.1 95 21 ∧ s.1 95 22 = s0.1 95 22 ∧ s.1 95 23 = s0.1 95 23) : fm_197_p247 Q x1 y1 s := by
  unfold fm_197_p247
  have hI67 : iv_A (lf_up s.1 95 9 y1) s.2.2 := iv_w95_9 hI (by omega)
  have fr68 : lf_fq [95] 1000000 true s.1 s.2.2 (lf_up s.1 95 9 y1) s.2.2 := lf_fq_up (lf_fq_rf) rfl (fun h => absurd h (by decide))
  have b69 : 0 ≤ s.1 95 7 ∧ s.1 95 7 ≤ 300 := (show 0 ≤ (lf_up s.1 95 9 y1) 95 7 ∧ (lf_up s.1 95 9 y1) 95 7 ≤ 300 from iv_r95_7 hI67)
  have b70 : (lf_up s.1 95 9 y1) 95 7 = s.1 95 7 := lf_up_i (by omega)
  have hI71 : iv_A (lf_up (lf_up s.1 95 9 y1) 95 7 ((s.1 95 7) + 1)) s.2.2 := iv_w95_7 hI67 (by omega)
  have fr72 : lf_fq [95] 1000000 true s.1 s.2.2 (lf_up (lf_up s.1 95 9 y1) 95 7 ((s.1 95 7) + 1)) s.2.2 := lf_fq_up fr68 rfl (fun h => absurd h (by decide))
  refine ⟨(show lf_R x1 from lf_Rof (by omega)), ?_⟩
  refine ⟨fun c73 => ?_, fun c73 => ?_⟩
  · skip
    have c73 : x1 = 60 := c73
    have b74 : 0 ≤ s.1 95 8 ∧ s.1 95 8 ≤ 300 := (show 0 ≤ (lf_up (lf_up s.1 95 9 y1) 95 7 ((s.1 95 7) + 1)) 95 8 ∧ (lf_up (lf_up s.1 95 9 y1) 95 7 ((s.1 95 7) + 1)) 95 8 ≤ 300 from iv_r95_8 hI71)
    have b75 : (lf_up (lf_up s.1 95 9 y1) 95 7 ((s.1 95 7) + 1)) 95 8 = (lf_up s.1 95 9 y1) 95 8 := lf_up_i (by omega)
    have b76 : (lf_up s.1 95 9 y1) 95 8 = s.1 95 8 := lf_up_i (by omega)
    have b77 : 0 ≤ s.1 95 12 ∧ s.1 95 12 ≤ 2115 := (show 0 ≤ (lf_up (lf_up s.1 95 9 y1) 95 7 ((s.1 95 7) + 1)) 95 12 ∧ (lf_up (lf_up s.1 95 9 y1) 95 7 ((s.1 95 7) + 1)) 95 12 ≤ 2115 from iv_r95_12 hI71)
    have b78 : (lf_up (lf_up s.1 95 9 y1) 95 7 ((s.1 95 7) + 1)) 95 12 = (lf_up s.1 95 9 y1) 95 12 := lf_up_i (by omega)
    have b79 : (lf_up s.1 95 9 y1) 95 12 = s.1 95 12 := lf_up_i (by omega)
    have b80 : 0 ≤ s.1 95 13 ∧ s.1 95 13 ≤ 304 := (show 0 ≤ (lf_up (lf_up s.1 95 9 y1) 95 7 ((s.1 95 7) + 1)) 95 13 ∧ (lf_up (lf_up s.1 95 9 y1) 95 7 ((s.1 95 7) + 1)) 95 13 ≤ 304 from iv_r95_13 hI71)
    have b81 : (lf_up (lf_up s.1 95 9 y1) 95 7 ((s.1 95 7) + 1)) 95 13 = (lf_up s.1 95 9 y1) 95 13 := lf_up_i (by omega)
    have b82 : (lf_up s.1 95 9 y1) 95 13 = s.1 95 13 := lf_up_i (by omega)
    have b83 : 0 ≤ s.1 95 19 ∧ s.1 95 19 ≤ 160 := (show 0 ≤ (lf_up (lf_up s.1 95 9 y1) 95 7 ((s.1 95 7) + 1)) 95 19 ∧ (lf_up (lf_up s.1 95 9 y1) 95 7 ((s.1 95 7) + 1)) 95 19 ≤ 160 from iv_r95_19 hI71)
    have b84 : (lf_up (lf_up s.1 95 9 y1) 95 7 ((s.1 95 7) + 1)) 95 19 = (lf_up s.1 95 9 y1) 95 19 := lf_up_i (by omega)
    have b85 : (lf_up s.1 95 9 y1) 95 19 = s.1 95 19 := lf_up_i (by omega)
    have b86 : 0 ≤ s.1 95 20 ∧ s.1 95 20 ≤ 8 := (show 0 ≤ (lf_up (lf_up s.1 95 9 y1) 95 7 ((s.1 95 7) + 1)) 95 20 ∧ (lf_up (lf_up s.1 95 9 y1) 95 7 ((s.1 95 7) + 1)) 95 20 ≤ 8 from iv_r95_20 hI71)
    have b87 : (lf_up (lf_up s.1 95 9 y1) 95 7 ((s.1 95 7) + 1)) 95 20 = (lf_up s.1 95 9 y1) 95 20 := lf_up_i (by omega)
    have b88 : (lf_up s.1 95 9 y1) 95 20 = s.1 95 20 := lf_up_i (by omega)
    have b89 : 0 ≤ s.1 95 21 ∧ s.1 95 21 ≤ 8 := (show 0 ≤ (lf_up (lf_up s.1 95 9 y1) 95 7 ((s.1 95 7) + 1)) 95 21 ∧ (lf_up (lf_up s.1 95 9 y1) 95 7 ((s.1 95 7) + 1)) 95 21 ≤ 8 from iv_r95_21 hI71)
    have b90 : (lf_up (lf_up s.1 95 9 y1) 95 7 ((s.1 95 7) + 1)) 95 21 = (lf_up s.1 95 9 y1) 95 21 := lf_up_i (by omega)
    have b91 : (lf_up s.1 95 9 y1) 95 21 = s.1 95 21 := lf_up_i (by omega)
    have b92 : 0 ≤ s.1 95 22 ∧ s.1 95 22 ≤ 80 := (show 0 ≤ (lf_up (lf_up s.1 95 9 y1) 95 7 ((s.1 95 7) + 1)) 95 22 ∧ (lf_up (lf_up s.1 95 9 y1) 95 7 ((s.1 95 7) + 1)) 95 22 ≤ 80 from iv_r95_22 hI71)
    have b93 : (lf_up (lf_up s.1 95 9 y1) 95 7 ((s.1 95 7) + 1)) 95 22 = (lf_up s.1 95 9 y1) 95 22 := lf_up_i (by omega)
    have b94 : (lf_up s.1 95 9 y1) 95 22 = s.1 95 22 := lf_up_i (by omega)
    have b95 : 0 ≤ s.1 95 23 ∧ s.1 95 23 ≤ 1 := (show 0 ≤ (lf_up (lf_up s.1 95 9 y1) 95 7 ((s.1 95 7) + 1)) 95 23 ∧ (lf_up (lf_up s.1 95 9 y1) 95 7 ((s.1 95 7) + 1)) 95 23 ≤ 1 from iv_r95_23 hI71)
    have b96 : (lf_up (lf_up s.1 95 9 y1) 95 7 ((s.1 95 7) + 1)) 95 23 = (lf_up s.1 95 9 y1) 95 23 := lf_up_i (by omega)
    have b97 : (lf_up s.1 95 9 y1) 95 23 = s.1 95 23 := lf_up_i (by omega)
    exact sm_197_p272 (s0 := s0) (fun t9 i9 f9 => hQ t9 i9 (lf_fq_tr fr72 f9)) hI71 (show (60 : Int) ≤ x1 ∧ x1 ≤ (62 : Int) from by omega) (show s0.1 95 7 ≤ (s.1 95 8) ∧ (s.1 95 8) < ((s.1 95 7) + 1) from by omega) (show (s.1 95 12) = s0.1 95 12 ∧ (s.1 95 13) = s0.1 95 13 ∧ (s.1 95 19) = s0.1 95 19 ∧ (s.1 95 20) = s0.1 95 20 ∧ (s.1 95 21) = s0.1 95 21 ∧ (s.1 95 22) = s0.1 95 22 ∧ (s.1 95 23) = s0.1 95 23 from by omega)
  · skip
    have c73 : ¬ (x1 = 60) := c73
    refine ⟨fun c125 => ?_, fun c125 => ?_⟩
    · skip
      have c125 : x1 ≠ 62 := c125
      exact hQ (lf_up (lf_up s.1 95 9 y1) 95 7 ((s.1 95 7) + 1), s.2.1, s.2.2) hI71 fr72 (show s0.1 95 7 ≤ (s.1 95 8) ∧ (y1 = 0 ∨ (s.1 95 8) < ((s.1 95 7) + 1)) from by omega) (show (s.1 95 12) = s0.1 95 12 ∧ (s.1 95 13) = s0.1 95 13 ∧ (s.1 95 19) = s0.1 95 19 ∧ (s.1 95 20) = s0.1 95 20 ∧ (s.1 95 21) = s0.1 95 21 ∧ (s.1 95 22) = s0.1 95 22 ∧ (s.1 95 23) = s0.1 95 23 from by omega)
    · skip
      have c125 : ¬ (x1 ≠ 62) := c125
      have b126 : 0 ≤ s.1 95 8 ∧ s.1 95 8 ≤ 300 := (show 0 ≤ (lf_up (lf_up s.1 95 9 y1) 95 7 ((s.1 95 7) + 1)) 95 8 ∧ (lf_up (lf_up s.1 95 9 y1) 95 7 ((s.1 95 7) + 1)) 95 8 ≤ 300 from iv_r95_8 hI71)
      have b127 : (lf_up (lf_up s.1 95 9 y1) 95 7 ((s.1 95 7) + 1)) 95 8 = (lf_up s.1 95 9 y1) 95 8 := lf_up_i (by omega)
      have b128 : (lf_up s.1 95 9 y1) 95 8 = s.1 95 8 := lf_up_i (by omega)
      have b129 : 0 ≤ s.1 95 12 ∧ s.1 95 12 ≤ 2115 := (show 0 ≤ (lf_up (lf_up s.1 95 9 y1) 95 7 ((s.1 95 7) + 1)) 95 12 ∧ (lf_up (lf_up s.1 95 9 y1) 95 7 ((s.1 95 7) + 1)) 95 12 ≤ 2115 from iv_r95_12 hI71)
      have b130 : (lf_up (lf_up s.1 95 9 y1) 95 7 ((s.1 95 7) + 1)) 95 12 = (lf_up s.1 95 9 y1) 95 12 := lf_up_i (by omega)
      have b131 : (lf_up s.1 95 9 y1) 95 12 = s.1 95 12 := lf_up_i (by omega)
      have b132 : 0 ≤ s.1 95 13 ∧ s.1 95 13 ≤ 304 := (show 0 ≤ (lf_up (lf_up s.1 95 9 y1) 95 7 ((s.1 95 7) + 1)) 95 13 ∧ (lf_up (lf_up s.1 95 9 y1) 95 7 ((s.1 95 7) + 1)) 95 13 ≤ 304 from iv_r95_13 hI71)
      have b133 : (lf_up (lf_up s.1 95 9 y1) 95 7 ((s.1 95 7) + 1)) 95 13 = (lf_up s.1 95 9 y1) 95 13 := lf_up_i (by omega)
      have b134 : (lf_up s.1 95 9 y1) 95 13 = s.1 95 13 := lf_up_i (by omega)
      have b135 : 0 ≤ s.1 95 19 ∧ s.1 95 19 ≤ 160 := (show 0 ≤ (lf_up (lf_up s.1 95 9 y1) 95 7 ((s.1 95 7) + 1)) 95 19 ∧ (lf_up (lf_up s.1 95 9 y1) 95 7 ((s.1 95 7) + 1)) 95 19 ≤ 160 from iv_r95_19 hI71)
      have b136 : (lf_up (lf_up s.1 95 9 y1) 95 7 ((s.1 95 7) + 1)) 95 19 = (lf_up s.1 95 9 y1) 95 19 := lf_up_i (by omega)
      have b137 : (lf_up s.1 95 9 y1) 95 19 = s.1 95 19 := lf_up_i (by omega)
      have b138 : 0 ≤ s.1 95 20 ∧ s.1 95 20 ≤ 8 := (show 0 ≤ (lf_up (lf_up s.1 95 9 y1) 95 7 ((s.1 95 7) + 1)) 95 20 ∧ (lf_up (lf_up s.1 95 9 y1) 95 7 ((s.1 95 7) + 1)) 95 20 ≤ 8 from iv_r95_20 hI71)
      have b139 : (lf_up (lf_up s.1 95 9 y1) 95 7 ((s.1 95 7) + 1)) 95 20 = (lf_up s.1 95 9 y1) 95 20 := lf_up_i (by omega)
      have b140 : (lf_up s.1 95 9 y1) 95 20 = s.1 95 20 := lf_up_i (by omega)
      have b141 : 0 ≤ s.1 95 21 ∧ s.1 95 21 ≤ 8 := (show 0 ≤ (lf_up (lf_up s.1 95 9 y1) 95 7 ((s.1 95 7) + 1)) 95 21 ∧ (lf_up (lf_up s.1 95 9 y1) 95 7 ((s.1 95 7) + 1)) 95 21 ≤ 8 from iv_r95_21 hI71)
      have b142 : (lf_up (lf_up s.1 95 9 y1) 95 7 ((s.1 95 7) + 1)) 95 21 = (lf_up s.1 95 9 y1) 95 21 := lf_up_i (by omega)
      have b143 : (lf_up s.1 95 9 y1) 95 21 = s.1 95 21 := lf_up_i (by omega)
      have b144 : 0 ≤ s.1 95 22 ∧ s.1 95 22 ≤ 80 := (show 0 ≤ (lf_up (lf_up s.1 95 9 y1) 95 7 ((s.1 95 7) + 1)) 95 22 ∧ (lf_up (lf_up s.1 95 9 y1) 95 7 ((s.1 95 7) + 1)) 95 22 ≤ 80 from iv_r95_22 hI71)
      have b145 : (lf_up (lf_up s.1 95 9 y1) 95 7 ((s.1 95 7) + 1)) 95 22 = (lf_up s.1 95 9 y1) 95 22 := lf_up_i (by omega)
      have b146 : (lf_up s.1 95 9 y1) 95 22 = s.1 95 22 := lf_up_i (by omega)
      have b147 : 0 ≤ s.1 95 23 ∧ s.1 95 23 ≤ 1 := (show 0 ≤ (lf_up (lf_up s.1 95 9 y1) 95 7 ((s.1 95 7) + 1)) 95 23 ∧ (lf_up (lf_up s.1 95 9 y1) 95 7 ((s.1 95 7) + 1)) 95 23 ≤ 1 from iv_r95_23 hI71)
      have b148 : (lf_up (lf_up s.1 95 9 y1) 95 7 ((s.1 95 7) + 1)) 95 23 = (lf_up s.1 95 9 y1) 95 23 := lf_up_i (by omega)
      have b149 : (lf_up s.1 95 9 y1) 95 23 = s.1 95 23 := lf_up_i (by omega)
      exact sm_197_p272 (s0 := s0) (fun t9 i9 f9 => hQ t9 i9 (lf_fq_tr fr72 f9)) hI71 (show (60 : Int) ≤ x1 ∧ x1 ≤ (62 : Int) from by omega) (show s0.1 95 7 ≤ (s.1 95 8) ∧ (s.1 95 8) < ((s.1 95 7) + 1) from by omega) (show (s.1 95 12) = s0.1 95 12 ∧ (s.1 95 13) = s0.1 95 13 ∧ (s.1 95 19) = s0.1 95 19 ∧ (s.1 95 20) = s0.1 95 20 ∧ (s.1 95 21) = s0.1 95 21 ∧ (s.1 95 22) = s0.1 95 22 ∧ (s.1 95 23) = s0.1 95 23 from by omega)
theorem sm_197_p218 {X168 : lf_Z → Prop} {Q : lf_Z → Prop} {y1 : Int} {s : lf_Z} {s0 : lf_Z} (hQ : ∀  (s' : lf_Z), iv_A s'.1 s'.2.2 → lf_fq [95] 1000000 true s.1 s.2.2 s'.1 s'.2.2 → (s0.1 95 7 ≤ s'.1 95 8 ∧ (s'.1 95 9 = 0 ∨ s'.1 95 8 < s'.1 95 7)) → (s'.1 95 12 = s0.1 95 12 ∧ s'.1 95 13 = s0.1 95 13 ∧ s'.1 95 19 = s0.1 95 19 ∧ s'.1 95 20 = s0.1 95 20 ∧ s'.1 95 21 = s0.1 95 21 ∧ s'.1 95 22 = s0.1 95 22 ∧ s'.1 95 23 = s0.1 95 23) → Q  s') {M168 : Nat} (hX168 : ∀ (s' : lf_Z), iv_A s'.1 s'.2.2 → lf_fq [95] 1000000 true s.1 s.2.2 s'.1 s'.2.2 → (s0.1 95 7 ≤ s'.1 95 8 ∧ s'.1 95 8 ≤ s'.1 95 7) → (s'.1 95 8 < s'.1 95 7 ∨ (s'.1 95 7 < s'.1 95 4 ∧ ((97 ≤ s'.1 99 (s'.1 95 7) ∧ s'.1 99 (s'.1 95 7) ≤ 122) ∨ (65 ≤ s'.1 99 (s'.1 95 7) ∧ s'.1 99 (s'.1 95 7) ≤ 90)))) → (s'.1 95 12 = s0.1 95 12 ∧ s'.1 95 13 = s0.1 95 13 ∧ s'.1 95 19 = s0.1 95 19 ∧ s'.1 95 20 = s0.1 95 20 ∧ s'.1 95 21 = s0.1 95 21 ∧ s'.1 95 22 = s0.1 95 22 ∧ s'.1 95 23 = s0.1 95 23) → (300 - s'.1 95 7).toNat < M168 → X168 s') (hM168 : (300 - s.1 95 7).toNat ≤ M168) (hI : iv_A s.1 s.2.2) (kv0 : s.1 95 7 < 300) (kv1 : s0.1 95 7 ≤ s.1 95 8 ∧ s.1 95 8 ≤ s.1 95 7) (kv2 : s.1 95 12 = s0.1 95 12 ∧ s.1 95 13 = s0.1 95 13 ∧ s.1 95 19 = s0.1 95 19 ∧ s.1 95 20 = s0.1 95 20 ∧ s.1 95 21 = s0.1 95 21 ∧ s.1 95 22 = s0.1 95 22 ∧ s.1 95 23 = s0.1 95 23) : fm_197_p218 X168 Q y1 s := by
  unfold fm_197_p218
  have b207 : 0 ≤ s.1 95 7 ∧ s.1 95 7 ≤ 300 := iv_r95_7 hI
  have hI208 : iv_A (lf_up s.1 95 7 ((s.1 95 7) + 1)) s.2.2 := iv_w95_7 hI (by omega)
  have fr209 : lf_fq [95] 1000000 true s.1 s.2.2 (lf_up s.1 95 7 ((s.1 95 7) + 1)) s.2.2 := lf_fq_up (lf_fq_rf) rfl (fun h => absurd h (by decide))
  have b210 : 0 ≤ s.1 95 8 ∧ s.1 95 8 ≤ 300 := (show 0 ≤ (lf_up s.1 95 7 ((s.1 95 7) + 1)) 95 8 ∧ (lf_up s.1 95 7 ((s.1 95 7) + 1)) 95 8 ≤ 300 from iv_r95_8 hI208)
  have b211 : (lf_up s.1 95 7 ((s.1 95 7) + 1)) 95 8 = s.1 95 8 := lf_up_i (by omega)
  have b212 : 0 ≤ s.1 95 4 ∧ s.1 95 4 ≤ 300 := (show 0 ≤ (lf_up s.1 95 7 ((s.1 95 7) + 1)) 95 4 ∧ (lf_up s.1 95 7 ((s.1 95 7) + 1)) 95 4 ≤ 300 from iv_r95_4 hI208)
  have b213 : (lf_up s.1 95 7 ((s.1 95 7) + 1)) 95 4 = s.1 95 4 := lf_up_i (by omega)
  have b214 : 0 ≤ s.1 95 12 ∧ s.1 95 12 ≤ 2115 := (show 0 ≤ (lf_up s.1 95 7 ((s.1 95 7) + 1)) 95 12 ∧ (lf_up s.1 95 7 ((s.1 95 7) + 1)) 95 12 ≤ 2115 from iv_r95_12 hI208)
  have b215 : (lf_up s.1 95 7 ((s.1 95 7) + 1)) 95 12 = s.1 95 12 := lf_up_i (by omega)
  have b216 : 0 ≤ s.1 95 13 ∧ s.1 95 13 ≤ 304 := (show 0 ≤ (lf_up s.1 95 7 ((s.1 95 7) + 1)) 95 13 ∧ (lf_up s.1 95 7 ((s.1 95 7) + 1)) 95 13 ≤ 304 from iv_r95_13 hI208)
  have b217 : (lf_up s.1 95 7 ((s.1 95 7) + 1)) 95 13 = s.1 95 13 := lf_up_i (by omega)
  have b218 : 0 ≤ s.1 95 19 ∧ s.1 95 19 ≤ 160 := (show 0 ≤ (lf_up s.1 95 7 ((s.1 95 7) + 1)) 95 19 ∧ (lf_up s.1 95 7 ((s.1 95 7) + 1)) 95 19 ≤ 160 from iv_r95_19 hI208)
  have b219 : (lf_up s.1 95 7 ((s.1 95 7) + 1)) 95 19 = s.1 95 19 := lf_up_i (by omega)
  have b220 : 0 ≤ s.1 95 20 ∧ s.1 95 20 ≤ 8 := (show 0 ≤ (lf_up s.1 95 7 ((s.1 95 7) + 1)) 95 20 ∧ (lf_up s.1 95 7 ((s.1 95 7) + 1)) 95 20 ≤ 8 from iv_r95_20 hI208)
  have b221 : (lf_up s.1 95 7 ((s.1 95 7) + 1)) 95 20 = s.1 95 20 := lf_up_i (by omega)
  have b222 : 0 ≤ s.1 95 21 ∧ s.1 95 21 ≤ 8 := (show 0 ≤ (lf_up s.1 95 7 ((s.1 95 7) + 1)) 95 21 ∧ (lf_up s.1 95 7 ((s.1 95 7) + 1)) 95 21 ≤ 8 from iv_r95_21 hI208)
  have b223 : (lf_up s.1 95 7 ((s.1 95 7) + 1)) 95 21 = s.1 95 21 := lf_up_i (by omega)
  have b224 : 0 ≤ s.1 95 22 ∧ s.1 95 22 ≤ 80 := (show 0 ≤ (lf_up s.1 95 7 ((s.1 95 7) + 1)) 95 22 ∧ (lf_up s.1 95 7 ((s.1 95 7) + 1)) 95 22 ≤ 80 from iv_r95_22 hI208)
  have b225 : (lf_up s.1 95 7 ((s.1 95 7) + 1)) 95 22 = s.1 95 22 := lf_up_i (by omega)
  have b226 : 0 ≤ s.1 95 23 ∧ s.1 95 23 ≤ 1 := (show 0 ≤ (lf_up s.1 95 7 ((s.1 95 7) + 1)) 95 23 ∧ (lf_up s.1 95 7 ((s.1 95 7) + 1)) 95 23 ≤ 1 from iv_r95_23 hI208)
  have b227 : (lf_up s.1 95 7 ((s.1 95 7) + 1)) 95 23 = s.1 95 23 := lf_up_i (by omega)
  exact hX168  (lf_up s.1 95 7 ((s.1 95 7) + 1), lf_up s.2.1 95 11 (lf_wl y1), s.2.2) hI208 fr209 (show s0.1 95 7 ≤ (s.1 95 8) ∧ (s.1 95 8) ≤ ((s.1 95 7) + 1) from by omega) (show (s.1 95 8) < ((s.1 95 7) + 1) ∨ (((s.1 95 7) + 1) < (s.1 95 4) ∧ ((97 ≤ (s.1 99) (((s.1 95 7) + 1)) ∧ (s.1 99) (((s.1 95 7) + 1)) ≤ 122) ∨ (65 ≤ (s.1 99) (((s.1 95 7) + 1)) ∧ (s.1 99) (((s.1 95 7) + 1)) ≤ 90))) from by omega) (show (s.1 95 12) = s0.1 95 12 ∧ (s.1 95 13) = s0.1 95 13 ∧ (s.1 95 19) = s0.1 95 19 ∧ (s.1 95 20) = s0.1 95 20 ∧ (s.1 95 21) = s0.1 95 21 ∧ (s.1 95 22) = s0.1 95 22 ∧ (s.1 95 23) = s0.1 95 23 from by omega) (show (300 - ((s.1 95 7) + 1)).toNat < M168 from by omega)
theorem sm_197_p168 {X168 : lf_Z → Prop} {Q : lf_Z → Prop} {s : lf_Z} {s0 : lf_Z} (hQ : ∀  (s' : lf_Z), iv_A s'.1 s'.2.2 → lf_fq [95] 1000000 true s.1 s.2.2 s'.1 s'.2.2 → (s0.1 95 7 ≤ s'.1 95 8 ∧ (s'.1 95 9 = 0 ∨ s'.1 95 8 < s'.1 95 7)) → (s'.1 95 12 = s0.1 95 12 ∧ s'.1 95 13 = s0.1 95 13 ∧ s'.1 95 19 = s0.1 95 19 ∧ s'.1 95 20 = s0.1 95 20 ∧ s'.1 95 21 = s0.1 95 21 ∧ s'.1 95 22 = s0.1 95 22 ∧ s'.1 95 23 = s0.1 95 23) → Q  s') {M168 : Nat} (hX168 : ∀ (s' : lf_Z), iv_A s'.1 s'.2.2 → lf_fq [95] 1000000 true s.1 s.2.2 s'.1 s'.2.2 → (s0.1 95 7 ≤ s'.1 95 8 ∧ s'.1 95 8 ≤ s'.1 95 7) → (s'.1 95 8 < s'.1 95 7 ∨ (s'.1 95 7 < s'.1 95 4 ∧ ((97 ≤ s'.1 99 (s'.1 95 7) ∧ s'.1 99 (s'.1 95 7) ≤ 122) ∨ (65 ≤ s'.1 99 (s'.1 95 7) ∧ s'.1 99 (s'.1 95 7) ≤ 90)))) → (s'.1 95 12 = s0.1 95 12 ∧ s'.1 95 13 = s0.1 95 13 ∧ s'.1 95 19 = s0.1 95 19 ∧ s'.1 95 20 = s0.1 95 20 ∧ s'.1 95 21 = s0.1 95 21 ∧ s'.1 95 22 = s0.1 95 22 ∧ s'.1 95 23 = s0.1 95 23) → (300 - s'.1 95 7).toNat < M168 → X168 s') (hM168 : (300 - s.1 95 7).toNat ≤ M168) (hI : iv_A s.1 s.2.2) (kv0 : s0.1 95 7 ≤ s.1 95 8 ∧ s.1 95 8 ≤ s.1 95 7) (kv1 : s.1 95 8 < s.1 95 7 ∨ (s.1 95 7 < s.1 95 4 ∧ ((97 ≤ s.1 99 (s.1 95 7) ∧ s.1 99 (s.1 95 7) ≤ 122) ∨ (65 ≤ s.1 99 (s.1 95 7) ∧ s.1 99 (s.1 95 7) ≤ 90)))) (kv2 : s.1 95 12 = s0.1 95 12 ∧ s.1 95 13 = s0.1 95 13 ∧ s.1 95 19 = s0.1 95 19 ∧ s.1 95 20 = s0.1 95 20 ∧ s.1 95 21 = s0.1 95 21 ∧ s.1 95 22 = s0.1 95 22 ∧ s.1 95 23 = s0.1 95 23) : fm_197_p168 Q X168 s := by
  unfold fm_197_p168
  have b191 : 0 ≤ s.1 95 7 ∧ s.1 95 7 ≤ 300 := iv_r95_7 hI
  refine sm_198 hI (show (0 : Int) ≤ s.1 95 7 ∧ s.1 95 7 ≤ (300 : Int) from by omega) (fun r42 q192 => ?_)
  obtain ⟨q192, q192x⟩ := q192
  have b193 : 0 ≤ s.1 95 4 ∧ s.1 95 4 ≤ 300 := iv_r95_4 hI
  have q192x : (r42 = -1 ∧ s.1 95 4 ≤ (s.1 95 7)) ∨ ((s.1 95 7) < s.1 95 4 ∧ r42 = s.1 99 (s.1 95 7)) := q192x
  refine sm_200 hI (show (-1 : Int) ≤ r42 ∧ r42 ≤ (255 : Int) from by omega) (fun z44 q194 => ?_)
  refine ⟨fun c195 => ?_, fun c195 => ?_⟩
  · skip
    have dc195 := q194.2 c195
    exact hQ s hI (lf_fq_rf) (show s0.1 95 7 ≤ (s.1 95 8) ∧ ((s.1 95 9) = 0 ∨ (s.1 95 8) < (s.1 95 7)) from by omega) (show (s.1 95 12) = s0.1 95 12 ∧ (s.1 95 13) = s0.1 95 13 ∧ (s.1 95 19) = s0.1 95 19 ∧ (s.1 95 20) = s0.1 95 20 ∧ (s.1 95 21) = s0.1 95 21 ∧ (s.1 95 22) = s0.1 95 22 ∧ (s.1 95 23) = s0.1 95 23 from by omega)
  · skip
    have dc195 := q194.1 c195
    refine ⟨fun c196 => ?_, fun c196 => ?_⟩
    · have c196 : lf_lshr (lf_wl (s.2.1 95 11)) 48 = 0 := c196
      refine sm_198 hI (show (0 : Int) ≤ s.1 95 7 ∧ s.1 95 7 ≤ (300 : Int) from by omega) (fun r46 q197 => ?_)
      obtain ⟨q197, q197x⟩ := q197
      have b198 : 0 ≤ s.1 95 4 ∧ s.1 95 4 ≤ 300 := iv_r95_4 hI
      have q197x : (r46 = -1 ∧ s.1 95 4 ≤ (s.1 95 7)) ∨ ((s.1 95 7) < s.1 95 4 ∧ r46 = s.1 99 (s.1 95 7)) := q197x
      refine ⟨(show lf_R r46 from lf_Rof (by omega)), ?_⟩
      have b199 : 0 ≤ s.1 95 8 ∧ s.1 95 8 ≤ 300 := iv_r95_8 hI
      have b200 : 0 ≤ s.1 95 12 ∧ s.1 95 12 ≤ 2115 := iv_r95_12 hI
      have b201 : 0 ≤ s.1 95 13 ∧ s.1 95 13 ≤ 304 := iv_r95_13 hI
      have b202 : 0 ≤ s.1 95 19 ∧ s.1 95 19 ≤ 160 := iv_r95_19 hI
      have b203 : 0 ≤ s.1 95 20 ∧ s.1 95 20 ≤ 8 := iv_r95_20 hI
      have b204 : 0 ≤ s.1 95 21 ∧ s.1 95 21 ≤ 8 := iv_r95_21 hI
      have b205 : 0 ≤ s.1 95 22 ∧ s.1 95 22 ≤ 80 := iv_r95_22 hI
      have b206 : 0 ≤ s.1 95 23 ∧ s.1 95 23 ≤ 1 := iv_r95_23 hI
      exact sm_197_p218 (s0 := s0) hQ hX168 (show (300 - (s.1 95 7)).toNat ≤ M168 from by omega) hI (show (s.1 95 7) < 300 from by omega) (show s0.1 95 7 ≤ (s.1 95 8) ∧ (s.1 95 8) ≤ (s.1 95 7) from by omega) (show (s.1 95 12) = s0.1 95 12 ∧ (s.1 95 13) = s0.1 95 13 ∧ (s.1 95 19) = s0.1 95 19 ∧ (s.1 95 20) = s0.1 95 20 ∧ (s.1 95 21) = s0.1 95 21 ∧ (s.1 95 22) = s0.1 95 22 ∧ (s.1 95 23) = s0.1 95 23 from by omega)
    · have c196 : ¬ (lf_lshr (lf_wl (s.2.1 95 11)) 48 = 0) := c196
      have b228 : 0 ≤ s.1 95 8 ∧ s.1 95 8 ≤ 300 := iv_r95_8 hI
      have b229 : 0 ≤ s.1 95 12 ∧ s.1 95 12 ≤ 2115 := iv_r95_12 hI
      have b230 : 0 ≤ s.1 95 13 ∧ s.1 95 13 ≤ 304 := iv_r95_13 hI
      have b231 : 0 ≤ s.1 95 19 ∧ s.1 95 19 ≤ 160 := iv_r95_19 hI
      have b232 : 0 ≤ s.1 95 20 ∧ s.1 95 20 ≤ 8 := iv_r95_20 hI
      have b233 : 0 ≤ s.1 95 21 ∧ s.1 95 21 ≤ 8 := iv_r95_21 hI
      have b234 : 0 ≤ s.1 95 22 ∧ s.1 95 22 ≤ 80 := iv_r95_22 hI
      have b235 : 0 ≤ s.1 95 23 ∧ s.1 95 23 ≤ 1 := iv_r95_23 hI
      exact sm_197_p218 (s0 := s0) hQ hX168 (show (300 - (s.1 95 7)).toNat ≤ M168 from by omega) hI (show (s.1 95 7) < 300 from by omega) (show s0.1 95 7 ≤ (s.1 95 8) ∧ (s.1 95 8) ≤ (s.1 95 7) from by omega) (show (s.1 95 12) = s0.1 95 12 ∧ (s.1 95 13) = s0.1 95 13 ∧ (s.1 95 19) = s0.1 95 19 ∧ (s.1 95 20) = s0.1 95 20 ∧ (s.1 95 21) = s0.1 95 21 ∧ (s.1 95 22) = s0.1 95 22 ∧ (s.1 95 23) = s0.1 95 23 from by omega)
theorem sm_197_p168L {Q : lf_Z → Prop} {s : lf_Z} {s0 : lf_Z} (hQ : ∀  (s' : lf_Z), iv_A s'.1 s'.2.2 → lf_fq [95] 1000000 true s.1 s.2.2 s'.1 s'.2.2 → (s0.1 95 7 ≤ s'.1 95 8 ∧ (s'.1 95 9 = 0 ∨ s'.1 95 8 < s'.1 95 7)) → (s'.1 95 12 = s0.1 95 12 ∧ s'.1 95 13 = s0.1 95 13 ∧ s'.1 95 19 = s0.1 95 19 ∧ s'.1 95 20 = s0.1 95 20 ∧ s'.1 95 21 = s0.1 95 21 ∧ s'.1 95 22 = s0.1 95 22 ∧ s'.1 95 23 = s0.1 95 23) → Q  s') (hI : iv_A s.1 s.2.2) (kv0 : s0.1 95 7 ≤ s.1 95 8 ∧ s.1 95 8 ≤ s.1 95 7) (kv1 : s.1 95 8 < s.1 95 7 ∨ (s.1 95 7 < s.1 95 4 ∧ ((97 ≤ s.1 99 (s.1 95 7) ∧ s.1 99 (s.1 95 7) ≤ 122) ∨ (65 ≤ s.1 99 (s.1 95 7) ∧ s.1 99 (s.1 95 7) ≤ 90)))) (kv2 : s.1 95 12 = s0.1 95 12 ∧ s.1 95 13 = s0.1 95 13 ∧ s.1 95 19 = s0.1 95 19 ∧ s.1 95 20 = s0.1 95 20 ∧ s.1 95 21 = s0.1 95 21 ∧ s.1 95 22 = s0.1 95 22 ∧ s.1 95 23 = s0.1 95 23) : fm_197_p168L Q s := by
  intro X168 hX
  have key : ∀ (m9 : Nat) (s' : lf_Z), iv_A s'.1 s'.2.2 → lf_fq [95] 1000000 true s.1 s.2.2 s'.1 s'.2.2 → (s0.1 95 7 ≤ s'.1 95 8 ∧ s'.1 95 8 ≤ s'.1 95 7) → (s'.1 95 8 < s'.1 95 7 ∨ (s'.1 95 7 < s'.1 95 4 ∧ ((97 ≤ s'.1 99 (s'.1 95 7) ∧ s'.1 99 (s'.1 95 7) ≤ 122) ∨ (65 ≤ s'.1 99 (s'.1 95 7) ∧ s'.1 99 (s'.1 95 7) ≤ 90)))) → (s'.1 95 12 = s0.1 95 12 ∧ s'.1 95 13 = s0.1 95 13 ∧ s'.1 95 19 = s0.1 95 19 ∧ s'.1 95 20 = s0.1 95 20 ∧ s'.1 95 21 = s0.1 95 21 ∧ s'.1 95 22 = s0.1 95 22 ∧ s'.1 95 23 = s0.1 95 23) → (300 - s'.1 95 7).toNat < m9 → X168 s' := by
    intro m9
    induction m9 with
    | zero => intro  s' _ _ kv0 kv1 kv2 h9; exact absurd h9 (Nat.not_lt_zero _)
    | succ m9 ih => intro  s' i7 f7 kv0 kv1 kv2 h9; exact hX  _ (sm_197_p168 (s0 := s0) (fun t9 i9 f9 => hQ t9 i9 (lf_fq_tr f7 f9))   (fun  t8 i8 f8 kv0' kv1' kv2' h8 => ih  t8 i8 (lf_fq_tr f7 f8) kv0' kv1' kv2' (by omega)) (Nat.le_refl _)  i7    kv0 kv1 kv2)
  exact key _  s hI lf_fq_rf kv0 kv1 kv2 (Nat.lt_succ_self _)
theorem sm_197_p135 {X85 : lf_Z → Prop} {Q : lf_Z → Prop} {y1 : Int} {s : lf_Z} {s0 : lf_Z} (hQ : ∀  (s' : lf_Z), iv_A s'.1 s'.2.2 → lf_fq [95] 1000000 true s.1 s.2.2 s'.1 s'.2.2 → (s0.1 95 7 ≤ s'.1 95 8 ∧ (s'.1 95 9 = 0 ∨ s'.1 95 8 < s'.1 95 7)) → (s'.1 95 12 = s0.1 95 12 ∧ s'.1 95 13 = s0.1 95 13 ∧ s'.1 95 19 = s0.1 95 19 ∧ s'.1 95 20 = s0.1 95 20 ∧ s'.1 95 21 = s0.1 95 21 ∧ s'.1 95 22 = s0.1 95 22 ∧ s'.1 95 23 = s0.1 95 23) → Q  s') {M85 : Nat} (hX85 : ∀ (s' : lf_Z), iv_A s'.1 s'.2.2 → lf_fq [95] 1000000 true s.1 s.2.2 s'.1 s'.2.2 → (s0.1 95 7 ≤ s'.1 95 8 ∧ s'.1 95 8 ≤ s'.1 95 7) → (s'.1 95 8 < s'.1 95 7 ∨ (s'.1 95 7 < s'.1 95 4 ∧ 48 ≤ s'.1 99 (s'.1 95 7) ∧ s'.1 99 (s'.1 95 7) ≤ 57)) → (s'.1 95 12 = s0.1 95 12 ∧ s'.1 95 13 = s0.1 95 13 ∧ s'.1 95 19 = s0.1 95 19 ∧ s'.1 95 20 = s0.1 95 20 ∧ s'.1 95 21 = s0.1 95 21 ∧ s'.1 95 22 = s0.1 95 22 ∧ s'.1 95 23 = s0.1 95 23) → (300 - s'.1 95 7).toNat < M85 → X85 s') (hM85 : (300 - s.1 95 7).toNat ≤ M85) (hI : iv_A s.1 s.2.2) (by1 : (-2147483648) ≤ y1 ∧ y1 ≤ 2147483647) (kv0 : s.1 95 7 < 300) (kv1 : s0.1 95 7 ≤ s.1 95 8 ∧ s.1 95 8 ≤ s.1 95 7) (kv2 : s.1 95 12 = s0.1 95 12 ∧ s.1 95 13 = s0.1 95 13 ∧ s.1 95 19 = s0.1 95 19 ∧ s.1 95 20 = s0.1 95 20 ∧ s.1 95 21 = s0.1 95 21 ∧ s.1 95 22 = s0.1 95 22 ∧ s.1 95 23 = s0.1 95 23) : fm_197_p135 X85 Q y1 s := by
  unfold fm_197_p135
  have hI294 : iv_A (lf_up s.1 95 10 y1) s.2.2 := iv_w95_10 hI (by omega)
  have fr295 : lf_fq [95] 1000000 true s.1 s.2.2 (lf_up s.1 95 10 y1) s.2.2 := lf_fq_up (lf_fq_rf) rfl (fun h => absurd h (by decide))
  have b296 : 0 ≤ s.1 95 7 ∧ s.1 95 7 ≤ 300 := (show 0 ≤ (lf_up s.1 95 10 y1) 95 7 ∧ (lf_up s.1 95 10 y1) 95 7 ≤ 300 from iv_r95_7 hI294)
  have b297 : (lf_up s.1 95 10 y1) 95 7 = s.1 95 7 := lf_up_i (by omega)
  have hI298 : iv_A (lf_up (lf_up s.1 95 10 y1) 95 7 ((s.1 95 7) + 1)) s.2.2 := iv_w95_7 hI294 (by omega)
  have fr299 : lf_fq [95] 1000000 true s.1 s.2.2 (lf_up (lf_up s.1 95 10 y1) 95 7 ((s.1 95 7) + 1)) s.2.2 := lf_fq_up fr295 rfl (fun h => absurd h (by decide))
  have b300 : 0 ≤ s.1 95 8 ∧ s.1 95 8 ≤ 300 := (show 0 ≤ (lf_up (lf_up s.1 95 10 y1) 95 7 ((s.1 95 7) + 1)) 95 8 ∧ (lf_up (lf_up s.1 95 10 y1) 95 7 ((s.1 95 7) + 1)) 95 8 ≤ 300 from iv_r95_8 hI298)
  have b301 : (lf_up (lf_up s.1 95 10 y1) 95 7 ((s.1 95 7) + 1)) 95 8 = (lf_up s.1 95 10 y1) 95 8 := lf_up_i (by omega)
  have b302 : (lf_up s.1 95 10 y1) 95 8 = s.1 95 8 := lf_up_i (by omega)
  have b303 : 0 ≤ s.1 95 4 ∧ s.1 95 4 ≤ 300 := (show 0 ≤ (lf_up (lf_up s.1 95 10 y1) 95 7 ((s.1 95 7) + 1)) 95 4 ∧ (lf_up (lf_up s.1 95 10 y1) 95 7 ((s.1 95 7) + 1)) 95 4 ≤ 300 from iv_r95_4 hI298)
  have b304 : (lf_up (lf_up s.1 95 10 y1) 95 7 ((s.1 95 7) + 1)) 95 4 = (lf_up s.1 95 10 y1) 95 4 := lf_up_i (by omega)
  have b305 : (lf_up s.1 95 10 y1) 95 4 = s.1 95 4 := lf_up_i (by omega)
  have b306 : 0 ≤ s.1 95 12 ∧ s.1 95 12 ≤ 2115 := (show 0 ≤ (lf_up (lf_up s.1 95 10 y1) 95 7 ((s.1 95 7) + 1)) 95 12 ∧ (lf_up (lf_up s.1 95 10 y1) 95 7 ((s.1 95 7) + 1)) 95 12 ≤ 2115 from iv_r95_12 hI298)
  have b307 : (lf_up (lf_up s.1 95 10 y1) 95 7 ((s.1 95 7) + 1)) 95 12 = (lf_up s.1 95 10 y1) 95 12 := lf_up_i (by omega)
  have b308 : (lf_up s.1 95 10 y1) 95 12 = s.1 95 12 := lf_up_i (by omega)
  have b309 : 0 ≤ s.1 95 13 ∧ s.1 95 13 ≤ 304 := (show 0 ≤ (lf_up (lf_up s.1 95 10 y1) 95 7 ((s.1 95 7) + 1)) 95 13 ∧ (lf_up (lf_up s.1 95 10 y1) 95 7 ((s.1 95 7) + 1)) 95 13 ≤ 304 from iv_r95_13 hI298)
  have b310 : (lf_up (lf_up s.1 95 10 y1) 95 7 ((s.1 95 7) + 1)) 95 13 = (lf_up s.1 95 10 y1) 95 13 := lf_up_i (by omega)
  have b311 : (lf_up s.1 95 10 y1) 95 13 = s.1 95 13 := lf_up_i (by omega)
  have b312 : 0 ≤ s.1 95 19 ∧ s.1 95 19 ≤ 160 := (show 0 ≤ (lf_up (lf_up s.1 95 10 y1) 95 7 ((s.1 95 7) + 1)) 95 19 ∧ (lf_up (lf_up s.1 95 10 y1) 95 7 ((s.1 95 7) + 1)) 95 19 ≤ 160 from iv_r95_19 hI298)
  have b313 : (lf_up (lf_up s.1 95 10 y1) 95 7 ((s.1 95 7) + 1)) 95 19 = (lf_up s.1 95 10 y1) 95 19 := lf_up_i (by omega)
  have b314 : (lf_up s.1 95 10 y1) 95 19 = s.1 95 19 := lf_up_i (by omega)
  have b315 : 0 ≤ s.1 95 20 ∧ s.1 95 20 ≤ 8 := (show 0 ≤ (lf_up (lf_up s.1 95 10 y1) 95 7 ((s.1 95 7) + 1)) 95 20 ∧ (lf_up (lf_up s.1 95 10 y1) 95 7 ((s.1 95 7) + 1)) 95 20 ≤ 8 from iv_r95_20 hI298)
  have b316 : (lf_up (lf_up s.1 95 10 y1) 95 7 ((s.1 95 7) + 1)) 95 20 = (lf_up s.1 95 10 y1) 95 20 := lf_up_i (by omega)
  have b317 : (lf_up s.1 95 10 y1) 95 20 = s.1 95 20 := lf_up_i (by omega)
  have b318 : 0 ≤ s.1 95 21 ∧ s.1 95 21 ≤ 8 := (show 0 ≤ (lf_up (lf_up s.1 95 10 y1) 95 7 ((s.1 95 7) + 1)) 95 21 ∧ (lf_up (lf_up s.1 95 10 y1) 95 7 ((s.1 95 7) + 1)) 95 21 ≤ 8 from iv_r95_21 hI298)
  have b319 : (lf_up (lf_up s.1 95 10 y1) 95 7 ((s.1 95 7) + 1)) 95 21 = (lf_up s.1 95 10 y1) 95 21 := lf_up_i (by omega)
  have b320 : (lf_up s.1 95 10 y1) 95 21 = s.1 95 21 := lf_up_i (by omega)
  have b321 : 0 ≤ s.1 95 22 ∧ s.1 95 22 ≤ 80 := (show 0 ≤ (lf_up (lf_up s.1 95 10 y1) 95 7 ((s.1 95 7) + 1)) 95 22 ∧ (lf_up (lf_up s.1 95 10 y1) 95 7 ((s.1 95 7) + 1)) 95 22 ≤ 80 from iv_r95_22 hI298)
  have b322 : (lf_up (lf_up s.1 95 10 y1) 95 7 ((s.1 95 7) + 1)) 95 22 = (lf_up s.1 95 10 y1) 95 22 := lf_up_i (by omega)
  have b323 : (lf_up s.1 95 10 y1) 95 22 = s.1 95 22 := lf_up_i (by omega)
  have b324 : 0 ≤ s.1 95 23 ∧ s.1 95 23 ≤ 1 := (show 0 ≤ (lf_up (lf_up s.1 95 10 y1) 95 7 ((s.1 95 7) + 1)) 95 23 ∧ (lf_up (lf_up s.1 95 10 y1) 95 7 ((s.1 95 7) + 1)) 95 23 ≤ 1 from iv_r95_23 hI298)
  have b325 : (lf_up (lf_up s.1 95 10 y1) 95 7 ((s.1 95 7) + 1)) 95 23 = (lf_up s.1 95 10 y1) 95 23 := lf_up_i (by omega)
  have b326 : (lf_up s.1 95 10 y1) 95 23 = s.1 95 23 := lf_up_i (by omega)
  exact hX85  (lf_up (lf_up s.1 95 10 y1) 95 7 ((s.1 95 7) + 1), s.2.1, s.2.2) hI298 fr299 (show s0.1 95 7 ≤ (s.1 95 8) ∧ (s.1 95 8) ≤ ((s.1 95 7) + 1) from by omega) (show (s.1 95 8) < ((s.1 95 7) + 1) ∨ (((s.1 95 7) + 1) < (s.1 95 4) ∧ 48 ≤ (s.1 99) (((s.1 95 7) + 1)) ∧ (s.1 99) (((s.1 95 7) + 1)) ≤ 57) from by omega) (show (s.1 95 12) = s0.1 95 12 ∧ (s.1 95 13) = s0.1 95 13 ∧ (s.1 95 19) = s0.1 95 19 ∧ (s.1 95 20) = s0.1 95 20 ∧ (s.1 95 21) = s0.1 95 21 ∧ (s.1 95 22) = s0.1 95 22 ∧ (s.1 95 23) = s0.1 95 23 from by omega) (show (300 - ((s.1 95 7) + 1)).toNat < M85 from by omega)
theorem sm_197_p85 {X85 : lf_Z → Prop} {Q : lf_Z → Prop} {s : lf_Z} {s0 : lf_Z} (hQ : ∀  (s' : lf_Z), iv_A s'.1 s'.2.2 → lf_fq [95] 1000000 true s.1 s.2.2 s'.1 s'.2.2 → (s0.1 95 7 ≤ s'.1 95 8 ∧ (s'.1 95 9 = 0 ∨ s'.1 95 8 < s'.1 95 7)) → (s'.1 95 12 = s0.1 95 12 ∧ s'.1 95 13 = s0.1 95 13 ∧ s'.1 95 19 = s0.1 95 19 ∧ s'.1 95 20 = s0.1 95 20 ∧ s'.1 95 21 = s0.1 95 21 ∧ s'.1 95 22 = s0.1 95 22 ∧ s'.1 95 23 = s0.1 95 23) → Q  s') {M85 : Nat} (hX85 : ∀ (s' : lf_Z), iv_A s'.1 s'.2.2 → lf_fq [95] 1000000 true s.1 s.2.2 s'.1 s'.2.2 → (s0.1 95 7 ≤ s'.1 95 8 ∧ s'.1 95 8 ≤ s'.1 95 7) → (s'.1 95 8 < s'.1 95 7 ∨ (s'.1 95 7 < s'.1 95 4 ∧ 48 ≤ s'.1 99 (s'.1 95 7) ∧ s'.1 99 (s'.1 95 7) ≤ 57)) → (s'.1 95 12 = s0.1 95 12 ∧ s'.1 95 13 = s0.1 95 13 ∧ s'.1 95 19 = s0.1 95 19 ∧ s'.1 95 20 = s0.1 95 20 ∧ s'.1 95 21 = s0.1 95 21 ∧ s'.1 95 22 = s0.1 95 22 ∧ s'.1 95 23 = s0.1 95 23) → (300 - s'.1 95 7).toNat < M85 → X85 s') (hM85 : (300 - s.1 95 7).toNat ≤ M85) (hI : iv_A s.1 s.2.2) (kv0 : s0.1 95 7 ≤ s.1 95 8 ∧ s.1 95 8 ≤ s.1 95 7) (kv1 : s.1 95 8 < s.1 95 7 ∨ (s.1 95 7 < s.1 95 4 ∧ 48 ≤ s.1 99 (s.1 95 7) ∧ s.1 99 (s.1 95 7) ≤ 57)) (kv2 : s.1 95 12 = s0.1 95 12 ∧ s.1 95 13 = s0.1 95 13 ∧ s.1 95 19 = s0.1 95 19 ∧ s.1 95 20 = s0.1 95 20 ∧ s.1 95 21 = s0.1 95 21 ∧ s.1 95 22 = s0.1 95 22 ∧ s.1 95 23 = s0.1 95 23) : fm_197_p85 Q X85 s := by
  unfold fm_197_p85
  have b274 : 0 ≤ s.1 95 7 ∧ s.1 95 7 ≤ 300 := iv_r95_7 hI
  refine sm_198 hI (show (0 : Int) ≤ s.1 95 7 ∧ s.1 95 7 ≤ (300 : Int) from by omega) (fun r49 q275 => ?_)
  obtain ⟨q275, q275x⟩ := q275
  have b276 : 0 ≤ s.1 95 4 ∧ s.1 95 4 ≤ 300 := iv_r95_4 hI
  have q275x : (r49 = -1 ∧ s.1 95 4 ≤ (s.1 95 7)) ∨ ((s.1 95 7) < s.1 95 4 ∧ r49 = s.1 99 (s.1 95 7)) := q275x
  refine sm_199 hI (show (-1 : Int) ≤ r49 ∧ r49 ≤ (255 : Int) from by omega) (fun z51 q277 => ?_)
  refine ⟨fun c278 => ?_, fun c278 => ?_⟩
  · skip
    have dc278 := q277.2 c278
    exact hQ s hI (lf_fq_rf) (show s0.1 95 7 ≤ (s.1 95 8) ∧ ((s.1 95 9) = 0 ∨ (s.1 95 8) < (s.1 95 7)) from by omega) (show (s.1 95 12) = s0.1 95 12 ∧ (s.1 95 13) = s0.1 95 13 ∧ (s.1 95 19) = s0.1 95 19 ∧ (s.1 95 20) = s0.1 95 20 ∧ (s.1 95 21) = s0.1 95 21 ∧ (s.1 95 22) = s0.1 95 22 ∧ (s.1 95 23) = s0.1 95 23 from by omega)
  · skip
    have dc278 := q277.1 c278
    have b279 : (-2147483648) ≤ s.1 95 10 ∧ s.1 95 10 ≤ 2147483647 := iv_full hI
    refine ⟨(show lf_R (s.1 95 10) from lf_Rof (by omega)), ?_⟩
    refine ⟨fun c280 => ?_, fun c280 => ?_⟩
    · skip
      have c280 : s.1 95 10 ≤ 99999 := c280
      have b281 : (-2147483648) ≤ lf_w (10 * (s.1 95 10)) ∧ lf_w (10 * (s.1 95 10)) ≤ 2147483647 := lf_wB
      refine sm_198 hI (show (0 : Int) ≤ s.1 95 7 ∧ s.1 95 7 ≤ (300 : Int) from by omega) (fun r54 q282 => ?_)
      obtain ⟨q282, q282x⟩ := q282
      have b283 : 0 ≤ s.1 95 4 ∧ s.1 95 4 ≤ 300 := iv_r95_4 hI
      have q282x : (r54 = -1 ∧ s.1 95 4 ≤ (s.1 95 7)) ∨ ((s.1 95 7) < s.1 95 4 ∧ r54 = s.1 99 (s.1 95 7)) := q282x
      have b284 : (-2147483648) ≤ lf_w ((lf_w (10 * (s.1 95 10))) + r54) ∧ lf_w ((lf_w (10 * (s.1 95 10))) + r54) ≤ 2147483647 := lf_wB
      have b285 : (-2147483648) ≤ lf_w ((lf_w ((lf_w (10 * (s.1 95 10))) + r54)) - 48) ∧ lf_w ((lf_w ((lf_w (10 * (s.1 95 10))) + r54)) - 48) ≤ 2147483647 := lf_wB
      have b286 : 0 ≤ s.1 95 8 ∧ s.1 95 8 ≤ 300 := iv_r95_8 hI
      have b287 : 0 ≤ s.1 95 12 ∧ s.1 95 12 ≤ 2115 := iv_r95_12 hI
      have b288 : 0 ≤ s.1 95 13 ∧ s.1 95 13 ≤ 304 := iv_r95_13 hI
      have b289 : 0 ≤ s.1 95 19 ∧ s.1 95 19 ≤ 160 := iv_r95_19 hI
      have b290 : 0 ≤ s.1 95 20 ∧ s.1 95 20 ≤ 8 := iv_r95_20 hI
      have b291 : 0 ≤ s.1 95 21 ∧ s.1 95 21 ≤ 8 := iv_r95_21 hI
      have b292 : 0 ≤ s.1 95 22 ∧ s.1 95 22 ≤ 80 := iv_r95_22 hI
      have b293 : 0 ≤ s.1 95 23 ∧ s.1 95 23 ≤ 1 := iv_r95_23 hI
      exact sm_197_p135 (s0 := s0) hQ hX85 (show (300 - (s.1 95 7)).toNat ≤ M85 from by omega) hI (show (-2147483648 : Int) ≤ lf_w ((lf_w ((lf_w (10 * (s.1 95 10))) + r54)) - 48) ∧ lf_w ((lf_w ((lf_w (10 * (s.1 95 10))) + r54)) - 48) ≤ (2147483647 : Int) from by omega) (show (s.1 95 7) < 300 from by omega) (show s0.1 95 7 ≤ (s.1 95 8) ∧ (s.1 95 8) ≤ (s.1 95 7) from by omega) (show (s.1 95 12) = s0.1 95 12 ∧ (s.1 95 13) = s0.1 95 13 ∧ (s.1 95 19) = s0.1 95 19 ∧ (s.1 95 20) = s0.1 95 20 ∧ (s.1 95 21) = s0.1 95 21 ∧ (s.1 95 22) = s0.1 95 22 ∧ (s.1 95 23) = s0.1 95 23 from by omega)
    · skip
      have c280 : ¬ (s.1 95 10 ≤ 99999) := c280
      have b327 : 0 ≤ s.1 95 8 ∧ s.1 95 8 ≤ 300 := iv_r95_8 hI
      have b328 : 0 ≤ s.1 95 12 ∧ s.1 95 12 ≤ 2115 := iv_r95_12 hI
      have b329 : 0 ≤ s.1 95 13 ∧ s.1 95 13 ≤ 304 := iv_r95_13 hI
      have b330 : 0 ≤ s.1 95 19 ∧ s.1 95 19 ≤ 160 := iv_r95_19 hI
      have b331 : 0 ≤ s.1 95 20 ∧ s.1 95 20 ≤ 8 := iv_r95_20 hI
      have b332 : 0 ≤ s.1 95 21 ∧ s.1 95 21 ≤ 8 := iv_r95_21 hI
      have b333 : 0 ≤ s.1 95 22 ∧ s.1 95 22 ≤ 80 := iv_r95_22 hI
      have b334 : 0 ≤ s.1 95 23 ∧ s.1 95 23 ≤ 1 := iv_r95_23 hI
      exact sm_197_p135 (s0 := s0) hQ hX85 (show (300 - (s.1 95 7)).toNat ≤ M85 from by omega) hI (show (-2147483648 : Int) ≤ s.1 95 10 ∧ s.1 95 10 ≤ (2147483647 : Int) from by omega) (show (s.1 95 7) < 300 from by omega) (show s0.1 95 7 ≤ (s.1 95 8) ∧ (s.1 95 8) ≤ (s.1 95 7) from by omega) (show (s.1 95 12) = s0.1 95 12 ∧ (s.1 95 13) = s0.1 95 13 ∧ (s.1 95 19) = s0.1 95 19 ∧ (s.1 95 20) = s0.1 95 20 ∧ (s.1 95 21) = s0.1 95 21 ∧ (s.1 95 22) = s0.1 95 22 ∧ (s.1 95 23) = s0.1 95 23 from by omega)
theorem sm_197_p85L {Q : lf_Z → Prop} {s : lf_Z} {s0 : lf_Z} (hQ : ∀  (s' : lf_Z), iv_A s'.1 s'.2.2 → lf_fq [95] 1000000 true s.1 s.2.2 s'.1 s'.2.2 → (s0.1 95 7 ≤ s'.1 95 8 ∧ (s'.1 95 9 = 0 ∨ s'.1 95 8 < s'.1 95 7)) → (s'.1 95 12 = s0.1 95 12 ∧ s'.1 95 13 = s0.1 95 13 ∧ s'.1 95 19 = s0.1 95 19 ∧ s'.1 95 20 = s0.1 95 20 ∧ s'.1 95 21 = s0.1 95 21 ∧ s'.1 95 22 = s0.1 95 22 ∧ s'.1 95 23 = s0.1 95 23) → Q  s') (hI : iv_A s.1 s.2.2) (kv0 : s0.1 95 7 ≤ s.1 95 8 ∧ s.1 95 8 ≤ s.1 95 7) (kv1 : s.1 95 8 < s.1 95 7 ∨ (s.1 95 7 < s.1 95 4 ∧ 48 ≤ s.1 99 (s.1 95 7) ∧ s.1 99 (s.1 95 7) ≤ 57)) (kv2 : s.1 95 12 = s0.1 95 12 ∧ s.1 95 13 = s0.1 95 13 ∧ s.1 95 19 = s0.1 95 19 ∧ s.1 95 20 = s0.1 95 20 ∧ s.1 95 21 = s0.1 95 21 ∧ s.1 95 22 = s0.1 95 22 ∧ s.1 95 23 = s0.1 95 23) : fm_197_p85L Q s := by
  intro X85 hX
  have key : ∀ (m9 : Nat) (s' : lf_Z), iv_A s'.1 s'.2.2 → lf_fq [95] 1000000 true s.1 s.2.2 s'.1 s'.2.2 → (s0.1 95 7 ≤ s'.1 95 8 ∧ s'.1 95 8 ≤ s'.1 95 7) → (s'.1 95 8 < s'.1 95 7 ∨ (s'.1 95 7 < s'.1 95 4 ∧ 48 ≤ s'.1 99 (s'.1 95 7) ∧ s'.1 99 (s'.1 95 7) ≤ 57)) → (s'.1 95 12 = s0.1 95 12 ∧ s'.1 95 13 = s0.1 95 13 ∧ s'.1 95 19 = s0.1 95 19 ∧ s'.1 95 20 = s0.1 95 20 ∧ s'.1 95 21 = s0.1 95 21 ∧ s'.1 95 22 = s0.1 95 22 ∧ s'.1 95 23 = s0.1 95 23) → (300 - s'.1 95 7).toNat < m9 → X85 s' := by
    intro m9
    induction m9 with
    | zero => intro  s' _ _ kv0 kv1 kv2 h9; exact absurd h9 (Nat.not_lt_zero _)
    | succ m9 ih => intro  s' i7 f7 kv0 kv1 kv2 h9; exact hX  _ (sm_197_p85 (s0 := s0) (fun t9 i9 f9 => hQ t9 i9 (lf_fq_tr f7 f9))   (fun  t8 i8 f8 kv0' kv1' kv2' h8 => ih  t8 i8 (lf_fq_tr f7 f8) kv0' kv1' kv2' (by omega)) (Nat.le_refl _)  i7    kv0 kv1 kv2)
  exact key _  s hI lf_fq_rf kv0 kv1 kv2 (Nat.lt_succ_self _)
theorem sm_197_p0 {X0 : lf_Z → Prop} {Q : lf_Z → Prop} {s : lf_Z} {s0 : lf_Z} (hQ : ∀  (s' : lf_Z), iv_A s'.1 s'.2.2 → lf_fq [95] 1000000 true s.1 s.2.2 s'.1 s'.2.2 → (s0.1 95 7 ≤ s'.1 95 8 ∧ (s'.1 95 9 = 0 ∨ s'.1 95 8 < s'.1 95 7)) → (s'.1 95 12 = s0.1 95 12 ∧ s'.1 95 13 = s0.1 95 13 ∧ s'.1 95 19 = s0.1 95 19 ∧ s'.1 95 20 = s0.1 95 20 ∧ s'.1 95 21 = s0.1 95 21 ∧ s'.1 95 22 = s0.1 95 22 ∧ s'.1 95 23 = s0.1 95 23) → Q  s') {M0 : Nat} (hX0 : ∀ (s' : lf_Z), iv_A s'.1 s'.2.2 → lf_fq [95] 1000000 true s.1 s.2.2 s'.1 s'.2.2 → (s0.1 95 7 ≤ s'.1 95 7) → (s'.1 95 12 = s0.1 95 12 ∧ s'.1 95 13 = s0.1 95 13 ∧ s'.1 95 19 = s0.1 95 19 ∧ s'.1 95 20 = s0.1 95 20 ∧ s'.1 95 21 = s0.1 95 21 ∧ s'.1 95 22 = s0.1 95 22 ∧ s'.1 95 23 = s0.1 95 23) → (300 - s'.1 95 7).toNat < M0 → X0 s') (hM0 : (300 - s.1 95 7).toNat ≤ M0) (hI : iv_A s.1 s.2.2) (kv0 : s0.1 95 7 ≤ s.1 95 7) (kv1 : s.1 95 12 = s0.1 95 12 ∧ s.1 95 13 = s0.1 95 13 ∧ s.1 95 19 = s0.1 95 19 ∧ s.1 95 20 = s0.1 95 20 ∧ s.1 95 21 = s0.1 95 21 ∧ s.1 95 22 = s0.1 95 22 ∧ s.1 95 23 = s0.1 95 23) : fm_197_p0 Q X0 s := sorry
theorem sm_197_p0L {Q : lf_Z → Prop} {s : lf_Z} {s0 : lf_Z} (hQ : ∀  (s' : lf_Z), iv_A s'.1 s'.2.2 → lf_fq [95] 1000000 true s.1 s.2.2 s'.1 s'.2.2 → (s0.1 95 7 ≤ s'.1 95 8 ∧ (s'.1 95 9 = 0 ∨ s'.1 95 8 < s'.1 95 7)) → (s'.1 95 12 = s0.1 95 12 ∧ s'.1 95 13 = s0.1 95 13 ∧ s'.1 95 19 = s0.1 95 19 ∧ s'.1 95 20 = s0.1 95 20 ∧ s'.1 95 21 = s0.1 95 21 ∧ s'.1 95 22 = s0.1 95 22 ∧ s'.1 95 23 = s0.1 95 23) → Q  s') (hI : iv_A s.1 s.2.2) (kv0 : s0.1 95 7 ≤ s.1 95 7) (kv1 : s.1 95 12 = s0.1 95 12 ∧ s.1 95 13 = s0.1 95 13 ∧ s.1 95 19 = s0.1 95 19 ∧ s.1 95 20 = s0.1 95 20 ∧ s.1 95 21 = s0.1 95 21 ∧ s.1 95 22 = s0.1 95 22 ∧ s.1 95 23 = s0.1 95 23) : fm_197_p0L Q s := by
  intro X0 hX
  have key : ∀ (m9 : Nat) (s' : lf_Z), iv_A s'.1 s'.2.2 → lf_fq [95] 1000000 true s.1 s.2.2 s'.1 s'.2.2 → (s0.1 95 7 ≤ s'.1 95 7) → (s'.1 95 12 = s0.1 95 12 ∧ s'.1 95 13 = s0.1 95 13 ∧ s'.1 95 19 = s0.1 95 19 ∧ s'.1 95 20 = s0.1 95 20 ∧ s'.1 95 21 = s0.1 95 21 ∧ s'.1 95 22 = s0.1 95 22 ∧ s'.1 95 23 = s0.1 95 23) → (300 - s'.1 95 7).toNat < m9 → X0 s' := by
    intro m9
    induction m9 with
    | zero => intro  s' _ _ kv0 kv1 h9; exact absurd h9 (Nat.not_lt_zero _)
    | succ m9 ih => intro  s' i7 f7 kv0 kv1 h9; exact hX  _ (sm_197_p0 (s0 := s0) (fun t9 i9 f9 => hQ t9 i9 (lf_fq_tr f7 f9))   (fun  t8 i8 f8 kv0' kv1' h8 => ih  t8 i8 (lf_fq_tr f7 f8) kv0' kv1' (by omega)) (Nat.le_refl _)  i7    kv0 kv1)
  exact key _  s hI lf_fq_rf kv0 kv1 (Nat.lt_succ_self _)
theorem sm_197 {Q : lf_Z → Prop} {s : lf_Z} (hI : iv_A s.1 s.2.2) (hQ : ∀  (s' : lf_Z), iv_A s'.1 s'.2.2 → lf_fq [95] 1000000 true s.1 s.2.2 s'.1 s'.2.2 → (s.1 95 7 ≤ s'.1 95 8 ∧ (s'.1 95 9 = 0 ∨ s'.1 95 8 < s'.1 95 7)) → (s'.1 95 12 = s.1 95 12 ∧ s'.1 95 13 = s.1 95 13 ∧ s'.1 95 19 = s.1 95 19 ∧ s'.1 95 20 = s.1 95 20 ∧ s'.1 95 21 = s.1 95 21 ∧ s'.1 95 22 = s.1 95 22 ∧ s'.1 95 23 = s.1 95 23) → Q  s') : fm_197 Q s := by
  unfold fm_197
  have b1 : 0 ≤ s.1 95 7 ∧ s.1 95 7 ≤ 300 := iv_r95_7 hI
  have b2 : 0 ≤ s.1 95 12 ∧ s.1 95 12 ≤ 2115 := iv_r95_12 hI
  have b3 : 0 ≤ s.1 95 13 ∧ s.1 95 13 ≤ 304 := iv_r95_13 hI
  have b4 : 0 ≤ s.1 95 19 ∧ s.1 95 19 ≤ 160 := iv_r95_19 hI
  have b5 : 0 ≤ s.1 95 20 ∧ s.1 95 20 ≤ 8 := iv_r95_20 hI
  have b6 : 0 ≤ s.1 95 21 ∧ s.1 95 21 ≤ 8 := iv_r95_21 hI
  have b7 : 0 ≤ s.1 95 22 ∧ s.1 95 22 ≤ 80 := iv_r95_22 hI
  have b8 : 0 ≤ s.1 95 23 ∧ s.1 95 23 ≤ 1 := iv_r95_23 hI
  exact sm_197_p0L (s0 := s) hQ hI (show s.1 95 7 ≤ (s.1 95 7) from by omega) (show (s.1 95 12) = s.1 95 12 ∧ (s.1 95 13) = s.1 95 13 ∧ (s.1 95 19) = s.1 95 19 ∧ (s.1 95 20) = s.1 95 20 ∧ (s.1 95 21) = s.1 95 21 ∧ (s.1 95 22) = s.1 95 22 ∧ (s.1 95 23) = s.1 95 23 from by omega)
-- fm_206 Model.w2 i i
theorem sm_206 {a0 : Int} {a1 : Int} {Q : Int → lf_Z → Prop} {s : lf_Z} (hI : iv_A s.1 s.2.2) (ba0 : 97 ≤ a0 ∧ a0 ≤ 119) (ba1 : 97 ≤ a1 ∧ a1 ≤ 121) (hQ : ∀ (r : Int), Q r s) : fm_206 a0 a1 Q s := by
  unfold fm_206
  refine ⟨(show lf_R a0 from lf_Rof (by omega)), ?_⟩
  refine ⟨(show lf_R a1 from lf_Rof (by omega)), ?_⟩
  exact hQ (lf_lor (lf_lshl a0 8) a1)
-- fm_205 Model.w3 i i i
theorem sm_205 {a0 : Int} {a1 : Int} {a2 : Int} {Q : Int → lf_Z → Prop} {s : lf_Z} (hI : iv_A s.1 s.2.2) (ba0 : 97 ≤ a0 ∧ a0 ≤ 119) (ba1 : 97 ≤ a1 ∧ a1 ≤ 117) (ba2 : 97 ≤ a2 ∧ a2 ≤ 122) (hQ : ∀ (r : Int), Q r s) : fm_205 a0 a1 a2 Q s := by
  unfold fm_205
  refine sm_206 hI (show (97 : Int) ≤ a0 ∧ a0 ≤ (119 : Int) from by omega) (show (97 : Int) ≤ a1 ∧ a1 ≤ (121 : Int) from by omega) (fun r22 => ?_)
  refine ⟨(show lf_R a2 from lf_Rof (by omega)), ?_⟩
  exact hQ (lf_lor (lf_lshl (lf_wl r22) 8) a2)
-- fm_204 Model.w4 i i i i
theorem sm_204 {a0 : Int} {a1 : Int} {a2 : Int} {a3 : Int} {Q : Int → lf_Z → Prop} {s : lf_Z} (hI : iv_A s.1 s.2.2) (ba0 : 97 ≤ a0 ∧ a0 ≤ 116) (ba1 : 97 ≤ a1 ∧ a1 ≤ 117) (ba2 : 97 ≤ a2 ∧ a2 ≤ 122) (ba3 : 97 ≤ a3 ∧ a3 ≤ 117) (hQ : ∀ (r : Int), Q r s) : fm_204 a0 a1 a2 a3 Q s := by
  unfold fm_204
  refine sm_205 hI (show (97 : Int) ≤ a0 ∧ a0 ≤ (119 : Int) from by omega) (show (97 : Int) ≤ a1 ∧ a1 ≤ (117 : Int) from by omega) (show (97 : Int) ≤ a2 ∧ a2 ≤ (122 : Int) from by omega) (fun r22 => ?_)
  refine ⟨(show lf_R a3 from lf_Rof (by omega)), ?_⟩
  exact hQ (lf_lor (lf_lshl (lf_wl r22) 8) a3)
-- fm_207 Model.isWord 95 l
theorem sm_207 {a1 : Int} {Q : Bool → lf_Z → Prop} {s : lf_Z} (hI : iv_A s.1 s.2.2) (hQ : ∀ (z : Bool), ((z = true → (s.1 95 9 = 2)) ∧ (z = false → True)) → Q z s) : fm_207 a1 Q s := by
  unfold fm_207
  have b1 : (-2147483648) ≤ s.1 95 9 ∧ s.1 95 9 ≤ 2147483647 := iv_full hI
  refine ⟨(show lf_R (s.1 95 9) from lf_Rof (by omega)), ?_⟩
  refine ⟨fun c2 => ?_, fun c2 => ?_⟩
  · skip
    have c2 : s.1 95 9 ≠ 2 := c2
    exact hQ false ⟨fun h => (by cases h), fun _ => trivial⟩
  · skip
    have c2 : ¬ (s.1 95 9 ≠ 2) := c2
    refine ⟨fun c3 => ?_, fun c3 => ?_⟩
    · have c3 : lf_wl (s.2.1 95 11) ≠ lf_wl a1 := c3
      exact hQ false ⟨fun h => (by cases h), fun _ => trivial⟩
    · have c3 : ¬ (lf_wl (s.2.1 95 11) ≠ lf_wl a1) := c3
      exact hQ true ⟨fun _ => by omega, fun _ => trivial⟩
-- fm_208 Model.w5 i i i i i
theorem sm_208 {a0 : Int} {a1 : Int} {a2 : Int} {a3 : Int} {a4 : Int} {Q : Int → lf_Z → Prop} {s : lf_Z} (hI : iv_A s.1 s.2.2) (ba0 : 97 ≤ a0 ∧ a0 ≤ 116) (ba1 : 97 ≤ a1 ∧ a1 ≤ 117) (ba2 : 97 ≤ a2 ∧ a2 ≤ 114) (ba3 : 97 ≤ a3 ∧ a3 ≤ 117) (ba4 : 100 ≤ a4 ∧ a4 ≤ 121) (hQ : ∀ (r : Int), Q r s) : fm_208 a0 a1 a2 a3 a4 Q s := by
  unfold fm_208
  refine sm_204 hI (show (97 : Int) ≤ a0 ∧ a0 ≤ (116 : Int) from by omega) (show (97 : Int) ≤ a1 ∧ a1 ≤ (117 : Int) from by omega) (show (97 : Int) ≤ a2 ∧ a2 ≤ (122 : Int) from by omega) (show (97 : Int) ≤ a3 ∧ a3 ≤ (117 : Int) from by omega) (fun r22 => ?_)
  refine ⟨(show lf_R a4 from lf_Rof (by omega)), ?_⟩
  exact hQ (lf_lor (lf_lshl (lf_wl r22) 8) a4)
-- fm_209 Model.w6 i i i i i i
theorem sm_209 {a0 : Int} {a1 : Int} {a2 : Int} {a3 : Int} {a4 : Int} {a5 : Int} {Q : Int → lf_Z → Prop} {s : lf_Z} (hI : iv_A s.1 s.2.2) (ba0 : 98 ≤ a0 ∧ a0 ≤ 109) (ba1 : 101 ≤ a1 ∧ a1 ≤ 117) (ba2 : 99 ≤ a2 ∧ a2 ≤ 110) (ba3 : 105 ≤ a3 ∧ a3 ≤ 117) (ba4 : 101 ≤ a4 ∧ a4 ≤ 116) (ba5 : 100 ≤ a5 ∧ a5 ≤ 116) (hQ : ∀ (r : Int), Q r s) : fm_209 a0 a1 a2 a3 a4 a5 Q s := by
  unfold fm_209
  refine sm_208 hI (show (97 : Int) ≤ a0 ∧ a0 ≤ (116 : Int) from by omega) (show (97 : Int) ≤ a1 ∧ a1 ≤ (117 : Int) from by omega) (show (97 : Int) ≤ a2 ∧ a2 ≤ (114 : Int) from by omega) (show (97 : Int) ≤ a3 ∧ a3 ≤ (117 : Int) from by omega) (show (100 : Int) ≤ a4 ∧ a4 ≤ (121 : Int) from by omega) (fun r22 => ?_)
  refine ⟨(show lf_R a5 from lf_Rof (by omega)), ?_⟩
  exact hQ (lf_lor (lf_lshl (lf_wl r22) 8) a5)
-- fm_203 Model.sortOf 95
theorem sm_203 {Q : Int → lf_Z → Prop} {s : lf_Z} (hI : iv_A s.1 s.2.2) (hQ : ∀ (r : Int), ((-1) ≤ r ∧ r ≤ 12) → Q r s) : fm_203 Q s := by
  unfold fm_203
  refine sm_204 hI (show (97 : Int) ≤ 112 ∧ 112 ≤ (116 : Int) from by omega) (show (97 : Int) ≤ 97 ∧ 97 ≤ (117 : Int) from by omega) (show (97 : Int) ≤ 99 ∧ 99 ≤ (122 : Int) from by omega) (show (97 : Int) ≤ 101 ∧ 101 ≤ (117 : Int) from by omega) (fun r22 => ?_)
  refine sm_207 hI (fun z24 q2 => ?_)
  have b3 : (-2147483648) ≤ s.1 95 9 ∧ s.1 95 9 ≤ 2147483647 := iv_full hI
  refine ⟨fun c4 => ?_, fun c4 => ?_⟩
  · skip
    have dc4 := q2.2 c4
    refine sm_208 hI (show (97 : Int) ≤ 116 ∧ 116 ≤ (116 : Int) from by omega) (show (97 : Int) ≤ 97 ∧ 97 ≤ (117 : Int) from by omega) (show (97 : Int) ≤ 107 ∧ 107 ≤ (114 : Int) from by omega) (show (97 : Int) ≤ 101 ∧ 101 ≤ (117 : Int) from by omega) (show (100 : Int) ≤ 115 ∧ 115 ≤ (121 : Int) from by omega) (fun r26 => ?_)
    refine sm_207 hI (fun z28 q6 => ?_)
    refine ⟨fun c7 => ?_, fun c7 => ?_⟩
    · skip
      have dc7 := q6.2 c7
      refine sm_204 hI (show (97 : Int) ≤ 112 ∧ 112 ≤ (116 : Int) from by omega) (show (97 : Int) ≤ 97 ∧ 97 ≤ (117 : Int) from by omega) (show (97 : Int) ≤ 121 ∧ 121 ≤ (122 : Int) from by omega) (show (97 : Int) ≤ 115 ∧ 115 ≤ (117 : Int) from by omega) (fun r30 => ?_)
      refine sm_207 hI (fun z32 q9 => ?_)
      refine ⟨fun c10 => ?_, fun c10 => ?_⟩
      · skip
        have dc10 := q9.2 c10
        refine sm_205 hI (show (97 : Int) ≤ 115 ∧ 115 ≤ (119 : Int) from by omega) (show (97 : Int) ≤ 116 ∧ 116 ≤ (117 : Int) from by omega) (show (97 : Int) ≤ 114 ∧ 114 ≤ (122 : Int) from by omega) (fun r34 => ?_)
        refine sm_204 hI (show (97 : Int) ≤ 101 ∧ 101 ≤ (116 : Int) from by omega) (show (97 : Int) ≤ 116 ∧ 116 ≤ (117 : Int) from by omega) (show (97 : Int) ≤ 99 ∧ 99 ≤ (122 : Int) from by omega) (show (97 : Int) ≤ 104 ∧ 104 ≤ (117 : Int) from by omega) (fun r36 => ?_)
        refine sm_207 hI (fun z38 q13 => ?_)
        refine ⟨fun c14 => ?_, fun c14 => ?_⟩
        · skip
          have dc14 := q13.2 c14
          refine sm_205 hI (show (97 : Int) ≤ 119 ∧ 119 ≤ (119 : Int) from by omega) (show (97 : Int) ≤ 97 ∧ 97 ≤ (117 : Int) from by omega) (show (97 : Int) ≤ 121 ∧ 121 ≤ (122 : Int) from by omega) (fun r40 => ?_)
          refine sm_207 hI (fun z42 q16 => ?_)
          refine ⟨fun c17 => ?_, fun c17 => ?_⟩
          · skip
            have dc17 := q16.2 c17
            refine sm_204 hI (show (97 : Int) ≤ 112 ∧ 112 ≤ (116 : Int) from by omega) (show (97 : Int) ≤ 97 ∧ 97 ≤ (117 : Int) from by omega) (show (97 : Int) ≤ 116 ∧ 116 ≤ (122 : Int) from by omega) (show (97 : Int) ≤ 104 ∧ 104 ≤ (117 : Int) from by omega) (fun r44 => ?_)
            refine sm_207 hI (fun z46 q19 => ?_)
            refine ⟨fun c20 => ?_, fun c20 => ?_⟩
            · skip
              have dc20 := q19.2 c20
              refine sm_205 hI (show (97 : Int) ≤ 111 ∧ 111 ≤ (119 : Int) from by omega) (show (97 : Int) ≤ 110 ∧ 110 ≤ (117 : Int) from by omega) (show (97 : Int) ≤ 101 ∧ 101 ≤ (122 : Int) from by omega) (fun r48 => ?_)
              refine sm_207 hI (fun z50 q22 => ?_)
              refine ⟨fun c23 => ?_, fun c23 => ?_⟩
              · skip
                have dc23 := q22.2 c23
                refine sm_208 hI (show (97 : Int) ≤ 115 ∧ 115 ≤ (116 : Int) from by omega) (show (97 : Int) ≤ 116 ∧ 116 ≤ (117 : Int) from by omega) (show (97 : Int) ≤ 114 ∧ 114 ≤ (114 : Int) from by omega) (show (97 : Int) ≤ 97 ∧ 97 ≤ (117 : Int) from by omega) (show (100 : Int) ≤ 121 ∧ 121 ≤ (121 : Int) from by omega) (fun r52 => ?_)
                refine sm_207 hI (fun z54 q25 => ?_)
                refine ⟨fun c26 => ?_, fun c26 => ?_⟩
                · skip
                  have dc26 := q25.2 c26
                  refine sm_204 hI (show (97 : Int) ≤ 115 ∧ 115 ≤ (116 : Int) from by omega) (show (97 : Int) ≤ 101 ∧ 101 ≤ (117 : Int) from by omega) (show (97 : Int) ≤ 110 ∧ 110 ≤ (122 : Int) from by omega) (show (97 : Int) ≤ 100 ∧ 100 ≤ (117 : Int) from by omega) (fun r56 => ?_)
                  refine sm_207 hI (fun z58 q28 => ?_)
                  refine ⟨fun c29 => ?_, fun c29 => ?_⟩
                  · skip
                    have dc29 := q28.2 c29
                    refine sm_204 hI (show (97 : Int) ≤ 115 ∧ 115 ≤ (116 : Int) from by omega) (show (97 : Int) ≤ 104 ∧ 104 ≤ (117 : Int) from by omega) (show (97 : Int) ≤ 117 ∧ 117 ≤ (122 : Int) from by omega) (show (97 : Int) ≤ 116 ∧ 116 ≤ (117 : Int) from by omega) (fun r60 => ?_)
                    refine sm_207 hI (fun z62 q31 => ?_)
                    refine ⟨fun c32 => ?_, fun c32 => ?_⟩
                    · skip
                      have dc32 := q31.2 c32
                      refine sm_204 hI (show (97 : Int) ≤ 111 ∧ 111 ≤ (116 : Int) from by omega) (show (97 : Int) ≤ 112 ∧ 112 ≤ (117 : Int) from by omega) (show (97 : Int) ≤ 101 ∧ 101 ≤ (122 : Int) from by omega) (show (97 : Int) ≤ 110 ∧ 110 ≤ (117 : Int) from by omega) (fun r64 => ?_)
                      refine sm_207 hI (fun z66 q34 => ?_)
                      refine ⟨fun c35 => ?_, fun c35 => ?_⟩
                      · skip
                        have dc35 := q34.2 c35
                        refine sm_208 hI (show (97 : Int) ≤ 115 ∧ 115 ≤ (116 : Int) from by omega) (show (97 : Int) ≤ 112 ∧ 112 ≤ (117 : Int) from by omega) (show (97 : Int) ≤ 108 ∧ 108 ≤ (114 : Int) from by omega) (show (97 : Int) ≤ 105 ∧ 105 ≤ (117 : Int) from by omega) (show (100 : Int) ≤ 116 ∧ 116 ≤ (121 : Int) from by omega) (fun r68 => ?_)
                        refine sm_207 hI (fun z70 q37 => ?_)
                        refine ⟨fun c38 => ?_, fun c38 => ?_⟩
                        · skip
                          have dc38 := q37.2 c38
                          refine sm_209 hI (show (98 : Int) ≤ 109 ∧ 109 ≤ (109 : Int) from by omega) (show (101 : Int) ≤ 105 ∧ 105 ≤ (117 : Int) from by omega) (show (99 : Int) ≤ 110 ∧ 110 ≤ (110 : Int) from by omega) (show (105 : Int) ≤ 117 ∧ 117 ≤ (117 : Int) from by omega) (show (101 : Int) ≤ 116 ∧ 116 ≤ (116 : Int) from by omega) (show (100 : Int) ≤ 101 ∧ 101 ≤ (116 : Int) from by omega) (fun r72 => ?_)
                          refine sm_207 hI (fun z74 q40 => ?_)
                          refine ⟨fun c41 => ?_, fun c41 => ?_⟩
                          · skip
                            have dc41 := q40.2 c41
                            exact hQ (-1) (show (-1 : Int) ≤ (-1) ∧ (-1) ≤ (12 : Int) from by omega)
                          · skip
                            have dc41 := q40.1 c41
                            exact hQ 12 (show (-1 : Int) ≤ 12 ∧ 12 ≤ (12 : Int) from by omega)
                        · skip
                          have dc38 := q37.1 c38
                          exact hQ 11 (show (-1 : Int) ≤ 11 ∧ 11 ≤ (12 : Int) from by omega)
                      · skip
                        have dc35 := q34.1 c35
                        exact hQ 10 (show (-1 : Int) ≤ 10 ∧ 10 ≤ (12 : Int) from by omega)
                    · skip
                      have dc32 := q31.1 c32
                      exact hQ 9 (show (-1 : Int) ≤ 9 ∧ 9 ≤ (12 : Int) from by omega)
                  · skip
                    have dc29 := q28.1 c29
                    exact hQ 8 (show (-1 : Int) ≤ 8 ∧ 8 ≤ (12 : Int) from by omega)
                · skip
                  have dc26 := q25.1 c26
                  exact hQ 7 (show (-1 : Int) ≤ 7 ∧ 7 ≤ (12 : Int) from by omega)
              · skip
                have dc23 := q22.1 c23
                exact hQ 6 (show (-1 : Int) ≤ 6 ∧ 6 ≤ (12 : Int) from by omega)
            · skip
              have dc20 := q19.1 c20
              exact hQ 5 (show (-1 : Int) ≤ 5 ∧ 5 ≤ (12 : Int) from by omega)
          · skip
            have dc17 := q16.1 c17
            exact hQ 4 (show (-1 : Int) ≤ 4 ∧ 4 ≤ (12 : Int) from by omega)
        · skip
          have dc14 := q13.1 c14
          exact hQ 3 (show (-1 : Int) ≤ 3 ∧ 3 ≤ (12 : Int) from by omega)
      · skip
        have dc10 := q9.1 c10
        exact hQ 2 (show (-1 : Int) ≤ 2 ∧ 2 ≤ (12 : Int) from by omega)
    · skip
      have dc7 := q6.1 c7
      exact hQ 1 (show (-1 : Int) ≤ 1 ∧ 1 ≤ (12 : Int) from by omega)
  · skip
    have dc4 := q2.1 c4
    exact hQ 0 (show (-1 : Int) ≤ 0 ∧ 0 ≤ (12 : Int) from by omega)
-- fm_230 Model.nameOf 95
theorem sm_230 {Q : Int → lf_Z → Prop} {s : lf_Z} (hI : iv_A s.1 s.2.2) (hQ : ∀ (r : Int), (((-1) ≤ r ∧ r ≤ 10) ∧ (r = -1 ∨ s.1 95 9 = 2)) → Q r s) : fm_230 Q s := by
  unfold fm_230
  have b1 : (-2147483648) ≤ s.1 95 9 ∧ s.1 95 9 ≤ 2147483647 := iv_full hI
  refine ⟨(show lf_R (s.1 95 9) from lf_Rof (by omega)), ?_⟩
  refine ⟨fun c2 => ?_, fun c2 => ?_⟩
  · skip
    have c2 : s.1 95 9 = 2 := c2
    refine sm_204 hI (show (97 : Int) ≤ 115 ∧ 115 ≤ (116 : Int) from by omega) (show (97 : Int) ≤ 105 ∧ 105 ≤ (117 : Int) from by omega) (show (97 : Int) ≤ 122 ∧ 122 ≤ (122 : Int) from by omega) (show (97 : Int) ≤ 101 ∧ 101 ≤ (117 : Int) from by omega) (fun r23 => ?_)
    refine ⟨fun c4 => ?_, fun c4 => ?_⟩
    · have c4 : lf_wl (s.2.1 95 11) ≠ lf_wl r23 := c4
      refine sm_208 hI (show (97 : Int) ≤ 112 ∧ 112 ≤ (116 : Int) from by omega) (show (97 : Int) ≤ 108 ∧ 108 ≤ (117 : Int) from by omega) (show (97 : Int) ≤ 97 ∧ 97 ≤ (114 : Int) from by omega) (show (97 : Int) ≤ 99 ∧ 99 ≤ (117 : Int) from by omega) (show (100 : Int) ≤ 101 ∧ 101 ≤ (121 : Int) from by omega) (fun r25 => ?_)
      refine ⟨fun c6 => ?_, fun c6 => ?_⟩
      · have c6 : lf_wl (s.2.1 95 11) ≠ lf_wl r25 := c6
        refine sm_204 hI (show (97 : Int) ≤ 107 ∧ 107 ≤ (116 : Int) from by omega) (show (97 : Int) ≤ 105 ∧ 105 ≤ (117 : Int) from by omega) (show (97 : Int) ≤ 110 ∧ 110 ≤ (122 : Int) from by omega) (show (97 : Int) ≤ 100 ∧ 100 ≤ (117 : Int) from by omega) (fun r27 => ?_)
        refine ⟨fun c8 => ?_, fun c8 => ?_⟩
        · have c8 : lf_wl (s.2.1 95 11) ≠ lf_wl r27 := c8
          refine sm_204 hI (show (97 : Int) ≤ 104 ∧ 104 ≤ (116 : Int) from by omega) (show (97 : Int) ≤ 101 ∧ 101 ≤ (117 : Int) from by omega) (show (97 : Int) ≤ 114 ∧ 114 ≤ (122 : Int) from by omega) (show (97 : Int) ≤ 101 ∧ 101 ≤ (117 : Int) from by omega) (fun r29 => ?_)
          refine ⟨fun c10 => ?_, fun c10 => ?_⟩
          · have c10 : lf_wl (s.2.1 95 11) ≠ lf_wl r29 := c10
            refine sm_209 hI (show (98 : Int) ≤ 98 ∧ 98 ≤ (109 : Int) from by omega) (show (101 : Int) ≤ 101 ∧ 101 ≤ (117 : Int) from by omega) (show (99 : Int) ≤ 104 ∧ 104 ≤ (110 : Int) from by omega) (show (105 : Int) ≤ 105 ∧ 105 ≤ (117 : Int) from by omega) (show (101 : Int) ≤ 110 ∧ 110 ≤ (116 : Int) from by omega) (show (100 : Int) ≤ 100 ∧ 100 ≤ (116 : Int) from by omega) (fun r31 => ?_)
            refine ⟨fun c12 => ?_, fun c12 => ?_⟩
            · have c12 : lf_wl (s.2.1 95 11) ≠ lf_wl r31 := c12
              refine sm_208 hI (show (97 : Int) ≤ 97 ∧ 97 ≤ (116 : Int) from by omega) (show (97 : Int) ≤ 104 ∧ 104 ≤ (117 : Int) from by omega) (show (97 : Int) ≤ 101 ∧ 101 ≤ (114 : Int) from by omega) (show (97 : Int) ≤ 97 ∧ 97 ≤ (117 : Int) from by omega) (show (100 : Int) ≤ 100 ∧ 100 ≤ (121 : Int) from by omega) (fun r33 => ?_)
              refine ⟨fun c14 => ?_, fun c14 => ?_⟩
              · have c14 : lf_wl (s.2.1 95 11) ≠ lf_wl r33 := c14
                refine sm_208 hI (show (97 : Int) ≤ 115 ∧ 115 ≤ (116 : Int) from by omega) (show (97 : Int) ≤ 116 ∧ 116 ≤ (117 : Int) from by omega) (show (97 : Int) ≤ 111 ∧ 111 ≤ (114 : Int) from by omega) (show (97 : Int) ≤ 111 ∧ 111 ≤ (117 : Int) from by omega) (show (100 : Int) ≤ 100 ∧ 100 ≤ (121 : Int) from by omega) (fun r35 => ?_)
                refine ⟨fun c16 => ?_, fun c16 => ?_⟩
                · have c16 : lf_wl (s.2.1 95 11) ≠ lf_wl r35 := c16
                  refine sm_209 hI (show (98 : Int) ≤ 98 ∧ 98 ≤ (109 : Int) from by omega) (show (101 : Int) ≤ 117 ∧ 117 ≤ (117 : Int) from by omega) (show (99 : Int) ≤ 99 ∧ 99 ≤ (110 : Int) from by omega) (show (105 : Int) ≤ 107 ∧ 107 ≤ (117 : Int) from by omega) (show (101 : Int) ≤ 101 ∧ 101 ≤ (116 : Int) from by omega) (show (100 : Int) ≤ 116 ∧ 116 ≤ (116 : Int) from by omega) (fun r37 => ?_)
                  refine ⟨fun c18 => ?_, fun c18 => ?_⟩
                  · have c18 : lf_wl (s.2.1 95 11) ≠ lf_wl r37 := c18
                    refine sm_204 hI (show (97 : Int) ≤ 98 ∧ 98 ≤ (116 : Int) from by omega) (show (97 : Int) ≤ 97 ∧ 97 ≤ (117 : Int) from by omega) (show (97 : Int) ≤ 99 ∧ 99 ≤ (122 : Int) from by omega) (show (97 : Int) ≤ 107 ∧ 107 ≤ (117 : Int) from by omega) (fun r39 => ?_)
                    refine ⟨fun c20 => ?_, fun c20 => ?_⟩
                    · have c20 : lf_wl (s.2.1 95 11) ≠ lf_wl r39 := c20
                      refine sm_205 hI (show (97 : Int) ≤ 119 ∧ 119 ≤ (119 : Int) from by omega) (show (97 : Int) ≤ 97 ∧ 97 ≤ (117 : Int) from by omega) (show (97 : Int) ≤ 121 ∧ 121 ≤ (122 : Int) from by omega) (fun r41 => ?_)
                      refine ⟨fun c22 => ?_, fun c22 => ?_⟩
                      · have c22 : lf_wl (s.2.1 95 11) ≠ lf_wl r41 := c22
                        refine sm_204 hI (show (97 : Int) ≤ 100 ∧ 100 ≤ (116 : Int) from by omega) (show (97 : Int) ≤ 111 ∧ 111 ≤ (117 : Int) from by omega) (show (97 : Int) ≤ 110 ∧ 110 ≤ (122 : Int) from by omega) (show (97 : Int) ≤ 101 ∧ 101 ≤ (117 : Int) from by omega) (fun r43 => ?_)
                        refine ⟨fun c24 => ?_, fun c24 => ?_⟩
                        · have c24 : lf_wl (s.2.1 95 11) ≠ lf_wl r43 := c24
                          exact hQ (-1) ⟨(show (-1 : Int) ≤ (-1) ∧ (-1) ≤ (10 : Int) from by omega), (show (-1) = -1 ∨ s.1 95 9 = 2 from by omega)⟩
                        · have c24 : ¬ (lf_wl (s.2.1 95 11) ≠ lf_wl r43) := c24
                          exact hQ 10 ⟨(show (-1 : Int) ≤ 10 ∧ 10 ≤ (10 : Int) from by omega), (show 10 = -1 ∨ s.1 95 9 = 2 from by omega)⟩
                      · have c22 : ¬ (lf_wl (s.2.1 95 11) ≠ lf_wl r41) := c22
                        exact hQ 9 ⟨(show (-1 : Int) ≤ 9 ∧ 9 ≤ (10 : Int) from by omega), (show 9 = -1 ∨ s.1 95 9 = 2 from by omega)⟩
                    · have c20 : ¬ (lf_wl (s.2.1 95 11) ≠ lf_wl r39) := c20
                      exact hQ 8 ⟨(show (-1 : Int) ≤ 8 ∧ 8 ≤ (10 : Int) from by omega), (show 8 = -1 ∨ s.1 95 9 = 2 from by omega)⟩
                  · have c18 : ¬ (lf_wl (s.2.1 95 11) ≠ lf_wl r37) := c18
                    exact hQ 7 ⟨(show (-1 : Int) ≤ 7 ∧ 7 ≤ (10 : Int) from by omega), (show 7 = -1 ∨ s.1 95 9 = 2 from by omega)⟩
                · have c16 : ¬ (lf_wl (s.2.1 95 11) ≠ lf_wl r35) := c16
                  exact hQ 6 ⟨(show (-1 : Int) ≤ 6 ∧ 6 ≤ (10 : Int) from by omega), (show 6 = -1 ∨ s.1 95 9 = 2 from by omega)⟩
              · have c14 : ¬ (lf_wl (s.2.1 95 11) ≠ lf_wl r33) := c14
                exact hQ 5 ⟨(show (-1 : Int) ≤ 5 ∧ 5 ≤ (10 : Int) from by omega), (show 5 = -1 ∨ s.1 95 9 = 2 from by omega)⟩
            · have c12 : ¬ (lf_wl (s.2.1 95 11) ≠ lf_wl r31) := c12
              exact hQ 4 ⟨(show (-1 : Int) ≤ 4 ∧ 4 ≤ (10 : Int) from by omega), (show 4 = -1 ∨ s.1 95 9 = 2 from by omega)⟩
          · have c10 : ¬ (lf_wl (s.2.1 95 11) ≠ lf_wl r29) := c10
            exact hQ 3 ⟨(show (-1 : Int) ≤ 3 ∧ 3 ≤ (10 : Int) from by omega), (show 3 = -1 ∨ s.1 95 9 = 2 from by omega)⟩
        · have c8 : ¬ (lf_wl (s.2.1 95 11) ≠ lf_wl r27) := c8
          exact hQ 2 ⟨(show (-1 : Int) ≤ 2 ∧ 2 ≤ (10 : Int) from by omega), (show 2 = -1 ∨ s.1 95 9 = 2 from by omega)⟩
      · have c6 : ¬ (lf_wl (s.2.1 95 11) ≠ lf_wl r25) := c6
        exact hQ 1 ⟨(show (-1 : Int) ≤ 1 ∧ 1 ≤ (10 : Int) from by omega), (show 1 = -1 ∨ s.1 95 9 = 2 from by omega)⟩
    · have c4 : ¬ (lf_wl (s.2.1 95 11) ≠ lf_wl r23) := c4
      exact hQ 0 ⟨(show (-1 : Int) ≤ 0 ∧ 0 ≤ (10 : Int) from by omega), (show 0 = -1 ∨ s.1 95 9 = 2 from by omega)⟩
  · skip
    have c2 : ¬ (s.1 95 9 = 2) := c2
    exact hQ (-1) ⟨(show (-1 : Int) ≤ (-1) ∧ (-1) ≤ (10 : Int) from by omega), (show (-1) = -1 ∨ s.1 95 9 = 2 from by omega)⟩
