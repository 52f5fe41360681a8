-- fm_197 Model.nextToken 95
theorem sm_197_p26 {X0 : lf_Z → Prop} {Q : lf_Z → Prop} {s : lf_Z} (hQ : ∀  (s' : lf_Z), iv_A s'.1 s'.2.2 → lf_fq [95] 1000000 true s.1 s.2.2 s'.1 s'.2.2 → Q  s') {M0 : Nat} (hX0 : ∀ (s' : lf_Z), iv_A s'.1 s'.2.2 → lf_fq [95] 1000000 true s.1 s.2.2 s'.1 s'.2.2 → (300 - s'.1 95 7).toNat < M0 → X0 s') (hM0 : (300 - s.1 95 7).toNat ≤ M0) (hI : iv_A s.1 s.2.2) : fm_197_p26 X0 Q s := sorry
theorem sm_197_p297 {Q : lf_Z → Prop} {y1 : Int} {s : lf_Z} (hQ : ∀  (s' : lf_Z), iv_A s'.1 s'.2.2 → lf_fq [95] 1000000 true s.1 s.2.2 s'.1 s'.2.2 → Q  s') (hI : iv_A s.1 s.2.2) (by1 : 4 ≤ y1 ∧ y1 ≤ 5) : fm_197_p297 Q y1 s := sorry
theorem sm_197_p272 {Q : lf_Z → Prop} {x1 : Int} {s : lf_Z} (hQ : ∀  (s' : lf_Z), iv_A s'.1 s'.2.2 → lf_fq [95] 1000000 true s.1 s.2.2 s'.1 s'.2.2 → Q  s') (hI : iv_A s.1 s.2.2) (bx1 : 60 ≤ x1 ∧ x1 ≤ 62) : fm_197_p272 Q x1 s := by
  unfold fm_197_p272
  have b27 : 0 ≤ s.1 95 7 ∧ s.1 95 7 ≤ 300 := iv_r95_7 hI
  refine sm_198 hI (show (0 : Int) ≤ s.1 95 7 ∧ s.1 95 7 ≤ (300 : Int) from by omega) (fun r38 q28 => ?_)
  refine ⟨(show lf_R r38 from lf_Rof (by omega)), ?_⟩
  refine ⟨fun c29 => ?_, fun c29 => ?_⟩
  · skip
    have c29 : r38 ≠ 61 := c29
    exact hQ s hI (lf_fq_rf)
  · skip
    have c29 : ¬ (r38 ≠ 61) := c29
    refine ⟨(show lf_R x1 from lf_Rof (by omega)), ?_⟩
    refine ⟨fun c30 => ?_, fun c30 => ?_⟩
    · skip
      have c30 : x1 ≠ 60 := c30
      exact sm_197_p297 hQ hI (show (4 : Int) ≤ 5 ∧ 5 ≤ (5 : Int) from by omega)
    · skip
      have c30 : ¬ (x1 ≠ 60) := c30
      exact sm_197_p297 hQ hI (show (4 : Int) ≤ 4 ∧ 4 ≤ (5 : Int) from by omega)
theorem sm_197_p247 {Q : lf_Z → Prop} {x1 : Int} {y1 : Int} {s : lf_Z} (hQ : ∀  (s' : lf_Z), iv_A s'.1 s'.2.2 → lf_fq [95] 1000000 true s.1 s.2.2 s'.1 s'.2.2 → Q  s') (hI : iv_A s.1 s.2.2) (bx1 : 0 ≤ x1 ∧ x1 ≤ 255) (by1 : 0 ≤ y1 ∧ y1 ≤ 255) : fm_197_p247 Q x1 y1 s := sorry
theorem sm_197_p218 {X168 : lf_Z → Prop} {Q : lf_Z → Prop} {y1 : Int} {s : lf_Z} (hQ : ∀  (s' : lf_Z), iv_A s'.1 s'.2.2 → lf_fq [95] 1000000 true s.1 s.2.2 s'.1 s'.2.2 → Q  s') {M168 : Nat} (hX168 : ∀ (s' : lf_Z), iv_A s'.1 s'.2.2 → lf_fq [95] 1000000 true s.1 s.2.2 s'.1 s'.2.2 → (300 - s'.1 95 7).toNat < M168 → X168 s') (hM168 : (300 - s.1 95 7).toNat ≤ M168) (hI : iv_A s.1 s.2.2) : fm_197_p218 X168 Q y1 s := sorry
theorem sm_197_p168 {X168 : lf_Z → Prop} {Q : lf_Z → Prop} {s : lf_Z} (hQ : ∀  (s' : lf_Z), iv_A s'.1 s'.2.2 → lf_fq [95] 1000000 true s.1 s.2.2 s'.1 s'.2.2 → Q  s') {M168 : Nat} (hX168 : ∀ (s' : lf_Z), iv_A s'.1 s'.2.2 → lf_fq [95] 1000000 true s.1 s.2.2 s'.1 s'.2.2 → (300 - s'.1 95 7).toNat < M168 → X168 s') (hM168 : (300 - s.1 95 7).toNat ≤ M168) (hI : iv_A s.1 s.2.2) : fm_197_p168 Q X168 s := by
  unfold fm_197_p168
  have b41 : 0 ≤ s.1 95 7 ∧ s.1 95 7 ≤ 300 := iv_r95_7 hI
  refine sm_198 hI (show (0 : Int) ≤ s.1 95 7 ∧ s.1 95 7 ≤ (300 : Int) from by omega) (fun r42 q42 => ?_)
  refine sm_200 hI (show (-1 : Int) ≤ r42 ∧ r42 ≤ (255 : Int) from by omega) (fun z44 => ?_)
  refine ⟨fun c44 => ?_, fun c44 => ?_⟩
  · skip
    exact hQ s hI (lf_fq_rf)
  · skip
    refine ⟨fun c45 => ?_, fun c45 => ?_⟩
    · have c45 : lf_lshr (lf_wl (s.2.1 95 11)) 48 = 0 := c45
      refine sm_198 hI (show (0 : Int) ≤ s.1 95 7 ∧ s.1 95 7 ≤ (300 : Int) from by omega) (fun r46 q46 => ?_)
      refine ⟨(show lf_R r46 from lf_Rof (by omega)), ?_⟩
      exact sm_197_p218 hQ hX168 (show (300 - (s.1 95 7)).toNat ≤ M168 from by omega) hI
    · have c45 : ¬ (lf_lshr (lf_wl (s.2.1 95 11)) 48 = 0) := c45
      exact sm_197_p218 hQ hX168 (show (300 - (s.1 95 7)).toNat ≤ M168 from by omega) hI
theorem sm_197_p168L {Q : lf_Z → Prop} {s : lf_Z} (hQ : ∀  (s' : lf_Z), iv_A s'.1 s'.2.2 → lf_fq [95] 1000000 true s.1 s.2.2 s'.1 s'.2.2 → Q  s') (hI : iv_A s.1 s.2.2) : fm_197_p168L Q s := by
  intro X168 hX
  have key : ∀ (m9 : Nat) (s' : lf_Z), iv_A s'.1 s'.2.2 → lf_fq [95] 1000000 true s.1 s.2.2 s'.1 s'.2.2 → (300 - s'.1 95 7).toNat < m9 → X168 s' := by
    intro m9
    induction m9 with
    | zero => intro  s' _ _  h9; exact absurd h9 (Nat.not_lt_zero _)
    | succ m9 ih => intro  s' i7 f7  h9; exact hX  _ (sm_197_p168 (fun t9 i9 f9 => hQ t9 i9 (lf_fq_tr f7 f9))   (fun  t8 i8 f8  h8 => ih  t8 i8 (lf_fq_tr f7 f8)  (by omega)) (Nat.le_refl _)  i7    )
  exact key _  s hI lf_fq_rf  (Nat.lt_succ_self _)
theorem sm_197_p135 {X85 : lf_Z → Prop} {Q : lf_Z → Prop} {y1 : Int} {s : lf_Z} (hQ : ∀  (s' : lf_Z), iv_A s'.1 s'.2.2 → lf_fq [95] 1000000 true s.1 s.2.2 s'.1 s'.2.2 → Q  s') {M85 : Nat} (hX85 : ∀ (s' : lf_Z), iv_A s'.1 s'.2.2 → lf_fq [95] 1000000 true s.1 s.2.2 s'.1 s'.2.2 → (300 - s'.1 95 7).toNat < M85 → X85 s') (hM85 : (300 - s.1 95 7).toNat ≤ M85) (hI : iv_A s.1 s.2.2) (by1 : (-2147483648) ≤ y1 ∧ y1 ≤ 2147483647) : fm_197_p135 X85 Q y1 s := sorry
theorem sm_197_p85 {X85 : lf_Z → Prop} {Q : lf_Z → Prop} {s : lf_Z} (hQ : ∀  (s' : lf_Z), iv_A s'.1 s'.2.2 → lf_fq [95] 1000000 true s.1 s.2.2 s'.1 s'.2.2 → Q  s') {M85 : Nat} (hX85 : ∀ (s' : lf_Z), iv_A s'.1 s'.2.2 → lf_fq [95] 1000000 true s.1 s.2.2 s'.1 s'.2.2 → (300 - s'.1 95 7).toNat < M85 → X85 s') (hM85 : (300 - s.1 95 7).toNat ≤ M85) (hI : iv_A s.1 s.2.2) : fm_197_p85 Q X85 s := by
  unfold fm_197_p85
  have b56 : 0 ≤ s.1 95 7 ∧ s.1 95 7 ≤ 300 := iv_r95_7 hI
  refine sm_198 hI (show (0 : Int) ≤ s.1 95 7 ∧ s.1 95 7 ≤ (300 : Int) from by omega) (fun r49 q57 => ?_)
  refine sm_199 hI (show (-1 : Int) ≤ r49 ∧ r49 ≤ (255 : Int) from by omega) (fun z51 => ?_)
  refine ⟨fun c59 => ?_, fun c59 => ?_⟩
  · skip
    exact hQ s hI (lf_fq_rf)
  · skip
    have b60 : (-2147483648) ≤ s.1 95 10 ∧ s.1 95 10 ≤ 2147483647 := iv_full hI
    refine ⟨(show lf_R (s.1 95 10) from lf_Rof (by omega)), ?_⟩
    refine ⟨fun c61 => ?_, fun c61 => ?_⟩
    · skip
      have c61 : s.1 95 10 ≤ 99999 := c61
      have b62 : (-2147483648) ≤ lf_w (10 * (s.1 95 10)) ∧ lf_w (10 * (s.1 95 10)) ≤ 2147483647 := lf_wB
      refine sm_198 hI (show (0 : Int) ≤ s.1 95 7 ∧ s.1 95 7 ≤ (300 : Int) from by omega) (fun r54 q63 => ?_)
      have b64 : (-2147483648) ≤ lf_w ((lf_w (10 * (s.1 95 10))) + r54) ∧ lf_w ((lf_w (10 * (s.1 95 10))) + r54) ≤ 2147483647 := lf_wB
      have b65 : (-2147483648) ≤ lf_w ((lf_w ((lf_w (10 * (s.1 95 10))) + r54)) - 48) ∧ lf_w ((lf_w ((lf_w (10 * (s.1 95 10))) + r54)) - 48) ≤ 2147483647 := lf_wB
      exact sm_197_p135 hQ hX85 (show (300 - (s.1 95 7)).toNat ≤ M85 from by omega) hI (show (-2147483648 : Int) ≤ lf_w ((lf_w ((lf_w (10 * (s.1 95 10))) + r54)) - 48) ∧ lf_w ((lf_w ((lf_w (10 * (s.1 95 10))) + r54)) - 48) ≤ (2147483647 : Int) from by omega)
    · skip
      have c61 : ¬ (s.1 95 10 ≤ 99999) := c61
      exact sm_197_p135 hQ hX85 (show (300 - (s.1 95 7)).toNat ≤ M85 from by omega) hI (show (-2147483648 : Int) ≤ s.1 95 10 ∧ s.1 95 10 ≤ (2147483647 : Int) from by omega)
theorem sm_197_p85L {Q : lf_Z → Prop} {s : lf_Z} (hQ : ∀  (s' : lf_Z), iv_A s'.1 s'.2.2 → lf_fq [95] 1000000 true s.1 s.2.2 s'.1 s'.2.2 → Q  s') (hI : iv_A s.1 s.2.2) : fm_197_p85L Q s := by
  intro X85 hX
  have key : ∀ (m9 : Nat) (s' : lf_Z), iv_A s'.1 s'.2.2 → lf_fq [95] 1000000 true s.1 s.2.2 s'.1 s'.2.2 → (300 - s'.1 95 7).toNat < m9 → X85 s' := by
    intro m9
    induction m9 with
    | zero => intro  s' _ _  h9; exact absurd h9 (Nat.not_lt_zero _)
    | succ m9 ih => intro  s' i7 f7  h9; exact hX  _ (sm_197_p85 (fun t9 i9 f9 => hQ t9 i9 (lf_fq_tr f7 f9))   (fun  t8 i8 f8  h8 => ih  t8 i8 (lf_fq_tr f7 f8)  (by omega)) (Nat.le_refl _)  i7    )
  exact key _  s hI lf_fq_rf  (Nat.lt_succ_self _)
theorem sm_197_p0 {X0 : lf_Z → Prop} {Q : lf_Z → Prop} {s : lf_Z} (hQ : ∀  (s' : lf_Z), iv_A s'.1 s'.2.2 → lf_fq [95] 1000000 true s.1 s.2.2 s'.1 s'.2.2 → Q  s') {M0 : Nat} (hX0 : ∀ (s' : lf_Z), iv_A s'.1 s'.2.2 → lf_fq [95] 1000000 true s.1 s.2.2 s'.1 s'.2.2 → (300 - s'.1 95 7).toNat < M0 → X0 s') (hM0 : (300 - s.1 95 7).toNat ≤ M0) (hI : iv_A s.1 s.2.2) : fm_197_p0 Q X0 s := by
  unfold fm_197_p0
  have b1 : 0 ≤ s.1 95 7 ∧ s.1 95 7 ≤ 300 := iv_r95_7 hI
  refine sm_198 hI (show (0 : Int) ≤ s.1 95 7 ∧ s.1 95 7 ≤ (300 : Int) from by omega) (fun r22 q2 => ?_)
  refine ⟨(show lf_R r22 from lf_Rof (by omega)), ?_⟩
  refine ⟨fun c3 => ?_, fun c3 => ?_⟩
  · skip
    have c3 : r22 = 32 := c3
    exact sm_197_p26 hQ hX0 (show (300 - (s.1 95 7)).toNat ≤ M0 from by omega) hI
  · skip
    have c3 : ¬ (r22 = 32) := c3
    refine sm_198 hI (show (0 : Int) ≤ s.1 95 7 ∧ s.1 95 7 ≤ (300 : Int) from by omega) (fun r25 q7 => ?_)
    refine ⟨(show lf_R r25 from lf_Rof (by omega)), ?_⟩
    refine ⟨fun c8 => ?_, fun c8 => ?_⟩
    · skip
      have c8 : r25 ≠ 10 := c8
      have hI9 : iv_A (lf_up s.1 95 8 (s.1 95 7)) s.2.2 := iv_w95_8 hI (by omega)
      have fr10 : lf_fq [95] 1000000 true s.1 s.2.2 (lf_up s.1 95 8 (s.1 95 7)) s.2.2 := lf_fq_up (lf_fq_rf) rfl (fun h => absurd h (by decide))
      have b11 : (lf_up s.1 95 8 (s.1 95 7)) 95 7 = s.1 95 7 := lf_up_i (by omega)
      refine sm_198 hI9 (show (0 : Int) ≤ s.1 95 7 ∧ s.1 95 7 ≤ (300 : Int) from by omega) (fun r28 q12 => ?_)
      refine ⟨(show lf_R r28 from lf_Rof (by omega)), ?_⟩
      refine ⟨fun c13 => ?_, fun c13 => ?_⟩
      · skip
        have c13 : 0 ≤ r28 := c13
        refine sm_199 hI9 (show (-1 : Int) ≤ r28 ∧ r28 ≤ (255 : Int) from by omega) (fun z31 => ?_)
        refine ⟨fun c15 => ?_, fun c15 => ?_⟩
        · skip
          refine sm_200 hI9 (show (-1 : Int) ≤ r28 ∧ r28 ≤ (255 : Int) from by omega) (fun z33 => ?_)
          refine ⟨fun c17 => ?_, fun c17 => ?_⟩
          · skip
            refine sm_201 hI9 (show (0 : Int) ≤ r28 ∧ r28 ≤ (255 : Int) from by omega) (fun z35 => ?_)
            refine ⟨fun c19 => ?_, fun c19 => ?_⟩
            · skip
              exact sm_197_p247 (fun t9 i9 f9 => hQ t9 i9 (lf_fq_tr fr10 f9)) hI9 (show (0 : Int) ≤ r28 ∧ r28 ≤ (255 : Int) from by omega) (show (0 : Int) ≤ 3 ∧ 3 ≤ (255 : Int) from by omega)
            · skip
              exact sm_197_p247 (fun t9 i9 f9 => hQ t9 i9 (lf_fq_tr fr10 f9)) hI9 (show (0 : Int) ≤ r28 ∧ r28 ≤ (255 : Int) from by omega) (show (0 : Int) ≤ r28 ∧ r28 ≤ (255 : Int) from by omega)
          · skip
            have hI38 : iv_A (lf_up (lf_up s.1 95 8 (s.1 95 7)) 95 9 2) s.2.2 := iv_w95_9 hI9 (by omega)
            have fr39 : lf_fq [95] 1000000 true s.1 s.2.2 (lf_up (lf_up s.1 95 8 (s.1 95 7)) 95 9 2) s.2.2 := lf_fq_up fr10 rfl (fun h => absurd h (by decide))
            have b40 : (lf_up (lf_up s.1 95 8 (s.1 95 7)) 95 9 2) 95 7 = (lf_up s.1 95 8 (s.1 95 7)) 95 7 := lf_up_i (by omega)
            exact sm_197_p168L (fun t9 i9 f9 => hQ t9 i9 (lf_fq_tr fr39 f9)) hI38
        · skip
          have hI50 : iv_A (lf_up (lf_up s.1 95 8 (s.1 95 7)) 95 9 1) s.2.2 := iv_w95_9 hI9 (by omega)
          have fr51 : lf_fq [95] 1000000 true s.1 s.2.2 (lf_up (lf_up s.1 95 8 (s.1 95 7)) 95 9 1) s.2.2 := lf_fq_up fr10 rfl (fun h => absurd h (by decide))
          have hI52 : iv_A (lf_up (lf_up (lf_up s.1 95 8 (s.1 95 7)) 95 9 1) 95 10 0) s.2.2 := iv_w95_10 hI50 (by omega)
          have fr53 : lf_fq [95] 1000000 true s.1 s.2.2 (lf_up (lf_up (lf_up s.1 95 8 (s.1 95 7)) 95 9 1) 95 10 0) s.2.2 := lf_fq_up fr51 rfl (fun h => absurd h (by decide))
          have b54 : (lf_up (lf_up (lf_up s.1 95 8 (s.1 95 7)) 95 9 1) 95 10 0) 95 7 = (lf_up (lf_up s.1 95 8 (s.1 95 7)) 95 9 1) 95 7 := lf_up_i (by omega)
          have b55 : (lf_up (lf_up s.1 95 8 (s.1 95 7)) 95 9 1) 95 7 = (lf_up s.1 95 8 (s.1 95 7)) 95 7 := lf_up_i (by omega)
          exact sm_197_p85L (fun t9 i9 f9 => hQ t9 i9 (lf_fq_tr fr53 f9)) hI52
      · skip
        have c13 : ¬ (0 ≤ r28) := c13
        have hI72 : iv_A (lf_up (lf_up s.1 95 8 (s.1 95 7)) 95 9 0) s.2.2 := iv_w95_9 hI9 (by omega)
        have fr73 : lf_fq [95] 1000000 true s.1 s.2.2 (lf_up (lf_up s.1 95 8 (s.1 95 7)) 95 9 0) s.2.2 := lf_fq_up fr10 rfl (fun h => absurd h (by decide))
        exact hQ (lf_up (lf_up s.1 95 8 (s.1 95 7)) 95 9 0, s.2.1, s.2.2) hI72 fr73
    · skip
      have c8 : ¬ (r25 ≠ 10) := c8
      exact sm_197_p26 hQ hX0 (show (300 - (s.1 95 7)).toNat ≤ M0 from by omega) hI
theorem sm_197_p0L {Q : lf_Z → Prop} {s : lf_Z} (hQ : ∀  (s' : lf_Z), iv_A s'.1 s'.2.2 → lf_fq [95] 1000000 true s.1 s.2.2 s'.1 s'.2.2 → Q  s') (hI : iv_A s.1 s.2.2) : fm_197_p0L Q s := by
  intro X0 hX
  have key : ∀ (m9 : Nat) (s' : lf_Z), iv_A s'.1 s'.2.2 → lf_fq [95] 1000000 true s.1 s.2.2 s'.1 s'.2.2 → (300 - s'.1 95 7).toNat < m9 → X0 s' := by
    intro m9
    induction m9 with
    | zero => intro  s' _ _  h9; exact absurd h9 (Nat.not_lt_zero _)
    | succ m9 ih => intro  s' i7 f7  h9; exact hX  _ (sm_197_p0 (fun t9 i9 f9 => hQ t9 i9 (lf_fq_tr f7 f9))   (fun  t8 i8 f8  h8 => ih  t8 i8 (lf_fq_tr f7 f8)  (by omega)) (Nat.le_refl _)  i7    )
  exact key _  s hI lf_fq_rf  (Nat.lt_succ_self _)
theorem sm_197 {Q : lf_Z → Prop} {s : lf_Z} (hI : iv_A s.1 s.2.2) (hQ : ∀  (s' : lf_Z), iv_A s'.1 s'.2.2 → lf_fq [95] 1000000 true s.1 s.2.2 s'.1 s'.2.2 → Q  s') : fm_197 Q s := by
  unfold fm_197
  exact sm_197_p0L hQ hI
-- fm_206 Model.w2 i i
theorem sm_206 {a0 : Int} {a1 : Int} {Q : Int → lf_Z → Prop} {s : lf_Z} (hI : iv_A s.1 s.2.2) (ba0 : 97 ≤ a0 ∧ a0 ≤ 119) (ba1 : 97 ≤ a1 ∧ a1 ≤ 121) (hQ : ∀ (r : Int), Q r s) : fm_206 a0 a1 Q s := by
  unfold fm_206
  refine ⟨(show lf_R a0 from lf_Rof (by omega)), ?_⟩
  refine ⟨(show lf_R a1 from lf_Rof (by omega)), ?_⟩
  exact hQ (lf_lor (lf_lshl a0 8) a1)
-- fm_205 Model.w3 i i i
theorem sm_205 {a0 : Int} {a1 : Int} {a2 : Int} {Q : Int → lf_Z → Prop} {s : lf_Z} (hI : iv_A s.1 s.2.2) (ba0 : 97 ≤ a0 ∧ a0 ≤ 119) (ba1 : 97 ≤ a1 ∧ a1 ≤ 117) (ba2 : 97 ≤ a2 ∧ a2 ≤ 122) (hQ : ∀ (r : Int), Q r s) : fm_205 a0 a1 a2 Q s := by
  unfold fm_205
  refine sm_206 hI (show (97 : Int) ≤ a0 ∧ a0 ≤ (119 : Int) from by omega) (show (97 : Int) ≤ a1 ∧ a1 ≤ (121 : Int) from by omega) (fun r22 => ?_)
  refine ⟨(show lf_R a2 from lf_Rof (by omega)), ?_⟩
  exact hQ (lf_lor (lf_lshl (lf_wl r22) 8) a2)
-- fm_204 Model.w4 i i i i
theorem sm_204 {a0 : Int} {a1 : Int} {a2 : Int} {a3 : Int} {Q : Int → lf_Z → Prop} {s : lf_Z} (hI : iv_A s.1 s.2.2) (ba0 : 97 ≤ a0 ∧ a0 ≤ 116) (ba1 : 97 ≤ a1 ∧ a1 ≤ 117) (ba2 : 97 ≤ a2 ∧ a2 ≤ 122) (ba3 : 97 ≤ a3 ∧ a3 ≤ 117) (hQ : ∀ (r : Int), Q r s) : fm_204 a0 a1 a2 a3 Q s := by
  unfold fm_204
  refine sm_205 hI (show (97 : Int) ≤ a0 ∧ a0 ≤ (119 : Int) from by omega) (show (97 : Int) ≤ a1 ∧ a1 ≤ (117 : Int) from by omega) (show (97 : Int) ≤ a2 ∧ a2 ≤ (122 : Int) from by omega) (fun r22 => ?_)
  refine ⟨(show lf_R a3 from lf_Rof (by omega)), ?_⟩
  exact hQ (lf_lor (lf_lshl (lf_wl r22) 8) a3)
-- fm_207 Model.isWord 95 l
theorem sm_207 {a1 : Int} {Q : Bool → lf_Z → Prop} {s : lf_Z} (hI : iv_A s.1 s.2.2) (hQ : ∀ (z : Bool), Q z s) : fm_207 a1 Q s := by
  unfold fm_207
  have b1 : (-2147483648) ≤ s.1 95 9 ∧ s.1 95 9 ≤ 2147483647 := iv_full hI
  refine ⟨(show lf_R (s.1 95 9) from lf_Rof (by omega)), ?_⟩
  refine ⟨fun c2 => ?_, fun c2 => ?_⟩
  · skip
    have c2 : s.1 95 9 ≠ 2 := c2
    exact hQ false
  · skip
    have c2 : ¬ (s.1 95 9 ≠ 2) := c2
    refine ⟨fun c3 => ?_, fun c3 => ?_⟩
    · have c3 : lf_wl (s.2.1 95 11) ≠ lf_wl a1 := c3
      exact hQ false
    · have c3 : ¬ (lf_wl (s.2.1 95 11) ≠ lf_wl a1) := c3
      exact hQ true
-- fm_208 Model.w5 i i i i i
theorem sm_208 {a0 : Int} {a1 : Int} {a2 : Int} {a3 : Int} {a4 : Int} {Q : Int → lf_Z → Prop} {s : lf_Z} (hI : iv_A s.1 s.2.2) (ba0 : 97 ≤ a0 ∧ a0 ≤ 116) (ba1 : 97 ≤ a1 ∧ a1 ≤ 117) (ba2 : 97 ≤ a2 ∧ a2 ≤ 114) (ba3 : 97 ≤ a3 ∧ a3 ≤ 117) (ba4 : 100 ≤ a4 ∧ a4 ≤ 121) (hQ : ∀ (r : Int), Q r s) : fm_208 a0 a1 a2 a3 a4 Q s := by
  unfold fm_208
  refine sm_204 hI (show (97 : Int) ≤ a0 ∧ a0 ≤ (116 : Int) from by omega) (show (97 : Int) ≤ a1 ∧ a1 ≤ (117 : Int) from by omega) (show (97 : Int) ≤ a2 ∧ a2 ≤ (122 : Int) from by omega) (show (97 : Int) ≤ a3 ∧ a3 ≤ (117 : Int) from by omega) (fun r22 => ?_)
  refine ⟨(show lf_R a4 from lf_Rof (by omega)), ?_⟩
  exact hQ (lf_lor (lf_lshl (lf_wl r22) 8) a4)
-- fm_209 Model.w6 i i i i i i
theorem sm_209 {a0 : Int} {a1 : Int} {a2 : Int} {a3 : Int} {a4 : Int} {a5 : Int} {Q : Int → lf_Z → Prop} {s : lf_Z} (hI : iv_A s.1 s.2.2) (ba0 : 98 ≤ a0 ∧ a0 ≤ 109) (ba1 : 101 ≤ a1 ∧ a1 ≤ 117) (ba2 : 99 ≤ a2 ∧ a2 ≤ 110) (ba3 : 105 ≤ a3 ∧ a3 ≤ 117) (ba4 : 101 ≤ a4 ∧ a4 ≤ 116) (ba5 : 100 ≤ a5 ∧ a5 ≤ 116) (hQ : ∀ (r : Int), Q r s) : fm_209 a0 a1 a2 a3 a4 a5 Q s := by
  unfold fm_209
  refine sm_208 hI (show (97 : Int) ≤ a0 ∧ a0 ≤ (116 : Int) from by omega) (show (97 : Int) ≤ a1 ∧ a1 ≤ (117 : Int) from by omega) (show (97 : Int) ≤ a2 ∧ a2 ≤ (114 : Int) from by omega) (show (97 : Int) ≤ a3 ∧ a3 ≤ (117 : Int) from by omega) (show (100 : Int) ≤ a4 ∧ a4 ≤ (121 : Int) from by omega) (fun r22 => ?_)
  refine ⟨(show lf_R a5 from lf_Rof (by omega)), ?_⟩
  exact hQ (lf_lor (lf_lshl (lf_wl r22) 8) a5)
-- fm_203 Model.sortOf 95
theorem sm_203 {Q : Int → lf_Z → Prop} {s : lf_Z} (hI : iv_A s.1 s.2.2) (hQ : ∀ (r : Int), ((-1) ≤ r ∧ r ≤ 12) → Q r s) : fm_203 Q s := by
  unfold fm_203
  refine sm_204 hI (show (97 : Int) ≤ 112 ∧ 112 ≤ (116 : Int) from by omega) (show (97 : Int) ≤ 97 ∧ 97 ≤ (117 : Int) from by omega) (show (97 : Int) ≤ 99 ∧ 99 ≤ (122 : Int) from by omega) (show (97 : Int) ≤ 101 ∧ 101 ≤ (117 : Int) from by omega) (fun r22 => ?_)
  refine sm_207 hI (fun z24 => ?_)
  refine ⟨fun c3 => ?_, fun c3 => ?_⟩
  · skip
    refine sm_208 hI (show (97 : Int) ≤ 116 ∧ 116 ≤ (116 : Int) from by omega) (show (97 : Int) ≤ 97 ∧ 97 ≤ (117 : Int) from by omega) (show (97 : Int) ≤ 107 ∧ 107 ≤ (114 : Int) from by omega) (show (97 : Int) ≤ 101 ∧ 101 ≤ (117 : Int) from by omega) (show (100 : Int) ≤ 115 ∧ 115 ≤ (121 : Int) from by omega) (fun r26 => ?_)
    refine sm_207 hI (fun z28 => ?_)
    refine ⟨fun c6 => ?_, fun c6 => ?_⟩
    · skip
      refine sm_204 hI (show (97 : Int) ≤ 112 ∧ 112 ≤ (116 : Int) from by omega) (show (97 : Int) ≤ 97 ∧ 97 ≤ (117 : Int) from by omega) (show (97 : Int) ≤ 121 ∧ 121 ≤ (122 : Int) from by omega) (show (97 : Int) ≤ 115 ∧ 115 ≤ (117 : Int) from by omega) (fun r30 => ?_)
      refine sm_207 hI (fun z32 => ?_)
      refine ⟨fun c9 => ?_, fun c9 => ?_⟩
      · skip
        refine sm_205 hI (show (97 : Int) ≤ 115 ∧ 115 ≤ (119 : Int) from by omega) (show (97 : Int) ≤ 116 ∧ 116 ≤ (117 : Int) from by omega) (show (97 : Int) ≤ 114 ∧ 114 ≤ (122 : Int) from by omega) (fun r34 => ?_)
        refine sm_204 hI (show (97 : Int) ≤ 101 ∧ 101 ≤ (116 : Int) from by omega) (show (97 : Int) ≤ 116 ∧ 116 ≤ (117 : Int) from by omega) (show (97 : Int) ≤ 99 ∧ 99 ≤ (122 : Int) from by omega) (show (97 : Int) ≤ 104 ∧ 104 ≤ (117 : Int) from by omega) (fun r36 => ?_)
        refine sm_207 hI (fun z38 => ?_)
        refine ⟨fun c13 => ?_, fun c13 => ?_⟩
        · skip
          refine sm_205 hI (show (97 : Int) ≤ 119 ∧ 119 ≤ (119 : Int) from by omega) (show (97 : Int) ≤ 97 ∧ 97 ≤ (117 : Int) from by omega) (show (97 : Int) ≤ 121 ∧ 121 ≤ (122 : Int) from by omega) (fun r40 => ?_)
          refine sm_207 hI (fun z42 => ?_)
          refine ⟨fun c16 => ?_, fun c16 => ?_⟩
          · skip
            refine sm_204 hI (show (97 : Int) ≤ 112 ∧ 112 ≤ (116 : Int) from by omega) (show (97 : Int) ≤ 97 ∧ 97 ≤ (117 : Int) from by omega) (show (97 : Int) ≤ 116 ∧ 116 ≤ (122 : Int) from by omega) (show (97 : Int) ≤ 104 ∧ 104 ≤ (117 : Int) from by omega) (fun r44 => ?_)
            refine sm_207 hI (fun z46 => ?_)
            refine ⟨fun c19 => ?_, fun c19 => ?_⟩
            · skip
              refine sm_205 hI (show (97 : Int) ≤ 111 ∧ 111 ≤ (119 : Int) from by omega) (show (97 : Int) ≤ 110 ∧ 110 ≤ (117 : Int) from by omega) (show (97 : Int) ≤ 101 ∧ 101 ≤ (122 : Int) from by omega) (fun r48 => ?_)
              refine sm_207 hI (fun z50 => ?_)
              refine ⟨fun c22 => ?_, fun c22 => ?_⟩
              · skip
                refine sm_208 hI (show (97 : Int) ≤ 115 ∧ 115 ≤ (116 : Int) from by omega) (show (97 : Int) ≤ 116 ∧ 116 ≤ (117 : Int) from by omega) (show (97 : Int) ≤ 114 ∧ 114 ≤ (114 : Int) from by omega) (show (97 : Int) ≤ 97 ∧ 97 ≤ (117 : Int) from by omega) (show (100 : Int) ≤ 121 ∧ 121 ≤ (121 : Int) from by omega) (fun r52 => ?_)
                refine sm_207 hI (fun z54 => ?_)
                refine ⟨fun c25 => ?_, fun c25 => ?_⟩
                · skip
                  refine sm_204 hI (show (97 : Int) ≤ 115 ∧ 115 ≤ (116 : Int) from by omega) (show (97 : Int) ≤ 101 ∧ 101 ≤ (117 : Int) from by omega) (show (97 : Int) ≤ 110 ∧ 110 ≤ (122 : Int) from by omega) (show (97 : Int) ≤ 100 ∧ 100 ≤ (117 : Int) from by omega) (fun r56 => ?_)
                  refine sm_207 hI (fun z58 => ?_)
                  refine ⟨fun c28 => ?_, fun c28 => ?_⟩
                  · skip
                    refine sm_204 hI (show (97 : Int) ≤ 115 ∧ 115 ≤ (116 : Int) from by omega) (show (97 : Int) ≤ 104 ∧ 104 ≤ (117 : Int) from by omega) (show (97 : Int) ≤ 117 ∧ 117 ≤ (122 : Int) from by omega) (show (97 : Int) ≤ 116 ∧ 116 ≤ (117 : Int) from by omega) (fun r60 => ?_)
                    refine sm_207 hI (fun z62 => ?_)
                    refine ⟨fun c31 => ?_, fun c31 => ?_⟩
                    · skip
                      refine sm_204 hI (show (97 : Int) ≤ 111 ∧ 111 ≤ (116 : Int) from by omega) (show (97 : Int) ≤ 112 ∧ 112 ≤ (117 : Int) from by omega) (show (97 : Int) ≤ 101 ∧ 101 ≤ (122 : Int) from by omega) (show (97 : Int) ≤ 110 ∧ 110 ≤ (117 : Int) from by omega) (fun r64 => ?_)
                      refine sm_207 hI (fun z66 => ?_)
                      refine ⟨fun c34 => ?_, fun c34 => ?_⟩
                      · skip
                        refine sm_208 hI (show (97 : Int) ≤ 115 ∧ 115 ≤ (116 : Int) from by omega) (show (97 : Int) ≤ 112 ∧ 112 ≤ (117 : Int) from by omega) (show (97 : Int) ≤ 108 ∧ 108 ≤ (114 : Int) from by omega) (show (97 : Int) ≤ 105 ∧ 105 ≤ (117 : Int) from by omega) (show (100 : Int) ≤ 116 ∧ 116 ≤ (121 : Int) from by omega) (fun r68 => ?_)
                        refine sm_207 hI (fun z70 => ?_)
                        refine ⟨fun c37 => ?_, fun c37 => ?_⟩
                        · skip
                          refine sm_209 hI (show (98 : Int) ≤ 109 ∧ 109 ≤ (109 : Int) from by omega) (show (101 : Int) ≤ 105 ∧ 105 ≤ (117 : Int) from by omega) (show (99 : Int) ≤ 110 ∧ 110 ≤ (110 : Int) from by omega) (show (105 : Int) ≤ 117 ∧ 117 ≤ (117 : Int) from by omega) (show (101 : Int) ≤ 116 ∧ 116 ≤ (116 : Int) from by omega) (show (100 : Int) ≤ 101 ∧ 101 ≤ (116 : Int) from by omega) (fun r72 => ?_)
                          refine sm_207 hI (fun z74 => ?_)
                          refine ⟨fun c40 => ?_, fun c40 => ?_⟩
                          · skip
                            exact hQ (-1) (show (-1 : Int) ≤ (-1) ∧ (-1) ≤ (12 : Int) from by omega)
                          · skip
                            exact hQ 12 (show (-1 : Int) ≤ 12 ∧ 12 ≤ (12 : Int) from by omega)
                        · skip
                          exact hQ 11 (show (-1 : Int) ≤ 11 ∧ 11 ≤ (12 : Int) from by omega)
                      · skip
                        exact hQ 10 (show (-1 : Int) ≤ 10 ∧ 10 ≤ (12 : Int) from by omega)
                    · skip
                      exact hQ 9 (show (-1 : Int) ≤ 9 ∧ 9 ≤ (12 : Int) from by omega)
                  · skip
                    exact hQ 8 (show (-1 : Int) ≤ 8 ∧ 8 ≤ (12 : Int) from by omega)
                · skip
                  exact hQ 7 (show (-1 : Int) ≤ 7 ∧ 7 ≤ (12 : Int) from by omega)
              · skip
                exact hQ 6 (show (-1 : Int) ≤ 6 ∧ 6 ≤ (12 : Int) from by omega)
            · skip
              exact hQ 5 (show (-1 : Int) ≤ 5 ∧ 5 ≤ (12 : Int) from by omega)
          · skip
            exact hQ 4 (show (-1 : Int) ≤ 4 ∧ 4 ≤ (12 : Int) from by omega)
        · skip
          exact hQ 3 (show (-1 : Int) ≤ 3 ∧ 3 ≤ (12 : Int) from by omega)
      · skip
        exact hQ 2 (show (-1 : Int) ≤ 2 ∧ 2 ≤ (12 : Int) from by omega)
    · skip
      exact hQ 1 (show (-1 : Int) ≤ 1 ∧ 1 ≤ (12 : Int) from by omega)
  · skip
    exact hQ 0 (show (-1 : Int) ≤ 0 ∧ 0 ≤ (12 : Int) from by omega)
-- fm_230 Model.nameOf 95
theorem sm_230 {Q : Int → lf_Z → Prop} {s : lf_Z} (hI : iv_A s.1 s.2.2) (hQ : ∀ (r : Int), ((-1) ≤ r ∧ r ≤ 10) → Q r s) : fm_230 Q s := by
  unfold fm_230
  have b1 : (-2147483648) ≤ s.1 95 9 ∧ s.1 95 9 ≤ 2147483647 := iv_full hI
  refine ⟨(show lf_R (s.1 95 9) from lf_Rof (by omega)), ?_⟩
  refine ⟨fun c2 => ?_, fun c2 => ?_⟩
  · skip
    have c2 : s.1 95 9 = 2 := c2
    refine sm_204 hI (show (97 : Int) ≤ 115 ∧ 115 ≤ (116 : Int) from by omega) (show (97 : Int) ≤ 105 ∧ 105 ≤ (117 : Int) from by omega) (show (97 : Int) ≤ 122 ∧ 122 ≤ (122 : Int) from by omega) (show (97 : Int) ≤ 101 ∧ 101 ≤ (117 : Int) from by omega) (fun r23 => ?_)
    refine ⟨fun c4 => ?_, fun c4 => ?_⟩
    · have c4 : lf_wl (s.2.1 95 11) ≠ lf_wl r23 := c4
      refine sm_208 hI (show (97 : Int) ≤ 112 ∧ 112 ≤ (116 : Int) from by omega) (show (97 : Int) ≤ 108 ∧ 108 ≤ (117 : Int) from by omega) (show (97 : Int) ≤ 97 ∧ 97 ≤ (114 : Int) from by omega) (show (97 : Int) ≤ 99 ∧ 99 ≤ (117 : Int) from by omega) (show (100 : Int) ≤ 101 ∧ 101 ≤ (121 : Int) from by omega) (fun r25 => ?_)
      refine ⟨fun c6 => ?_, fun c6 => ?_⟩
      · have c6 : lf_wl (s.2.1 95 11) ≠ lf_wl r25 := c6
        refine sm_204 hI (show (97 : Int) ≤ 107 ∧ 107 ≤ (116 : Int) from by omega) (show (97 : Int) ≤ 105 ∧ 105 ≤ (117 : Int) from by omega) (show (97 : Int) ≤ 110 ∧ 110 ≤ (122 : Int) from by omega) (show (97 : Int) ≤ 100 ∧ 100 ≤ (117 : Int) from by omega) (fun r27 => ?_)
        refine ⟨fun c8 => ?_, fun c8 => ?_⟩
        · have c8 : lf_wl (s.2.1 95 11) ≠ lf_wl r27 := c8
          refine sm_204 hI (show (97 : Int) ≤ 104 ∧ 104 ≤ (116 : Int) from by omega) (show (97 : Int) ≤ 101 ∧ 101 ≤ (117 : Int) from by omega) (show (97 : Int) ≤ 114 ∧ 114 ≤ (122 : Int) from by omega) (show (97 : Int) ≤ 101 ∧ 101 ≤ (117 : Int) from by omega) (fun r29 => ?_)
          refine ⟨fun c10 => ?_, fun c10 => ?_⟩
          · have c10 : lf_wl (s.2.1 95 11) ≠ lf_wl r29 := c10
            refine sm_209 hI (show (98 : Int) ≤ 98 ∧ 98 ≤ (109 : Int) from by omega) (show (101 : Int) ≤ 101 ∧ 101 ≤ (117 : Int) from by omega) (show (99 : Int) ≤ 104 ∧ 104 ≤ (110 : Int) from by omega) (show (105 : Int) ≤ 105 ∧ 105 ≤ (117 : Int) from by omega) (show (101 : Int) ≤ 110 ∧ 110 ≤ (116 : Int) from by omega) (show (100 : Int) ≤ 100 ∧ 100 ≤ (116 : Int) from by omega) (fun r31 => ?_)
            refine ⟨fun c12 => ?_, fun c12 => ?_⟩
            · have c12 : lf_wl (s.2.1 95 11) ≠ lf_wl r31 := c12
              refine sm_208 hI (show (97 : Int) ≤ 97 ∧ 97 ≤ (116 : Int) from by omega) (show (97 : Int) ≤ 104 ∧ 104 ≤ (117 : Int) from by omega) (show (97 : Int) ≤ 101 ∧ 101 ≤ (114 : Int) from by omega) (show (97 : Int) ≤ 97 ∧ 97 ≤ (117 : Int) from by omega) (show (100 : Int) ≤ 100 ∧ 100 ≤ (121 : Int) from by omega) (fun r33 => ?_)
              refine ⟨fun c14 => ?_, fun c14 => ?_⟩
              · have c14 : lf_wl (s.2.1 95 11) ≠ lf_wl r33 := c14
                refine sm_208 hI (show (97 : Int) ≤ 115 ∧ 115 ≤ (116 : Int) from by omega) (show (97 : Int) ≤ 116 ∧ 116 ≤ (117 : Int) from by omega) (show (97 : Int) ≤ 111 ∧ 111 ≤ (114 : Int) from by omega) (show (97 : Int) ≤ 111 ∧ 111 ≤ (117 : Int) from by omega) (show (100 : Int) ≤ 100 ∧ 100 ≤ (121 : Int) from by omega) (fun r35 => ?_)
                refine ⟨fun c16 => ?_, fun c16 => ?_⟩
                · have c16 : lf_wl (s.2.1 95 11) ≠ lf_wl r35 := c16
                  refine sm_209 hI (show (98 : Int) ≤ 98 ∧ 98 ≤ (109 : Int) from by omega) (show (101 : Int) ≤ 117 ∧ 117 ≤ (117 : Int) from by omega) (show (99 : Int) ≤ 99 ∧ 99 ≤ (110 : Int) from by omega) (show (105 : Int) ≤ 107 ∧ 107 ≤ (117 : Int) from by omega) (show (101 : Int) ≤ 101 ∧ 101 ≤ (116 : Int) from by omega) (show (100 : Int) ≤ 116 ∧ 116 ≤ (116 : Int) from by omega) (fun r37 => ?_)
                  refine ⟨fun c18 => ?_, fun c18 => ?_⟩
                  · have c18 : lf_wl (s.2.1 95 11) ≠ lf_wl r37 := c18
                    refine sm_204 hI (show (97 : Int) ≤ 98 ∧ 98 ≤ (116 : Int) from by omega) (show (97 : Int) ≤ 97 ∧ 97 ≤ (117 : Int) from by omega) (show (97 : Int) ≤ 99 ∧ 99 ≤ (122 : Int) from by omega) (show (97 : Int) ≤ 107 ∧ 107 ≤ (117 : Int) from by omega) (fun r39 => ?_)
                    refine ⟨fun c20 => ?_, fun c20 => ?_⟩
                    · have c20 : lf_wl (s.2.1 95 11) ≠ lf_wl r39 := c20
                      refine sm_205 hI (show (97 : Int) ≤ 119 ∧ 119 ≤ (119 : Int) from by omega) (show (97 : Int) ≤ 97 ∧ 97 ≤ (117 : Int) from by omega) (show (97 : Int) ≤ 121 ∧ 121 ≤ (122 : Int) from by omega) (fun r41 => ?_)
                      refine ⟨fun c22 => ?_, fun c22 => ?_⟩
                      · have c22 : lf_wl (s.2.1 95 11) ≠ lf_wl r41 := c22
                        refine sm_204 hI (show (97 : Int) ≤ 100 ∧ 100 ≤ (116 : Int) from by omega) (show (97 : Int) ≤ 111 ∧ 111 ≤ (117 : Int) from by omega) (show (97 : Int) ≤ 110 ∧ 110 ≤ (122 : Int) from by omega) (show (97 : Int) ≤ 101 ∧ 101 ≤ (117 : Int) from by omega) (fun r43 => ?_)
                        refine ⟨fun c24 => ?_, fun c24 => ?_⟩
                        · have c24 : lf_wl (s.2.1 95 11) ≠ lf_wl r43 := c24
                          exact hQ (-1) (show (-1 : Int) ≤ (-1) ∧ (-1) ≤ (10 : Int) from by omega)
                        · have c24 : ¬ (lf_wl (s.2.1 95 11) ≠ lf_wl r43) := c24
                          exact hQ 10 (show (-1 : Int) ≤ 10 ∧ 10 ≤ (10 : Int) from by omega)
                      · have c22 : ¬ (lf_wl (s.2.1 95 11) ≠ lf_wl r41) := c22
                        exact hQ 9 (show (-1 : Int) ≤ 9 ∧ 9 ≤ (10 : Int) from by omega)
                    · have c20 : ¬ (lf_wl (s.2.1 95 11) ≠ lf_wl r39) := c20
                      exact hQ 8 (show (-1 : Int) ≤ 8 ∧ 8 ≤ (10 : Int) from by omega)
                  · have c18 : ¬ (lf_wl (s.2.1 95 11) ≠ lf_wl r37) := c18
                    exact hQ 7 (show (-1 : Int) ≤ 7 ∧ 7 ≤ (10 : Int) from by omega)
                · have c16 : ¬ (lf_wl (s.2.1 95 11) ≠ lf_wl r35) := c16
                  exact hQ 6 (show (-1 : Int) ≤ 6 ∧ 6 ≤ (10 : Int) from by omega)
              · have c14 : ¬ (lf_wl (s.2.1 95 11) ≠ lf_wl r33) := c14
                exact hQ 5 (show (-1 : Int) ≤ 5 ∧ 5 ≤ (10 : Int) from by omega)
            · have c12 : ¬ (lf_wl (s.2.1 95 11) ≠ lf_wl r31) := c12
              exact hQ 4 (show (-1 : Int) ≤ 4 ∧ 4 ≤ (10 : Int) from by omega)
          · have c10 : ¬ (lf_wl (s.2.1 95 11) ≠ lf_wl r29) := c10
            exact hQ 3 (show (-1 : Int) ≤ 3 ∧ 3 ≤ (10 : Int) from by omega)
        · have c8 : ¬ (lf_wl (s.2.1 95 11) ≠ lf_wl r27) := c8
          exact hQ 2 (show (-1 : Int) ≤ 2 ∧ 2 ≤ (10 : Int) from by omega)
      · have c6 : ¬ (lf_wl (s.2.1 95 11) ≠ lf_wl r25) := c6
        exact hQ 1 (show (-1 : Int) ≤ 1 ∧ 1 ≤ (10 : Int) from by omega)
    · have c4 : ¬ (lf_wl (s.2.1 95 11) ≠ lf_wl r23) := c4
      exact hQ 0 (show (-1 : Int) ≤ 0 ∧ 0 ≤ (10 : Int) from by omega)
  · skip
    have c2 : ¬ (s.1 95 9 = 2) := c2
    exact hQ (-1) (show (-1 : Int) ≤ (-1) ∧ (-1) ≤ (10 : Int) from by omega)
-- fm_232 Model.letter 95
theorem sm_232 {Q : Int → lf_Z → Prop} {s : lf_Z} (hI : iv_A s.1 s.2.2) (hQ : ∀ (r : Int), ((-98) ≤ r ∧ r ≤ 158) → Q r s) : fm_232 Q s := by
  unfold fm_232
  have b1 : (-2147483648) ≤ s.1 95 9 ∧ s.1 95 9 ≤ 2147483647 := iv_full hI
  refine ⟨(show lf_R (s.1 95 9) from lf_Rof (by omega)), ?_⟩
  refine ⟨fun c2 => ?_, fun c2 => ?_⟩
  · skip
    have c2 : s.1 95 9 ≠ 2 := c2
    exact hQ (-1) (show (-98 : Int) ≤ (-1) ∧ (-1) ≤ (158 : Int) from by omega)
  · skip
    have c2 : ¬ (s.1 95 9 ≠ 2) := c2
    have b3 : 0 ≤ s.1 95 7 ∧ s.1 95 7 ≤ 300 := iv_r95_7 hI
    have b4 : 0 ≤ s.1 95 8 ∧ s.1 95 8 ≤ 300 := iv_r95_8 hI
    refine ⟨(show lf_R ((s.1 95 7) - (s.1 95 8)) from lf_Rof (by omega)), ?_⟩
    refine ⟨fun c5 => ?_, fun c5 => ?_⟩
    · skip
      have c5 : (s.1 95 7) - (s.1 95 8) ≠ 1 := c5
      exact hQ (-1) (show (-98 : Int) ≤ (-1) ∧ (-1) ≤ (158 : Int) from by omega)
    · skip
      have c5 : ¬ ((s.1 95 7) - (s.1 95 8) ≠ 1) := c5
      refine sm_198 hI (show (0 : Int) ≤ s.1 95 8 ∧ s.1 95 8 ≤ (300 : Int) from by omega) (fun r24 q6 => ?_)
      refine sm_183 hI (show (-2147483648 : Int) ≤ r24 ∧ r24 ≤ (2147483647 : Int) from by omega) (show (-1 : Int) ≤ 97 ∧ 97 ≤ (97 : Int) from by omega) (show (-2147483648 : Int) ≤ 122 ∧ 122 ≤ (2147483647 : Int) from by omega) (fun z26 q7 => ?_)
      refine ⟨fun c8 => ?_, fun c8 => ?_⟩
      · skip
        have dc8 := q7.2 c8
        exact hQ (-1) (show (-98 : Int) ≤ (-1) ∧ (-1) ≤ (158 : Int) from by omega)
      · skip
        have dc8 := q7.1 c8
        refine sm_198 hI (show (0 : Int) ≤ s.1 95 8 ∧ s.1 95 8 ≤ (300 : Int) from by omega) (fun r28 q9 => ?_)
        exact hQ (r28 - 97) (show (-98 : Int) ≤ r28 - 97 ∧ r28 - 97 ≤ (158 : Int) from by omega)
-- fm_225 Model.emit 95 i i
theorem sm_225 {a1 : Int} {a2 : Int} {Q : lf_Z → Prop} {s : lf_Z} (hI : iv_A s.1 s.2.2) (ba1 : 0 ≤ a1 ∧ a1 ≤ 45) (ba2 : (-2147483648) ≤ a2 ∧ a2 ≤ 2147483647) (hQ : ∀  (s' : lf_Z), iv_A s'.1 s'.2.2 → lf_fq [95, 98] 1000000 true s.1 s.2.2 s'.1 s'.2.2 → Q  s') : fm_225 a1 a2 Q s := sorry
-- fm_222 Model.rank i
theorem sm_222 {a0 : Int} {Q : Int → lf_Z → Prop} {s : lf_Z} (hI : iv_A s.1 s.2.2) (ba0 : 0 ≤ a0 ∧ a0 ≤ 45) (hQ : ∀ (r : Int), (0 ≤ r ∧ r ≤ 7) → Q r s) : fm_222 a0 Q s := by
  unfold fm_222
  refine ⟨(show lf_R a0 from lf_Rof (by omega)), ?_⟩
  refine ⟨fun c1 => ?_, fun c1 => ?_⟩
  · skip
    have c1 : a0 < 40 := c1
    refine ⟨fun c2 => ?_, fun c2 => ?_⟩
    · skip
      have c2 : a0 ≠ 22 := c2
      refine ⟨fun c3 => ?_, fun c3 => ?_⟩
      · skip
        have c3 : a0 ≠ 21 := c3
        refine ⟨fun c4 => ?_, fun c4 => ?_⟩
        · skip
          have c4 : a0 ≠ 20 := c4
          refine ⟨fun c5 => ?_, fun c5 => ?_⟩
          · skip
            have c5 : a0 < 10 := c5
            refine ⟨fun c6 => ?_, fun c6 => ?_⟩
            · skip
              have c6 : a0 ≠ 3 := c6
              refine ⟨fun c7 => ?_, fun c7 => ?_⟩
              · skip
                have c7 : a0 < 6 := c7
                exact hQ 5 (show (0 : Int) ≤ 5 ∧ 5 ≤ (7 : Int) from by omega)
              · skip
                have c7 : ¬ (a0 < 6) := c7
                exact hQ 6 (show (0 : Int) ≤ 6 ∧ 6 ≤ (7 : Int) from by omega)
            · skip
              have c6 : ¬ (a0 ≠ 3) := c6
              exact hQ 7 (show (0 : Int) ≤ 7 ∧ 7 ≤ (7 : Int) from by omega)
          · skip
            have c5 : ¬ (a0 < 10) := c5
            exact hQ 4 (show (0 : Int) ≤ 4 ∧ 4 ≤ (7 : Int) from by omega)
        · skip
          have c4 : ¬ (a0 ≠ 20) := c4
          exact hQ 3 (show (0 : Int) ≤ 3 ∧ 3 ≤ (7 : Int) from by omega)
      · skip
        have c3 : ¬ (a0 ≠ 21) := c3
        exact hQ 2 (show (0 : Int) ≤ 2 ∧ 2 ≤ (7 : Int) from by omega)
    · skip
      have c2 : ¬ (a0 ≠ 22) := c2
      exact hQ 1 (show (0 : Int) ≤ 1 ∧ 1 ≤ (7 : Int) from by omega)
  · skip
    have c1 : ¬ (a0 < 40) := c1
    exact hQ 0 (show (0 : Int) ≤ 0 ∧ 0 ≤ (7 : Int) from by omega)
-- fm_224 Model.settle 95 i
theorem sm_224_p76 {X0 : lf_Z → Prop} {Q : lf_Z → Prop} {x1 : Int} {s : lf_Z} (hQ : ∀  (s' : lf_Z), iv_A s'.1 s'.2.2 → lf_fq [95, 98] 1000000 true s.1 s.2.2 s'.1 s'.2.2 → Q  s') {M0 : Nat} (hX0 : ∀ (s' : lf_Z), iv_A s'.1 s'.2.2 → lf_fq [95, 98] 1000000 true s.1 s.2.2 s'.1 s'.2.2 → (s'.1 95 19).toNat < M0 → X0 s') (hM0 : (s.1 95 19).toNat ≤ M0) (hI : iv_A s.1 s.2.2) (bx1 : 0 ≤ x1 ∧ x1 ≤ 7) : fm_224_p76 X0 Q x1 s := sorry
theorem sm_224_p0 {X0 : lf_Z → Prop} {Q : lf_Z → Prop} {x1 : Int} {s : lf_Z} (hQ : ∀  (s' : lf_Z), iv_A s'.1 s'.2.2 → lf_fq [95, 98] 1000000 true s.1 s.2.2 s'.1 s'.2.2 → Q  s') {M0 : Nat} (hX0 : ∀ (s' : lf_Z), iv_A s'.1 s'.2.2 → lf_fq [95, 98] 1000000 true s.1 s.2.2 s'.1 s'.2.2 → (s'.1 95 19).toNat < M0 → X0 s') (hM0 : (s.1 95 19).toNat ≤ M0) (hI : iv_A s.1 s.2.2) (bx1 : 0 ≤ x1 ∧ x1 ≤ 7) : fm_224_p0 Q x1 X0 s := sorry
theorem sm_224_p0L {Q : lf_Z → Prop} {x1 : Int} {s : lf_Z} (hQ : ∀  (s' : lf_Z), iv_A s'.1 s'.2.2 → lf_fq [95, 98] 1000000 true s.1 s.2.2 s'.1 s'.2.2 → Q  s') (hI : iv_A s.1 s.2.2) (bx1 : 0 ≤ x1 ∧ x1 ≤ 7) : fm_224_p0L Q x1 s := by
  intro X0 hX
  have key : ∀ (m9 : Nat) (s' : lf_Z), iv_A s'.1 s'.2.2 → lf_fq [95, 98] 1000000 true s.1 s.2.2 s'.1 s'.2.2 → (s'.1 95 19).toNat < m9 → X0 s' := by
    intro m9
    induction m9 with
    | zero => intro  s' _ _  h9; exact absurd h9 (Nat.not_lt_zero _)
    | succ m9 ih => intro  s' i7 f7  h9; exact hX  _ (sm_224_p0 (fun t9 i9 f9 => hQ t9 i9 (lf_fq_tr f7 f9))   (fun  t8 i8 f8  h8 => ih  t8 i8 (lf_fq_tr f7 f8)  (by omega)) (Nat.le_refl _)  i7  bx1  )
  exact key _  s hI lf_fq_rf  (Nat.lt_succ_self _)
theorem sm_224 {a1 : Int} {Q : lf_Z → Prop} {s : lf_Z} (hI : iv_A s.1 s.2.2) (ba1 : 0 ≤ a1 ∧ a1 ≤ 7) (hQ : ∀  (s' : lf_Z), iv_A s'.1 s'.2.2 → lf_fq [95, 98] 1000000 true s.1 s.2.2 s'.1 s'.2.2 → Q  s') : fm_224 a1 Q s := by
  unfold fm_224
  exact sm_224_p0L hQ hI (show (0 : Int) ≤ a1 ∧ a1 ≤ (7 : Int) from by omega)
-- fm_233 Model.one 95 i i
theorem sm_233 {a1 : Int} {a2 : Int} {Q : lf_Z → Prop} {s : lf_Z} (hI : iv_A s.1 s.2.2) (ba1 : 0 ≤ a1 ∧ a1 ≤ 31) (ba2 : (-2147483648) ≤ a2 ∧ a2 ≤ 2147483647) (hQ : ∀  (s' : lf_Z), iv_A s'.1 s'.2.2 → lf_fq [95, 98] 1000000 true s.1 s.2.2 s'.1 s'.2.2 → Q  s') : fm_233 a1 a2 Q s := by
  unfold fm_233
  refine sm_225 hI (show (0 : Int) ≤ a1 ∧ a1 ≤ (45 : Int) from by omega) (show (-2147483648 : Int) ≤ a2 ∧ a2 ≤ (2147483647 : Int) from by omega) (fun s21 hI2 fr1 => ?_)
  have fr4 : lf_fq [95, 98] 1000000 true s.1 s.2.2 s21.1 s21.2.2 := lf_fq_tr (lf_fq_rf) (lf_fq_wk fr1 rfl (by decide) (by decide))
  refine sm_197 hI2 (fun s22 hI6 fr5 => ?_)
  have fr8 : lf_fq [95, 98] 1000000 true s.1 s.2.2 s22.1 s22.2.2 := lf_fq_tr fr4 (lf_fq_wk fr5 rfl (by decide) (by decide))
  have hI9 : iv_A (lf_up s22.1 95 23 1) s22.2.2 := iv_w95_23 hI6 (by omega)
  have fr10 : lf_fq [95, 98] 1000000 true s.1 s.2.2 (lf_up s22.1 95 23 1) s22.2.2 := lf_fq_up fr8 rfl (fun h => absurd h (by decide))
  refine sm_224 hI9 (show (0 : Int) ≤ 7 ∧ 7 ≤ (7 : Int) from by omega) (fun s23 hI12 fr11 => ?_)
  have fr14 : lf_fq [95, 98] 1000000 true s.1 s.2.2 s23.1 s23.2.2 := lf_fq_tr fr10 (lf_fq_wk fr11 rfl (by decide) (by decide))
  exact hQ s23 hI12 fr14
-- fm_220 Model.openAt 95
theorem sm_220_p7 {X7 : Int → lf_Z → Prop} {Q : Int → lf_Z → Prop} {x1 : Int} {s : lf_Z} (hQ : ∀ (r : Int), ((-1) ≤ r ∧ r ≤ 159) → Q r s) {M7 : Nat} (hX7 : ∀ (x1 : Int), (-1) ≤ x1 ∧ x1 ≤ 159 → (x1 - (-1)).toNat < M7 → X7 x1 s) (hM7 : (x1 - (-1)).toNat ≤ M7) (hI : iv_A s.1 s.2.2) (bx1 : (-1) ≤ x1 ∧ x1 ≤ 159) : fm_220_p7 Q X7 x1 s := by
  unfold fm_220_p7
  refine ⟨(show lf_R x1 from lf_Rof (by omega)), ?_⟩
  refine ⟨fun c2 => ?_, fun c2 => ?_⟩
  · skip
    have c2 : x1 < 0 := c2
    exact hQ x1 (show (-1 : Int) ≤ x1 ∧ x1 ≤ (159 : Int) from by omega)
  · skip
    have c2 : ¬ (x1 < 0) := c2
    refine ⟨(show (0 : Int) ≤ x1 ∧ x1 < (160 : Int) from by omega), ?_⟩
    have b3 : 0 ≤ s.1 100 x1 ∧ s.1 100 x1 ≤ 45 := iv_r100 hI _
    refine ⟨(show lf_R (s.1 100 x1) from lf_Rof (by omega)), ?_⟩
    refine ⟨fun c4 => ?_, fun c4 => ?_⟩
    · skip
      have c4 : 40 ≤ s.1 100 x1 := c4
      exact hQ x1 (show (-1 : Int) ≤ x1 ∧ x1 ≤ (159 : Int) from by omega)
    · skip
      have c4 : ¬ (40 ≤ s.1 100 x1) := c4
      exact hX7 (x1 + (-1)) (show (-1 : Int) ≤ x1 + (-1) ∧ x1 + (-1) ≤ (159 : Int) from by omega) (show ((x1 + (-1)) - (-1)).toNat < M7 from by omega)
theorem sm_220_p7L {Q : Int → lf_Z → Prop} {x1 : Int} {s : lf_Z} (hQ : ∀ (r : Int), ((-1) ≤ r ∧ r ≤ 159) → Q r s) (hI : iv_A s.1 s.2.2) (bx1 : (-1) ≤ x1 ∧ x1 ≤ 159) : fm_220_p7L Q x1 s := by
  intro X7 hX
  have key : ∀ (m9 : Nat) (x1 : Int), (-1) ≤ x1 ∧ x1 ≤ 159 → (x1 - (-1)).toNat < m9 → X7 x1 s := by
    intro m9
    induction m9 with
    | zero => intro x1 bx1 h9; exact absurd h9 (Nat.not_lt_zero _)
    | succ m9 ih => intro x1 bx1 h9; exact hX _ _ (sm_220_p7 hQ   (fun x1' bx1' h8 => ih x1' bx1' (by omega)) (Nat.le_refl _)  hI  bx1  )
  exact key _ _ bx1   (Nat.lt_succ_self _)
theorem sm_220 {Q : Int → lf_Z → Prop} {s : lf_Z} (hI : iv_A s.1 s.2.2) (hQ : ∀ (r : Int), ((-1) ≤ r ∧ r ≤ 159) → Q r s) : fm_220 Q s := by
  unfold fm_220
  have b1 : 0 ≤ s.1 95 19 ∧ s.1 95 19 ≤ 160 := iv_r95_19 hI
  exact sm_220_p7L hQ hI (show (-1 : Int) ≤ (s.1 95 19) - 1 ∧ (s.1 95 19) - 1 ≤ (159 : Int) from by omega)
-- fm_219 Model.openNow 95
theorem sm_219 {Q : Int → lf_Z → Prop} {s : lf_Z} (hI : iv_A s.1 s.2.2) (hQ : ∀ (r : Int), ((-1) ≤ r ∧ r ≤ 45) → Q r s) : fm_219 Q s := sorry
-- fm_235 Model.isAskAhead 95
theorem sm_235 {Q : Bool → lf_Z → Prop} {s : lf_Z} (hI : iv_A s.1 s.2.2) (hQ : ∀ (z : Bool), Q z s) : fm_235 Q s := sorry
-- fm_234 Model.opened 95 i
theorem sm_234 {a1 : Int} {Q : Int → lf_Z → Prop} {s : lf_Z} (hI : iv_A s.1 s.2.2) (ba1 : 3 ≤ a1 ∧ a1 ≤ 44) (hQ : ∀ (r : Int) (s' : lf_Z), iv_A s'.1 s'.2.2 → lf_fq [95, 100, 101] 1000000 true s.1 s.2.2 s'.1 s'.2.2 → (0 ≤ r ∧ r ≤ 3) → Q r s') : fm_234 a1 Q s := sorry
-- fm_231 Model.isOf 95 i
theorem sm_231 {a1 : Int} {Q : Bool → lf_Z → Prop} {s : lf_Z} (hI : iv_A s.1 s.2.2) (ba1 : 0 ≤ a1 ∧ a1 ≤ 10) (hQ : ∀ (z : Bool), Q z s) : fm_231 a1 Q s := by
  unfold fm_231
  refine ⟨(show lf_R a1 from lf_Rof (by omega)), ?_⟩
  refine ⟨fun c1 => ?_, fun c1 => ?_⟩
  · skip
    have c1 : a1 < 4 := c1
    exact hQ true
  · skip
    have c1 : ¬ (a1 < 4) := c1
    refine ⟨fun c2 => ?_, fun c2 => ?_⟩
    · skip
      have c2 : a1 ≠ 4 := c2
      refine ⟨fun c3 => ?_, fun c3 => ?_⟩
      · skip
        have c3 : a1 ≠ 10 := c3
        have b4 : 0 ≤ s.1 95 14 ∧ s.1 95 14 ≤ 12 := iv_r95_14 hI
        refine ⟨(show lf_R (s.1 95 14) from lf_Rof (by omega)), ?_⟩
        refine ⟨fun c5 => ?_, fun c5 => ?_⟩
        · skip
          have c5 : s.1 95 14 ≠ 1 := c5
          exact hQ false
        · skip
          have c5 : ¬ (s.1 95 14 ≠ 1) := c5
          exact hQ true
      · skip
        have c3 : ¬ (a1 ≠ 10) := c3
        have b6 : 0 ≤ s.1 95 14 ∧ s.1 95 14 ≤ 12 := iv_r95_14 hI
        refine ⟨(show lf_R (s.1 95 14) from lf_Rof (by omega)), ?_⟩
        refine ⟨fun c7 => ?_, fun c7 => ?_⟩
        · skip
          have c7 : s.1 95 14 ≠ 2 := c7
          exact hQ false
        · skip
          have c7 : ¬ (s.1 95 14 ≠ 2) := c7
          exact hQ true
    · skip
      have c2 : ¬ (a1 ≠ 4) := c2
      have b8 : 0 ≤ s.1 95 14 ∧ s.1 95 14 ≤ 12 := iv_r95_14 hI
      refine ⟨(show lf_R (s.1 95 14) from lf_Rof (by omega)), ?_⟩
      refine ⟨fun c9 => ?_, fun c9 => ?_⟩
      · skip
        have c9 : s.1 95 14 ≠ 0 := c9
        exact hQ false
      · skip
        have c9 : ¬ (s.1 95 14 ≠ 0) := c9
        exact hQ true
-- fm_229 Model.beginOne 95
theorem sm_229_p79 {Q : Int → lf_Z → Prop} {x1 : Int} {s : lf_Z} (hQ : ∀ (r : Int) (s' : lf_Z), iv_A s'.1 s'.2.2 → lf_fq [95, 98, 100, 101] 1000000 true s.1 s.2.2 s'.1 s'.2.2 → (0 ≤ r ∧ r ≤ 5) → Q r s') (hI : iv_A s.1 s.2.2) (bx1 : (-1) ≤ x1 ∧ x1 ≤ 10) : fm_229_p79 Q x1 s := sorry
theorem sm_229_p60 {Q : Int → lf_Z → Prop} {x1 : Int} {s : lf_Z} (hQ : ∀ (r : Int) (s' : lf_Z), iv_A s'.1 s'.2.2 → lf_fq [95, 98, 100, 101] 1000000 true s.1 s.2.2 s'.1 s'.2.2 → (0 ≤ r ∧ r ≤ 5) → Q r s') (hI : iv_A s.1 s.2.2) (bx1 : (-1) ≤ x1 ∧ x1 ≤ 10) : fm_229_p60 Q x1 s := by
  unfold fm_229_p60
  have b7 : (-2147483648) ≤ s.1 95 9 ∧ s.1 95 9 ≤ 2147483647 := iv_full hI
  refine ⟨(show lf_R (s.1 95 9) from lf_Rof (by omega)), ?_⟩
  refine ⟨fun c8 => ?_, fun c8 => ?_⟩
  · skip
    have c8 : s.1 95 9 = 1 := c8
    exact sm_229_p79 hQ hI (show (-1 : Int) ≤ x1 ∧ x1 ≤ (10 : Int) from by omega)
  · skip
    have c8 : ¬ (s.1 95 9 = 1) := c8
    refine ⟨(show lf_R x1 from lf_Rof (by omega)), ?_⟩
    refine ⟨fun c27 => ?_, fun c27 => ?_⟩
    · skip
      have c27 : 0 ≤ x1 := c27
      exact sm_229_p79 hQ hI (show (-1 : Int) ≤ x1 ∧ x1 ≤ (10 : Int) from by omega)
    · skip
      have c27 : ¬ (0 ≤ x1) := c27
      refine sm_232 hI (fun r39 q28 => ?_)
      refine ⟨(show lf_R r39 from lf_Rof (by omega)), ?_⟩
      refine ⟨fun c29 => ?_, fun c29 => ?_⟩
      · skip
        have c29 : r39 < 0 := c29
        refine ⟨(show lf_R (s.1 95 9) from lf_Rof (by omega)), ?_⟩
        refine ⟨fun c30 => ?_, fun c30 => ?_⟩
        · skip
          have c30 : s.1 95 9 ≠ 40 := c30
          refine ⟨fun c31 => ?_, fun c31 => ?_⟩
          · skip
            have c31 : s.1 95 9 ≠ 45 := c31
            refine sm_206 hI (show (97 : Int) ≤ 105 ∧ 105 ≤ (119 : Int) from by omega) (show (97 : Int) ≤ 102 ∧ 102 ≤ (121 : Int) from by omega) (fun r43 => ?_)
            refine sm_207 hI (fun z45 => ?_)
            refine ⟨fun c34 => ?_, fun c34 => ?_⟩
            · skip
              refine sm_205 hI (show (97 : Int) ≤ 108 ∧ 108 ≤ (119 : Int) from by omega) (show (97 : Int) ≤ 101 ∧ 101 ≤ (117 : Int) from by omega) (show (97 : Int) ≤ 116 ∧ 116 ≤ (122 : Int) from by omega) (fun r47 => ?_)
              refine sm_207 hI (fun z49 => ?_)
              refine ⟨fun c37 => ?_, fun c37 => ?_⟩
              · skip
                refine sm_205 hI (show (97 : Int) ≤ 110 ∧ 110 ≤ (119 : Int) from by omega) (show (97 : Int) ≤ 111 ∧ 111 ≤ (117 : Int) from by omega) (show (97 : Int) ≤ 116 ∧ 116 ≤ (122 : Int) from by omega) (fun r51 => ?_)
                refine sm_207 hI (fun z53 => ?_)
                refine ⟨fun c40 => ?_, fun c40 => ?_⟩
                · skip
                  exact hQ 1 s hI (lf_fq_rf) (show (0 : Int) ≤ 1 ∧ 1 ≤ (5 : Int) from by omega)
                · skip
                  refine sm_235 hI (fun z55 => ?_)
                  refine ⟨fun c42 => ?_, fun c42 => ?_⟩
                  · skip
                    exact hQ 1 s hI (lf_fq_rf) (show (0 : Int) ≤ 1 ∧ 1 ≤ (5 : Int) from by omega)
                  · skip
                    refine sm_234 hI (show (3 : Int) ≤ 20 ∧ 20 ≤ (44 : Int) from by omega) (fun r57 s56 hI44 fr43 q45 => ?_)
                    have fr46 : lf_fq [95, 98, 100, 101] 1000000 true s.1 s.2.2 s56.1 s56.2.2 := lf_fq_tr (lf_fq_rf) (lf_fq_wk fr43 rfl (by decide) (by decide))
                    exact hQ r57 s56 hI44 fr46 (show (0 : Int) ≤ r57 ∧ r57 ≤ (5 : Int) from by omega)
              · skip
                refine sm_234 hI (show (3 : Int) ≤ 44 ∧ 44 ≤ (44 : Int) from by omega) (fun r59 s58 hI48 fr47 q49 => ?_)
                have fr50 : lf_fq [95, 98, 100, 101] 1000000 true s.1 s.2.2 s58.1 s58.2.2 := lf_fq_tr (lf_fq_rf) (lf_fq_wk fr47 rfl (by decide) (by decide))
                exact hQ r59 s58 hI48 fr50 (show (0 : Int) ≤ r59 ∧ r59 ≤ (5 : Int) from by omega)
            · skip
              refine sm_234 hI (show (3 : Int) ≤ 41 ∧ 41 ≤ (44 : Int) from by omega) (fun r61 s60 hI52 fr51 q53 => ?_)
              have fr54 : lf_fq [95, 98, 100, 101] 1000000 true s.1 s.2.2 s60.1 s60.2.2 := lf_fq_tr (lf_fq_rf) (lf_fq_wk fr51 rfl (by decide) (by decide))
              exact hQ r61 s60 hI52 fr54 (show (0 : Int) ≤ r61 ∧ r61 ≤ (5 : Int) from by omega)
          · skip
            have c31 : ¬ (s.1 95 9 ≠ 45) := c31
            refine sm_234 hI (show (3 : Int) ≤ 3 ∧ 3 ≤ (44 : Int) from by omega) (fun r63 s62 hI56 fr55 q57 => ?_)
            have fr58 : lf_fq [95, 98, 100, 101] 1000000 true s.1 s.2.2 s62.1 s62.2.2 := lf_fq_tr (lf_fq_rf) (lf_fq_wk fr55 rfl (by decide) (by decide))
            exact hQ r63 s62 hI56 fr58 (show (0 : Int) ≤ r63 ∧ r63 ≤ (5 : Int) from by omega)
        · skip
          have c30 : ¬ (s.1 95 9 ≠ 40) := c30
          refine sm_234 hI (show (3 : Int) ≤ 40 ∧ 40 ≤ (44 : Int) from by omega) (fun r65 s64 hI60 fr59 q61 => ?_)
          have fr62 : lf_fq [95, 98, 100, 101] 1000000 true s.1 s.2.2 s64.1 s64.2.2 := lf_fq_tr (lf_fq_rf) (lf_fq_wk fr59 rfl (by decide) (by decide))
          exact hQ r65 s64 hI60 fr62 (show (0 : Int) ≤ r65 ∧ r65 ≤ (5 : Int) from by omega)
      · skip
        have c29 : ¬ (r39 < 0) := c29
        exact sm_229_p79 hQ hI (show (-1 : Int) ≤ x1 ∧ x1 ≤ (10 : Int) from by omega)
theorem sm_229_p39 {Q : Int → lf_Z → Prop} {x1 : Int} {s : lf_Z} (hQ : ∀ (r : Int) (s' : lf_Z), iv_A s'.1 s'.2.2 → lf_fq [95, 98, 100, 101] 1000000 true s.1 s.2.2 s'.1 s'.2.2 → (0 ≤ r ∧ r ≤ 5) → Q r s') (hI : iv_A s.1 s.2.2) (bx1 : (-1) ≤ x1 ∧ x1 ≤ 10) : fm_229_p39 Q x1 s := sorry
theorem sm_229_p20 {Q : Int → lf_Z → Prop} {s : lf_Z} (hQ : ∀ (r : Int) (s' : lf_Z), iv_A s'.1 s'.2.2 → lf_fq [95, 98, 100, 101] 1000000 true s.1 s.2.2 s'.1 s'.2.2 → (0 ≤ r ∧ r ≤ 5) → Q r s') (hI : iv_A s.1 s.2.2) : fm_229_p20 Q s := by
  unfold fm_229_p20
  refine sm_230 hI (fun r23 q3 => ?_)
  refine ⟨(show lf_R r23 from lf_Rof (by omega)), ?_⟩
  refine ⟨fun c4 => ?_, fun c4 => ?_⟩
  · skip
    have c4 : r23 < 0 := c4
    exact sm_229_p39 hQ hI (show (-1 : Int) ≤ r23 ∧ r23 ≤ (10 : Int) from by omega)
  · skip
    have c4 : ¬ (r23 < 0) := c4
    refine sm_231 hI (show (0 : Int) ≤ r23 ∧ r23 ≤ (10 : Int) from by omega) (fun z71 => ?_)
    refine ⟨fun c67 => ?_, fun c67 => ?_⟩
    · skip
      exact sm_229_p39 hQ hI (show (-1 : Int) ≤ r23 ∧ r23 ≤ (10 : Int) from by omega)
    · skip
      exact hQ 5 s hI (lf_fq_rf) (show (0 : Int) ≤ 5 ∧ 5 ≤ (5 : Int) from by omega)
theorem sm_229 {Q : Int → lf_Z → Prop} {s : lf_Z} (hI : iv_A s.1 s.2.2) (hQ : ∀ (r : Int) (s' : lf_Z), iv_A s'.1 s'.2.2 → lf_fq [95, 98, 100, 101] 1000000 true s.1 s.2.2 s'.1 s'.2.2 → (0 ≤ r ∧ r ≤ 5) → Q r s') : fm_229 Q s := by
  unfold fm_229
  have b1 : (-2147483648) ≤ s.1 95 9 ∧ s.1 95 9 ≤ 2147483647 := iv_full hI
  refine ⟨(show lf_R (s.1 95 9) from lf_Rof (by omega)), ?_⟩
  refine ⟨fun c2 => ?_, fun c2 => ?_⟩
  · skip
    have c2 : s.1 95 9 ≠ 1 := c2
    exact sm_229_p20 hQ hI
  · skip
    have c2 : ¬ (s.1 95 9 ≠ 1) := c2
    have b68 : (-2147483648) ≤ s.1 95 10 ∧ s.1 95 10 ≤ 2147483647 := iv_full hI
    refine ⟨(show lf_R (s.1 95 10) from lf_Rof (by omega)), ?_⟩
    refine ⟨fun c69 => ?_, fun c69 => ?_⟩
    · skip
      have c69 : s.1 95 10 ≤ 9999 := c69
      exact sm_229_p20 hQ hI
    · skip
      have c69 : ¬ (s.1 95 10 ≤ 9999) := c69
      exact hQ 2 s hI (lf_fq_rf) (show (0 : Int) ≤ 2 ∧ 2 ≤ (5 : Int) from by omega)
-- fm_221 Model.isCompared 95
theorem sm_221_p30 {Q : Bool → lf_Z → Prop} {x1 : Int} {s : lf_Z} (hQ : ∀ (z : Bool), Q z s) (hI : iv_A s.1 s.2.2) (bx1 : (-1) ≤ x1 ∧ x1 ≤ 159) : fm_221_p30 Q x1 s := by
  unfold fm_221_p30
  refine ⟨(show lf_R x1 from lf_Rof (by omega)), ?_⟩
  refine ⟨fun c3 => ?_, fun c3 => ?_⟩
  · skip
    have c3 : x1 < 0 := c3
    exact hQ false
  · skip
    have c3 : ¬ (x1 < 0) := c3
    refine ⟨(show (0 : Int) ≤ x1 ∧ x1 < (160 : Int) from by omega), ?_⟩
    have b4 : 0 ≤ s.1 100 x1 ∧ s.1 100 x1 ≤ 45 := iv_r100 hI _
    refine sm_222 hI (show (0 : Int) ≤ s.1 100 x1 ∧ s.1 100 x1 ≤ (45 : Int) from by omega) (fun r25 q5 => ?_)
    refine ⟨(show lf_R r25 from lf_Rof (by omega)), ?_⟩
    refine ⟨fun c6 => ?_, fun c6 => ?_⟩
    · skip
      have c6 : r25 ≠ 4 := c6
      exact hQ false
    · skip
      have c6 : ¬ (r25 ≠ 4) := c6
      exact hQ true
theorem sm_221_p7 {X7 : Int → lf_Z → Prop} {Q : Bool → lf_Z → Prop} {x1 : Int} {s : lf_Z} (hQ : ∀ (z : Bool), Q z s) {M7 : Nat} (hX7 : ∀ (x1 : Int), (-1) ≤ x1 ∧ x1 ≤ 159 → (x1 - (-1)).toNat < M7 → X7 x1 s) (hM7 : (x1 - (-1)).toNat ≤ M7) (hI : iv_A s.1 s.2.2) (bx1 : (-1) ≤ x1 ∧ x1 ≤ 159) : fm_221_p7 Q X7 x1 s := by
  unfold fm_221_p7
  refine ⟨(show lf_R x1 from lf_Rof (by omega)), ?_⟩
  refine ⟨fun c2 => ?_, fun c2 => ?_⟩
  · skip
    have c2 : x1 < 0 := c2
    exact sm_221_p30 hQ hI (show (-1 : Int) ≤ x1 ∧ x1 ≤ (159 : Int) from by omega)
  · skip
    have c2 : ¬ (x1 < 0) := c2
    refine ⟨(show (0 : Int) ≤ x1 ∧ x1 < (160 : Int) from by omega), ?_⟩
    have b7 : 0 ≤ s.1 100 x1 ∧ s.1 100 x1 ≤ 45 := iv_r100 hI _
    refine sm_222 hI (show (0 : Int) ≤ s.1 100 x1 ∧ s.1 100 x1 ≤ (45 : Int) from by omega) (fun r29 q8 => ?_)
    refine ⟨(show lf_R r29 from lf_Rof (by omega)), ?_⟩
    refine ⟨fun c9 => ?_, fun c9 => ?_⟩
    · skip
      have c9 : r29 ≤ 4 := c9
      exact sm_221_p30 hQ hI (show (-1 : Int) ≤ x1 ∧ x1 ≤ (159 : Int) from by omega)
    · skip
      have c9 : ¬ (r29 ≤ 4) := c9
      exact hX7 (x1 + (-1)) (show (-1 : Int) ≤ x1 + (-1) ∧ x1 + (-1) ≤ (159 : Int) from by omega) (show ((x1 + (-1)) - (-1)).toNat < M7 from by omega)
theorem sm_221_p7L {Q : Bool → lf_Z → Prop} {x1 : Int} {s : lf_Z} (hQ : ∀ (z : Bool), Q z s) (hI : iv_A s.1 s.2.2) (bx1 : (-1) ≤ x1 ∧ x1 ≤ 159) : fm_221_p7L Q x1 s := by
  intro X7 hX
  have key : ∀ (m9 : Nat) (x1 : Int), (-1) ≤ x1 ∧ x1 ≤ 159 → (x1 - (-1)).toNat < m9 → X7 x1 s := by
    intro m9
    induction m9 with
    | zero => intro x1 bx1 h9; exact absurd h9 (Nat.not_lt_zero _)
    | succ m9 ih => intro x1 bx1 h9; exact hX _ _ (sm_221_p7 hQ   (fun x1' bx1' h8 => ih x1' bx1' (by omega)) (Nat.le_refl _)  hI  bx1  )
  exact key _ _ bx1   (Nat.lt_succ_self _)
theorem sm_221 {Q : Bool → lf_Z → Prop} {s : lf_Z} (hI : iv_A s.1 s.2.2) (hQ : ∀ (z : Bool), Q z s) : fm_221 Q s := by
  unfold fm_221
  have b1 : 0 ≤ s.1 95 19 ∧ s.1 95 19 ≤ 160 := iv_r95_19 hI
  exact sm_221_p7L hQ hI (show (-1 : Int) ≤ (s.1 95 19) - 1 ∧ (s.1 95 19) - 1 ≤ (159 : Int) from by omega)
-- fm_223 Model.compareOf 95
theorem sm_223 {Q : Int → lf_Z → Prop} {s : lf_Z} (hI : iv_A s.1 s.2.2) (hQ : ∀ (r : Int), ((-1) ≤ r ∧ r ≤ 15) → Q r s) : fm_223 Q s := by
  unfold fm_223
  have b1 : (-2147483648) ≤ s.1 95 9 ∧ s.1 95 9 ≤ 2147483647 := iv_full hI
  refine ⟨(show lf_R (s.1 95 9) from lf_Rof (by omega)), ?_⟩
  refine ⟨fun c2 => ?_, fun c2 => ?_⟩
  · skip
    have c2 : s.1 95 9 ≠ 60 := c2
    refine ⟨fun c3 => ?_, fun c3 => ?_⟩
    · skip
      have c3 : s.1 95 9 ≠ 4 := c3
      refine ⟨fun c4 => ?_, fun c4 => ?_⟩
      · skip
        have c4 : s.1 95 9 ≠ 62 := c4
        refine ⟨fun c5 => ?_, fun c5 => ?_⟩
        · skip
          have c5 : s.1 95 9 ≠ 5 := c5
          refine ⟨fun c6 => ?_, fun c6 => ?_⟩
          · skip
            have c6 : s.1 95 9 ≠ 61 := c6
            refine ⟨fun c7 => ?_, fun c7 => ?_⟩
            · skip
              have c7 : s.1 95 9 ≠ 35 := c7
              exact hQ (-1) (show (-1 : Int) ≤ (-1) ∧ (-1) ≤ (15 : Int) from by omega)
            · skip
              have c7 : ¬ (s.1 95 9 ≠ 35) := c7
              exact hQ 15 (show (-1 : Int) ≤ 15 ∧ 15 ≤ (15 : Int) from by omega)
          · skip
            have c6 : ¬ (s.1 95 9 ≠ 61) := c6
            exact hQ 14 (show (-1 : Int) ≤ 14 ∧ 14 ≤ (15 : Int) from by omega)
        · skip
          have c5 : ¬ (s.1 95 9 ≠ 5) := c5
          exact hQ 13 (show (-1 : Int) ≤ 13 ∧ 13 ≤ (15 : Int) from by omega)
      · skip
        have c4 : ¬ (s.1 95 9 ≠ 62) := c4
        exact hQ 12 (show (-1 : Int) ≤ 12 ∧ 12 ≤ (15 : Int) from by omega)
    · skip
      have c3 : ¬ (s.1 95 9 ≠ 4) := c3
      exact hQ 11 (show (-1 : Int) ≤ 11 ∧ 11 ≤ (15 : Int) from by omega)
  · skip
    have c2 : ¬ (s.1 95 9 ≠ 60) := c2
    exact hQ 10 (show (-1 : Int) ≤ 10 ∧ 10 ≤ (15 : Int) from by omega)
-- fm_218 Model.betweenOf 95
theorem sm_218 {Q : Int → lf_Z → Prop} {s : lf_Z} (hI : iv_A s.1 s.2.2) (hQ : ∀ (r : Int), ((-1) ≤ r ∧ r ≤ 22) → Q r s) : fm_218 Q s := by
  unfold fm_218
  have b1 : (-2147483648) ≤ s.1 95 9 ∧ s.1 95 9 ≤ 2147483647 := iv_full hI
  refine ⟨(show lf_R (s.1 95 9) from lf_Rof (by omega)), ?_⟩
  refine ⟨fun c2 => ?_, fun c2 => ?_⟩
  · skip
    have c2 : s.1 95 9 ≠ 43 := c2
    refine ⟨fun c3 => ?_, fun c3 => ?_⟩
    · skip
      have c3 : s.1 95 9 ≠ 45 := c3
      refine ⟨fun c4 => ?_, fun c4 => ?_⟩
      · skip
        have c4 : s.1 95 9 ≠ 42 := c4
        refine ⟨fun c5 => ?_, fun c5 => ?_⟩
        · skip
          have c5 : s.1 95 9 ≠ 47 := c5
          refine sm_219 hI (fun r23 q6 => ?_)
          refine ⟨(show lf_R r23 from lf_Rof (by omega)), ?_⟩
          refine ⟨fun c7 => ?_, fun c7 => ?_⟩
          · skip
            have c7 : r23 = 41 := c7
            refine sm_221 hI (fun z26 => ?_)
            refine ⟨fun c9 => ?_, fun c9 => ?_⟩
            · skip
              refine sm_205 hI (show (97 : Int) ≤ 97 ∧ 97 ≤ (119 : Int) from by omega) (show (97 : Int) ≤ 110 ∧ 110 ≤ (117 : Int) from by omega) (show (97 : Int) ≤ 100 ∧ 100 ≤ (122 : Int) from by omega) (fun r28 => ?_)
              refine sm_207 hI (fun z30 => ?_)
              refine ⟨fun c12 => ?_, fun c12 => ?_⟩
              · skip
                refine sm_206 hI (show (97 : Int) ≤ 111 ∧ 111 ≤ (119 : Int) from by omega) (show (97 : Int) ≤ 114 ∧ 114 ≤ (121 : Int) from by omega) (fun r32 => ?_)
                refine sm_207 hI (fun z34 => ?_)
                refine ⟨fun c15 => ?_, fun c15 => ?_⟩
                · skip
                  exact hQ (-1) (show (-1 : Int) ≤ (-1) ∧ (-1) ≤ (22 : Int) from by omega)
                · skip
                  exact hQ 22 (show (-1 : Int) ≤ 22 ∧ 22 ≤ (22 : Int) from by omega)
              · skip
                exact hQ 21 (show (-1 : Int) ≤ 21 ∧ 21 ≤ (22 : Int) from by omega)
            · skip
              refine sm_223 hI (fun r36 q16 => ?_)
              exact hQ r36 (show (-1 : Int) ≤ r36 ∧ r36 ≤ (22 : Int) from by omega)
          · skip
            have c7 : ¬ (r23 = 41) := c7
            exact hQ (-1) (show (-1 : Int) ≤ (-1) ∧ (-1) ≤ (22 : Int) from by omega)
        · skip
          have c5 : ¬ (s.1 95 9 ≠ 47) := c5
          exact hQ 7 (show (-1 : Int) ≤ 7 ∧ 7 ≤ (22 : Int) from by omega)
      · skip
        have c4 : ¬ (s.1 95 9 ≠ 42) := c4
        exact hQ 6 (show (-1 : Int) ≤ 6 ∧ 6 ≤ (22 : Int) from by omega)
    · skip
      have c3 : ¬ (s.1 95 9 ≠ 45) := c3
      exact hQ 5 (show (-1 : Int) ≤ 5 ∧ 5 ≤ (22 : Int) from by omega)
  · skip
    have c2 : ¬ (s.1 95 9 ≠ 43) := c2
    exact hQ 4 (show (-1 : Int) ≤ 4 ∧ 4 ≤ (22 : Int) from by omega)
-- fm_226 Model.partOf 95 i
theorem sm_226 {a1 : Int} {Q : Int → lf_Z → Prop} {s : lf_Z} (hI : iv_A s.1 s.2.2) (ba1 : (-1) ≤ a1 ∧ a1 ≤ 45) (hQ : ∀ (r : Int), ((-1) ≤ r ∧ r ≤ 45) → Q r s) : fm_226 a1 Q s := by
  unfold fm_226
  refine ⟨(show lf_R a1 from lf_Rof (by omega)), ?_⟩
  refine ⟨fun c1 => ?_, fun c1 => ?_, fun c1 => ?_, fun c1 => ?_, fun c1 => ?_, fun c1 => ?_⟩
  · have c1 : a1 ≠ (-1) ∧ a1 ≠ 40 ∧ a1 ≠ 41 ∧ a1 ≠ 42 ∧ a1 ≠ 44 := c1
    refine sm_205 hI (show (97 : Int) ≤ 101 ∧ 101 ≤ (119 : Int) from by omega) (show (97 : Int) ≤ 110 ∧ 110 ≤ (117 : Int) from by omega) (show (97 : Int) ≤ 100 ∧ 100 ≤ (122 : Int) from by omega) (fun r23 => ?_)
    refine sm_207 hI (fun z25 => ?_)
    refine ⟨fun c4 => ?_, fun c4 => ?_⟩
    · skip
      exact hQ (-1) (show (-1 : Int) ≤ (-1) ∧ (-1) ≤ (45 : Int) from by omega)
    · skip
      exact hQ 0 (show (-1 : Int) ≤ 0 ∧ 0 ≤ (45 : Int) from by omega)
  · have c1 : a1 = (-1) := c1
    exact hQ (-1) (show (-1 : Int) ≤ (-1) ∧ (-1) ≤ (45 : Int) from by omega)
  · have c1 : a1 = 40 := c1
    have b5 : (-2147483648) ≤ s.1 95 9 ∧ s.1 95 9 ≤ 2147483647 := iv_full hI
    refine ⟨(show lf_R (s.1 95 9) from lf_Rof (by omega)), ?_⟩
    refine ⟨fun c6 => ?_, fun c6 => ?_⟩
    · skip
      have c6 : s.1 95 9 ≠ 41 := c6
      exact hQ (-1) (show (-1 : Int) ≤ (-1) ∧ (-1) ≤ (45 : Int) from by omega)
    · skip
      have c6 : ¬ (s.1 95 9 ≠ 41) := c6
      exact hQ 0 (show (-1 : Int) ≤ 0 ∧ 0 ≤ (45 : Int) from by omega)
  · have c1 : a1 = 41 := c1
    refine sm_204 hI (show (97 : Int) ≤ 116 ∧ 116 ≤ (116 : Int) from by omega) (show (97 : Int) ≤ 104 ∧ 104 ≤ (117 : Int) from by omega) (show (97 : Int) ≤ 101 ∧ 101 ≤ (122 : Int) from by omega) (show (97 : Int) ≤ 110 ∧ 110 ≤ (117 : Int) from by omega) (fun r28 => ?_)
    refine sm_207 hI (fun z30 => ?_)
    refine ⟨fun c9 => ?_, fun c9 => ?_⟩
    · skip
      exact hQ (-1) (show (-1 : Int) ≤ (-1) ∧ (-1) ≤ (45 : Int) from by omega)
    · skip
      refine sm_221 hI (fun z32 => ?_)
      refine ⟨fun c11 => ?_, fun c11 => ?_⟩
      · skip
        exact hQ (-1) (show (-1 : Int) ≤ (-1) ∧ (-1) ≤ (45 : Int) from by omega)
      · skip
        exact hQ 42 (show (-1 : Int) ≤ 42 ∧ 42 ≤ (45 : Int) from by omega)
  · have c1 : a1 = 42 := c1
    refine sm_204 hI (show (97 : Int) ≤ 101 ∧ 101 ≤ (116 : Int) from by omega) (show (97 : Int) ≤ 108 ∧ 108 ≤ (117 : Int) from by omega) (show (97 : Int) ≤ 115 ∧ 115 ≤ (122 : Int) from by omega) (show (97 : Int) ≤ 101 ∧ 101 ≤ (117 : Int) from by omega) (fun r34 => ?_)
    refine sm_207 hI (fun z36 => ?_)
    refine ⟨fun c14 => ?_, fun c14 => ?_⟩
    · skip
      exact hQ (-1) (show (-1 : Int) ≤ (-1) ∧ (-1) ≤ (45 : Int) from by omega)
    · skip
      exact hQ 43 (show (-1 : Int) ≤ 43 ∧ 43 ≤ (45 : Int) from by omega)
  · have c1 : a1 = 44 := c1
    refine sm_206 hI (show (97 : Int) ≤ 105 ∧ 105 ≤ (119 : Int) from by omega) (show (97 : Int) ≤ 110 ∧ 110 ≤ (121 : Int) from by omega) (fun r38 => ?_)
    refine sm_207 hI (fun z40 => ?_)
    refine ⟨fun c17 => ?_, fun c17 => ?_⟩
    · skip
      exact hQ (-1) (show (-1 : Int) ≤ (-1) ∧ (-1) ≤ (45 : Int) from by omega)
    · skip
      exact hQ 45 (show (-1 : Int) ≤ 45 ∧ 45 ≤ (45 : Int) from by omega)
-- fm_228 Model.shut 95 i
theorem sm_228_p32 {Q : lf_Z → Prop} {x1 : Int} {s : lf_Z} (hQ : ∀  (s' : lf_Z), iv_A s'.1 s'.2.2 → lf_fq [95, 98, 103] 1000000 true s.1 s.2.2 s'.1 s'.2.2 → Q  s') (hI : iv_A s.1 s.2.2) (bx1 : (-1) ≤ x1 ∧ x1 ≤ 45) : fm_228_p32 Q x1 s := sorry
theorem sm_228 {a1 : Int} {Q : lf_Z → Prop} {s : lf_Z} (hI : iv_A s.1 s.2.2) (ba1 : (-1) ≤ a1 ∧ a1 ≤ 45) (hQ : ∀  (s' : lf_Z), iv_A s'.1 s'.2.2 → lf_fq [95, 98, 103] 1000000 true s.1 s.2.2 s'.1 s'.2.2 → Q  s') : fm_228 a1 Q s := sorry
-- fm_227 Model.bind 95
theorem sm_227 {Q : lf_Z → Prop} {s : lf_Z} (hI : iv_A s.1 s.2.2) (hQ : ∀  (s' : lf_Z), iv_A s'.1 s'.2.2 → lf_fq [95, 98, 102, 103] 1000000 true s.1 s.2.2 s'.1 s'.2.2 → Q  s') : fm_227 Q s := sorry
-- fm_217 Model.behindOne 95
theorem sm_217_p99 {Q : Bool → lf_Z → Prop} {s : lf_Z} (hQ : ∀ (z : Bool) (s' : lf_Z), iv_A s'.1 s'.2.2 → lf_fq [95, 98, 100, 102, 103] 1000000 true s.1 s.2.2 s'.1 s'.2.2 → Q z s') (hI : iv_A s.1 s.2.2) : fm_217_p99 Q s := by
  unfold fm_217_p99
  refine sm_197 hI (fun s36 hI30 fr29 => ?_)
  have fr32 : lf_fq [95, 98, 100, 102, 103] 1000000 true s.1 s.2.2 s36.1 s36.2.2 := lf_fq_tr (lf_fq_rf) (lf_fq_wk fr29 rfl (by decide) (by decide))
  exact hQ true s36 hI30 fr32
theorem sm_217 {Q : Bool → lf_Z → Prop} {s : lf_Z} (hI : iv_A s.1 s.2.2) (hQ : ∀ (z : Bool) (s' : lf_Z), iv_A s'.1 s'.2.2 → lf_fq [95, 98, 100, 102, 103] 1000000 true s.1 s.2.2 s'.1 s'.2.2 → Q z s') : fm_217 Q s := sorry
-- fm_216 Model.summed 95
theorem sm_216_p46 {X46 : lf_Z → Prop} {Q : Int → lf_Z → Prop} {s : lf_Z} (hQ : ∀ (r : Int) (s' : lf_Z), iv_A s'.1 s'.2.2 → lf_fq [95, 98, 100, 101, 102, 103] 1000000 true s.1 s.2.2 s'.1 s'.2.2 → (0 ≤ r ∧ r ≤ 5) → Q r s') {M46 : Nat} (hX46 : ∀ (s' : lf_Z), iv_A s'.1 s'.2.2 → lf_fq [95, 98, 100, 101, 102, 103] 1000000 true s.1 s.2.2 s'.1 s'.2.2 → 0 < M46 → X46 s') (hM46 : 0 ≤ M46) (hI : iv_A s.1 s.2.2) : fm_216_p46 Q X46 s := sorry
theorem sm_216_p46L {Q : Int → lf_Z → Prop} {s : lf_Z} (hQ : ∀ (r : Int) (s' : lf_Z), iv_A s'.1 s'.2.2 → lf_fq [95, 98, 100, 101, 102, 103] 1000000 true s.1 s.2.2 s'.1 s'.2.2 → (0 ≤ r ∧ r ≤ 5) → Q r s') (hI : iv_A s.1 s.2.2) : fm_216_p46L Q s := by
  intro X46 hX
  have key : ∀ (m9 : Nat) (s' : lf_Z), iv_A s'.1 s'.2.2 → lf_fq [95, 98, 100, 101, 102, 103] 1000000 true s.1 s.2.2 s'.1 s'.2.2 → 0 < m9 → X46 s' := by
    intro m9
    induction m9 with
    | zero => intro  s' _ _  h9; exact absurd h9 (Nat.not_lt_zero _)
    | succ m9 ih => intro  s' i7 f7  h9; exact hX  _ (sm_216_p46 (fun r9 t9 i9 f9 => hQ r9 t9 i9 (lf_fq_tr f7 f9))   (fun  t8 i8 f8  h8 => ih  t8 i8 (lf_fq_tr f7 f8)  (by omega)) (Nat.le_refl _)  i7    )
  exact key _  s hI lf_fq_rf  (Nat.lt_succ_self _)
theorem sm_216_p22 {X22 : Int → lf_Z → Prop} {Q : Int → lf_Z → Prop} {x1 : Int} {s : lf_Z} (hQ : ∀ (r : Int) (s' : lf_Z), iv_A s'.1 s'.2.2 → lf_fq [95, 98, 100, 101, 102, 103] 1000000 true s.1 s.2.2 s'.1 s'.2.2 → (0 ≤ r ∧ r ≤ 5) → Q r s') {M22 : Nat} (hX22 : ∀ (x1 : Int) (s' : lf_Z), iv_A s'.1 s'.2.2 → lf_fq [95, 98, 100, 101, 102, 103] 1000000 true s.1 s.2.2 s'.1 s'.2.2 → 0 ≤ x1 ∧ x1 ≤ 26 → (26 - x1).toNat < M22 → X22 x1 s') (hM22 : (26 - x1).toNat ≤ M22) (hI : iv_A s.1 s.2.2) (bx1 : 0 ≤ x1 ∧ x1 ≤ 26) : fm_216_p22 Q X22 x1 s := by
  unfold fm_216_p22
  refine ⟨(show lf_R x1 from lf_Rof (by omega)), ?_⟩
  refine ⟨fun c9 => ?_, fun c9 => ?_⟩
  · skip
    have c9 : 26 ≤ x1 := c9
    have hI10 : iv_A (lf_up s.1 95 23 0) s.2.2 := iv_w95_23 hI (by omega)
    have fr11 : lf_fq [95, 98, 100, 101, 102, 103] 1000000 true s.1 s.2.2 (lf_up s.1 95 23 0) s.2.2 := lf_fq_up (lf_fq_rf) rfl (fun h => absurd h (by decide))
    exact sm_216_p46L (fun r9 t9 i9 f9 => hQ r9 t9 i9 (lf_fq_tr fr11 f9)) hI10
  · skip
    have c9 : ¬ (26 ≤ x1) := c9
    refine ⟨(show (0 : Int) ≤ x1 ∧ x1 < (26 : Int) from by omega), ?_⟩
    have hI30 : iv_A (lf_up s.1 103 x1 (-1)) s.2.2 := iv_w103 hI (by omega)
    have fr31 : lf_fq [95, 98, 100, 101, 102, 103] 1000000 true s.1 s.2.2 (lf_up s.1 103 x1 (-1)) s.2.2 := lf_fq_up (lf_fq_rf) rfl (fun h => absurd h (by decide))
    exact hX22 (x1 + 1) (lf_up s.1 103 x1 (-1), s.2.1, s.2.2) hI30 fr31 (show (0 : Int) ≤ x1 + 1 ∧ x1 + 1 ≤ (26 : Int) from by omega) (show (26 - (x1 + 1)).toNat < M22 from by omega)
theorem sm_216_p22L {Q : Int → lf_Z → Prop} {x1 : Int} {s : lf_Z} (hQ : ∀ (r : Int) (s' : lf_Z), iv_A s'.1 s'.2.2 → lf_fq [95, 98, 100, 101, 102, 103] 1000000 true s.1 s.2.2 s'.1 s'.2.2 → (0 ≤ r ∧ r ≤ 5) → Q r s') (hI : iv_A s.1 s.2.2) (bx1 : 0 ≤ x1 ∧ x1 ≤ 26) : fm_216_p22L Q x1 s := by
  intro X22 hX
  have key : ∀ (m9 : Nat) (x1 : Int) (s' : lf_Z), iv_A s'.1 s'.2.2 → lf_fq [95, 98, 100, 101, 102, 103] 1000000 true s.1 s.2.2 s'.1 s'.2.2 → 0 ≤ x1 ∧ x1 ≤ 26 → (26 - x1).toNat < m9 → X22 x1 s' := by
    intro m9
    induction m9 with
    | zero => intro x1 s' _ _ bx1 h9; exact absurd h9 (Nat.not_lt_zero _)
    | succ m9 ih => intro x1 s' i7 f7 bx1 h9; exact hX _ _ (sm_216_p22 (fun r9 t9 i9 f9 => hQ r9 t9 i9 (lf_fq_tr f7 f9))   (fun x1' t8 i8 f8 bx1' h8 => ih x1' t8 i8 (lf_fq_tr f7 f8) bx1' (by omega)) (Nat.le_refl _)  i7  bx1  )
  exact key _ _ s hI lf_fq_rf bx1 (Nat.lt_succ_self _)
theorem sm_216 {Q : Int → lf_Z → Prop} {s : lf_Z} (hI : iv_A s.1 s.2.2) (hQ : ∀ (r : Int) (s' : lf_Z), iv_A s'.1 s'.2.2 → lf_fq [95, 98, 100, 101, 102, 103] 1000000 true s.1 s.2.2 s'.1 s'.2.2 → (0 ≤ r ∧ r ≤ 5) → Q r s') : fm_216 Q s := by
  unfold fm_216
  have hI1 : iv_A (lf_up s.1 95 19 0) s.2.2 := iv_w95_19 hI (by omega)
  have fr2 : lf_fq [95, 98, 100, 101, 102, 103] 1000000 true s.1 s.2.2 (lf_up s.1 95 19 0) s.2.2 := lf_fq_up (lf_fq_rf) rfl (fun h => absurd h (by decide))
  have hI3 : iv_A (lf_up (lf_up s.1 95 19 0) 95 20 0) s.2.2 := iv_w95_20 hI1 (by omega)
  have fr4 : lf_fq [95, 98, 100, 101, 102, 103] 1000000 true s.1 s.2.2 (lf_up (lf_up s.1 95 19 0) 95 20 0) s.2.2 := lf_fq_up fr2 rfl (fun h => absurd h (by decide))
  have hI5 : iv_A (lf_up (lf_up (lf_up s.1 95 19 0) 95 20 0) 95 21 0) s.2.2 := iv_w95_21 hI3 (by omega)
  have fr6 : lf_fq [95, 98, 100, 101, 102, 103] 1000000 true s.1 s.2.2 (lf_up (lf_up (lf_up s.1 95 19 0) 95 20 0) 95 21 0) s.2.2 := lf_fq_up fr4 rfl (fun h => absurd h (by decide))
  have hI7 : iv_A (lf_up (lf_up (lf_up (lf_up s.1 95 19 0) 95 20 0) 95 21 0) 95 22 0) s.2.2 := iv_w95_22 hI5 (by omega)
  have fr8 : lf_fq [95, 98, 100, 101, 102, 103] 1000000 true s.1 s.2.2 (lf_up (lf_up (lf_up (lf_up s.1 95 19 0) 95 20 0) 95 21 0) 95 22 0) s.2.2 := lf_fq_up fr6 rfl (fun h => absurd h (by decide))
  exact sm_216_p22L (fun r9 t9 i9 f9 => hQ r9 t9 i9 (lf_fq_tr fr8 f9)) hI7 (show (0 : Int) ≤ 0 ∧ 0 ≤ (26 : Int) from by omega)
-- fm_215 Model.lawClause 95 i
theorem sm_215 {a1 : Int} {Q : Int → lf_Z → Prop} {s : lf_Z} (hI : iv_A s.1 s.2.2) (ba1 : 0 ≤ a1 ∧ a1 ≤ 2819) (hQ : ∀ (r : Int) (s' : lf_Z), iv_A s'.1 s'.2.2 → lf_fq [95, 98, 100, 101, 102, 103] 1000000 true s.1 s.2.2 s'.1 s'.2.2 → (0 ≤ r ∧ r ≤ 5) → Q r s') : fm_215 a1 Q s := sorry
-- fm_213 Model.figure 95 i i i
theorem sm_213 {a1 : Int} {a2 : Int} {a3 : Int} {Q : Int → lf_Z → Prop} {s : lf_Z} (hI : iv_A s.1 s.2.2) (ba1 : 1 ≤ a1 ∧ a1 ≤ 2821) (ba2 : 0 ≤ a2 ∧ a2 ≤ 1) (ba3 : 3 ≤ a3 ∧ a3 ≤ 99) (hQ : ∀ (r : Int) (s' : lf_Z), iv_A s'.1 s'.2.2 → lf_fq [95, 98] 1000000 true s.1 s.2.2 s'.1 s'.2.2 → (0 ≤ r ∧ r ≤ 2) → Q r s') : fm_213 a1 a2 a3 Q s := sorry
-- fm_214 Model.worded 95 l i i i
theorem sm_214 {a1 : Int} {a2 : Int} {a3 : Int} {a4 : Int} {Q : Int → lf_Z → Prop} {s : lf_Z} (hI : iv_A s.1 s.2.2) (ba2 : 2 ≤ a2 ∧ a2 ≤ 2821) (ba3 : 0 ≤ a3 ∧ a3 ≤ 1) (ba4 : 11 ≤ a4 ∧ a4 ≤ 99) (hQ : ∀ (r : Int) (s' : lf_Z), iv_A s'.1 s'.2.2 → lf_fq [95, 98] 1000000 true s.1 s.2.2 s'.1 s'.2.2 → (0 ≤ r ∧ r ≤ 2) → Q r s') : fm_214 a1 a2 a3 a4 Q s := by
  unfold fm_214
  refine sm_207 hI (fun z22 => ?_)
  refine ⟨fun c2 => ?_, fun c2 => ?_⟩
  · skip
    refine sm_197 hI (fun s23 hI4 fr3 => ?_)
    have fr6 : lf_fq [95, 98] 1000000 true s.1 s.2.2 s23.1 s23.2.2 := lf_fq_tr (lf_fq_rf) (lf_fq_wk fr3 rfl (by decide) (by decide))
    refine sm_213 hI4 (show (1 : Int) ≤ a2 ∧ a2 ≤ (2821 : Int) from by omega) (show (0 : Int) ≤ a3 ∧ a3 ≤ (1 : Int) from by omega) (show (3 : Int) ≤ a4 ∧ a4 ≤ (99 : Int) from by omega) (fun r25 s24 hI8 fr7 q9 => ?_)
    have fr10 : lf_fq [95, 98] 1000000 true s.1 s.2.2 s24.1 s24.2.2 := lf_fq_tr fr6 (lf_fq_wk fr7 rfl (by decide) (by decide))
    exact hQ r25 s24 hI8 fr10 (show (0 : Int) ≤ r25 ∧ r25 ≤ (2 : Int) from by omega)
  · skip
    exact hQ 1 s hI (lf_fq_rf) (show (0 : Int) ≤ 1 ∧ 1 ≤ (2 : Int) from by omega)
-- fm_212 Model.pair 95 i i i l i i
theorem sm_212 {a1 : Int} {a2 : Int} {a3 : Int} {a4 : Int} {a5 : Int} {a6 : Int} {Q : Int → lf_Z → Prop} {s : lf_Z} (hI : iv_A s.1 s.2.2) (ba1 : 0 ≤ a1 ∧ a1 ≤ 2819) (ba2 : 0 ≤ a2 ∧ a2 ≤ 1) (ba3 : 3 ≤ a3 ∧ a3 ≤ 24) (ba5 : 0 ≤ a5 ∧ a5 ≤ 1) (ba6 : 11 ≤ a6 ∧ a6 ≤ 99) (hQ : ∀ (r : Int) (s' : lf_Z), iv_A s'.1 s'.2.2 → lf_fq [95, 98] 1000000 true s.1 s.2.2 s'.1 s'.2.2 → (0 ≤ r ∧ r ≤ 2) → Q r s') : fm_212 a1 a2 a3 a4 a5 a6 Q s := by
  unfold fm_212
  refine sm_213 hI (show (1 : Int) ≤ a1 + 1 ∧ a1 + 1 ≤ (2821 : Int) from by omega) (show (0 : Int) ≤ a2 ∧ a2 ≤ (1 : Int) from by omega) (show (3 : Int) ≤ a3 ∧ a3 ≤ (99 : Int) from by omega) (fun r22 s21 hI2 fr1 q3 => ?_)
  have fr4 : lf_fq [95, 98] 1000000 true s.1 s.2.2 s21.1 s21.2.2 := lf_fq_tr (lf_fq_rf) (lf_fq_wk fr1 rfl (by decide) (by decide))
  refine ⟨(show lf_R r22 from lf_Rof (by omega)), ?_⟩
  refine ⟨fun c5 => ?_, fun c5 => ?_⟩
  · skip
    have c5 : r22 = 0 := c5
    refine sm_214 hI2 (show (2 : Int) ≤ a1 + 2 ∧ a1 + 2 ≤ (2821 : Int) from by omega) (show (0 : Int) ≤ a5 ∧ a5 ≤ (1 : Int) from by omega) (show (11 : Int) ≤ a6 ∧ a6 ≤ (99 : Int) from by omega) (fun r25 s24 hI7 fr6 q8 => ?_)
    have fr9 : lf_fq [95, 98] 1000000 true s.1 s.2.2 s24.1 s24.2.2 := lf_fq_tr fr4 (lf_fq_wk fr6 rfl (by decide) (by decide))
    exact hQ r25 s24 hI7 fr9 (show (0 : Int) ≤ r25 ∧ r25 ≤ (2 : Int) from by omega)
  · skip
    have c5 : ¬ (r22 = 0) := c5
    exact hQ r22 s21 hI2 fr4 (show (0 : Int) ≤ r22 ∧ r22 ≤ (2 : Int) from by omega)
