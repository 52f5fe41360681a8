-- fm_277 Model.harmOf 95 i
theorem sm_277 {a1 : Int} {Q : Int → lf_Z → Prop} {s : lf_Z} (hI : iv_A s.1 s.2.2) (ba1 : 0 ≤ a1 ∧ a1 ≤ 11) (hQ : ∀ (r : Int), (0 ≤ r ∧ r ≤ 99) → Q r s) : fm_277 a1 Q s := by
  unfold fm_277
  refine ⟨(show (0 : Int) ≤ (14 + (3 * a1)) + 1 ∧ (14 + (3 * a1)) + 1 < (1538 : Int) from by omega), ?_⟩
  have b1 : 0 ≤ s.1 96 ((14 + (3 * a1)) + 1) ∧ s.1 96 ((14 + (3 * a1)) + 1) ≤ 99 := iv_rd96 hI (iv_fc43a0ff9 (a1) (by omega) (by omega))
  exact hQ (s.1 96 ((14 + (3 * a1)) + 1)) (show (0 : Int) ≤ s.1 96 ((14 + (3 * a1)) + 1) ∧ s.1 96 ((14 + (3 * a1)) + 1) ≤ (99 : Int) from by omega)
-- fm_265 Model.kindOf 95 i
theorem sm_265 {a1 : Int} {Q : Int → lf_Z → Prop} {s : lf_Z} (hI : iv_A s.1 s.2.2) (ba1 : 0 ≤ a1 ∧ a1 ≤ 11) (hQ : ∀ (r : Int), (0 ≤ r ∧ r ≤ 3) → Q r s) : fm_265 a1 Q s := by
  unfold fm_265
  refine ⟨(show (0 : Int) ≤ 14 + (3 * a1) ∧ 14 + (3 * a1) < (1538 : Int) from by omega), ?_⟩
  have b1 : 0 ≤ s.1 96 (14 + (3 * a1)) ∧ s.1 96 (14 + (3 * a1)) ≤ 3 := iv_rd96 hI (iv_f6fd1d1ad (a1) (by omega) (by omega))
  exact hQ (s.1 96 (14 + (3 * a1))) (show (0 : Int) ≤ s.1 96 (14 + (3 * a1)) ∧ s.1 96 (14 + (3 * a1)) ≤ (3 : Int) from by omega)
-- fm_266 Model.peopleAt 95 i
theorem sm_266_p45 {X19 : Int → Int → lf_Z → Prop} {Q : Int → lf_Z → Prop} {x1 : Int} {x3 : Int} {y0 : Int} {y1 : Int} {s : lf_Z} (hQ : ∀ (r : Int), ((-2147483648) ≤ r ∧ r ≤ 2147483647) → Q r s) {M19 : Nat} (hX19 : ∀ (x2 : Int) (x3 : Int), (-2147483648) ≤ x2 ∧ x2 ≤ 2147483647 → 0 ≤ x3 ∧ x3 ≤ 6 → (6 - x3).toNat < M19 → X19 x2 x3 s) (hM19 : (6 - x3).toNat ≤ M19) (hI : iv_A s.1 s.2.2) (bx1 : (-1) ≤ x1 ∧ x1 ≤ 11) (bx3 : 0 ≤ x3 ∧ x3 ≤ 5) (by0 : (-2147483648) ≤ y0 ∧ y0 ≤ 2147483647) (by1 : 0 ≤ y1 ∧ y1 ≤ 1) : fm_266_p45 X19 Q x1 x3 y0 y1 s := by
  unfold fm_266_p45
  have b9 : (-2147483648) ≤ lf_w (y0 + y1) ∧ lf_w (y0 + y1) ≤ 2147483647 := lf_wB
  exact hX19 (lf_w (y0 + y1)) (x3 + 1) (show (-2147483648 : Int) ≤ lf_w (y0 + y1) ∧ lf_w (y0 + y1) ≤ (2147483647 : Int) from by omega) (show (0 : Int) ≤ x3 + 1 ∧ x3 + 1 ≤ (6 : Int) from by omega) (show (6 - (x3 + 1)).toNat < M19 from by omega)
theorem sm_266_p19 {X19 : Int → Int → lf_Z → Prop} {Q : Int → lf_Z → Prop} {x1 : Int} {x2 : Int} {x3 : Int} {s : lf_Z} (hQ : ∀ (r : Int), ((-2147483648) ≤ r ∧ r ≤ 2147483647) → Q r s) {M19 : Nat} (hX19 : ∀ (x2 : Int) (x3 : Int), (-2147483648) ≤ x2 ∧ x2 ≤ 2147483647 → 0 ≤ x3 ∧ x3 ≤ 6 → (6 - x3).toNat < M19 → X19 x2 x3 s) (hM19 : (6 - x3).toNat ≤ M19) (hI : iv_A s.1 s.2.2) (bx1 : (-1) ≤ x1 ∧ x1 ≤ 11) (bx2 : (-2147483648) ≤ x2 ∧ x2 ≤ 2147483647) (bx3 : 0 ≤ x3 ∧ x3 ≤ 6) : fm_266_p19 Q x1 X19 x2 x3 s := by
  unfold fm_266_p19
  have b4 : 0 ≤ s.1 96 2 ∧ s.1 96 2 ≤ 6 := iv_rd96 hI (iv_f2103129b (by omega))
  have b5 : s.1 96 2 ≤ 0 ∨ 0 < s.1 96 0 := (show s.1 96 2 ≤ 0 ∨ 0 < s.1 96 0 from iv_l96_2 hI)
  refine ⟨(show lf_R x3 from lf_Rof (by omega)), ?_⟩
  refine ⟨(show lf_R (s.1 96 2) from lf_Rof (by omega)), ?_⟩
  refine ⟨fun c6 => ?_, fun c6 => ?_⟩
  · skip
    replace c6 : s.1 96 2 ≤ x3 := c6
    exact hQ x2 (show (-2147483648 : Int) ≤ x2 ∧ x2 ≤ (2147483647 : Int) from by omega)
  · skip
    replace c6 : ¬ (s.1 96 2 ≤ x3) := c6
    refine sm_239 hI (show (0 : Int) ≤ x3 ∧ x3 ≤ (5 : Int) from by omega) (fun r26 q7 => ?_)
    obtain ⟨q7, q7x⟩ := q7
    replace q7x : r26 = s.1 96 (126 + 6 * x3 + 3) := q7x
    refine ⟨(show lf_R r26 from lf_Rof (by omega)), ?_⟩
    refine ⟨(show lf_R x1 from lf_Rof (by omega)), ?_⟩
    refine ⟨fun c8 => ?_, fun c8 => ?_⟩
    · skip
      replace c8 : r26 ≠ x1 := c8
      exact sm_266_p45 hQ hX19 (show (6 - x3).toNat ≤ M19 from by omega) hI (show (-1 : Int) ≤ x1 ∧ x1 ≤ (11 : Int) from by omega) (show (0 : Int) ≤ x3 ∧ x3 ≤ (5 : Int) from by omega) (show (-2147483648 : Int) ≤ x2 ∧ x2 ≤ (2147483647 : Int) from by omega) (show (0 : Int) ≤ 0 ∧ 0 ≤ (1 : Int) from by omega)
    · skip
      replace c8 : ¬ (r26 ≠ x1) := c8
      exact sm_266_p45 hQ hX19 (show (6 - x3).toNat ≤ M19 from by omega) hI (show (-1 : Int) ≤ x1 ∧ x1 ≤ (11 : Int) from by omega) (show (0 : Int) ≤ x3 ∧ x3 ≤ (5 : Int) from by omega) (show (-2147483648 : Int) ≤ x2 ∧ x2 ≤ (2147483647 : Int) from by omega) (show (0 : Int) ≤ 1 ∧ 1 ≤ (1 : Int) from by omega)
theorem sm_266_p19L {Q : Int → lf_Z → Prop} {x1 : Int} {x2 : Int} {x3 : Int} {s : lf_Z} (hQ : ∀ (r : Int), ((-2147483648) ≤ r ∧ r ≤ 2147483647) → Q r s) (hI : iv_A s.1 s.2.2) (bx1 : (-1) ≤ x1 ∧ x1 ≤ 11) (bx2 : (-2147483648) ≤ x2 ∧ x2 ≤ 2147483647) (bx3 : 0 ≤ x3 ∧ x3 ≤ 6) : fm_266_p19L Q x1 x2 x3 s := by
  intro X19 hX
  have key : ∀ (m9 : Nat) (x2 : Int) (x3 : Int), (-2147483648) ≤ x2 ∧ x2 ≤ 2147483647 → 0 ≤ x3 ∧ x3 ≤ 6 → (6 - x3).toNat < m9 → X19 x2 x3 s := by
    intro m9
    induction m9 with
    | zero => intro x2 x3 bx2 bx3 h9; exact absurd h9 (Nat.not_lt_zero _)
    | succ m9 ih => intro x2 x3 bx2 bx3 h9; exact hX _ _ _ (sm_266_p19 hQ   (fun x2' x3' bx2' bx3' h8 => ih x2' x3' bx2' bx3' (by omega)) (Nat.le_refl _)  hI  bx1 bx2 bx3  )
  exact key _ _ _ bx2 bx3   (Nat.lt_succ_self _)
theorem sm_266_p16 {Q : Int → lf_Z → Prop} {x1 : Int} {y0 : Int} {s : lf_Z} (hQ : ∀ (r : Int), ((-2147483648) ≤ r ∧ r ≤ 2147483647) → Q r s) (hI : iv_A s.1 s.2.2) (bx1 : (-1) ≤ x1 ∧ x1 ≤ 11) (by0 : 0 ≤ y0 ∧ y0 ≤ 1) : fm_266_p16 Q x1 y0 s := by
  unfold fm_266_p16
  exact sm_266_p19L hQ hI (show (-1 : Int) ≤ x1 ∧ x1 ≤ (11 : Int) from by omega) (show (-2147483648 : Int) ≤ y0 ∧ y0 ≤ (2147483647 : Int) from by omega) (show (0 : Int) ≤ 0 ∧ 0 ≤ (6 : Int) from by omega)
theorem sm_266 {a1 : Int} {Q : Int → lf_Z → Prop} {s : lf_Z} (hI : iv_A s.1 s.2.2) (ba1 : (-1) ≤ a1 ∧ a1 ≤ 11) (hQ : ∀ (r : Int), ((-2147483648) ≤ r ∧ r ≤ 2147483647) → Q r s) : fm_266 a1 Q s := by
  unfold fm_266
  have b1 : (-2147483648) ≤ s.1 95 29 ∧ s.1 95 29 ≤ 2147483647 := iv_full hI
  refine sm_210 hI (show (-2147483648 : Int) ≤ s.1 95 29 ∧ s.1 95 29 ≤ (2147483647 : Int) from by omega) (show (-1 : Int) ≤ a1 ∧ a1 ≤ (15 : Int) from by omega) (fun z22 q2 => ?_)
  refine ⟨fun c3 => ?_, fun c3 => ?_⟩
  · skip
    have dc3 := q2.2 c3
    exact sm_266_p16 hQ hI (show (-1 : Int) ≤ a1 ∧ a1 ≤ (11 : Int) from by omega) (show (0 : Int) ≤ 0 ∧ 0 ≤ (1 : Int) from by omega)
  · skip
    have dc3 := q2.1 c3
    exact sm_266_p16 hQ hI (show (-1 : Int) ≤ a1 ∧ a1 ≤ (11 : Int) from by omega) (show (0 : Int) ≤ 1 ∧ 1 ≤ (1 : Int) from by omega)
-- fm_264 Model.name 95 i i
theorem sm_264 {a1 : Int} {a2 : Int} {Q : lf_Z → Prop} {s : lf_Z} (hI : iv_A s.1 s.2.2) (ba1 : 0 ≤ a1 ∧ a1 ≤ 24) (ba2 : 0 ≤ a2 ∧ a2 ≤ 11) (hQ : ∀  (s' : lf_Z), iv_A s'.1 s'.2.2 → lf_fq [104] 1000000 true s.1 s.2.2 s'.1 s'.2.2 → Q  s') : fm_264 a1 a2 Q s := by
  unfold fm_264
  have hI1 : iv_A (lf_up s.1 104 0 a1) s.2.2 := iv_w104 hI (by omega)
  have fr2 : lf_fq [104] 1000000 true s.1 s.2.2 (lf_up s.1 104 0 a1) s.2.2 := lf_fq_up (lf_fq_rf) rfl (fun h => absurd h (by decide))
  have hI3 : iv_A (lf_up (lf_up s.1 104 0 a1) 104 1 a2) s.2.2 := iv_w104 hI1 (by omega)
  have fr4 : lf_fq [104] 1000000 true s.1 s.2.2 (lf_up (lf_up s.1 104 0 a1) 104 1 a2) s.2.2 := lf_fq_up fr2 rfl (fun h => absurd h (by decide))
  refine sm_265 hI3 (show (0 : Int) ≤ a2 ∧ a2 ≤ (11 : Int) from by omega) (fun r22 q5 => ?_)
  have hI6 : iv_A (lf_up (lf_up (lf_up s.1 104 0 a1) 104 1 a2) 104 2 r22) s.2.2 := iv_w104 hI3 (by omega)
  have fr7 : lf_fq [104] 1000000 true s.1 s.2.2 (lf_up (lf_up (lf_up s.1 104 0 a1) 104 1 a2) 104 2 r22) s.2.2 := lf_fq_up fr4 rfl (fun h => absurd h (by decide))
  refine sm_266 hI6 (show (-1 : Int) ≤ a2 ∧ a2 ≤ (11 : Int) from by omega) (fun r24 q8 => ?_)
  have hI9 : iv_A (lf_up (lf_up (lf_up (lf_up s.1 104 0 a1) 104 1 a2) 104 2 r22) 104 3 r24) s.2.2 := iv_w104 hI6 (by omega)
  have fr10 : lf_fq [104] 1000000 true s.1 s.2.2 (lf_up (lf_up (lf_up (lf_up s.1 104 0 a1) 104 1 a2) 104 2 r22) 104 3 r24) s.2.2 := lf_fq_up fr7 rfl (fun h => absurd h (by decide))
  exact hQ (lf_up (lf_up (lf_up (lf_up s.1 104 0 a1) 104 1 a2) 104 2 r22) 104 3 r24, s.2.1, s.2.2) hI9 fr10
-- fm_256 Model.cameOf 95 i
theorem sm_256 {a1 : Int} {Q : Int → lf_Z → Prop} {s : lf_Z} (hI : iv_A s.1 s.2.2) (ba1 : 0 ≤ a1 ∧ a1 ≤ 3) (hQ : ∀ (r : Int), ((-1) ≤ r ∧ r ≤ 11) → Q r s) : fm_256 a1 Q s := by
  unfold fm_256
  refine ⟨(show (0 : Int) ≤ (114 + (3 * a1)) + 2 ∧ (114 + (3 * a1)) + 2 < (1538 : Int) from by omega), ?_⟩
  have b1 : (-1) ≤ s.1 96 ((114 + (3 * a1)) + 2) ∧ s.1 96 ((114 + (3 * a1)) + 2) ≤ 11 := iv_rd96 hI (iv_fb3fd00de (a1) (by omega) (by omega))
  exact hQ (s.1 96 ((114 + (3 * a1)) + 2)) (show (-1 : Int) ≤ s.1 96 ((114 + (3 * a1)) + 2) ∧ s.1 96 ((114 + (3 * a1)) + 2) ≤ (11 : Int) from by omega)
-- fm_271 Model.isAsked i l l
theorem sm_271 {a0 : Int} {a1 : Int} {a2 : Int} {Q : Bool → lf_Z → Prop} {s : lf_Z} (hI : iv_A s.1 s.2.2) (ba0 : 10 ≤ a0 ∧ a0 ≤ 19) (hQ : ∀ (z : Bool), Q z s) : fm_271 a0 a1 a2 Q s := by
  unfold fm_271
  refine ⟨(show lf_R a0 from lf_Rof (by omega)), ?_⟩
  refine ⟨fun c1 => ?_, fun c1 => ?_⟩
  · skip
    replace c1 : a0 ≠ 10 := c1
    refine ⟨fun c2 => ?_, fun c2 => ?_⟩
    · skip
      replace c2 : a0 ≠ 11 := c2
      refine ⟨fun c3 => ?_, fun c3 => ?_⟩
      · skip
        replace c3 : a0 ≠ 12 := c3
        refine ⟨fun c4 => ?_, fun c4 => ?_⟩
        · skip
          replace c4 : a0 ≠ 13 := c4
          refine ⟨fun c5 => ?_, fun c5 => ?_⟩
          · skip
            replace c5 : a0 ≠ 14 := c5
            refine ⟨fun c6 => ?_, fun c6 => ?_⟩
            · replace c6 : lf_wl a1 = lf_wl a2 := c6
              exact hQ false
            · replace c6 : ¬ (lf_wl a1 = lf_wl a2) := c6
              exact hQ true
          · skip
            replace c5 : ¬ (a0 ≠ 14) := c5
            refine ⟨fun c7 => ?_, fun c7 => ?_⟩
            · replace c7 : lf_wl a1 ≠ lf_wl a2 := c7
              exact hQ false
            · replace c7 : ¬ (lf_wl a1 ≠ lf_wl a2) := c7
              exact hQ true
        · skip
          replace c4 : ¬ (a0 ≠ 13) := c4
          refine ⟨fun c8 => ?_, fun c8 => ?_⟩
          · replace c8 : lf_wl a1 < lf_wl a2 := c8
            exact hQ false
          · replace c8 : ¬ (lf_wl a1 < lf_wl a2) := c8
            exact hQ true
      · skip
        replace c3 : ¬ (a0 ≠ 12) := c3
        refine ⟨fun c9 => ?_, fun c9 => ?_⟩
        · replace c9 : lf_wl a1 ≤ lf_wl a2 := c9
          exact hQ false
        · replace c9 : ¬ (lf_wl a1 ≤ lf_wl a2) := c9
          exact hQ true
    · skip
      replace c2 : ¬ (a0 ≠ 11) := c2
      refine ⟨fun c10 => ?_, fun c10 => ?_⟩
      · replace c10 : lf_wl a2 < lf_wl a1 := c10
        exact hQ false
      · replace c10 : ¬ (lf_wl a2 < lf_wl a1) := c10
        exact hQ true
  · skip
    replace c1 : ¬ (a0 ≠ 10) := c1
    refine ⟨fun c11 => ?_, fun c11 => ?_⟩
    · replace c11 : lf_wl a2 ≤ lf_wl a1 := c11
      exact hQ false
    · replace c11 : ¬ (lf_wl a2 ≤ lf_wl a1) := c11
      exact hQ true
-- fm_270 Model.clip l
theorem sm_270 {a0 : Int} {Q : Int → lf_Z → Prop} {s : lf_Z} (hI : iv_A s.1 s.2.2) (hQ : ∀ (r : Int), Q r s) : fm_270 a0 Q s := by
  unfold fm_270
  refine ⟨fun c1 => ?_, fun c1 => ?_⟩
  · replace c1 : lf_wl a0 ≤ 1000000 := c1
    refine ⟨fun c2 => ?_, fun c2 => ?_⟩
    · replace c2 : (-1000000) ≤ lf_wl a0 := c2
      exact hQ (lf_wl a0)
    · replace c2 : ¬ ((-1000000) ≤ lf_wl a0) := c2
      exact hQ (-1000000)
  · replace c1 : ¬ (lf_wl a0 ≤ 1000000) := c1
    exact hQ 1000000
-- fm_269 Model.two i l l
theorem sm_269 {a0 : Int} {a1 : Int} {a2 : Int} {Q : Int → lf_Z → Prop} {s : lf_Z} (hI : iv_A s.1 s.2.2) (ba0 : 4 ≤ a0 ∧ a0 ≤ 9) (hQ : ∀ (r : Int), Q r s) : fm_269 a0 a1 a2 Q s := by
  unfold fm_269
  refine ⟨(show lf_R a0 from lf_Rof (by omega)), ?_⟩
  refine ⟨fun c1 => ?_, fun c1 => ?_, fun c1 => ?_, fun c1 => ?_⟩
  · replace c1 : a0 < 4 ∨ 6 < a0 := c1
    refine ⟨fun c2 => ?_, fun c2 => ?_⟩
    · replace c2 : lf_wl a2 ≠ 0 := c2
      refine ⟨(show (lf_wl a2) ≠ 0 from by omega), ?_⟩
      refine sm_270 hI (fun r24 => ?_)
      exact hQ (lf_wl r24)
    · replace c2 : ¬ (lf_wl a2 ≠ 0) := c2
      exact hQ 0
  · replace c1 : a0 = 4 := c1
    refine sm_270 hI (fun r26 => ?_)
    exact hQ (lf_wl r26)
  · replace c1 : a0 = 5 := c1
    refine sm_270 hI (fun r28 => ?_)
    exact hQ (lf_wl r28)
  · replace c1 : a0 = 6 := c1
    refine sm_270 hI (fun r30 => ?_)
    exact hQ (lf_wl r30)
-- fm_268 Model.worked 95 i i
theorem sm_268_p437 {X38 : Int → Int → Int → lf_Z → Prop} {Q : Int → lf_Z → Prop} {x3 : Int} {x4 : Int} {x5 : Int} {x6 : Int} {x7 : Int} {s : lf_Z} (hQ : ∀ (r : Int) (s' : lf_Z), iv_A s'.1 s'.2.2 → lf_fq [107] 1000000 true s.1 s.2.2 s'.1 s'.2.2 → ((-2147483648) ≤ r ∧ r ≤ 2147483647) → Q r s') {M38 : Nat} (hX38 : ∀ (x5 : Int) (x6 : Int) (x7 : Int) (s' : lf_Z), iv_A s'.1 s'.2.2 → lf_fq [107] 1000000 true s.1 s.2.2 s'.1 s'.2.2 → 0 ≤ x5 ∧ x5 ≤ 304 → 0 ≤ x6 ∧ x6 ≤ 304 → 0 ≤ x7 ∧ x7 ≤ 304 → (wk_O (s'.1 98) (x3) (x4)) → (0 ≤ s'.1 98 (x3 + 1) ∧ s'.1 98 (x3 + 1) ≤ x7 ∧ s'.1 98 (x3 + 2) ≤ 304 ∧ 0 ≤ x5 ∧ 0 ≤ x6 ∧ x5 ≤ x7 ∧ x6 ≤ x7 ∧ x7 ≤ s'.1 98 (x3 + 2)) → (x5 = wkN (s'.1 98) (x4) (s'.1 98 (x3 + 1)) (x7) ∧ x6 = wkT (s'.1 98) (x4) (s'.1 98 (x3 + 1)) (x7)) → (304 - x7).toNat < M38 → X38 x5 x6 x7 s') (hM38 : (304 - x7).toNat ≤ M38) (hI : iv_A s.1 s.2.2) (bx3 : 1 ≤ x3 ∧ x3 ≤ 2208) (bx4 : 97 ≤ x4 ∧ x4 ≤ 2212) (bx5 : 0 ≤ x5 ∧ x5 ≤ 304) (bx6 : 0 ≤ x6 ∧ x6 ≤ 304) (bx7 : 0 ≤ x7 ∧ x7 ≤ 303) (kv0 : wk_O (s.1 98) (x3) (x4)) (kv1 : 0 ≤ s.1 98 (x3 + 1) ∧ s.1 98 (x3 + 1) ≤ x7 ∧ s.1 98 (x3 + 2) ≤ 304 ∧ 0 ≤ x5 ∧ 0 ≤ x6 ∧ x7 < s.1 98 (x3 + 2)) (kv2 : x5 ≤ x7 + 1 ∧ x6 ≤ x7 + 1) (kv3 : x5 = wkN (s.1 98) (x4) (s.1 98 (x3 + 1)) (x7 + 1) ∧ x6 = wkT (s.1 98) (x4) (s.1 98 (x3 + 1)) (x7 + 1)) : fm_268_p437 X38 Q x3 x4 x5 x6 x7 s := by
  unfold fm_268_p437
  have b13 : wkN ((s.1 98)) (x4) ((s.1 98) (x3 + 1)) ((s.1 98) (x3 + 1)) = 0 ∧ wkT ((s.1 98)) (x4) ((s.1 98) (x3 + 1)) ((s.1 98) (x3 + 1)) = 0 := ⟨wkN_0, wkT_0⟩
  exact hX38 (x5) (x6) (x7 + 1) s hI (lf_fq_rf) (show (0 : Int) ≤ x5 ∧ x5 ≤ (304 : Int) from by omega) (show (0 : Int) ≤ x6 ∧ x6 ≤ (304 : Int) from by omega) (show (0 : Int) ≤ x7 + 1 ∧ x7 + 1 ≤ (304 : Int) from by omega) (show wk_O ((s.1 98)) (x3) (x4) from by first | with_reducible assumption | assumption) (show 0 ≤ (s.1 98) (x3 + 1) ∧ (s.1 98) (x3 + 1) ≤ (x7 + 1) ∧ (s.1 98) (x3 + 2) ≤ 304 ∧ 0 ≤ x5 ∧ 0 ≤ x6 ∧ x5 ≤ (x7 + 1) ∧ x6 ≤ (x7 + 1) ∧ (x7 + 1) ≤ (s.1 98) (x3 + 2) from by omega) (show x5 = wkN ((s.1 98)) (x4) ((s.1 98) (x3 + 1)) ((x7 + 1)) ∧ x6 = wkT ((s.1 98)) (x4) ((s.1 98) (x3 + 1)) ((x7 + 1)) from by omega) (show (304 - (x7 + 1)).toNat < M38 from by omega)
theorem sm_268_p135 {X38 : Int → Int → Int → lf_Z → Prop} {Q : Int → lf_Z → Prop} {x3 : Int} {x4 : Int} {x5 : Int} {x6 : Int} {x7 : Int} {y1 : Int} {y2 : Int} {s : lf_Z} (hQ : ∀ (r : Int) (s' : lf_Z), iv_A s'.1 s'.2.2 → lf_fq [107] 1000000 true s.1 s.2.2 s'.1 s'.2.2 → ((-2147483648) ≤ r ∧ r ≤ 2147483647) → Q r s') {M38 : Nat} (hX38 : ∀ (x5 : Int) (x6 : Int) (x7 : Int) (s' : lf_Z), iv_A s'.1 s'.2.2 → lf_fq [107] 1000000 true s.1 s.2.2 s'.1 s'.2.2 → 0 ≤ x5 ∧ x5 ≤ 304 → 0 ≤ x6 ∧ x6 ≤ 304 → 0 ≤ x7 ∧ x7 ≤ 304 → (wk_O (s'.1 98) (x3) (x4)) → (0 ≤ s'.1 98 (x3 + 1) ∧ s'.1 98 (x3 + 1) ≤ x7 ∧ s'.1 98 (x3 + 2) ≤ 304 ∧ 0 ≤ x5 ∧ 0 ≤ x6 ∧ x5 ≤ x7 ∧ x6 ≤ x7 ∧ x7 ≤ s'.1 98 (x3 + 2)) → (x5 = wkN (s'.1 98) (x4) (s'.1 98 (x3 + 1)) (x7) ∧ x6 = wkT (s'.1 98) (x4) (s'.1 98 (x3 + 1)) (x7)) → (304 - x7).toNat < M38 → X38 x5 x6 x7 s') (hM38 : (304 - x7).toNat ≤ M38) (hI : iv_A s.1 s.2.2) (bx3 : 1 ≤ x3 ∧ x3 ≤ 2208) (bx4 : 97 ≤ x4 ∧ x4 ≤ 2212) (bx5 : 0 ≤ x5 ∧ x5 ≤ 304) (bx6 : 0 ≤ x6 ∧ x6 ≤ 304) (bx7 : 0 ≤ x7 ∧ x7 ≤ 303) (by1 : 0 ≤ y1 ∧ y1 ≤ 304) (kv0 : wk_O (s.1 98) (x3) (x4)) (kv1 : 0 ≤ s.1 98 (x3 + 1) ∧ s.1 98 (x3 + 1) ≤ x7 ∧ s.1 98 (x3 + 2) ≤ 304 ∧ 0 ≤ x5 ∧ 0 ≤ x6 ∧ x7 < s.1 98 (x3 + 2)) (kv2 : x5 ≤ x7 ∧ x6 ≤ x7 ∧ y1 = x5) (kv3 : x5 + 1 = wkN (s.1 98) (x4) (s.1 98 (x3 + 1)) (x7 + 1) ∧ x6 = wkT (s.1 98) (x4) (s.1 98 (x3 + 1)) (x7 + 1)) : fm_268_p135 X38 Q x3 x4 x5 x6 x7 y1 y2 s := by
  unfold fm_268_p135
  refine ⟨(show (0 : Int) ≤ y1 ∧ y1 < (330 : Int) from by omega), ?_⟩
  exact sm_268_p437 hQ hX38 (show (304 - x7).toNat ≤ M38 from by omega) hI (show (1 : Int) ≤ x3 ∧ x3 ≤ (2208 : Int) from by omega) (show (97 : Int) ≤ x4 ∧ x4 ≤ (2212 : Int) from by omega) (show (0 : Int) ≤ x5 + 1 ∧ x5 + 1 ≤ (304 : Int) from by omega) (show (0 : Int) ≤ x6 ∧ x6 ≤ (304 : Int) from by omega) (show (0 : Int) ≤ x7 ∧ x7 ≤ (303 : Int) from by omega) (show wk_O ((s.1 98)) (x3) (x4) from by first | with_reducible assumption | assumption) (show 0 ≤ (s.1 98) (x3 + 1) ∧ (s.1 98) (x3 + 1) ≤ x7 ∧ (s.1 98) (x3 + 2) ≤ 304 ∧ 0 ≤ (x5 + 1) ∧ 0 ≤ x6 ∧ x7 < (s.1 98) (x3 + 2) from by omega) (show (x5 + 1) ≤ x7 + 1 ∧ x6 ≤ x7 + 1 from by omega) (show (x5 + 1) = wkN ((s.1 98)) (x4) ((s.1 98) (x3 + 1)) (x7 + 1) ∧ x6 = wkT ((s.1 98)) (x4) ((s.1 98) (x3 + 1)) (x7 + 1) from by omega)
theorem sm_268_p94 {X38 : Int → Int → Int → lf_Z → Prop} {Q : Int → lf_Z → Prop} {x3 : Int} {x4 : Int} {x5 : Int} {x6 : Int} {x7 : Int} {x8 : Int} {x9 : Int} {s : lf_Z} (hQ : ∀ (r : Int) (s' : lf_Z), iv_A s'.1 s'.2.2 → lf_fq [107] 1000000 true s.1 s.2.2 s'.1 s'.2.2 → ((-2147483648) ≤ r ∧ r ≤ 2147483647) → Q r s') {M38 : Nat} (hX38 : ∀ (x5 : Int) (x6 : Int) (x7 : Int) (s' : lf_Z), iv_A s'.1 s'.2.2 → lf_fq [107] 1000000 true s.1 s.2.2 s'.1 s'.2.2 → 0 ≤ x5 ∧ x5 ≤ 304 → 0 ≤ x6 ∧ x6 ≤ 304 → 0 ≤ x7 ∧ x7 ≤ 304 → (wk_O (s'.1 98) (x3) (x4)) → (0 ≤ s'.1 98 (x3 + 1) ∧ s'.1 98 (x3 + 1) ≤ x7 ∧ s'.1 98 (x3 + 2) ≤ 304 ∧ 0 ≤ x5 ∧ 0 ≤ x6 ∧ x5 ≤ x7 ∧ x6 ≤ x7 ∧ x7 ≤ s'.1 98 (x3 + 2)) → (x5 = wkN (s'.1 98) (x4) (s'.1 98 (x3 + 1)) (x7) ∧ x6 = wkT (s'.1 98) (x4) (s'.1 98 (x3 + 1)) (x7)) → (304 - x7).toNat < M38 → X38 x5 x6 x7 s') (hM38 : (304 - x7).toNat ≤ M38) (hI : iv_A s.1 s.2.2) (bx3 : 1 ≤ x3 ∧ x3 ≤ 2208) (bx4 : 97 ≤ x4 ∧ x4 ≤ 2212) (bx5 : 0 ≤ x5 ∧ x5 ≤ 304) (bx6 : 0 ≤ x6 ∧ x6 ≤ 304) (bx7 : 0 ≤ x7 ∧ x7 ≤ 303) (bx8 : (-2147483648) ≤ x8 ∧ x8 ≤ 31) (bx9 : (-2147483648) ≤ x9 ∧ x9 ≤ 2147483647) (kv0 : wk_O (s.1 98) (x3) (x4)) (kv1 : 0 ≤ s.1 98 (x3 + 1) ∧ s.1 98 (x3 + 1) ≤ x7 ∧ s.1 98 (x3 + 2) ≤ 304 ∧ 0 ≤ x5 ∧ 0 ≤ x6 ∧ x7 < s.1 98 (x3 + 2)) (kv2 : x5 ≤ x7 ∧ x6 ≤ x7) (kv3 : x5 + 1 = wkN (s.1 98) (x4) (s.1 98 (x3 + 1)) (x7 + 1) ∧ x6 = wkT (s.1 98) (x4) (s.1 98 (x3 + 1)) (x7 + 1)) (kv4 : x8 = 0 ∨ (x8 = 1 ∧ 0 ≤ x9 ∧ x9 < 11) ∨ (x8 ≠ 1 ∧ 0 ≤ x9 ∧ x9 < 80)) : fm_268_p94 X38 Q x3 x4 x5 x6 x7 x8 x9 s := by
  unfold fm_268_p94
  refine ⟨(show lf_R x8 from lf_Rof (by omega)), ?_⟩
  refine ⟨fun c11 => ?_, fun c11 => ?_⟩
  · skip
    replace c11 : x8 ≠ 0 := c11
    refine ⟨fun c12 => ?_, fun c12 => ?_⟩
    · skip
      replace c12 : x8 ≠ 1 := c12
      refine ⟨(show (0 : Int) ≤ x9 ∧ x9 < (80 : Int) from by omega), ?_⟩
      exact sm_268_p135 hQ hX38 (show (304 - x7).toNat ≤ M38 from by omega) hI (show (1 : Int) ≤ x3 ∧ x3 ≤ (2208 : Int) from by omega) (show (97 : Int) ≤ x4 ∧ x4 ≤ (2212 : Int) from by omega) (show (0 : Int) ≤ x5 ∧ x5 ≤ (304 : Int) from by omega) (show (0 : Int) ≤ x6 ∧ x6 ≤ (304 : Int) from by omega) (show (0 : Int) ≤ x7 ∧ x7 ≤ (303 : Int) from by omega) (show (0 : Int) ≤ x5 ∧ x5 ≤ (304 : Int) from by omega) (show wk_O ((s.1 98)) (x3) (x4) from by first | with_reducible assumption | assumption) (show 0 ≤ (s.1 98) (x3 + 1) ∧ (s.1 98) (x3 + 1) ≤ x7 ∧ (s.1 98) (x3 + 2) ≤ 304 ∧ 0 ≤ x5 ∧ 0 ≤ x6 ∧ x7 < (s.1 98) (x3 + 2) from by omega) (show x5 ≤ x7 ∧ x6 ≤ x7 ∧ x5 = x5 from by omega) (show x5 + 1 = wkN ((s.1 98)) (x4) ((s.1 98) (x3 + 1)) (x7 + 1) ∧ x6 = wkT ((s.1 98)) (x4) ((s.1 98) (x3 + 1)) (x7 + 1) from by omega)
    · skip
      replace c12 : ¬ (x8 ≠ 1) := c12
      refine ⟨(show (0 : Int) ≤ x9 ∧ x9 < (11 : Int) from by omega), ?_⟩
      have b14 : (-2147483648) ≤ s.1 104 x9 ∧ s.1 104 x9 ≤ 2147483647 := iv_full hI
      refine ⟨(show lf_R (s.1 104 x9) from lf_Rof (by omega)), ?_⟩
      exact sm_268_p135 hQ hX38 (show (304 - x7).toNat ≤ M38 from by omega) hI (show (1 : Int) ≤ x3 ∧ x3 ≤ (2208 : Int) from by omega) (show (97 : Int) ≤ x4 ∧ x4 ≤ (2212 : Int) from by omega) (show (0 : Int) ≤ x5 ∧ x5 ≤ (304 : Int) from by omega) (show (0 : Int) ≤ x6 ∧ x6 ≤ (304 : Int) from by omega) (show (0 : Int) ≤ x7 ∧ x7 ≤ (303 : Int) from by omega) (show (0 : Int) ≤ x5 ∧ x5 ≤ (304 : Int) from by omega) (show wk_O ((s.1 98)) (x3) (x4) from by first | with_reducible assumption | assumption) (show 0 ≤ (s.1 98) (x3 + 1) ∧ (s.1 98) (x3 + 1) ≤ x7 ∧ (s.1 98) (x3 + 2) ≤ 304 ∧ 0 ≤ x5 ∧ 0 ≤ x6 ∧ x7 < (s.1 98) (x3 + 2) from by omega) (show x5 ≤ x7 ∧ x6 ≤ x7 ∧ x5 = x5 from by omega) (show x5 + 1 = wkN ((s.1 98)) (x4) ((s.1 98) (x3 + 1)) (x7 + 1) ∧ x6 = wkT ((s.1 98)) (x4) ((s.1 98) (x3 + 1)) (x7 + 1) from by omega)
  · skip
    replace c11 : ¬ (x8 ≠ 0) := c11
    refine ⟨(show lf_R x9 from lf_Rof (by omega)), ?_⟩
    exact sm_268_p135 hQ hX38 (show (304 - x7).toNat ≤ M38 from by omega) hI (show (1 : Int) ≤ x3 ∧ x3 ≤ (2208 : Int) from by omega) (show (97 : Int) ≤ x4 ∧ x4 ≤ (2212 : Int) from by omega) (show (0 : Int) ≤ x5 ∧ x5 ≤ (304 : Int) from by omega) (show (0 : Int) ≤ x6 ∧ x6 ≤ (304 : Int) from by omega) (show (0 : Int) ≤ x7 ∧ x7 ≤ (303 : Int) from by omega) (show (0 : Int) ≤ x5 ∧ x5 ≤ (304 : Int) from by omega) (show wk_O ((s.1 98)) (x3) (x4) from by first | with_reducible assumption | assumption) (show 0 ≤ (s.1 98) (x3 + 1) ∧ (s.1 98) (x3 + 1) ≤ x7 ∧ (s.1 98) (x3 + 2) ≤ 304 ∧ 0 ≤ x5 ∧ 0 ≤ x6 ∧ x7 < (s.1 98) (x3 + 2) from by omega) (show x5 ≤ x7 ∧ x6 ≤ x7 ∧ x5 = x5 from by omega) (show x5 + 1 = wkN ((s.1 98)) (x4) ((s.1 98) (x3 + 1)) (x7 + 1) ∧ x6 = wkT ((s.1 98)) (x4) ((s.1 98) (x3 + 1)) (x7 + 1) from by omega)
theorem sm_268_p436 {X38 : Int → Int → Int → lf_Z → Prop} {Q : Int → lf_Z → Prop} {x3 : Int} {x4 : Int} {x5 : Int} {x6 : Int} {x7 : Int} {y1 : Int} {y2 : Int} {s : lf_Z} (hQ : ∀ (r : Int) (s' : lf_Z), iv_A s'.1 s'.2.2 → lf_fq [107] 1000000 true s.1 s.2.2 s'.1 s'.2.2 → ((-2147483648) ≤ r ∧ r ≤ 2147483647) → Q r s') {M38 : Nat} (hX38 : ∀ (x5 : Int) (x6 : Int) (x7 : Int) (s' : lf_Z), iv_A s'.1 s'.2.2 → lf_fq [107] 1000000 true s.1 s.2.2 s'.1 s'.2.2 → 0 ≤ x5 ∧ x5 ≤ 304 → 0 ≤ x6 ∧ x6 ≤ 304 → 0 ≤ x7 ∧ x7 ≤ 304 → (wk_O (s'.1 98) (x3) (x4)) → (0 ≤ s'.1 98 (x3 + 1) ∧ s'.1 98 (x3 + 1) ≤ x7 ∧ s'.1 98 (x3 + 2) ≤ 304 ∧ 0 ≤ x5 ∧ 0 ≤ x6 ∧ x5 ≤ x7 ∧ x6 ≤ x7 ∧ x7 ≤ s'.1 98 (x3 + 2)) → (x5 = wkN (s'.1 98) (x4) (s'.1 98 (x3 + 1)) (x7) ∧ x6 = wkT (s'.1 98) (x4) (s'.1 98 (x3 + 1)) (x7)) → (304 - x7).toNat < M38 → X38 x5 x6 x7 s') (hM38 : (304 - x7).toNat ≤ M38) (hI : iv_A s.1 s.2.2) (bx3 : 1 ≤ x3 ∧ x3 ≤ 2208) (bx4 : 97 ≤ x4 ∧ x4 ≤ 2212) (bx5 : 0 ≤ x5 ∧ x5 ≤ 304) (bx6 : 0 ≤ x6 ∧ x6 ≤ 304) (bx7 : 0 ≤ x7 ∧ x7 ≤ 303) (by1 : (-2) ≤ y1 ∧ y1 ≤ 302) (by2 : 0 ≤ y2 ∧ y2 ≤ 1) (kv0 : wk_O (s.1 98) (x3) (x4)) (kv1 : 0 ≤ s.1 98 (x3 + 1) ∧ s.1 98 (x3 + 1) ≤ x7 ∧ s.1 98 (x3 + 2) ≤ 304 ∧ 0 ≤ x5 ∧ 0 ≤ x6 ∧ x7 < s.1 98 (x3 + 2)) (kv2 : x5 ≤ x7 + 1 ∧ x6 ≤ x7 + 1) (kv3 : x5 = wkN (s.1 98) (x4) (s.1 98 (x3 + 1)) (x7 + 1) ∧ x6 = wkT (s.1 98) (x4) (s.1 98 (x3 + 1)) (x7 + 1)) (kv4 : y1 = x6 - 1 ∧ 1 ≤ x6) : fm_268_p436 X38 Q x3 x4 x5 x6 x7 y1 y2 s := by
  unfold fm_268_p436
  refine ⟨(show (0 : Int) ≤ y1 ∧ y1 < (330 : Int) from by omega), ?_⟩
  refine ⟨(show y2 = 0 ∨ y2 = 1 from by omega), ?_⟩
  have hI26 : iv_A (lf_up s.1 107 y1 y2) s.2.2 := iv_w107 hI (by omega)
  have fr27 : lf_fq [107] 1000000 true s.1 s.2.2 (lf_up s.1 107 y1 y2) s.2.2 := lf_fq_up (lf_fq_rf) rfl (fun h => absurd h (by decide))
  exact sm_268_p437 (fun r9 t9 i9 f9 => hQ r9 t9 i9 (lf_fq_tr fr27 f9)) (fun p0 p1 p2 t9 i9 f9 => hX38 p0 p1 p2 t9 i9 (lf_fq_tr fr27 f9)) (show (304 - x7).toNat ≤ M38 from by omega) hI26 (show (1 : Int) ≤ x3 ∧ x3 ≤ (2208 : Int) from by omega) (show (97 : Int) ≤ x4 ∧ x4 ≤ (2212 : Int) from by omega) (show (0 : Int) ≤ x5 ∧ x5 ≤ (304 : Int) from by omega) (show (0 : Int) ≤ x6 ∧ x6 ≤ (304 : Int) from by omega) (show (0 : Int) ≤ x7 ∧ x7 ≤ (303 : Int) from by omega) (show wk_O ((s.1 98)) (x3) (x4) from by first | with_reducible assumption | assumption) (show 0 ≤ (s.1 98) (x3 + 1) ∧ (s.1 98) (x3 + 1) ≤ x7 ∧ (s.1 98) (x3 + 2) ≤ 304 ∧ 0 ≤ x5 ∧ 0 ≤ x6 ∧ x7 < (s.1 98) (x3 + 2) from by omega) (show x5 ≤ x7 + 1 ∧ x6 ≤ x7 + 1 from by omega) (show x5 = wkN ((s.1 98)) (x4) ((s.1 98) (x3 + 1)) (x7 + 1) ∧ x6 = wkT ((s.1 98)) (x4) ((s.1 98) (x3 + 1)) (x7 + 1) from by omega)
theorem sm_268_p431 {X38 : Int → Int → Int → lf_Z → Prop} {Q : Int → lf_Z → Prop} {x3 : Int} {x4 : Int} {x5 : Int} {x6 : Int} {x7 : Int} {y1 : Int} {s : lf_Z} (hQ : ∀ (r : Int) (s' : lf_Z), iv_A s'.1 s'.2.2 → lf_fq [107] 1000000 true s.1 s.2.2 s'.1 s'.2.2 → ((-2147483648) ≤ r ∧ r ≤ 2147483647) → Q r s') {M38 : Nat} (hX38 : ∀ (x5 : Int) (x6 : Int) (x7 : Int) (s' : lf_Z), iv_A s'.1 s'.2.2 → lf_fq [107] 1000000 true s.1 s.2.2 s'.1 s'.2.2 → 0 ≤ x5 ∧ x5 ≤ 304 → 0 ≤ x6 ∧ x6 ≤ 304 → 0 ≤ x7 ∧ x7 ≤ 304 → (wk_O (s'.1 98) (x3) (x4)) → (0 ≤ s'.1 98 (x3 + 1) ∧ s'.1 98 (x3 + 1) ≤ x7 ∧ s'.1 98 (x3 + 2) ≤ 304 ∧ 0 ≤ x5 ∧ 0 ≤ x6 ∧ x5 ≤ x7 ∧ x6 ≤ x7 ∧ x7 ≤ s'.1 98 (x3 + 2)) → (x5 = wkN (s'.1 98) (x4) (s'.1 98 (x3 + 1)) (x7) ∧ x6 = wkT (s'.1 98) (x4) (s'.1 98 (x3 + 1)) (x7)) → (304 - x7).toNat < M38 → X38 x5 x6 x7 s') (hM38 : (304 - x7).toNat ≤ M38) (hI : iv_A s.1 s.2.2) (bx3 : 1 ≤ x3 ∧ x3 ≤ 2208) (bx4 : 97 ≤ x4 ∧ x4 ≤ 2212) (bx5 : 0 ≤ x5 ∧ x5 ≤ 304) (bx6 : 0 ≤ x6 ∧ x6 ≤ 304) (bx7 : 0 ≤ x7 ∧ x7 ≤ 303) (by1 : (-2) ≤ y1 ∧ y1 ≤ 302) (kv0 : wk_O (s.1 98) (x3) (x4)) (kv1 : 0 ≤ s.1 98 (x3 + 1) ∧ s.1 98 (x3 + 1) ≤ x7 ∧ s.1 98 (x3 + 2) ≤ 304 ∧ 0 ≤ x5 ∧ 0 ≤ x6 ∧ x7 < s.1 98 (x3 + 2)) (kv2 : x5 ≤ x7 + 1 ∧ x6 ≤ x7 + 1) (kv3 : x5 = wkN (s.1 98) (x4) (s.1 98 (x3 + 1)) (x7 + 1) ∧ x6 = wkT (s.1 98) (x4) (s.1 98 (x3 + 1)) (x7 + 1)) (kv4 : y1 = x6 - 1 ∧ 1 ≤ x6) : fm_268_p431 X38 Q x3 x4 x5 x6 x7 y1 s := by
  unfold fm_268_p431
  exact sm_268_p436 hQ hX38 (show (304 - x7).toNat ≤ M38 from by omega) hI (show (1 : Int) ≤ x3 ∧ x3 ≤ (2208 : Int) from by omega) (show (97 : Int) ≤ x4 ∧ x4 ≤ (2212 : Int) from by omega) (show (0 : Int) ≤ x5 ∧ x5 ≤ (304 : Int) from by omega) (show (0 : Int) ≤ x6 ∧ x6 ≤ (304 : Int) from by omega) (show (0 : Int) ≤ x7 ∧ x7 ≤ (303 : Int) from by omega) (show (-2 : Int) ≤ y1 ∧ y1 ≤ (302 : Int) from by omega) (show (0 : Int) ≤ 1 ∧ 1 ≤ (1 : Int) from by omega) (show wk_O ((s.1 98)) (x3) (x4) from by first | with_reducible assumption | assumption) (show 0 ≤ (s.1 98) (x3 + 1) ∧ (s.1 98) (x3 + 1) ≤ x7 ∧ (s.1 98) (x3 + 2) ≤ 304 ∧ 0 ≤ x5 ∧ 0 ≤ x6 ∧ x7 < (s.1 98) (x3 + 2) from by omega) (show x5 ≤ x7 + 1 ∧ x6 ≤ x7 + 1 from by omega) (show x5 = wkN ((s.1 98)) (x4) ((s.1 98) (x3 + 1)) (x7 + 1) ∧ x6 = wkT ((s.1 98)) (x4) ((s.1 98) (x3 + 1)) (x7 + 1) from by omega) (show y1 = x6 - 1 ∧ 1 ≤ x6 from by omega)
theorem sm_268_p405 {X38 : Int → Int → Int → lf_Z → Prop} {Q : Int → lf_Z → Prop} {x3 : Int} {x4 : Int} {x5 : Int} {x6 : Int} {x7 : Int} {y1 : Int} {s : lf_Z} (hQ : ∀ (r : Int) (s' : lf_Z), iv_A s'.1 s'.2.2 → lf_fq [107] 1000000 true s.1 s.2.2 s'.1 s'.2.2 → ((-2147483648) ≤ r ∧ r ≤ 2147483647) → Q r s') {M38 : Nat} (hX38 : ∀ (x5 : Int) (x6 : Int) (x7 : Int) (s' : lf_Z), iv_A s'.1 s'.2.2 → lf_fq [107] 1000000 true s.1 s.2.2 s'.1 s'.2.2 → 0 ≤ x5 ∧ x5 ≤ 304 → 0 ≤ x6 ∧ x6 ≤ 304 → 0 ≤ x7 ∧ x7 ≤ 304 → (wk_O (s'.1 98) (x3) (x4)) → (0 ≤ s'.1 98 (x3 + 1) ∧ s'.1 98 (x3 + 1) ≤ x7 ∧ s'.1 98 (x3 + 2) ≤ 304 ∧ 0 ≤ x5 ∧ 0 ≤ x6 ∧ x5 ≤ x7 ∧ x6 ≤ x7 ∧ x7 ≤ s'.1 98 (x3 + 2)) → (x5 = wkN (s'.1 98) (x4) (s'.1 98 (x3 + 1)) (x7) ∧ x6 = wkT (s'.1 98) (x4) (s'.1 98 (x3 + 1)) (x7)) → (304 - x7).toNat < M38 → X38 x5 x6 x7 s') (hM38 : (304 - x7).toNat ≤ M38) (hI : iv_A s.1 s.2.2) (bx3 : 1 ≤ x3 ∧ x3 ≤ 2208) (bx4 : 97 ≤ x4 ∧ x4 ≤ 2212) (bx5 : 0 ≤ x5 ∧ x5 ≤ 304) (bx6 : 0 ≤ x6 ∧ x6 ≤ 304) (bx7 : 0 ≤ x7 ∧ x7 ≤ 303) (by1 : (-2) ≤ y1 ∧ y1 ≤ 302) (kv0 : wk_O (s.1 98) (x3) (x4)) (kv1 : 0 ≤ s.1 98 (x3 + 1) ∧ s.1 98 (x3 + 1) ≤ x7 ∧ s.1 98 (x3 + 2) ≤ 304 ∧ 0 ≤ x5 ∧ 0 ≤ x6 ∧ x7 < s.1 98 (x3 + 2)) (kv2 : x5 ≤ x7 + 1 ∧ x6 ≤ x7 + 1) (kv3 : x5 = wkN (s.1 98) (x4) (s.1 98 (x3 + 1)) (x7 + 1) ∧ x6 = wkT (s.1 98) (x4) (s.1 98 (x3 + 1)) (x7 + 1)) (kv4 : y1 = x6 - 1 ∧ 1 ≤ x6) : fm_268_p405 X38 Q x3 x4 x5 x6 x7 y1 s := by
  unfold fm_268_p405
  exact sm_268_p436 hQ hX38 (show (304 - x7).toNat ≤ M38 from by omega) hI (show (1 : Int) ≤ x3 ∧ x3 ≤ (2208 : Int) from by omega) (show (97 : Int) ≤ x4 ∧ x4 ≤ (2212 : Int) from by omega) (show (0 : Int) ≤ x5 ∧ x5 ≤ (304 : Int) from by omega) (show (0 : Int) ≤ x6 ∧ x6 ≤ (304 : Int) from by omega) (show (0 : Int) ≤ x7 ∧ x7 ≤ (303 : Int) from by omega) (show (-2 : Int) ≤ y1 ∧ y1 ≤ (302 : Int) from by omega) (show (0 : Int) ≤ 0 ∧ 0 ≤ (1 : Int) from by omega) (show wk_O ((s.1 98)) (x3) (x4) from by first | with_reducible assumption | assumption) (show 0 ≤ (s.1 98) (x3 + 1) ∧ (s.1 98) (x3 + 1) ≤ x7 ∧ (s.1 98) (x3 + 2) ≤ 304 ∧ 0 ≤ x5 ∧ 0 ≤ x6 ∧ x7 < (s.1 98) (x3 + 2) from by omega) (show x5 ≤ x7 + 1 ∧ x6 ≤ x7 + 1 from by omega) (show x5 = wkN ((s.1 98)) (x4) ((s.1 98) (x3 + 1)) (x7 + 1) ∧ x6 = wkT ((s.1 98)) (x4) ((s.1 98) (x3 + 1)) (x7 + 1) from by omega) (show y1 = x6 - 1 ∧ 1 ≤ x6 from by omega)
theorem sm_268_p357 {X38 : Int → Int → Int → lf_Z → Prop} {Q : Int → lf_Z → Prop} {x3 : Int} {x4 : Int} {x5 : Int} {x6 : Int} {x7 : Int} {y1 : Int} {y2 : Int} {s : lf_Z} (hQ : ∀ (r : Int) (s' : lf_Z), iv_A s'.1 s'.2.2 → lf_fq [107] 1000000 true s.1 s.2.2 s'.1 s'.2.2 → ((-2147483648) ≤ r ∧ r ≤ 2147483647) → Q r s') {M38 : Nat} (hX38 : ∀ (x5 : Int) (x6 : Int) (x7 : Int) (s' : lf_Z), iv_A s'.1 s'.2.2 → lf_fq [107] 1000000 true s.1 s.2.2 s'.1 s'.2.2 → 0 ≤ x5 ∧ x5 ≤ 304 → 0 ≤ x6 ∧ x6 ≤ 304 → 0 ≤ x7 ∧ x7 ≤ 304 → (wk_O (s'.1 98) (x3) (x4)) → (0 ≤ s'.1 98 (x3 + 1) ∧ s'.1 98 (x3 + 1) ≤ x7 ∧ s'.1 98 (x3 + 2) ≤ 304 ∧ 0 ≤ x5 ∧ 0 ≤ x6 ∧ x5 ≤ x7 ∧ x6 ≤ x7 ∧ x7 ≤ s'.1 98 (x3 + 2)) → (x5 = wkN (s'.1 98) (x4) (s'.1 98 (x3 + 1)) (x7) ∧ x6 = wkT (s'.1 98) (x4) (s'.1 98 (x3 + 1)) (x7)) → (304 - x7).toNat < M38 → X38 x5 x6 x7 s') (hM38 : (304 - x7).toNat ≤ M38) (hI : iv_A s.1 s.2.2) (bx3 : 1 ≤ x3 ∧ x3 ≤ 2208) (bx4 : 97 ≤ x4 ∧ x4 ≤ 2212) (bx5 : 0 ≤ x5 ∧ x5 ≤ 304) (bx6 : 0 ≤ x6 ∧ x6 ≤ 304) (bx7 : 0 ≤ x7 ∧ x7 ≤ 303) (by1 : (-1) ≤ y1 ∧ y1 ≤ 303) (by2 : 0 ≤ y2 ∧ y2 ≤ 1) (kv0 : wk_O (s.1 98) (x3) (x4)) (kv1 : 0 ≤ s.1 98 (x3 + 1) ∧ s.1 98 (x3 + 1) ≤ x7 ∧ s.1 98 (x3 + 2) ≤ 304 ∧ 0 ≤ x5 ∧ 0 ≤ x6 ∧ x7 < s.1 98 (x3 + 2)) (kv2 : x5 ≤ x7 + 1 ∧ x6 ≤ x7 + 1) (kv3 : x5 = wkN (s.1 98) (x4) (s.1 98 (x3 + 1)) (x7 + 1) ∧ x6 = wkT (s.1 98) (x4) (s.1 98 (x3 + 1)) (x7 + 1)) (kv4 : y1 = x6 - 1 ∧ 1 ≤ x6) : fm_268_p357 X38 Q x3 x4 x5 x6 x7 y1 y2 s := by
  unfold fm_268_p357
  refine ⟨(show (0 : Int) ≤ y1 ∧ y1 < (330 : Int) from by omega), ?_⟩
  refine ⟨(show y2 = 0 ∨ y2 = 1 from by omega), ?_⟩
  have hI37 : iv_A (lf_up s.1 107 y1 y2) s.2.2 := iv_w107 hI (by omega)
  have fr38 : lf_fq [107] 1000000 true s.1 s.2.2 (lf_up s.1 107 y1 y2) s.2.2 := lf_fq_up (lf_fq_rf) rfl (fun h => absurd h (by decide))
  exact sm_268_p437 (fun r9 t9 i9 f9 => hQ r9 t9 i9 (lf_fq_tr fr38 f9)) (fun p0 p1 p2 t9 i9 f9 => hX38 p0 p1 p2 t9 i9 (lf_fq_tr fr38 f9)) (show (304 - x7).toNat ≤ M38 from by omega) hI37 (show (1 : Int) ≤ x3 ∧ x3 ≤ (2208 : Int) from by omega) (show (97 : Int) ≤ x4 ∧ x4 ≤ (2212 : Int) from by omega) (show (0 : Int) ≤ x5 ∧ x5 ≤ (304 : Int) from by omega) (show (0 : Int) ≤ x6 ∧ x6 ≤ (304 : Int) from by omega) (show (0 : Int) ≤ x7 ∧ x7 ≤ (303 : Int) from by omega) (show wk_O ((s.1 98)) (x3) (x4) from by first | with_reducible assumption | assumption) (show 0 ≤ (s.1 98) (x3 + 1) ∧ (s.1 98) (x3 + 1) ≤ x7 ∧ (s.1 98) (x3 + 2) ≤ 304 ∧ 0 ≤ x5 ∧ 0 ≤ x6 ∧ x7 < (s.1 98) (x3 + 2) from by omega) (show x5 ≤ x7 + 1 ∧ x6 ≤ x7 + 1 from by omega) (show x5 = wkN ((s.1 98)) (x4) ((s.1 98) (x3 + 1)) (x7 + 1) ∧ x6 = wkT ((s.1 98)) (x4) ((s.1 98) (x3 + 1)) (x7 + 1) from by omega)
theorem sm_268_p38 {X38 : Int → Int → Int → lf_Z → Prop} {Q : Int → lf_Z → Prop} {x3 : Int} {x4 : Int} {x5 : Int} {x6 : Int} {x7 : Int} {s : lf_Z} (hQ : ∀ (r : Int) (s' : lf_Z), iv_A s'.1 s'.2.2 → lf_fq [107] 1000000 true s.1 s.2.2 s'.1 s'.2.2 → ((-2147483648) ≤ r ∧ r ≤ 2147483647) → Q r s') {M38 : Nat} (hX38 : ∀ (x5 : Int) (x6 : Int) (x7 : Int) (s' : lf_Z), iv_A s'.1 s'.2.2 → lf_fq [107] 1000000 true s.1 s.2.2 s'.1 s'.2.2 → 0 ≤ x5 ∧ x5 ≤ 304 → 0 ≤ x6 ∧ x6 ≤ 304 → 0 ≤ x7 ∧ x7 ≤ 304 → (wk_O (s'.1 98) (x3) (x4)) → (0 ≤ s'.1 98 (x3 + 1) ∧ s'.1 98 (x3 + 1) ≤ x7 ∧ s'.1 98 (x3 + 2) ≤ 304 ∧ 0 ≤ x5 ∧ 0 ≤ x6 ∧ x5 ≤ x7 ∧ x6 ≤ x7 ∧ x7 ≤ s'.1 98 (x3 + 2)) → (x5 = wkN (s'.1 98) (x4) (s'.1 98 (x3 + 1)) (x7) ∧ x6 = wkT (s'.1 98) (x4) (s'.1 98 (x3 + 1)) (x7)) → (304 - x7).toNat < M38 → X38 x5 x6 x7 s') (hM38 : (304 - x7).toNat ≤ M38) (hI : iv_A s.1 s.2.2) (bx3 : 1 ≤ x3 ∧ x3 ≤ 2208) (bx4 : 97 ≤ x4 ∧ x4 ≤ 2212) (bx5 : 0 ≤ x5 ∧ x5 ≤ 304) (bx6 : 0 ≤ x6 ∧ x6 ≤ 304) (bx7 : 0 ≤ x7 ∧ x7 ≤ 304) (kv0 : wk_O (s.1 98) (x3) (x4)) (kv1 : 0 ≤ s.1 98 (x3 + 1) ∧ s.1 98 (x3 + 1) ≤ x7 ∧ s.1 98 (x3 + 2) ≤ 304 ∧ 0 ≤ x5 ∧ 0 ≤ x6 ∧ x5 ≤ x7 ∧ x6 ≤ x7 ∧ x7 ≤ s.1 98 (x3 + 2)) (kv2 : x5 = wkN (s.1 98) (x4) (s.1 98 (x3 + 1)) (x7) ∧ x6 = wkT (s.1 98) (x4) (s.1 98 (x3 + 1)) (x7)) : fm_268_p38 Q x3 x4 X38 x5 x6 x7 s := by
  unfold fm_268_p38
  refine ⟨(show (0 : Int) ≤ x3 + 2 ∧ x3 + 2 < (2820 : Int) from by omega), ?_⟩
  have b4 : (-2147483648) ≤ s.1 98 (x3 + 2) ∧ s.1 98 (x3 + 2) ≤ 2147483647 := iv_full hI
  refine ⟨(show lf_R x7 from lf_Rof (by omega)), ?_⟩
  refine ⟨(show lf_R (s.1 98 (x3 + 2)) from lf_Rof (by omega)), ?_⟩
  refine ⟨fun c5 => ?_, fun c5 => ?_⟩
  · skip
    replace c5 : s.1 98 (x3 + 2) ≤ x7 := c5
    have b6 : (-2147483648) ≤ lf_w (lf_wl (s.2.1 106 0)) ∧ lf_w (lf_wl (s.2.1 106 0)) ≤ 2147483647 := lf_wB
    exact hQ (lf_w (lf_wl (s.2.1 106 0))) s hI (lf_fq_rf) (show (-2147483648 : Int) ≤ lf_w (lf_wl (s.2.1 106 0)) ∧ lf_w (lf_wl (s.2.1 106 0)) ≤ (2147483647 : Int) from by omega)
  · skip
    replace c5 : ¬ (s.1 98 (x3 + 2) ≤ x7) := c5
    refine ⟨(show (0 : Int) ≤ x4 + (2 * x7) ∧ x4 + (2 * x7) < (2820 : Int) from by omega), ?_⟩
    have b7 : (-2147483648) ≤ s.1 98 (x4 + (2 * x7)) ∧ s.1 98 (x4 + (2 * x7)) ≤ 2147483647 := iv_full hI
    refine ⟨(show (0 : Int) ≤ (x4 + (2 * x7)) + 1 ∧ (x4 + (2 * x7)) + 1 < (2820 : Int) from by omega), ?_⟩
    have b8 : (-2147483648) ≤ s.1 98 ((x4 + (2 * x7)) + 1) ∧ s.1 98 ((x4 + (2 * x7)) + 1) ≤ 2147483647 := iv_full hI
    refine ⟨(show lf_R (s.1 98 (x4 + (2 * x7))) from lf_Rof (by omega)), ?_⟩
    refine ⟨fun c9 => ?_, fun c9 => ?_⟩
    · skip
      replace c9 : s.1 98 (x4 + (2 * x7)) ≤ 1 := c9
      have b10 : (((s.1 98 (x4 + (2 * x7))) = 0 ∨ ((s.1 98 (x4 + (2 * x7))) = 1 ∧ 0 ≤ (s.1 98 ((x4 + (2 * x7)) + 1)) ∧ (s.1 98 ((x4 + (2 * x7)) + 1)) < 11) ∨ ((s.1 98 (x4 + (2 * x7))) ≠ 1 ∧ 0 ≤ (s.1 98 ((x4 + (2 * x7)) + 1)) ∧ (s.1 98 ((x4 + (2 * x7)) + 1)) < 80))) ∧ wkN ((s.1 98)) (x4) ((s.1 98) (x3 + 1)) (x7 + 1) = wkN ((s.1 98)) (x4) ((s.1 98) (x3 + 1)) (x7) + 1 ∧ wkT ((s.1 98)) (x4) ((s.1 98) (x3 + 1)) (x7 + 1) = wkT ((s.1 98)) (x4) ((s.1 98) (x3 + 1)) (x7) + 0 := wk_sv kv0 (by omega) (by omega) (by omega)
      exact sm_268_p94 hQ hX38 (show (304 - x7).toNat ≤ M38 from by omega) hI (show (1 : Int) ≤ x3 ∧ x3 ≤ (2208 : Int) from by omega) (show (97 : Int) ≤ x4 ∧ x4 ≤ (2212 : Int) from by omega) (show (0 : Int) ≤ x5 ∧ x5 ≤ (304 : Int) from by omega) (show (0 : Int) ≤ x6 ∧ x6 ≤ (304 : Int) from by omega) (show (0 : Int) ≤ x7 ∧ x7 ≤ (303 : Int) from by omega) (show (-2147483648 : Int) ≤ s.1 98 (x4 + (2 * x7)) ∧ s.1 98 (x4 + (2 * x7)) ≤ (31 : Int) from by omega) (show (-2147483648 : Int) ≤ s.1 98 ((x4 + (2 * x7)) + 1) ∧ s.1 98 ((x4 + (2 * x7)) + 1) ≤ (2147483647 : Int) from by omega) (show wk_O ((s.1 98)) (x3) (x4) from by first | with_reducible assumption | assumption) (show 0 ≤ (s.1 98) (x3 + 1) ∧ (s.1 98) (x3 + 1) ≤ x7 ∧ (s.1 98) (x3 + 2) ≤ 304 ∧ 0 ≤ x5 ∧ 0 ≤ x6 ∧ x7 < (s.1 98) (x3 + 2) from by omega) (show x5 ≤ x7 ∧ x6 ≤ x7 from by omega) (show x5 + 1 = wkN ((s.1 98)) (x4) ((s.1 98) (x3 + 1)) (x7 + 1) ∧ x6 = wkT ((s.1 98)) (x4) ((s.1 98) (x3 + 1)) (x7 + 1) from by omega) (show (s.1 98 (x4 + (2 * x7))) = 0 ∨ ((s.1 98 (x4 + (2 * x7))) = 1 ∧ 0 ≤ (s.1 98 ((x4 + (2 * x7)) + 1)) ∧ (s.1 98 ((x4 + (2 * x7)) + 1)) < 11) ∨ ((s.1 98 (x4 + (2 * x7))) ≠ 1 ∧ 0 ≤ (s.1 98 ((x4 + (2 * x7)) + 1)) ∧ (s.1 98 ((x4 + (2 * x7)) + 1)) < 80) from by omega)
    · skip
      replace c9 : ¬ (s.1 98 (x4 + (2 * x7)) ≤ 1) := c9
      refine ⟨fun c15 => ?_, fun c15 => ?_⟩
      · skip
        replace c15 : s.1 98 (x4 + (2 * x7)) ≠ 31 := c15
        refine ⟨fun c16 => ?_, fun c16 => ?_⟩
        · skip
          replace c16 : s.1 98 (x4 + (2 * x7)) ≠ 2 := c16
          refine ⟨fun c17 => ?_, fun c17 => ?_⟩
          · skip
            replace c17 : s.1 98 (x4 + (2 * x7)) ≠ 30 := c17
            refine ⟨fun c18 => ?_, fun c18 => ?_⟩
            · skip
              replace c18 : s.1 98 (x4 + (2 * x7)) ≠ 3 := c18
              refine ⟨fun c19 => ?_, fun c19 => ?_⟩
              · skip
                replace c19 : 10 ≤ s.1 98 (x4 + (2 * x7)) := c19
                refine ⟨fun c20 => ?_, fun c20 => ?_⟩
                · skip
                  replace c20 : 20 ≤ s.1 98 (x4 + (2 * x7)) := c20
                  refine ⟨fun c21 => ?_, fun c21 => ?_⟩
                  · skip
                    replace c21 : s.1 98 (x4 + (2 * x7)) ≠ 20 := c21
                    have b22 : (2 ≤ wkT ((s.1 98)) (x4) ((s.1 98) (x3 + 1)) (x7)) ∧ wkN ((s.1 98)) (x4) ((s.1 98) (x3 + 1)) (x7 + 1) = wkN ((s.1 98)) (x4) ((s.1 98) (x3 + 1)) (x7) + 0 ∧ wkT ((s.1 98)) (x4) ((s.1 98) (x3 + 1)) (x7 + 1) = wkT ((s.1 98)) (x4) ((s.1 98) (x3 + 1)) (x7) + -1 := wk_s21 kv0 (by omega) (by omega) (by omega)
                    refine ⟨fun c23 => ?_, fun c23 => ?_⟩
                    · skip
                      replace c23 : s.1 98 (x4 + (2 * x7)) ≠ 21 := c23
                      refine ⟨(show (0 : Int) ≤ (x6 + (-1)) - 1 ∧ (x6 + (-1)) - 1 < (330 : Int) from by omega), ?_⟩
                      have b24 : 0 ≤ s.1 107 ((x6 + (-1)) - 1) ∧ s.1 107 ((x6 + (-1)) - 1) ≤ 1 := iv_r107 hI _
                      refine ⟨(show lf_R (s.1 107 ((x6 + (-1)) - 1)) from lf_Rof (by omega)), ?_⟩
                      refine ⟨fun c25 => ?_, fun c25 => ?_⟩
                      · skip
                        replace c25 : s.1 107 ((x6 + (-1)) - 1) ≠ 0 := c25
                        exact sm_268_p431 hQ hX38 (show (304 - x7).toNat ≤ M38 from by omega) hI (show (1 : Int) ≤ x3 ∧ x3 ≤ (2208 : Int) from by omega) (show (97 : Int) ≤ x4 ∧ x4 ≤ (2212 : Int) from by omega) (show (0 : Int) ≤ x5 ∧ x5 ≤ (304 : Int) from by omega) (show (0 : Int) ≤ x6 + (-1) ∧ x6 + (-1) ≤ (304 : Int) from by omega) (show (0 : Int) ≤ x7 ∧ x7 ≤ (303 : Int) from by omega) (show (-2 : Int) ≤ (x6 + (-1)) - 1 ∧ (x6 + (-1)) - 1 ≤ (302 : Int) from by omega) (show wk_O ((s.1 98)) (x3) (x4) from by first | with_reducible assumption | assumption) (show 0 ≤ (s.1 98) (x3 + 1) ∧ (s.1 98) (x3 + 1) ≤ x7 ∧ (s.1 98) (x3 + 2) ≤ 304 ∧ 0 ≤ x5 ∧ 0 ≤ (x6 + (-1)) ∧ x7 < (s.1 98) (x3 + 2) from by omega) (show x5 ≤ x7 + 1 ∧ (x6 + (-1)) ≤ x7 + 1 from by omega) (show x5 = wkN ((s.1 98)) (x4) ((s.1 98) (x3 + 1)) (x7 + 1) ∧ (x6 + (-1)) = wkT ((s.1 98)) (x4) ((s.1 98) (x3 + 1)) (x7 + 1) from by omega) (show ((x6 + (-1)) - 1) = (x6 + (-1)) - 1 ∧ 1 ≤ (x6 + (-1)) from by omega)
                      · skip
                        replace c25 : ¬ (s.1 107 ((x6 + (-1)) - 1) ≠ 0) := c25
                        refine ⟨(show (0 : Int) ≤ x6 + (-1) ∧ x6 + (-1) < (330 : Int) from by omega), ?_⟩
                        have b28 : 0 ≤ s.1 107 (x6 + (-1)) ∧ s.1 107 (x6 + (-1)) ≤ 1 := iv_r107 hI _
                        refine ⟨(show lf_R (s.1 107 (x6 + (-1))) from lf_Rof (by omega)), ?_⟩
                        refine ⟨fun c29 => ?_, fun c29 => ?_⟩
                        · skip
                          replace c29 : s.1 107 (x6 + (-1)) = 0 := c29
                          exact sm_268_p436 hQ hX38 (show (304 - x7).toNat ≤ M38 from by omega) hI (show (1 : Int) ≤ x3 ∧ x3 ≤ (2208 : Int) from by omega) (show (97 : Int) ≤ x4 ∧ x4 ≤ (2212 : Int) from by omega) (show (0 : Int) ≤ x5 ∧ x5 ≤ (304 : Int) from by omega) (show (0 : Int) ≤ x6 + (-1) ∧ x6 + (-1) ≤ (304 : Int) from by omega) (show (0 : Int) ≤ x7 ∧ x7 ≤ (303 : Int) from by omega) (show (-2 : Int) ≤ (x6 + (-1)) - 1 ∧ (x6 + (-1)) - 1 ≤ (302 : Int) from by omega) (show (0 : Int) ≤ 0 ∧ 0 ≤ (1 : Int) from by omega) (show wk_O ((s.1 98)) (x3) (x4) from by first | with_reducible assumption | assumption) (show 0 ≤ (s.1 98) (x3 + 1) ∧ (s.1 98) (x3 + 1) ≤ x7 ∧ (s.1 98) (x3 + 2) ≤ 304 ∧ 0 ≤ x5 ∧ 0 ≤ (x6 + (-1)) ∧ x7 < (s.1 98) (x3 + 2) from by omega) (show x5 ≤ x7 + 1 ∧ (x6 + (-1)) ≤ x7 + 1 from by omega) (show x5 = wkN ((s.1 98)) (x4) ((s.1 98) (x3 + 1)) (x7 + 1) ∧ (x6 + (-1)) = wkT ((s.1 98)) (x4) ((s.1 98) (x3 + 1)) (x7 + 1) from by omega) (show ((x6 + (-1)) - 1) = (x6 + (-1)) - 1 ∧ 1 ≤ (x6 + (-1)) from by omega)
                        · skip
                          replace c29 : ¬ (s.1 107 (x6 + (-1)) = 0) := c29
                          exact sm_268_p431 hQ hX38 (show (304 - x7).toNat ≤ M38 from by omega) hI (show (1 : Int) ≤ x3 ∧ x3 ≤ (2208 : Int) from by omega) (show (97 : Int) ≤ x4 ∧ x4 ≤ (2212 : Int) from by omega) (show (0 : Int) ≤ x5 ∧ x5 ≤ (304 : Int) from by omega) (show (0 : Int) ≤ x6 + (-1) ∧ x6 + (-1) ≤ (304 : Int) from by omega) (show (0 : Int) ≤ x7 ∧ x7 ≤ (303 : Int) from by omega) (show (-2 : Int) ≤ (x6 + (-1)) - 1 ∧ (x6 + (-1)) - 1 ≤ (302 : Int) from by omega) (show wk_O ((s.1 98)) (x3) (x4) from by first | with_reducible assumption | assumption) (show 0 ≤ (s.1 98) (x3 + 1) ∧ (s.1 98) (x3 + 1) ≤ x7 ∧ (s.1 98) (x3 + 2) ≤ 304 ∧ 0 ≤ x5 ∧ 0 ≤ (x6 + (-1)) ∧ x7 < (s.1 98) (x3 + 2) from by omega) (show x5 ≤ x7 + 1 ∧ (x6 + (-1)) ≤ x7 + 1 from by omega) (show x5 = wkN ((s.1 98)) (x4) ((s.1 98) (x3 + 1)) (x7 + 1) ∧ (x6 + (-1)) = wkT ((s.1 98)) (x4) ((s.1 98) (x3 + 1)) (x7 + 1) from by omega) (show ((x6 + (-1)) - 1) = (x6 + (-1)) - 1 ∧ 1 ≤ (x6 + (-1)) from by omega)
                    · skip
                      replace c23 : ¬ (s.1 98 (x4 + (2 * x7)) ≠ 21) := c23
                      refine ⟨(show (0 : Int) ≤ (x6 + (-1)) - 1 ∧ (x6 + (-1)) - 1 < (330 : Int) from by omega), ?_⟩
                      have b30 : 0 ≤ s.1 107 ((x6 + (-1)) - 1) ∧ s.1 107 ((x6 + (-1)) - 1) ≤ 1 := iv_r107 hI _
                      refine ⟨(show lf_R (s.1 107 ((x6 + (-1)) - 1)) from lf_Rof (by omega)), ?_⟩
                      refine ⟨fun c31 => ?_, fun c31 => ?_⟩
                      · skip
                        replace c31 : s.1 107 ((x6 + (-1)) - 1) = 0 := c31
                        exact sm_268_p405 hQ hX38 (show (304 - x7).toNat ≤ M38 from by omega) hI (show (1 : Int) ≤ x3 ∧ x3 ≤ (2208 : Int) from by omega) (show (97 : Int) ≤ x4 ∧ x4 ≤ (2212 : Int) from by omega) (show (0 : Int) ≤ x5 ∧ x5 ≤ (304 : Int) from by omega) (show (0 : Int) ≤ x6 + (-1) ∧ x6 + (-1) ≤ (304 : Int) from by omega) (show (0 : Int) ≤ x7 ∧ x7 ≤ (303 : Int) from by omega) (show (-2 : Int) ≤ (x6 + (-1)) - 1 ∧ (x6 + (-1)) - 1 ≤ (302 : Int) from by omega) (show wk_O ((s.1 98)) (x3) (x4) from by first | with_reducible assumption | assumption) (show 0 ≤ (s.1 98) (x3 + 1) ∧ (s.1 98) (x3 + 1) ≤ x7 ∧ (s.1 98) (x3 + 2) ≤ 304 ∧ 0 ≤ x5 ∧ 0 ≤ (x6 + (-1)) ∧ x7 < (s.1 98) (x3 + 2) from by omega) (show x5 ≤ x7 + 1 ∧ (x6 + (-1)) ≤ x7 + 1 from by omega) (show x5 = wkN ((s.1 98)) (x4) ((s.1 98) (x3 + 1)) (x7 + 1) ∧ (x6 + (-1)) = wkT ((s.1 98)) (x4) ((s.1 98) (x3 + 1)) (x7 + 1) from by omega) (show ((x6 + (-1)) - 1) = (x6 + (-1)) - 1 ∧ 1 ≤ (x6 + (-1)) from by omega)
                      · skip
                        replace c31 : ¬ (s.1 107 ((x6 + (-1)) - 1) = 0) := c31
                        refine ⟨(show (0 : Int) ≤ x6 + (-1) ∧ x6 + (-1) < (330 : Int) from by omega), ?_⟩
                        have b32 : 0 ≤ s.1 107 (x6 + (-1)) ∧ s.1 107 (x6 + (-1)) ≤ 1 := iv_r107 hI _
                        refine ⟨(show lf_R (s.1 107 (x6 + (-1))) from lf_Rof (by omega)), ?_⟩
                        refine ⟨fun c33 => ?_, fun c33 => ?_⟩
                        · skip
                          replace c33 : s.1 107 (x6 + (-1)) = 0 := c33
                          exact sm_268_p405 hQ hX38 (show (304 - x7).toNat ≤ M38 from by omega) hI (show (1 : Int) ≤ x3 ∧ x3 ≤ (2208 : Int) from by omega) (show (97 : Int) ≤ x4 ∧ x4 ≤ (2212 : Int) from by omega) (show (0 : Int) ≤ x5 ∧ x5 ≤ (304 : Int) from by omega) (show (0 : Int) ≤ x6 + (-1) ∧ x6 + (-1) ≤ (304 : Int) from by omega) (show (0 : Int) ≤ x7 ∧ x7 ≤ (303 : Int) from by omega) (show (-2 : Int) ≤ (x6 + (-1)) - 1 ∧ (x6 + (-1)) - 1 ≤ (302 : Int) from by omega) (show wk_O ((s.1 98)) (x3) (x4) from by first | with_reducible assumption | assumption) (show 0 ≤ (s.1 98) (x3 + 1) ∧ (s.1 98) (x3 + 1) ≤ x7 ∧ (s.1 98) (x3 + 2) ≤ 304 ∧ 0 ≤ x5 ∧ 0 ≤ (x6 + (-1)) ∧ x7 < (s.1 98) (x3 + 2) from by omega) (show x5 ≤ x7 + 1 ∧ (x6 + (-1)) ≤ x7 + 1 from by omega) (show x5 = wkN ((s.1 98)) (x4) ((s.1 98) (x3 + 1)) (x7 + 1) ∧ (x6 + (-1)) = wkT ((s.1 98)) (x4) ((s.1 98) (x3 + 1)) (x7 + 1) from by omega) (show ((x6 + (-1)) - 1) = (x6 + (-1)) - 1 ∧ 1 ≤ (x6 + (-1)) from by omega)
                        · skip
                          replace c33 : ¬ (s.1 107 (x6 + (-1)) = 0) := c33
                          exact sm_268_p436 hQ hX38 (show (304 - x7).toNat ≤ M38 from by omega) hI (show (1 : Int) ≤ x3 ∧ x3 ≤ (2208 : Int) from by omega) (show (97 : Int) ≤ x4 ∧ x4 ≤ (2212 : Int) from by omega) (show (0 : Int) ≤ x5 ∧ x5 ≤ (304 : Int) from by omega) (show (0 : Int) ≤ x6 + (-1) ∧ x6 + (-1) ≤ (304 : Int) from by omega) (show (0 : Int) ≤ x7 ∧ x7 ≤ (303 : Int) from by omega) (show (-2 : Int) ≤ (x6 + (-1)) - 1 ∧ (x6 + (-1)) - 1 ≤ (302 : Int) from by omega) (show (0 : Int) ≤ 1 ∧ 1 ≤ (1 : Int) from by omega) (show wk_O ((s.1 98)) (x3) (x4) from by first | with_reducible assumption | assumption) (show 0 ≤ (s.1 98) (x3 + 1) ∧ (s.1 98) (x3 + 1) ≤ x7 ∧ (s.1 98) (x3 + 2) ≤ 304 ∧ 0 ≤ x5 ∧ 0 ≤ (x6 + (-1)) ∧ x7 < (s.1 98) (x3 + 2) from by omega) (show x5 ≤ x7 + 1 ∧ (x6 + (-1)) ≤ x7 + 1 from by omega) (show x5 = wkN ((s.1 98)) (x4) ((s.1 98) (x3 + 1)) (x7 + 1) ∧ (x6 + (-1)) = wkT ((s.1 98)) (x4) ((s.1 98) (x3 + 1)) (x7 + 1) from by omega) (show ((x6 + (-1)) - 1) = (x6 + (-1)) - 1 ∧ 1 ≤ (x6 + (-1)) from by omega)
                  · skip
                    replace c21 : ¬ (s.1 98 (x4 + (2 * x7)) ≠ 20) := c21
                    have b34 : (1 ≤ wkT ((s.1 98)) (x4) ((s.1 98) (x3 + 1)) (x7)) ∧ wkN ((s.1 98)) (x4) ((s.1 98) (x3 + 1)) (x7 + 1) = wkN ((s.1 98)) (x4) ((s.1 98) (x3 + 1)) (x7) + 0 ∧ wkT ((s.1 98)) (x4) ((s.1 98) (x3 + 1)) (x7 + 1) = wkT ((s.1 98)) (x4) ((s.1 98) (x3 + 1)) (x7) + 0 := wk_s20 kv0 (by omega) (by omega) (by omega)
                    refine ⟨(show (0 : Int) ≤ x6 - 1 ∧ x6 - 1 < (330 : Int) from by omega), ?_⟩
                    have b35 : 0 ≤ s.1 107 (x6 - 1) ∧ s.1 107 (x6 - 1) ≤ 1 := iv_r107 hI _
                    refine ⟨(show lf_R (s.1 107 (x6 - 1)) from lf_Rof (by omega)), ?_⟩
                    refine ⟨fun c36 => ?_, fun c36 => ?_⟩
                    · skip
                      replace c36 : s.1 107 (x6 - 1) ≠ 0 := c36
                      exact sm_268_p357 hQ hX38 (show (304 - x7).toNat ≤ M38 from by omega) hI (show (1 : Int) ≤ x3 ∧ x3 ≤ (2208 : Int) from by omega) (show (97 : Int) ≤ x4 ∧ x4 ≤ (2212 : Int) from by omega) (show (0 : Int) ≤ x5 ∧ x5 ≤ (304 : Int) from by omega) (show (0 : Int) ≤ x6 ∧ x6 ≤ (304 : Int) from by omega) (show (0 : Int) ≤ x7 ∧ x7 ≤ (303 : Int) from by omega) (show (-1 : Int) ≤ x6 - 1 ∧ x6 - 1 ≤ (303 : Int) from by omega) (show (0 : Int) ≤ 0 ∧ 0 ≤ (1 : Int) from by omega) (show wk_O ((s.1 98)) (x3) (x4) from by first | with_reducible assumption | assumption) (show 0 ≤ (s.1 98) (x3 + 1) ∧ (s.1 98) (x3 + 1) ≤ x7 ∧ (s.1 98) (x3 + 2) ≤ 304 ∧ 0 ≤ x5 ∧ 0 ≤ x6 ∧ x7 < (s.1 98) (x3 + 2) from by omega) (show x5 ≤ x7 + 1 ∧ x6 ≤ x7 + 1 from by omega) (show x5 = wkN ((s.1 98)) (x4) ((s.1 98) (x3 + 1)) (x7 + 1) ∧ x6 = wkT ((s.1 98)) (x4) ((s.1 98) (x3 + 1)) (x7 + 1) from by omega) (show (x6 - 1) = x6 - 1 ∧ 1 ≤ x6 from by omega)
                    · skip
                      replace c36 : ¬ (s.1 107 (x6 - 1) ≠ 0) := c36
                      exact sm_268_p357 hQ hX38 (show (304 - x7).toNat ≤ M38 from by omega) hI (show (1 : Int) ≤ x3 ∧ x3 ≤ (2208 : Int) from by omega) (show (97 : Int) ≤ x4 ∧ x4 ≤ (2212 : Int) from by omega) (show (0 : Int) ≤ x5 ∧ x5 ≤ (304 : Int) from by omega) (show (0 : Int) ≤ x6 ∧ x6 ≤ (304 : Int) from by omega) (show (0 : Int) ≤ x7 ∧ x7 ≤ (303 : Int) from by omega) (show (-1 : Int) ≤ x6 - 1 ∧ x6 - 1 ≤ (303 : Int) from by omega) (show (0 : Int) ≤ 1 ∧ 1 ≤ (1 : Int) from by omega) (show wk_O ((s.1 98)) (x3) (x4) from by first | with_reducible assumption | assumption) (show 0 ≤ (s.1 98) (x3 + 1) ∧ (s.1 98) (x3 + 1) ≤ x7 ∧ (s.1 98) (x3 + 2) ≤ 304 ∧ 0 ≤ x5 ∧ 0 ≤ x6 ∧ x7 < (s.1 98) (x3 + 2) from by omega) (show x5 ≤ x7 + 1 ∧ x6 ≤ x7 + 1 from by omega) (show x5 = wkN ((s.1 98)) (x4) ((s.1 98) (x3 + 1)) (x7 + 1) ∧ x6 = wkT ((s.1 98)) (x4) ((s.1 98) (x3 + 1)) (x7 + 1) from by omega) (show (x6 - 1) = x6 - 1 ∧ 1 ≤ x6 from by omega)
                · skip
                  replace c20 : ¬ (20 ≤ s.1 98 (x4 + (2 * x7))) := c20
                  have b39 : (2 ≤ wkN ((s.1 98)) (x4) ((s.1 98) (x3 + 1)) (x7)) ∧ wkN ((s.1 98)) (x4) ((s.1 98) (x3 + 1)) (x7 + 1) = wkN ((s.1 98)) (x4) ((s.1 98) (x3 + 1)) (x7) + -2 ∧ wkT ((s.1 98)) (x4) ((s.1 98) (x3 + 1)) (x7 + 1) = wkT ((s.1 98)) (x4) ((s.1 98) (x3 + 1)) (x7) + 1 := wk_s10 kv0 (by omega) (by omega) (by omega)
                  refine ⟨(show (0 : Int) ≤ x5 + (-2) ∧ x5 + (-2) < (330 : Int) from by omega), ?_⟩
                  refine ⟨(show (0 : Int) ≤ (x5 + (-2)) + 1 ∧ (x5 + (-2)) + 1 < (330 : Int) from by omega), ?_⟩
                  refine sm_271 hI (show (10 : Int) ≤ s.1 98 (x4 + (2 * x7)) ∧ s.1 98 (x4 + (2 * x7)) ≤ (19 : Int) from by omega) (fun z51 => ?_)
                  refine ⟨(show (0 : Int) ≤ x6 ∧ x6 < (330 : Int) from by omega), ?_⟩
                  have b41 : 0 ≤ lf_b z51 ∧ lf_b z51 ≤ 1 := lf_b01
                  refine ⟨(show lf_b z51 = 0 ∨ lf_b z51 = 1 from by omega), ?_⟩
                  have hI42 : iv_A (lf_up s.1 107 x6 (lf_b z51)) s.2.2 := iv_w107 hI (by omega)
                  have fr43 : lf_fq [107] 1000000 true s.1 s.2.2 (lf_up s.1 107 x6 (lf_b z51)) s.2.2 := lf_fq_up (lf_fq_rf) rfl (fun h => absurd h (by decide))
                  exact sm_268_p437 (fun r9 t9 i9 f9 => hQ r9 t9 i9 (lf_fq_tr fr43 f9)) (fun p0 p1 p2 t9 i9 f9 => hX38 p0 p1 p2 t9 i9 (lf_fq_tr fr43 f9)) (show (304 - x7).toNat ≤ M38 from by omega) hI42 (show (1 : Int) ≤ x3 ∧ x3 ≤ (2208 : Int) from by omega) (show (97 : Int) ≤ x4 ∧ x4 ≤ (2212 : Int) from by omega) (show (0 : Int) ≤ x5 + (-2) ∧ x5 + (-2) ≤ (304 : Int) from by omega) (show (0 : Int) ≤ x6 + 1 ∧ x6 + 1 ≤ (304 : Int) from by omega) (show (0 : Int) ≤ x7 ∧ x7 ≤ (303 : Int) from by omega) (show wk_O ((s.1 98)) (x3) (x4) from by first | with_reducible assumption | assumption) (show 0 ≤ (s.1 98) (x3 + 1) ∧ (s.1 98) (x3 + 1) ≤ x7 ∧ (s.1 98) (x3 + 2) ≤ 304 ∧ 0 ≤ (x5 + (-2)) ∧ 0 ≤ (x6 + 1) ∧ x7 < (s.1 98) (x3 + 2) from by omega) (show (x5 + (-2)) ≤ x7 + 1 ∧ (x6 + 1) ≤ x7 + 1 from by omega) (show (x5 + (-2)) = wkN ((s.1 98)) (x4) ((s.1 98) (x3 + 1)) (x7 + 1) ∧ (x6 + 1) = wkT ((s.1 98)) (x4) ((s.1 98) (x3 + 1)) (x7 + 1) from by omega)
              · skip
                replace c19 : ¬ (10 ≤ s.1 98 (x4 + (2 * x7))) := c19
                have b44 : (2 ≤ wkN ((s.1 98)) (x4) ((s.1 98) (x3 + 1)) (x7)) ∧ wkN ((s.1 98)) (x4) ((s.1 98) (x3 + 1)) (x7 + 1) = wkN ((s.1 98)) (x4) ((s.1 98) (x3 + 1)) (x7) + -1 ∧ wkT ((s.1 98)) (x4) ((s.1 98) (x3 + 1)) (x7 + 1) = wkT ((s.1 98)) (x4) ((s.1 98) (x3 + 1)) (x7) + 0 := wk_s4 kv0 (by omega) (by omega) (by omega)
                refine ⟨(show (0 : Int) ≤ (x5 + (-1)) - 1 ∧ (x5 + (-1)) - 1 < (330 : Int) from by omega), ?_⟩
                refine ⟨(show (0 : Int) ≤ x5 + (-1) ∧ x5 + (-1) < (330 : Int) from by omega), ?_⟩
                refine sm_269 hI (show (4 : Int) ≤ s.1 98 (x4 + (2 * x7)) ∧ s.1 98 (x4 + (2 * x7)) ≤ (9 : Int) from by omega) (fun r57 => ?_)
                exact sm_268_p437 hQ hX38 (show (304 - x7).toNat ≤ M38 from by omega) hI (show (1 : Int) ≤ x3 ∧ x3 ≤ (2208 : Int) from by omega) (show (97 : Int) ≤ x4 ∧ x4 ≤ (2212 : Int) from by omega) (show (0 : Int) ≤ x5 + (-1) ∧ x5 + (-1) ≤ (304 : Int) from by omega) (show (0 : Int) ≤ x6 ∧ x6 ≤ (304 : Int) from by omega) (show (0 : Int) ≤ x7 ∧ x7 ≤ (303 : Int) from by omega) (show wk_O ((s.1 98)) (x3) (x4) from by first | with_reducible assumption | assumption) (show 0 ≤ (s.1 98) (x3 + 1) ∧ (s.1 98) (x3 + 1) ≤ x7 ∧ (s.1 98) (x3 + 2) ≤ 304 ∧ 0 ≤ (x5 + (-1)) ∧ 0 ≤ x6 ∧ x7 < (s.1 98) (x3 + 2) from by omega) (show (x5 + (-1)) ≤ x7 + 1 ∧ x6 ≤ x7 + 1 from by omega) (show (x5 + (-1)) = wkN ((s.1 98)) (x4) ((s.1 98) (x3 + 1)) (x7 + 1) ∧ x6 = wkT ((s.1 98)) (x4) ((s.1 98) (x3 + 1)) (x7 + 1) from by omega)
            · skip
              replace c18 : ¬ (s.1 98 (x4 + (2 * x7)) ≠ 3) := c18
              have b46 : (1 ≤ wkN ((s.1 98)) (x4) ((s.1 98) (x3 + 1)) (x7)) ∧ wkN ((s.1 98)) (x4) ((s.1 98) (x3 + 1)) (x7 + 1) = wkN ((s.1 98)) (x4) ((s.1 98) (x3 + 1)) (x7) + 0 ∧ wkT ((s.1 98)) (x4) ((s.1 98) (x3 + 1)) (x7 + 1) = wkT ((s.1 98)) (x4) ((s.1 98) (x3 + 1)) (x7) + 0 := wk_s3 kv0 (by omega) (by omega) (by omega)
              refine ⟨(show (0 : Int) ≤ x5 - 1 ∧ x5 - 1 < (330 : Int) from by omega), ?_⟩
              exact sm_268_p437 hQ hX38 (show (304 - x7).toNat ≤ M38 from by omega) hI (show (1 : Int) ≤ x3 ∧ x3 ≤ (2208 : Int) from by omega) (show (97 : Int) ≤ x4 ∧ x4 ≤ (2212 : Int) from by omega) (show (0 : Int) ≤ x5 ∧ x5 ≤ (304 : Int) from by omega) (show (0 : Int) ≤ x6 ∧ x6 ≤ (304 : Int) from by omega) (show (0 : Int) ≤ x7 ∧ x7 ≤ (303 : Int) from by omega) (show wk_O ((s.1 98)) (x3) (x4) from by first | with_reducible assumption | assumption) (show 0 ≤ (s.1 98) (x3 + 1) ∧ (s.1 98) (x3 + 1) ≤ x7 ∧ (s.1 98) (x3 + 2) ≤ 304 ∧ 0 ≤ x5 ∧ 0 ≤ x6 ∧ x7 < (s.1 98) (x3 + 2) from by omega) (show x5 ≤ x7 + 1 ∧ x6 ≤ x7 + 1 from by omega) (show x5 = wkN ((s.1 98)) (x4) ((s.1 98) (x3 + 1)) (x7 + 1) ∧ x6 = wkT ((s.1 98)) (x4) ((s.1 98) (x3 + 1)) (x7 + 1) from by omega)
          · skip
            replace c17 : ¬ (s.1 98 (x4 + (2 * x7)) ≠ 30) := c17
            have b47 : (1 ≤ wkN ((s.1 98)) (x4) ((s.1 98) (x3 + 1)) (x7) ∧ 0 ≤ (s.1 98 ((x4 + (2 * x7)) + 1)) ∧ (s.1 98 ((x4 + (2 * x7)) + 1)) < 80) ∧ wkN ((s.1 98)) (x4) ((s.1 98) (x3 + 1)) (x7 + 1) = wkN ((s.1 98)) (x4) ((s.1 98) (x3 + 1)) (x7) + -1 ∧ wkT ((s.1 98)) (x4) ((s.1 98) (x3 + 1)) (x7 + 1) = wkT ((s.1 98)) (x4) ((s.1 98) (x3 + 1)) (x7) + 0 := wk_s30 kv0 (by omega) (by omega) (by omega)
            refine ⟨(show (0 : Int) ≤ x5 + (-1) ∧ x5 + (-1) < (330 : Int) from by omega), ?_⟩
            refine ⟨(show (0 : Int) ≤ s.1 98 ((x4 + (2 * x7)) + 1) ∧ s.1 98 ((x4 + (2 * x7)) + 1) < (80 : Int) from by omega), ?_⟩
            exact sm_268_p437 hQ hX38 (show (304 - x7).toNat ≤ M38 from by omega) hI (show (1 : Int) ≤ x3 ∧ x3 ≤ (2208 : Int) from by omega) (show (97 : Int) ≤ x4 ∧ x4 ≤ (2212 : Int) from by omega) (show (0 : Int) ≤ x5 + (-1) ∧ x5 + (-1) ≤ (304 : Int) from by omega) (show (0 : Int) ≤ x6 ∧ x6 ≤ (304 : Int) from by omega) (show (0 : Int) ≤ x7 ∧ x7 ≤ (303 : Int) from by omega) (show wk_O ((s.1 98)) (x3) (x4) from by first | with_reducible assumption | assumption) (show 0 ≤ (s.1 98) (x3 + 1) ∧ (s.1 98) (x3 + 1) ≤ x7 ∧ (s.1 98) (x3 + 2) ≤ 304 ∧ 0 ≤ (x5 + (-1)) ∧ 0 ≤ x6 ∧ x7 < (s.1 98) (x3 + 2) from by omega) (show (x5 + (-1)) ≤ x7 + 1 ∧ x6 ≤ x7 + 1 from by omega) (show (x5 + (-1)) = wkN ((s.1 98)) (x4) ((s.1 98) (x3 + 1)) (x7 + 1) ∧ x6 = wkT ((s.1 98)) (x4) ((s.1 98) (x3 + 1)) (x7 + 1) from by omega)
        · skip
          replace c16 : ¬ (s.1 98 (x4 + (2 * x7)) ≠ 2) := c16
          have b48 : (2 ≤ wkN ((s.1 98)) (x4) ((s.1 98) (x3 + 1)) (x7) ∧ 1 ≤ wkT ((s.1 98)) (x4) ((s.1 98) (x3 + 1)) (x7)) ∧ wkN ((s.1 98)) (x4) ((s.1 98) (x3 + 1)) (x7 + 1) = wkN ((s.1 98)) (x4) ((s.1 98) (x3 + 1)) (x7) + -1 ∧ wkT ((s.1 98)) (x4) ((s.1 98) (x3 + 1)) (x7 + 1) = wkT ((s.1 98)) (x4) ((s.1 98) (x3 + 1)) (x7) + -1 := wk_s2 kv0 (by omega) (by omega) (by omega)
          refine ⟨(show (0 : Int) ≤ x6 + (-1) ∧ x6 + (-1) < (330 : Int) from by omega), ?_⟩
          have b49 : 0 ≤ s.1 107 (x6 + (-1)) ∧ s.1 107 (x6 + (-1)) ≤ 1 := iv_r107 hI _
          refine ⟨(show lf_R (s.1 107 (x6 + (-1))) from lf_Rof (by omega)), ?_⟩
          refine ⟨fun c50 => ?_, fun c50 => ?_⟩
          · skip
            replace c50 : s.1 107 (x6 + (-1)) ≠ 0 := c50
            exact sm_268_p437 hQ hX38 (show (304 - x7).toNat ≤ M38 from by omega) hI (show (1 : Int) ≤ x3 ∧ x3 ≤ (2208 : Int) from by omega) (show (97 : Int) ≤ x4 ∧ x4 ≤ (2212 : Int) from by omega) (show (0 : Int) ≤ x5 + (-1) ∧ x5 + (-1) ≤ (304 : Int) from by omega) (show (0 : Int) ≤ x6 + (-1) ∧ x6 + (-1) ≤ (304 : Int) from by omega) (show (0 : Int) ≤ x7 ∧ x7 ≤ (303 : Int) from by omega) (show wk_O ((s.1 98)) (x3) (x4) from by first | with_reducible assumption | assumption) (show 0 ≤ (s.1 98) (x3 + 1) ∧ (s.1 98) (x3 + 1) ≤ x7 ∧ (s.1 98) (x3 + 2) ≤ 304 ∧ 0 ≤ (x5 + (-1)) ∧ 0 ≤ (x6 + (-1)) ∧ x7 < (s.1 98) (x3 + 2) from by omega) (show (x5 + (-1)) ≤ x7 + 1 ∧ (x6 + (-1)) ≤ x7 + 1 from by omega) (show (x5 + (-1)) = wkN ((s.1 98)) (x4) ((s.1 98) (x3 + 1)) (x7 + 1) ∧ (x6 + (-1)) = wkT ((s.1 98)) (x4) ((s.1 98) (x3 + 1)) (x7 + 1) from by omega)
          · skip
            replace c50 : ¬ (s.1 107 (x6 + (-1)) ≠ 0) := c50
            refine ⟨(show (0 : Int) ≤ x5 + (-1) ∧ x5 + (-1) < (330 : Int) from by omega), ?_⟩
            refine ⟨(show (0 : Int) ≤ (x5 + (-1)) - 1 ∧ (x5 + (-1)) - 1 < (330 : Int) from by omega), ?_⟩
            exact sm_268_p437 hQ hX38 (show (304 - x7).toNat ≤ M38 from by omega) hI (show (1 : Int) ≤ x3 ∧ x3 ≤ (2208 : Int) from by omega) (show (97 : Int) ≤ x4 ∧ x4 ≤ (2212 : Int) from by omega) (show (0 : Int) ≤ x5 + (-1) ∧ x5 + (-1) ≤ (304 : Int) from by omega) (show (0 : Int) ≤ x6 + (-1) ∧ x6 + (-1) ≤ (304 : Int) from by omega) (show (0 : Int) ≤ x7 ∧ x7 ≤ (303 : Int) from by omega) (show wk_O ((s.1 98)) (x3) (x4) from by first | with_reducible assumption | assumption) (show 0 ≤ (s.1 98) (x3 + 1) ∧ (s.1 98) (x3 + 1) ≤ x7 ∧ (s.1 98) (x3 + 2) ≤ 304 ∧ 0 ≤ (x5 + (-1)) ∧ 0 ≤ (x6 + (-1)) ∧ x7 < (s.1 98) (x3 + 2) from by omega) (show (x5 + (-1)) ≤ x7 + 1 ∧ (x6 + (-1)) ≤ x7 + 1 from by omega) (show (x5 + (-1)) = wkN ((s.1 98)) (x4) ((s.1 98) (x3 + 1)) (x7 + 1) ∧ (x6 + (-1)) = wkT ((s.1 98)) (x4) ((s.1 98) (x3 + 1)) (x7 + 1) from by omega)
      · skip
        replace c15 : ¬ (s.1 98 (x4 + (2 * x7)) ≠ 31) := c15
        have b51 : (((s.1 98 (x4 + (2 * x7))) = 0 ∨ ((s.1 98 (x4 + (2 * x7))) = 1 ∧ 0 ≤ (s.1 98 ((x4 + (2 * x7)) + 1)) ∧ (s.1 98 ((x4 + (2 * x7)) + 1)) < 11) ∨ ((s.1 98 (x4 + (2 * x7))) ≠ 1 ∧ 0 ≤ (s.1 98 ((x4 + (2 * x7)) + 1)) ∧ (s.1 98 ((x4 + (2 * x7)) + 1)) < 80))) ∧ wkN ((s.1 98)) (x4) ((s.1 98) (x3 + 1)) (x7 + 1) = wkN ((s.1 98)) (x4) ((s.1 98) (x3 + 1)) (x7) + 1 ∧ wkT ((s.1 98)) (x4) ((s.1 98) (x3 + 1)) (x7 + 1) = wkT ((s.1 98)) (x4) ((s.1 98) (x3 + 1)) (x7) + 0 := wk_sv kv0 (by omega) (by omega) (by omega)
        exact sm_268_p94 hQ hX38 (show (304 - x7).toNat ≤ M38 from by omega) hI (show (1 : Int) ≤ x3 ∧ x3 ≤ (2208 : Int) from by omega) (show (97 : Int) ≤ x4 ∧ x4 ≤ (2212 : Int) from by omega) (show (0 : Int) ≤ x5 ∧ x5 ≤ (304 : Int) from by omega) (show (0 : Int) ≤ x6 ∧ x6 ≤ (304 : Int) from by omega) (show (0 : Int) ≤ x7 ∧ x7 ≤ (303 : Int) from by omega) (show (-2147483648 : Int) ≤ s.1 98 (x4 + (2 * x7)) ∧ s.1 98 (x4 + (2 * x7)) ≤ (31 : Int) from by omega) (show (-2147483648 : Int) ≤ s.1 98 ((x4 + (2 * x7)) + 1) ∧ s.1 98 ((x4 + (2 * x7)) + 1) ≤ (2147483647 : Int) from by omega) (show wk_O ((s.1 98)) (x3) (x4) from by first | with_reducible assumption | assumption) (show 0 ≤ (s.1 98) (x3 + 1) ∧ (s.1 98) (x3 + 1) ≤ x7 ∧ (s.1 98) (x3 + 2) ≤ 304 ∧ 0 ≤ x5 ∧ 0 ≤ x6 ∧ x7 < (s.1 98) (x3 + 2) from by omega) (show x5 ≤ x7 ∧ x6 ≤ x7 from by omega) (show x5 + 1 = wkN ((s.1 98)) (x4) ((s.1 98) (x3 + 1)) (x7 + 1) ∧ x6 = wkT ((s.1 98)) (x4) ((s.1 98) (x3 + 1)) (x7 + 1) from by omega) (show (s.1 98 (x4 + (2 * x7))) = 0 ∨ ((s.1 98 (x4 + (2 * x7))) = 1 ∧ 0 ≤ (s.1 98 ((x4 + (2 * x7)) + 1)) ∧ (s.1 98 ((x4 + (2 * x7)) + 1)) < 11) ∨ ((s.1 98 (x4 + (2 * x7))) ≠ 1 ∧ 0 ≤ (s.1 98 ((x4 + (2 * x7)) + 1)) ∧ (s.1 98 ((x4 + (2 * x7)) + 1)) < 80) from by omega)
theorem sm_268_p38L {Q : Int → lf_Z → Prop} {x3 : Int} {x4 : Int} {x5 : Int} {x6 : Int} {x7 : Int} {s : lf_Z} (hQ : ∀ (r : Int) (s' : lf_Z), iv_A s'.1 s'.2.2 → lf_fq [107] 1000000 true s.1 s.2.2 s'.1 s'.2.2 → ((-2147483648) ≤ r ∧ r ≤ 2147483647) → Q r s') (hI : iv_A s.1 s.2.2) (bx3 : 1 ≤ x3 ∧ x3 ≤ 2208) (bx4 : 97 ≤ x4 ∧ x4 ≤ 2212) (bx5 : 0 ≤ x5 ∧ x5 ≤ 304) (bx6 : 0 ≤ x6 ∧ x6 ≤ 304) (bx7 : 0 ≤ x7 ∧ x7 ≤ 304) (kv0 : wk_O (s.1 98) (x3) (x4)) (kv1 : 0 ≤ s.1 98 (x3 + 1) ∧ s.1 98 (x3 + 1) ≤ x7 ∧ s.1 98 (x3 + 2) ≤ 304 ∧ 0 ≤ x5 ∧ 0 ≤ x6 ∧ x5 ≤ x7 ∧ x6 ≤ x7 ∧ x7 ≤ s.1 98 (x3 + 2)) (kv2 : x5 = wkN (s.1 98) (x4) (s.1 98 (x3 + 1)) (x7) ∧ x6 = wkT (s.1 98) (x4) (s.1 98 (x3 + 1)) (x7)) : fm_268_p38L Q x3 x4 x5 x6 x7 s := by
  intro X38 hX
  have key : ∀ (m9 : Nat) (x5 : Int) (x6 : Int) (x7 : Int) (s' : lf_Z), iv_A s'.1 s'.2.2 → lf_fq [107] 1000000 true s.1 s.2.2 s'.1 s'.2.2 → 0 ≤ x5 ∧ x5 ≤ 304 → 0 ≤ x6 ∧ x6 ≤ 304 → 0 ≤ x7 ∧ x7 ≤ 304 → (wk_O (s'.1 98) (x3) (x4)) → (0 ≤ s'.1 98 (x3 + 1) ∧ s'.1 98 (x3 + 1) ≤ x7 ∧ s'.1 98 (x3 + 2) ≤ 304 ∧ 0 ≤ x5 ∧ 0 ≤ x6 ∧ x5 ≤ x7 ∧ x6 ≤ x7 ∧ x7 ≤ s'.1 98 (x3 + 2)) → (x5 = wkN (s'.1 98) (x4) (s'.1 98 (x3 + 1)) (x7) ∧ x6 = wkT (s'.1 98) (x4) (s'.1 98 (x3 + 1)) (x7)) → (304 - x7).toNat < m9 → X38 x5 x6 x7 s' := by
    intro m9
    induction m9 with
    | zero => intro x5 x6 x7 s' _ _ bx5 bx6 bx7 kv0 kv1 kv2 h9; exact absurd h9 (Nat.not_lt_zero _)
    | succ m9 ih => intro x5 x6 x7 s' i7 f7 bx5 bx6 bx7 kv0 kv1 kv2 h9; exact hX _ _ _ _ (sm_268_p38 (fun r9 t9 i9 f9 => hQ r9 t9 i9 (lf_fq_tr f7 f9))   (fun x5' x6' x7' t8 i8 f8 bx5' bx6' bx7' kv0' kv1' kv2' h8 => ih x5' x6' x7' t8 i8 (lf_fq_tr f7 f8) bx5' bx6' bx7' kv0' kv1' kv2' (by omega)) (Nat.le_refl _)  i7  bx3 bx4 bx5 bx6 bx7  kv0 kv1 kv2)
  exact key _ _ _ _ s hI lf_fq_rf bx5 bx6 bx7 kv0 kv1 kv2 (Nat.lt_succ_self _)
theorem sm_268 {a1 : Int} {a2 : Int} {Q : Int → lf_Z → Prop} {s : lf_Z} (hI : iv_A s.1 s.2.2) (ba1 : 0 ≤ a1 ∧ a1 ≤ 3) (ba2 : 0 ≤ a2 ∧ a2 ≤ 23) (kp0 : wk_O (s.1 98) (705 * a1 + 1 + 4 * a2) (705 * a1 + 97)) (hQ : ∀ (r : Int) (s' : lf_Z), iv_A s'.1 s'.2.2 → lf_fq [107] 1000000 true s.1 s.2.2 s'.1 s'.2.2 → ((-2147483648) ≤ r ∧ r ≤ 2147483647) → Q r s') : fm_268 a1 a2 Q s := by
  unfold fm_268
  refine ⟨(show (0 : Int) ≤ (((705 * a1) + 1) + (4 * a2)) + 1 ∧ (((705 * a1) + 1) + (4 * a2)) + 1 < (2820 : Int) from by omega), ?_⟩
  have b1 : (-2147483648) ≤ s.1 98 ((((705 * a1) + 1) + (4 * a2)) + 1) ∧ s.1 98 ((((705 * a1) + 1) + (4 * a2)) + 1) ≤ 2147483647 := iv_full hI
  have b2 : 0 ≤ (s.1 98) ((((705 * a1) + 1) + (4 * a2)) + 1) ∧ (s.1 98) ((((705 * a1) + 1) + (4 * a2)) + 1) ≤ (s.1 98) ((((705 * a1) + 1) + (4 * a2)) + 2) ∧ (s.1 98) ((((705 * a1) + 1) + (4 * a2)) + 2) ≤ 304 := wk_O3 kp0
  have b3 : wkN ((s.1 98)) (((705 * a1) + 97)) ((s.1 98) ((((705 * a1) + 1) + (4 * a2)) + 1)) ((s.1 98) ((((705 * a1) + 1) + (4 * a2)) + 1)) = 0 ∧ wkT ((s.1 98)) (((705 * a1) + 97)) ((s.1 98) ((((705 * a1) + 1) + (4 * a2)) + 1)) ((s.1 98) ((((705 * a1) + 1) + (4 * a2)) + 1)) = 0 := ⟨wkN_0, wkT_0⟩
  exact sm_268_p38L hQ hI (show (1 : Int) ≤ ((705 * a1) + 1) + (4 * a2) ∧ ((705 * a1) + 1) + (4 * a2) ≤ (2208 : Int) from by omega) (show (97 : Int) ≤ (705 * a1) + 97 ∧ (705 * a1) + 97 ≤ (2212 : Int) from by omega) (show (0 : Int) ≤ 0 ∧ 0 ≤ (304 : Int) from by omega) (show (0 : Int) ≤ 0 ∧ 0 ≤ (304 : Int) from by omega) (show (0 : Int) ≤ s.1 98 ((((705 * a1) + 1) + (4 * a2)) + 1) ∧ s.1 98 ((((705 * a1) + 1) + (4 * a2)) + 1) ≤ (304 : Int) from by omega) (show wk_O ((s.1 98)) ((((705 * a1) + 1) + (4 * a2))) (((705 * a1) + 97)) from by first | with_reducible assumption | assumption) (show 0 ≤ (s.1 98) ((((705 * a1) + 1) + (4 * a2)) + 1) ∧ (s.1 98) ((((705 * a1) + 1) + (4 * a2)) + 1) ≤ (s.1 98 ((((705 * a1) + 1) + (4 * a2)) + 1)) ∧ (s.1 98) ((((705 * a1) + 1) + (4 * a2)) + 2) ≤ 304 ∧ 0 ≤ 0 ∧ 0 ≤ 0 ∧ 0 ≤ (s.1 98 ((((705 * a1) + 1) + (4 * a2)) + 1)) ∧ 0 ≤ (s.1 98 ((((705 * a1) + 1) + (4 * a2)) + 1)) ∧ (s.1 98 ((((705 * a1) + 1) + (4 * a2)) + 1)) ≤ (s.1 98) ((((705 * a1) + 1) + (4 * a2)) + 2) from by omega) (show 0 = wkN ((s.1 98)) (((705 * a1) + 97)) ((s.1 98) ((((705 * a1) + 1) + (4 * a2)) + 1)) ((s.1 98 ((((705 * a1) + 1) + (4 * a2)) + 1))) ∧ 0 = wkT ((s.1 98)) (((705 * a1) + 97)) ((s.1 98) ((((705 * a1) + 1) + (4 * a2)) + 1)) ((s.1 98 ((((705 * a1) + 1) + (4 * a2)) + 1))) from by omega)
-- fm_267 Model.says 95 i i i i
theorem sm_267_p3 {X3 : Int → lf_Z → Prop} {Q : Int → lf_Z → Prop} {x1 : Int} {x2 : Int} {x3 : Int} {x4 : Int} {x5 : Int} {s : lf_Z} (hQ : ∀ (r : Int) (s' : lf_Z), iv_A s'.1 s'.2.2 → lf_fq [107] 1000000 true s.1 s.2.2 s'.1 s'.2.2 → (0 ≤ r ∧ r ≤ 100) → Q r s') {M3 : Nat} (hX3 : ∀ (x5 : Int) (s' : lf_Z), iv_A s'.1 s'.2.2 → lf_fq [107] 1000000 true s.1 s.2.2 s'.1 s'.2.2 → 0 ≤ x5 ∧ x5 ≤ 24 → (24 - x5).toNat < M3 → X3 x5 s') (hM3 : (24 - x5).toNat ≤ M3) (hI : iv_A s.1 s.2.2) (bx1 : (-1) ≤ x1 ∧ x1 ≤ 3) (bx2 : 0 ≤ x2 ∧ x2 ≤ 2) (bx3 : 0 ≤ x3 ∧ x3 ≤ 100) (bx4 : 2 ≤ x4 ∧ x4 ≤ 100) (bx5 : 0 ≤ x5 ∧ x5 ≤ 24) : fm_267_p3 Q x1 x2 x3 x4 X3 x5 s := by
  unfold fm_267_p3
  refine ⟨(show lf_R x1 from lf_Rof (by omega)), ?_⟩
  refine ⟨fun c1 => ?_, fun c1 => ?_⟩
  · skip
    replace c1 : x1 < 0 := c1
    exact hQ x3 s hI (lf_fq_rf) (show (0 : Int) ≤ x3 ∧ x3 ≤ (100 : Int) from by omega)
  · skip
    replace c1 : ¬ (x1 < 0) := c1
    refine ⟨(show (0 : Int) ≤ 705 * x1 ∧ 705 * x1 < (2820 : Int) from by omega), ?_⟩
    have b2 : 0 ≤ s.1 98 (705 * x1) ∧ s.1 98 (705 * x1) ≤ 24 := iv_rd98 hI (iv_f876c6d9a (x1) (by omega) (by omega))
    refine ⟨(show lf_R x5 from lf_Rof (by omega)), ?_⟩
    refine ⟨(show lf_R (s.1 98 (705 * x1)) from lf_Rof (by omega)), ?_⟩
    refine ⟨fun c3 => ?_, fun c3 => ?_⟩
    · skip
      replace c3 : s.1 98 (705 * x1) ≤ x5 := c3
      exact hQ x3 s hI (lf_fq_rf) (show (0 : Int) ≤ x3 ∧ x3 ≤ (100 : Int) from by omega)
    · skip
      replace c3 : ¬ (s.1 98 (705 * x1) ≤ x5) := c3
      refine ⟨(show (0 : Int) ≤ ((705 * x1) + 1) + (4 * x5) ∧ ((705 * x1) + 1) + (4 * x5) < (2820 : Int) from by omega), ?_⟩
      have b4 : (-2147483648) ≤ s.1 98 (((705 * x1) + 1) + (4 * x5)) ∧ s.1 98 (((705 * x1) + 1) + (4 * x5)) ≤ 2147483647 := iv_full hI
      refine ⟨(show lf_R (s.1 98 (((705 * x1) + 1) + (4 * x5))) from lf_Rof (by omega)), ?_⟩
      refine ⟨(show lf_R x2 from lf_Rof (by omega)), ?_⟩
      refine ⟨fun c5 => ?_, fun c5 => ?_⟩
      · skip
        replace c5 : s.1 98 (((705 * x1) + 1) + (4 * x5)) = x2 := c5
        have b6 : wk_O ((s.1 98)) (705 * x1 + 1 + 4 * x5) (705 * x1 + 97) := wk_law hI (by omega) (by omega) (by omega) (by omega) (by omega) (by omega)
        refine sm_268 hI (show (0 : Int) ≤ x1 ∧ x1 ≤ (3 : Int) from by omega) (show (0 : Int) ≤ x5 ∧ x5 ≤ (23 : Int) from by omega) (show wk_O ((s.1 98)) (705 * x1 + 1 + 4 * x5) (705 * x1 + 97) from by first | with_reducible assumption | assumption) (fun r29 s28 hI8 fr7 q9 => ?_)
        have fr10 : lf_fq [107] 1000000 true s.1 s.2.2 s28.1 s28.2.2 := lf_fq_tr (lf_fq_rf) (lf_fq_wk fr7 rfl (by decide) (by decide))
        refine ⟨(show lf_R r29 from lf_Rof (by omega)), ?_⟩
        refine ⟨fun c11 => ?_, fun c11 => ?_⟩
        · skip
          replace c11 : 0 ≤ r29 := c11
          refine ⟨(show lf_R x4 from lf_Rof (by omega)), ?_⟩
          refine ⟨fun c12 => ?_, fun c12 => ?_⟩
          · skip
            replace c12 : r29 ≤ x4 := c12
            exact hQ r29 s28 hI8 fr10 (show (0 : Int) ≤ r29 ∧ r29 ≤ (100 : Int) from by omega)
          · skip
            replace c12 : ¬ (r29 ≤ x4) := c12
            exact hQ x4 s28 hI8 fr10 (show (0 : Int) ≤ x4 ∧ x4 ≤ (100 : Int) from by omega)
        · skip
          replace c11 : ¬ (0 ≤ r29) := c11
          exact hQ 0 s28 hI8 fr10 (show (0 : Int) ≤ 0 ∧ 0 ≤ (100 : Int) from by omega)
      · skip
        replace c5 : ¬ (s.1 98 (((705 * x1) + 1) + (4 * x5)) = x2) := c5
        exact hX3 (x5 + 1) s hI (lf_fq_rf) (show (0 : Int) ≤ x5 + 1 ∧ x5 + 1 ≤ (24 : Int) from by omega) (show (24 - (x5 + 1)).toNat < M3 from by omega)
theorem sm_267_p3L {Q : Int → lf_Z → Prop} {x1 : Int} {x2 : Int} {x3 : Int} {x4 : Int} {x5 : Int} {s : lf_Z} (hQ : ∀ (r : Int) (s' : lf_Z), iv_A s'.1 s'.2.2 → lf_fq [107] 1000000 true s.1 s.2.2 s'.1 s'.2.2 → (0 ≤ r ∧ r ≤ 100) → Q r s') (hI : iv_A s.1 s.2.2) (bx1 : (-1) ≤ x1 ∧ x1 ≤ 3) (bx2 : 0 ≤ x2 ∧ x2 ≤ 2) (bx3 : 0 ≤ x3 ∧ x3 ≤ 100) (bx4 : 2 ≤ x4 ∧ x4 ≤ 100) (bx5 : 0 ≤ x5 ∧ x5 ≤ 24) : fm_267_p3L Q x1 x2 x3 x4 x5 s := by
  intro X3 hX
  have key : ∀ (m9 : Nat) (x5 : Int) (s' : lf_Z), iv_A s'.1 s'.2.2 → lf_fq [107] 1000000 true s.1 s.2.2 s'.1 s'.2.2 → 0 ≤ x5 ∧ x5 ≤ 24 → (24 - x5).toNat < m9 → X3 x5 s' := by
    intro m9
    induction m9 with
    | zero => intro x5 s' _ _ bx5 h9; exact absurd h9 (Nat.not_lt_zero _)
    | succ m9 ih => intro x5 s' i7 f7 bx5 h9; exact hX _ _ (sm_267_p3 (fun r9 t9 i9 f9 => hQ r9 t9 i9 (lf_fq_tr f7 f9))   (fun x5' t8 i8 f8 bx5' h8 => ih x5' t8 i8 (lf_fq_tr f7 f8) bx5' (by omega)) (Nat.le_refl _)  i7  bx1 bx2 bx3 bx4 bx5  )
  exact key _ _ s hI lf_fq_rf bx5 (Nat.lt_succ_self _)
theorem sm_267 {a1 : Int} {a2 : Int} {a3 : Int} {a4 : Int} {Q : Int → lf_Z → Prop} {s : lf_Z} (hI : iv_A s.1 s.2.2) (ba1 : (-1) ≤ a1 ∧ a1 ≤ 3) (ba2 : 0 ≤ a2 ∧ a2 ≤ 2) (ba3 : 0 ≤ a3 ∧ a3 ≤ 100) (ba4 : 2 ≤ a4 ∧ a4 ≤ 100) (hQ : ∀ (r : Int) (s' : lf_Z), iv_A s'.1 s'.2.2 → lf_fq [107] 1000000 true s.1 s.2.2 s'.1 s'.2.2 → (0 ≤ r ∧ r ≤ 100) → Q r s') : fm_267 a1 a2 a3 a4 Q s := by
  unfold fm_267
  exact sm_267_p3L hQ hI (show (-1 : Int) ≤ a1 ∧ a1 ≤ (3 : Int) from by omega) (show (0 : Int) ≤ a2 ∧ a2 ≤ (2 : Int) from by omega) (show (0 : Int) ≤ a3 ∧ a3 ≤ (100 : Int) from by omega) (show (2 : Int) ≤ a4 ∧ a4 ≤ (100 : Int) from by omega) (show (0 : Int) ≤ 0 ∧ 0 ≤ (24 : Int) from by omega)
-- fm_263 Model.paceOf 95 i
theorem sm_263_p40 {Q : Int → lf_Z → Prop} {y1 : Int} {y2 : Int} {s : lf_Z} (hQ : ∀ (r : Int) (s' : lf_Z), iv_A s'.1 s'.2.2 → lf_fq [104, 107] 1000000 true s.1 s.2.2 s'.1 s'.2.2 → (0 ≤ r ∧ r ≤ 100) → Q r s') (hI : iv_A s.1 s.2.2) (by1 : 4 ≤ y1 ∧ y1 ≤ 4) (by2 : (-2147483648) ≤ y2 ∧ y2 ≤ 2147483647) : fm_263_p40 Q y1 y2 s := by
  unfold fm_263_p40
  refine ⟨(show (0 : Int) ≤ y1 ∧ y1 < (11 : Int) from by omega), ?_⟩
  have hI11 : iv_A (lf_up s.1 104 y1 y2) s.2.2 := iv_w104 hI (by omega)
  have fr12 : lf_fq [104, 107] 1000000 true s.1 s.2.2 (lf_up s.1 104 y1 y2) s.2.2 := lf_fq_up (lf_fq_rf) rfl (fun h => absurd h (by decide))
  have b13 : (-1) ≤ s.1 96 8 ∧ s.1 96 8 ≤ 3 := (show (-1) ≤ (lf_up s.1 104 y1 y2) 96 8 ∧ (lf_up s.1 104 y1 y2) 96 8 ≤ 3 from iv_rd96 hI11 (iv_fc0e1ed14 (by omega)))
  refine sm_267 hI11 (show (-1 : Int) ≤ s.1 96 8 ∧ s.1 96 8 ≤ (3 : Int) from by omega) (show (0 : Int) ≤ 0 ∧ 0 ≤ (2 : Int) from by omega) (show (0 : Int) ≤ 1 ∧ 1 ≤ (100 : Int) from by omega) (show (2 : Int) ≤ 2 ∧ 2 ≤ (100 : Int) from by omega) (fun r35 s34 hI15 fr14 q16 => ?_)
  have fr17 : lf_fq [104, 107] 1000000 true s.1 s.2.2 s34.1 s34.2.2 := lf_fq_tr fr12 (lf_fq_wk fr14 rfl (by decide) (by decide))
  exact hQ r35 s34 hI15 fr17 (show (0 : Int) ≤ r35 ∧ r35 ≤ (100 : Int) from by omega)
theorem sm_263 {a1 : Int} {Q : Int → lf_Z → Prop} {s : lf_Z} (hI : iv_A s.1 s.2.2) (ba1 : 0 ≤ a1 ∧ a1 ≤ 3) (hQ : ∀ (r : Int) (s' : lf_Z), iv_A s'.1 s'.2.2 → lf_fq [104, 107] 1000000 true s.1 s.2.2 s'.1 s'.2.2 → (0 ≤ r ∧ r ≤ 100) → Q r s') : fm_263 a1 Q s := by
  unfold fm_263
  refine sm_242 hI (show (0 : Int) ≤ a1 ∧ a1 ≤ (3 : Int) from by omega) (fun r22 q1 => ?_)
  obtain ⟨q1, q1x⟩ := q1
  replace q1x : r22 = s.1 96 (114 + 3 * a1) := q1x
  refine sm_255 hI (show (0 : Int) ≤ a1 ∧ a1 ≤ (3 : Int) from by omega) (fun r24 q2 => ?_)
  refine sm_264 hI (show (0 : Int) ≤ r22 ∧ r22 ≤ (24 : Int) from by omega) (show (0 : Int) ≤ r24 ∧ r24 ≤ (11 : Int) from by omega) (fun s25 hI4 fr3 => ?_)
  have fr6 : lf_fq [104, 107] 1000000 true s.1 s.2.2 s25.1 s25.2.2 := lf_fq_tr (lf_fq_rf) (lf_fq_wk fr3 rfl (by decide) (by decide))
  refine sm_256 hI4 (show (0 : Int) ≤ a1 ∧ a1 ≤ (3 : Int) from by omega) (fun r27 q7 => ?_)
  refine ⟨(show lf_R r27 from lf_Rof (by omega)), ?_⟩
  refine ⟨fun c8 => ?_, fun c8 => ?_⟩
  · skip
    replace c8 : 0 ≤ r27 := c8
    refine sm_256 hI4 (show (0 : Int) ≤ a1 ∧ a1 ≤ (3 : Int) from by omega) (fun r30 q9 => ?_)
    refine sm_266 hI4 (show (-1 : Int) ≤ r30 ∧ r30 ≤ (11 : Int) from by omega) (fun r32 q10 => ?_)
    exact sm_263_p40 (fun r9 t9 i9 f9 => hQ r9 t9 i9 (lf_fq_tr fr6 f9)) hI4 (show (4 : Int) ≤ 4 ∧ 4 ≤ (4 : Int) from by omega) (show (-2147483648 : Int) ≤ r32 ∧ r32 ≤ (2147483647 : Int) from by omega)
  · skip
    replace c8 : ¬ (0 ≤ r27) := c8
    exact sm_263_p40 (fun r9 t9 i9 f9 => hQ r9 t9 i9 (lf_fq_tr fr6 f9)) hI4 (show (4 : Int) ≤ 4 ∧ 4 ≤ (4 : Int) from by omega) (show (-2147483648 : Int) ≤ 0 ∧ 0 ≤ (2147483647 : Int) from by omega)
