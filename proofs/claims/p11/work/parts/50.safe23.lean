-- fm_322 Model.turned 95 i i
theorem sm_322 {a1 : Int} {a2 : Int} {Q : Int → lf_Z → Prop} {s : lf_Z} (hI : iv_A s.1 s.2.2) (ba1 : (-2147483648) ≤ a1 ∧ a1 ≤ 2147483647) (ba2 : 0 ≤ a2 ∧ a2 ≤ 1) (hQ : ∀ (r : Int), ((-2147483648) ≤ r ∧ r ≤ 2147483647) → Q r s) : fm_322 a1 a2 Q s := by
  unfold fm_322
  refine sm_183 hI (show (-2147483648 : Int) ≤ a1 ∧ a1 ≤ (2147483647 : Int) from by omega) (show (-1 : Int) ≤ 0 ∧ 0 ≤ (97 : Int) from by omega) (show (-1 : Int) ≤ 3 ∧ 3 ≤ (9999 : Int) from by omega) (fun z22 q1 => ?_)
  refine ⟨fun c2 => ?_, fun c2 => ?_⟩
  · skip
    have dc2 := q1.2 c2
    exact hQ (-1) (show (-2147483648 : Int) ≤ (-1) ∧ (-1) ≤ (2147483647 : Int) from by omega)
  · skip
    have dc2 := q1.1 c2
    refine sm_323 hI (show (-1 : Int) ≤ a1 ∧ a1 ≤ (3 : Int) from by omega) (show (0 : Int) ≤ 0 ∧ 0 ≤ (1 : Int) from by omega) (fun r24 ps4 q3 => ?_)
    replace ps4 : r24 = lf_tm ((s.1 96)) (a1) (0) ((s.1 96 11)) := ps4
    refine ⟨(show lf_R r24 from lf_Rof (by omega)), ?_⟩
    refine ⟨fun c5 => ?_, fun c5 => ?_⟩
    · skip
      replace c5 : r24 ≠ 0 := c5
      refine sm_323 hI (show (-1 : Int) ≤ a1 ∧ a1 ≤ (3 : Int) from by omega) (show (0 : Int) ≤ 1 ∧ 1 ≤ (1 : Int) from by omega) (fun r27 ps7 q6 => ?_)
      replace ps7 : r27 = lf_tm ((s.1 96)) (a1) (1) ((s.1 96 11)) := ps7
      refine ⟨(show lf_R r27 from lf_Rof (by omega)), ?_⟩
      refine sm_323 hI (show (-1 : Int) ≤ a1 ∧ a1 ≤ (3 : Int) from by omega) (show (0 : Int) ≤ 0 ∧ 0 ≤ (1 : Int) from by omega) (fun r30 ps9 q8 => ?_)
      replace ps9 : r30 = lf_tm ((s.1 96)) (a1) (0) ((s.1 96 11)) := ps9
      refine ⟨(show lf_R r30 from lf_Rof (by omega)), ?_⟩
      have b10 : lf_wl r27 = r27 := lf_wlR (by omega)
      have b11 : lf_wl r30 = r30 := lf_wlR (by omega)
      refine sm_291 hI (show (0 : Int) ≤ a2 ∧ a2 ≤ (1 : Int) from by omega) (show lf_wl r30 ≠ 0 from by omega) (fun r33 => ?_)
      have b13 : (-2147483648) ≤ lf_w (lf_wl r33) ∧ lf_w (lf_wl r33) ≤ 2147483647 := lf_wB
      exact hQ (lf_w (lf_wl r33)) (show (-2147483648 : Int) ≤ lf_w (lf_wl r33) ∧ lf_w (lf_wl r33) ≤ (2147483647 : Int) from by omega)
    · skip
      replace c5 : ¬ (r24 ≠ 0) := c5
      exact hQ (-1) (show (-2147483648 : Int) ≤ (-1) ∧ (-1) ≤ (2147483647 : Int) from by omega)
-- fm_172 Notes.isBetter 25 i i
theorem sm_172 {a1 : Int} {a2 : Int} {Q : Bool → lf_Z → Prop} {s : lf_Z} (hI : iv_A s.1 s.2.2) (ba1 : 0 ≤ a1 ∧ a1 ≤ 3) (ba2 : 0 ≤ a2 ∧ a2 ≤ 3) (hQ : ∀ (z : Bool), Q z s) : fm_172 a1 a2 Q s := by
  unfold fm_172
  refine ⟨(show (0 : Int) ≤ a1 ∧ a1 < (4 : Int) from by omega), ?_⟩
  have b1 : (-2147483648) ≤ s.1 30 a1 ∧ s.1 30 a1 ≤ 2147483647 := iv_full hI
  refine ⟨(show (0 : Int) ≤ a2 ∧ a2 < (4 : Int) from by omega), ?_⟩
  have b2 : (-2147483648) ≤ s.1 29 a2 ∧ s.1 29 a2 ≤ 2147483647 := iv_full hI
  have b3 : (-2147483648) ≤ lf_w ((s.1 30 a1) * (s.1 29 a2)) ∧ lf_w ((s.1 30 a1) * (s.1 29 a2)) ≤ 2147483647 := lf_wB
  have b4 : (-2147483648) ≤ s.1 30 a2 ∧ s.1 30 a2 ≤ 2147483647 := iv_full hI
  have b5 : (-2147483648) ≤ s.1 29 a1 ∧ s.1 29 a1 ≤ 2147483647 := iv_full hI
  have b6 : (-2147483648) ≤ lf_w ((s.1 30 a2) * (s.1 29 a1)) ∧ lf_w ((s.1 30 a2) * (s.1 29 a1)) ≤ 2147483647 := lf_wB
  refine ⟨fun c7 => ?_, fun c7 => ?_⟩
  · skip
    replace c7 : lf_w ((s.1 30 a2) * (s.1 29 a1)) < lf_w ((s.1 30 a1) * (s.1 29 a2)) := c7
    exact hQ true
  · skip
    replace c7 : ¬ (lf_w ((s.1 30 a2) * (s.1 29 a1)) < lf_w ((s.1 30 a1) * (s.1 29 a2))) := c7
    refine ⟨fun c8 => ?_, fun c8 => ?_⟩
    · skip
      replace c8 : lf_w ((s.1 30 a1) * (s.1 29 a2)) ≠ lf_w ((s.1 30 a2) * (s.1 29 a1)) := c8
      exact hQ false
    · skip
      replace c8 : ¬ (lf_w ((s.1 30 a1) * (s.1 29 a2)) ≠ lf_w ((s.1 30 a2) * (s.1 29 a1))) := c8
      refine ⟨(show lf_R (s.1 29 a1) from lf_Rof (by omega)), ?_⟩
      refine ⟨(show lf_R (s.1 29 a2) from lf_Rof (by omega)), ?_⟩
      refine ⟨fun c9 => ?_, fun c9 => ?_⟩
      · skip
        replace c9 : s.1 29 a1 ≤ s.1 29 a2 := c9
        exact hQ false
      · skip
        replace c9 : ¬ (s.1 29 a1 ≤ s.1 29 a2) := c9
        exact hQ true
-- fm_171 Notes.bestHow 25
theorem sm_171_p34 {X4 : Int → Int → lf_Z → Prop} {Q : Int → lf_Z → Prop} {x1 : Int} {x2 : Int} {s : lf_Z} (hQ : ∀ (r : Int), ((-1) ≤ r ∧ r ≤ 3) → Q r s) {M4 : Nat} (hX4 : ∀ (x1 : Int) (x2 : Int), (-1) ≤ x1 ∧ x1 ≤ 3 → 0 ≤ x2 ∧ x2 ≤ 4 → (4 - x2).toNat < M4 → X4 x1 x2 s) (hM4 : (4 - x2).toNat ≤ M4) (hI : iv_A s.1 s.2.2) (bx1 : (-1) ≤ x1 ∧ x1 ≤ 3) (bx2 : 0 ≤ x2 ∧ x2 ≤ 3) : fm_171_p34 X4 Q x1 x2 s := by
  unfold fm_171_p34
  exact hX4 (x1) (x2 + 1) (show (-1 : Int) ≤ x1 ∧ x1 ≤ (3 : Int) from by omega) (show (0 : Int) ≤ x2 + 1 ∧ x2 + 1 ≤ (4 : Int) from by omega) (show (4 - (x2 + 1)).toNat < M4 from by omega)
theorem sm_171_p32 {X4 : Int → Int → lf_Z → Prop} {Q : Int → lf_Z → Prop} {x2 : Int} {s : lf_Z} (hQ : ∀ (r : Int), ((-1) ≤ r ∧ r ≤ 3) → Q r s) {M4 : Nat} (hX4 : ∀ (x1 : Int) (x2 : Int), (-1) ≤ x1 ∧ x1 ≤ 3 → 0 ≤ x2 ∧ x2 ≤ 4 → (4 - x2).toNat < M4 → X4 x1 x2 s) (hM4 : (4 - x2).toNat ≤ M4) (hI : iv_A s.1 s.2.2) (bx2 : 0 ≤ x2 ∧ x2 ≤ 3) : fm_171_p32 X4 Q x2 s := by
  unfold fm_171_p32
  exact sm_171_p34 hQ hX4 (show (4 - x2).toNat ≤ M4 from by omega) hI (show (-1 : Int) ≤ x2 ∧ x2 ≤ (3 : Int) from by omega) (show (0 : Int) ≤ x2 ∧ x2 ≤ (3 : Int) from by omega)
theorem sm_171_p4 {X4 : Int → Int → lf_Z → Prop} {Q : Int → lf_Z → Prop} {x1 : Int} {x2 : Int} {s : lf_Z} (hQ : ∀ (r : Int), ((-1) ≤ r ∧ r ≤ 3) → Q r s) {M4 : Nat} (hX4 : ∀ (x1 : Int) (x2 : Int), (-1) ≤ x1 ∧ x1 ≤ 3 → 0 ≤ x2 ∧ x2 ≤ 4 → (4 - x2).toNat < M4 → X4 x1 x2 s) (hM4 : (4 - x2).toNat ≤ M4) (hI : iv_A s.1 s.2.2) (bx1 : (-1) ≤ x1 ∧ x1 ≤ 3) (bx2 : 0 ≤ x2 ∧ x2 ≤ 4) : fm_171_p4 Q X4 x1 x2 s := by
  unfold fm_171_p4
  refine ⟨(show lf_R x2 from lf_Rof (by omega)), ?_⟩
  refine ⟨fun c1 => ?_, fun c1 => ?_⟩
  · skip
    replace c1 : 4 ≤ x2 := c1
    exact hQ x1 (show (-1 : Int) ≤ x1 ∧ x1 ≤ (3 : Int) from by omega)
  · skip
    replace c1 : ¬ (4 ≤ x2) := c1
    refine ⟨(show (0 : Int) ≤ x2 ∧ x2 < (4 : Int) from by omega), ?_⟩
    have b2 : (-2147483648) ≤ s.1 29 x2 ∧ s.1 29 x2 ≤ 2147483647 := iv_full hI
    refine ⟨(show lf_R (s.1 29 x2) from lf_Rof (by omega)), ?_⟩
    refine ⟨fun c3 => ?_, fun c3 => ?_⟩
    · skip
      replace c3 : s.1 29 x2 ≤ 0 := c3
      exact sm_171_p34 hQ hX4 (show (4 - x2).toNat ≤ M4 from by omega) hI (show (-1 : Int) ≤ x1 ∧ x1 ≤ (3 : Int) from by omega) (show (0 : Int) ≤ x2 ∧ x2 ≤ (3 : Int) from by omega)
    · skip
      replace c3 : ¬ (s.1 29 x2 ≤ 0) := c3
      refine ⟨(show lf_R x1 from lf_Rof (by omega)), ?_⟩
      refine ⟨fun c4 => ?_, fun c4 => ?_⟩
      · skip
        replace c4 : x1 = (-1) := c4
        exact sm_171_p32 hQ hX4 (show (4 - x2).toNat ≤ M4 from by omega) hI (show (0 : Int) ≤ x2 ∧ x2 ≤ (3 : Int) from by omega)
      · skip
        replace c4 : ¬ (x1 = (-1)) := c4
        refine sm_172 hI (show (0 : Int) ≤ x2 ∧ x2 ≤ (3 : Int) from by omega) (show (0 : Int) ≤ x1 ∧ x1 ≤ (3 : Int) from by omega) (fun z26 => ?_)
        refine ⟨fun c6 => ?_, fun c6 => ?_⟩
        · skip
          exact sm_171_p34 hQ hX4 (show (4 - x2).toNat ≤ M4 from by omega) hI (show (-1 : Int) ≤ x1 ∧ x1 ≤ (3 : Int) from by omega) (show (0 : Int) ≤ x2 ∧ x2 ≤ (3 : Int) from by omega)
        · skip
          exact sm_171_p32 hQ hX4 (show (4 - x2).toNat ≤ M4 from by omega) hI (show (0 : Int) ≤ x2 ∧ x2 ≤ (3 : Int) from by omega)
theorem sm_171_p4L {Q : Int → lf_Z → Prop} {x1 : Int} {x2 : Int} {s : lf_Z} (hQ : ∀ (r : Int), ((-1) ≤ r ∧ r ≤ 3) → Q r s) (hI : iv_A s.1 s.2.2) (bx1 : (-1) ≤ x1 ∧ x1 ≤ 3) (bx2 : 0 ≤ x2 ∧ x2 ≤ 4) : fm_171_p4L Q x1 x2 s := by
  intro X4 hX
  have key : ∀ (m9 : Nat) (x1 : Int) (x2 : Int), (-1) ≤ x1 ∧ x1 ≤ 3 → 0 ≤ x2 ∧ x2 ≤ 4 → (4 - x2).toNat < m9 → X4 x1 x2 s := by
    intro m9
    induction m9 with
    | zero => intro x1 x2 bx1 bx2 h9; exact absurd h9 (Nat.not_lt_zero _)
    | succ m9 ih => intro x1 x2 bx1 bx2 h9; exact hX _ _ _ (sm_171_p4 hQ   (fun x1' x2' bx1' bx2' h8 => ih x1' x2' bx1' bx2' (by omega)) (Nat.le_refl _)  hI  bx1 bx2  )
  exact key _ _ _ bx1 bx2   (Nat.lt_succ_self _)
theorem sm_171 {Q : Int → lf_Z → Prop} {s : lf_Z} (hI : iv_A s.1 s.2.2) (hQ : ∀ (r : Int), ((-1) ≤ r ∧ r ≤ 3) → Q r s) : fm_171 Q s := by
  unfold fm_171
  exact sm_171_p4L hQ hI (show (-1 : Int) ≤ (-1) ∧ (-1) ≤ (3 : Int) from by omega) (show (0 : Int) ≤ 0 ∧ 0 ≤ (4 : Int) from by omega)
-- fm_170 ElevenBullocks.best 0
theorem sm_170 {Q : Int → lf_Z → Prop} {s : lf_Z} (hI : iv_A s.1 s.2.2) (hQ : ∀ (r : Int), ((-1) ≤ r ∧ r ≤ 3) → Q r s) : fm_170 Q s := by
  unfold fm_170
  refine sm_171 hI (fun r22 q1 => ?_)
  exact hQ r22 (show (-1 : Int) ≤ r22 ∧ r22 ≤ (3 : Int) from by omega)
-- fm_324 Model.best 95
theorem sm_324_p77 {X4 : Int → Int → lf_Z → Prop} {Q : Int → lf_Z → Prop} {x1 : Int} {x2 : Int} {s : lf_Z} (hQ : ∀ (r : Int), ((-1) ≤ r ∧ r ≤ 3) → Q r s) {M4 : Nat} (hX4 : ∀ (x1 : Int) (x2 : Int), (-1) ≤ x1 ∧ x1 ≤ 3 → 0 ≤ x2 ∧ x2 ≤ 4 → (4 - x2).toNat < M4 → X4 x1 x2 s) (hM4 : (4 - x2).toNat ≤ M4) (hI : iv_A s.1 s.2.2) (bx1 : (-1) ≤ x1 ∧ x1 ≤ 3) (bx2 : 0 ≤ x2 ∧ x2 ≤ 3) : fm_324_p77 X4 Q x1 x2 s := by
  unfold fm_324_p77
  exact hX4 (x1) (x2 + 1) (show (-1 : Int) ≤ x1 ∧ x1 ≤ (3 : Int) from by omega) (show (0 : Int) ≤ x2 + 1 ∧ x2 + 1 ≤ (4 : Int) from by omega) (show (4 - (x2 + 1)).toNat < M4 from by omega)
theorem sm_324_p75 {X4 : Int → Int → lf_Z → Prop} {Q : Int → lf_Z → Prop} {x2 : Int} {s : lf_Z} (hQ : ∀ (r : Int), ((-1) ≤ r ∧ r ≤ 3) → Q r s) {M4 : Nat} (hX4 : ∀ (x1 : Int) (x2 : Int), (-1) ≤ x1 ∧ x1 ≤ 3 → 0 ≤ x2 ∧ x2 ≤ 4 → (4 - x2).toNat < M4 → X4 x1 x2 s) (hM4 : (4 - x2).toNat ≤ M4) (hI : iv_A s.1 s.2.2) (bx2 : 0 ≤ x2 ∧ x2 ≤ 3) : fm_324_p75 X4 Q x2 s := by
  unfold fm_324_p75
  exact sm_324_p77 hQ hX4 (show (4 - x2).toNat ≤ M4 from by omega) hI (show (-1 : Int) ≤ x2 ∧ x2 ≤ (3 : Int) from by omega) (show (0 : Int) ≤ x2 ∧ x2 ≤ (3 : Int) from by omega)
theorem sm_324_p53 {X4 : Int → Int → lf_Z → Prop} {Q : Int → lf_Z → Prop} {x1 : Int} {x2 : Int} {x3 : Int} {y0 : Int} {s : lf_Z} (hQ : ∀ (r : Int), ((-1) ≤ r ∧ r ≤ 3) → Q r s) {M4 : Nat} (hX4 : ∀ (x1 : Int) (x2 : Int), (-1) ≤ x1 ∧ x1 ≤ 3 → 0 ≤ x2 ∧ x2 ≤ 4 → (4 - x2).toNat < M4 → X4 x1 x2 s) (hM4 : (4 - x2).toNat ≤ M4) (hI : iv_A s.1 s.2.2) (bx1 : (-1) ≤ x1 ∧ x1 ≤ 3) (bx2 : 0 ≤ x2 ∧ x2 ≤ 3) (bx3 : 1 ≤ x3 ∧ x3 ≤ 12) (by0 : (-144) ≤ y0 ∧ y0 ≤ 144) : fm_324_p53 X4 Q x1 x2 x3 y0 s := by
  unfold fm_324_p53
  refine ⟨(show lf_R y0 from lf_Rof (by omega)), ?_⟩
  refine ⟨fun c14 => ?_, fun c14 => ?_⟩
  · skip
    replace c14 : 0 < y0 := c14
    exact sm_324_p75 hQ hX4 (show (4 - x2).toNat ≤ M4 from by omega) hI (show (0 : Int) ≤ x2 ∧ x2 ≤ (3 : Int) from by omega)
  · skip
    replace c14 : ¬ (0 < y0) := c14
    refine ⟨fun c15 => ?_, fun c15 => ?_⟩
    · skip
      replace c15 : y0 ≠ 0 := c15
      exact sm_324_p77 hQ hX4 (show (4 - x2).toNat ≤ M4 from by omega) hI (show (-1 : Int) ≤ x1 ∧ x1 ≤ (3 : Int) from by omega) (show (0 : Int) ≤ x2 ∧ x2 ≤ (3 : Int) from by omega)
    · skip
      replace c15 : ¬ (y0 ≠ 0) := c15
      refine sm_323 hI (show (-1 : Int) ≤ x1 ∧ x1 ≤ (3 : Int) from by omega) (show (0 : Int) ≤ 0 ∧ 0 ≤ (1 : Int) from by omega) (fun r34 ps17 q16 => ?_)
      replace ps17 : r34 = lf_tm ((s.1 96)) (x1) (0) ((s.1 96 11)) := ps17
      refine ⟨(show lf_R x3 from lf_Rof (by omega)), ?_⟩
      refine ⟨(show lf_R r34 from lf_Rof (by omega)), ?_⟩
      refine ⟨fun c18 => ?_, fun c18 => ?_⟩
      · skip
        replace c18 : x3 ≤ r34 := c18
        exact sm_324_p77 hQ hX4 (show (4 - x2).toNat ≤ M4 from by omega) hI (show (-1 : Int) ≤ x1 ∧ x1 ≤ (3 : Int) from by omega) (show (0 : Int) ≤ x2 ∧ x2 ≤ (3 : Int) from by omega)
      · skip
        replace c18 : ¬ (x3 ≤ r34) := c18
        exact sm_324_p75 hQ hX4 (show (4 - x2).toNat ≤ M4 from by omega) hI (show (0 : Int) ≤ x2 ∧ x2 ≤ (3 : Int) from by omega)
theorem sm_324_p4 {X4 : Int → Int → lf_Z → Prop} {Q : Int → lf_Z → Prop} {x1 : Int} {x2 : Int} {s : lf_Z} (hQ : ∀ (r : Int), ((-1) ≤ r ∧ r ≤ 3) → Q r s) {M4 : Nat} (hX4 : ∀ (x1 : Int) (x2 : Int), (-1) ≤ x1 ∧ x1 ≤ 3 → 0 ≤ x2 ∧ x2 ≤ 4 → (4 - x2).toNat < M4 → X4 x1 x2 s) (hM4 : (4 - x2).toNat ≤ M4) (hI : iv_A s.1 s.2.2) (bx1 : (-1) ≤ x1 ∧ x1 ≤ 3) (bx2 : 0 ≤ x2 ∧ x2 ≤ 4) : fm_324_p4 Q X4 x1 x2 s := by
  unfold fm_324_p4
  refine ⟨(show lf_R x2 from lf_Rof (by omega)), ?_⟩
  refine ⟨fun c1 => ?_, fun c1 => ?_⟩
  · skip
    replace c1 : 4 ≤ x2 := c1
    exact hQ x1 (show (-1 : Int) ≤ x1 ∧ x1 ≤ (3 : Int) from by omega)
  · skip
    replace c1 : ¬ (4 ≤ x2) := c1
    refine sm_323 hI (show (-1 : Int) ≤ x2 ∧ x2 ≤ (3 : Int) from by omega) (show (0 : Int) ≤ 0 ∧ 0 ≤ (1 : Int) from by omega) (fun r23 ps3 q2 => ?_)
    replace ps3 : r23 = lf_tm ((s.1 96)) (x2) (0) ((s.1 96 11)) := ps3
    refine ⟨(show lf_R r23 from lf_Rof (by omega)), ?_⟩
    refine ⟨fun c4 => ?_, fun c4 => ?_⟩
    · skip
      replace c4 : r23 ≠ 0 := c4
      refine ⟨(show lf_R x1 from lf_Rof (by omega)), ?_⟩
      refine ⟨fun c5 => ?_, fun c5 => ?_⟩
      · skip
        replace c5 : 0 ≤ x1 := c5
        refine sm_323 hI (show (-1 : Int) ≤ x2 ∧ x2 ≤ (3 : Int) from by omega) (show (0 : Int) ≤ 1 ∧ 1 ≤ (1 : Int) from by omega) (fun r27 ps7 q6 => ?_)
        replace ps7 : r27 = lf_tm ((s.1 96)) (x2) (1) ((s.1 96 11)) := ps7
        refine sm_323 hI (show (-1 : Int) ≤ x1 ∧ x1 ≤ (3 : Int) from by omega) (show (0 : Int) ≤ 0 ∧ 0 ≤ (1 : Int) from by omega) (fun r29 ps9 q8 => ?_)
        replace ps9 : r29 = lf_tm ((s.1 96)) (x1) (0) ((s.1 96 11)) := ps9
        have b10 : 0 ≤ r27 * r29 ∧ r27 * r29 ≤ 144 := lf_mulB (a := r27) (b := r29) (p := 0) (q := 12) (r := 0) (u := 12) (by omega) (by omega) (by decide) (by decide) (by decide) (by decide) (by decide) (by decide) (by decide) (by decide)
        refine sm_323 hI (show (-1 : Int) ≤ x1 ∧ x1 ≤ (3 : Int) from by omega) (show (0 : Int) ≤ 1 ∧ 1 ≤ (1 : Int) from by omega) (fun r31 ps12 q11 => ?_)
        replace ps12 : r31 = lf_tm ((s.1 96)) (x1) (1) ((s.1 96 11)) := ps12
        have b13 : 0 ≤ r31 * r23 ∧ r31 * r23 ≤ 144 := lf_mulB (a := r31) (b := r23) (p := 0) (q := 12) (r := 1) (u := 12) (by omega) (by omega) (by decide) (by decide) (by decide) (by decide) (by decide) (by decide) (by decide) (by decide)
        exact sm_324_p53 hQ hX4 (show (4 - x2).toNat ≤ M4 from by omega) hI (show (-1 : Int) ≤ x1 ∧ x1 ≤ (3 : Int) from by omega) (show (0 : Int) ≤ x2 ∧ x2 ≤ (3 : Int) from by omega) (show (1 : Int) ≤ r23 ∧ r23 ≤ (12 : Int) from by omega) (show (-144 : Int) ≤ (r27 * r29) - (r31 * r23) ∧ (r27 * r29) - (r31 * r23) ≤ (144 : Int) from by omega)
      · skip
        replace c5 : ¬ (0 ≤ x1) := c5
        exact sm_324_p53 hQ hX4 (show (4 - x2).toNat ≤ M4 from by omega) hI (show (-1 : Int) ≤ x1 ∧ x1 ≤ (3 : Int) from by omega) (show (0 : Int) ≤ x2 ∧ x2 ≤ (3 : Int) from by omega) (show (1 : Int) ≤ r23 ∧ r23 ≤ (12 : Int) from by omega) (show (-144 : Int) ≤ 1 ∧ 1 ≤ (144 : Int) from by omega)
    · skip
      replace c4 : ¬ (r23 ≠ 0) := c4
      exact sm_324_p77 hQ hX4 (show (4 - x2).toNat ≤ M4 from by omega) hI (show (-1 : Int) ≤ x1 ∧ x1 ≤ (3 : Int) from by omega) (show (0 : Int) ≤ x2 ∧ x2 ≤ (3 : Int) from by omega)
theorem sm_324_p4L {Q : Int → lf_Z → Prop} {x1 : Int} {x2 : Int} {s : lf_Z} (hQ : ∀ (r : Int), ((-1) ≤ r ∧ r ≤ 3) → Q r s) (hI : iv_A s.1 s.2.2) (bx1 : (-1) ≤ x1 ∧ x1 ≤ 3) (bx2 : 0 ≤ x2 ∧ x2 ≤ 4) : fm_324_p4L Q x1 x2 s := by
  intro X4 hX
  have key : ∀ (m9 : Nat) (x1 : Int) (x2 : Int), (-1) ≤ x1 ∧ x1 ≤ 3 → 0 ≤ x2 ∧ x2 ≤ 4 → (4 - x2).toNat < m9 → X4 x1 x2 s := by
    intro m9
    induction m9 with
    | zero => intro x1 x2 bx1 bx2 h9; exact absurd h9 (Nat.not_lt_zero _)
    | succ m9 ih => intro x1 x2 bx1 bx2 h9; exact hX _ _ _ (sm_324_p4 hQ   (fun x1' x2' bx1' bx2' h8 => ih x1' x2' bx1' bx2' (by omega)) (Nat.le_refl _)  hI  bx1 bx2  )
  exact key _ _ _ bx1 bx2   (Nat.lt_succ_self _)
theorem sm_324 {Q : Int → lf_Z → Prop} {s : lf_Z} (hI : iv_A s.1 s.2.2) (hQ : ∀ (r : Int), ((-1) ≤ r ∧ r ≤ 3) → Q r s) : fm_324 Q s := by
  unfold fm_324
  exact sm_324_p4L hQ hI (show (-1 : Int) ≤ (-1) ∧ (-1) ≤ (3 : Int) from by omega) (show (0 : Int) ≤ 0 ∧ 0 ≤ (4 : Int) from by omega)
-- fm_174 Stand.likeOther 79 15
theorem sm_174 {Q : lf_Z → Prop} {s : lf_Z} (hI : iv_A s.1 s.2.2) (hQ : ∀  (s' : lf_Z), iv_A s'.1 s'.2.2 → lf_fq [79, 80, 81, 82, 83, 84, 85] 1000000 true s.1 s.2.2 s'.1 s'.2.2 → Q  s') : fm_174 Q s := by
  unfold fm_174
  have fr1 : lf_fq [79, 80, 81, 82, 83, 84, 85] 1000000 true s.1 s.2.2 (lf_cp s.1 16 80 0 0 4) s.2.2 := lf_fq_cp (lf_fq_rf) rfl (by decide)
  have hI2 : iv_A (lf_cp (lf_cp s.1 16 80 0 0 4) 17 81 0 0 4) s.2.2 := iv_cp2 hI (Or.inl ⟨rfl, rfl⟩)
  have fr3 : lf_fq [79, 80, 81, 82, 83, 84, 85] 1000000 true s.1 s.2.2 (lf_cp (lf_cp s.1 16 80 0 0 4) 17 81 0 0 4) s.2.2 := lf_fq_cp fr1 rfl (by decide)
  have hI4 : iv_A (lf_cp (lf_cp (lf_cp s.1 16 80 0 0 4) 17 81 0 0 4) 18 82 0 0 4) s.2.2 := iv_cp18_82 hI2
  have fr5 : lf_fq [79, 80, 81, 82, 83, 84, 85] 1000000 true s.1 s.2.2 (lf_cp (lf_cp (lf_cp s.1 16 80 0 0 4) 17 81 0 0 4) 18 82 0 0 4) s.2.2 := lf_fq_cp fr3 rfl (by decide)
  have hI6 : iv_A (lf_cp (lf_cp (lf_cp (lf_cp s.1 16 80 0 0 4) 17 81 0 0 4) 18 82 0 0 4) 19 83 0 0 6) s.2.2 := iv_cp19_83 hI4
  have fr7 : lf_fq [79, 80, 81, 82, 83, 84, 85] 1000000 true s.1 s.2.2 (lf_cp (lf_cp (lf_cp (lf_cp s.1 16 80 0 0 4) 17 81 0 0 4) 18 82 0 0 4) 19 83 0 0 6) s.2.2 := lf_fq_cp fr5 rfl (by decide)
  have hI8 : iv_A (lf_cp (lf_cp (lf_cp (lf_cp (lf_cp s.1 16 80 0 0 4) 17 81 0 0 4) 18 82 0 0 4) 19 83 0 0 6) 20 84 0 0 6) s.2.2 := iv_cp20_84 hI6
  have fr9 : lf_fq [79, 80, 81, 82, 83, 84, 85] 1000000 true s.1 s.2.2 (lf_cp (lf_cp (lf_cp (lf_cp (lf_cp s.1 16 80 0 0 4) 17 81 0 0 4) 18 82 0 0 4) 19 83 0 0 6) 20 84 0 0 6) s.2.2 := lf_fq_cp fr7 rfl (by decide)
  have hI10 : iv_A (lf_cp (lf_cp (lf_cp (lf_cp (lf_cp (lf_cp s.1 16 80 0 0 4) 17 81 0 0 4) 18 82 0 0 4) 19 83 0 0 6) 20 84 0 0 6) 21 85 0 0 12) s.2.2 := iv_cp21_85 hI8
  have fr11 : lf_fq [79, 80, 81, 82, 83, 84, 85] 1000000 true s.1 s.2.2 (lf_cp (lf_cp (lf_cp (lf_cp (lf_cp (lf_cp s.1 16 80 0 0 4) 17 81 0 0 4) 18 82 0 0 4) 19 83 0 0 6) 20 84 0 0 6) 21 85 0 0 12) s.2.2 := lf_fq_cp fr9 rfl (by decide)
  have b12 : (-2147483648) ≤ (lf_cp (lf_cp (lf_cp (lf_cp (lf_cp (lf_cp s.1 16 80 0 0 4) 17 81 0 0 4) 18 82 0 0 4) 19 83 0 0 6) 20 84 0 0 6) 21 85 0 0 12) 15 6 ∧ (lf_cp (lf_cp (lf_cp (lf_cp (lf_cp (lf_cp s.1 16 80 0 0 4) 17 81 0 0 4) 18 82 0 0 4) 19 83 0 0 6) 20 84 0 0 6) 21 85 0 0 12) 15 6 ≤ 2147483647 := iv_full hI10
  have b13 : (lf_cp (lf_cp (lf_cp (lf_cp (lf_cp (lf_cp s.1 16 80 0 0 4) 17 81 0 0 4) 18 82 0 0 4) 19 83 0 0 6) 20 84 0 0 6) 21 85 0 0 12) 15 6 = (lf_cp (lf_cp (lf_cp (lf_cp (lf_cp s.1 16 80 0 0 4) 17 81 0 0 4) 18 82 0 0 4) 19 83 0 0 6) 20 84 0 0 6) 15 6 := lf_cp_c (by omega)
  have b14 : (lf_cp (lf_cp (lf_cp (lf_cp (lf_cp s.1 16 80 0 0 4) 17 81 0 0 4) 18 82 0 0 4) 19 83 0 0 6) 20 84 0 0 6) 15 6 = (lf_cp (lf_cp (lf_cp (lf_cp s.1 16 80 0 0 4) 17 81 0 0 4) 18 82 0 0 4) 19 83 0 0 6) 15 6 := lf_cp_c (by omega)
  have b15 : (lf_cp (lf_cp (lf_cp (lf_cp s.1 16 80 0 0 4) 17 81 0 0 4) 18 82 0 0 4) 19 83 0 0 6) 15 6 = (lf_cp (lf_cp (lf_cp s.1 16 80 0 0 4) 17 81 0 0 4) 18 82 0 0 4) 15 6 := lf_cp_c (by omega)
  have b16 : (lf_cp (lf_cp (lf_cp s.1 16 80 0 0 4) 17 81 0 0 4) 18 82 0 0 4) 15 6 = (lf_cp (lf_cp s.1 16 80 0 0 4) 17 81 0 0 4) 15 6 := lf_cp_c (by omega)
  have b17 : (lf_cp (lf_cp s.1 16 80 0 0 4) 17 81 0 0 4) 15 6 = (lf_cp s.1 16 80 0 0 4) 15 6 := lf_cp_c (by omega)
  have b18 : (lf_cp s.1 16 80 0 0 4) 15 6 = s.1 15 6 := lf_cp_c (by omega)
  have hI19 : iv_A (lf_up (lf_cp (lf_cp (lf_cp (lf_cp (lf_cp (lf_cp s.1 16 80 0 0 4) 17 81 0 0 4) 18 82 0 0 4) 19 83 0 0 6) 20 84 0 0 6) 21 85 0 0 12) 79 6 ((lf_cp (lf_cp (lf_cp (lf_cp (lf_cp (lf_cp s.1 16 80 0 0 4) 17 81 0 0 4) 18 82 0 0 4) 19 83 0 0 6) 20 84 0 0 6) 21 85 0 0 12) 15 6)) s.2.2 := iv_w79_6 hI10 (by omega)
  have fr20 : lf_fq [79, 80, 81, 82, 83, 84, 85] 1000000 true s.1 s.2.2 (lf_up (lf_cp (lf_cp (lf_cp (lf_cp (lf_cp (lf_cp s.1 16 80 0 0 4) 17 81 0 0 4) 18 82 0 0 4) 19 83 0 0 6) 20 84 0 0 6) 21 85 0 0 12) 79 6 ((lf_cp (lf_cp (lf_cp (lf_cp (lf_cp (lf_cp s.1 16 80 0 0 4) 17 81 0 0 4) 18 82 0 0 4) 19 83 0 0 6) 20 84 0 0 6) 21 85 0 0 12) 15 6)) s.2.2 := lf_fq_up fr11 rfl (fun h => absurd h (by decide))
  have b21 : (-2147483648) ≤ (lf_cp (lf_cp (lf_cp (lf_cp (lf_cp (lf_cp s.1 16 80 0 0 4) 17 81 0 0 4) 18 82 0 0 4) 19 83 0 0 6) 20 84 0 0 6) 21 85 0 0 12) 15 7 ∧ (lf_cp (lf_cp (lf_cp (lf_cp (lf_cp (lf_cp s.1 16 80 0 0 4) 17 81 0 0 4) 18 82 0 0 4) 19 83 0 0 6) 20 84 0 0 6) 21 85 0 0 12) 15 7 ≤ 2147483647 := (show (-2147483648) ≤ (lf_up (lf_cp (lf_cp (lf_cp (lf_cp (lf_cp (lf_cp s.1 16 80 0 0 4) 17 81 0 0 4) 18 82 0 0 4) 19 83 0 0 6) 20 84 0 0 6) 21 85 0 0 12) 79 6 ((lf_cp (lf_cp (lf_cp (lf_cp (lf_cp (lf_cp s.1 16 80 0 0 4) 17 81 0 0 4) 18 82 0 0 4) 19 83 0 0 6) 20 84 0 0 6) 21 85 0 0 12) 15 6)) 15 7 ∧ (lf_up (lf_cp (lf_cp (lf_cp (lf_cp (lf_cp (lf_cp s.1 16 80 0 0 4) 17 81 0 0 4) 18 82 0 0 4) 19 83 0 0 6) 20 84 0 0 6) 21 85 0 0 12) 79 6 ((lf_cp (lf_cp (lf_cp (lf_cp (lf_cp (lf_cp s.1 16 80 0 0 4) 17 81 0 0 4) 18 82 0 0 4) 19 83 0 0 6) 20 84 0 0 6) 21 85 0 0 12) 15 6)) 15 7 ≤ 2147483647 from iv_full hI19)
  have b22 : (lf_cp (lf_cp (lf_cp (lf_cp (lf_cp (lf_cp s.1 16 80 0 0 4) 17 81 0 0 4) 18 82 0 0 4) 19 83 0 0 6) 20 84 0 0 6) 21 85 0 0 12) 15 7 = (lf_cp (lf_cp (lf_cp (lf_cp (lf_cp s.1 16 80 0 0 4) 17 81 0 0 4) 18 82 0 0 4) 19 83 0 0 6) 20 84 0 0 6) 15 7 := lf_cp_c (by omega)
  have b23 : (lf_cp (lf_cp (lf_cp (lf_cp (lf_cp s.1 16 80 0 0 4) 17 81 0 0 4) 18 82 0 0 4) 19 83 0 0 6) 20 84 0 0 6) 15 7 = (lf_cp (lf_cp (lf_cp (lf_cp s.1 16 80 0 0 4) 17 81 0 0 4) 18 82 0 0 4) 19 83 0 0 6) 15 7 := lf_cp_c (by omega)
  have b24 : (lf_cp (lf_cp (lf_cp (lf_cp s.1 16 80 0 0 4) 17 81 0 0 4) 18 82 0 0 4) 19 83 0 0 6) 15 7 = (lf_cp (lf_cp (lf_cp s.1 16 80 0 0 4) 17 81 0 0 4) 18 82 0 0 4) 15 7 := lf_cp_c (by omega)
  have b25 : (lf_cp (lf_cp (lf_cp s.1 16 80 0 0 4) 17 81 0 0 4) 18 82 0 0 4) 15 7 = (lf_cp (lf_cp s.1 16 80 0 0 4) 17 81 0 0 4) 15 7 := lf_cp_c (by omega)
  have b26 : (lf_cp (lf_cp s.1 16 80 0 0 4) 17 81 0 0 4) 15 7 = (lf_cp s.1 16 80 0 0 4) 15 7 := lf_cp_c (by omega)
  have b27 : (lf_cp s.1 16 80 0 0 4) 15 7 = s.1 15 7 := lf_cp_c (by omega)
  have hI28 : iv_A (lf_up (lf_up (lf_cp (lf_cp (lf_cp (lf_cp (lf_cp (lf_cp s.1 16 80 0 0 4) 17 81 0 0 4) 18 82 0 0 4) 19 83 0 0 6) 20 84 0 0 6) 21 85 0 0 12) 79 6 ((lf_cp (lf_cp (lf_cp (lf_cp (lf_cp (lf_cp s.1 16 80 0 0 4) 17 81 0 0 4) 18 82 0 0 4) 19 83 0 0 6) 20 84 0 0 6) 21 85 0 0 12) 15 6)) 79 7 ((lf_cp (lf_cp (lf_cp (lf_cp (lf_cp (lf_cp s.1 16 80 0 0 4) 17 81 0 0 4) 18 82 0 0 4) 19 83 0 0 6) 20 84 0 0 6) 21 85 0 0 12) 15 7)) s.2.2 := iv_w79_7 hI19 (by omega)
  have fr29 : lf_fq [79, 80, 81, 82, 83, 84, 85] 1000000 true s.1 s.2.2 (lf_up (lf_up (lf_cp (lf_cp (lf_cp (lf_cp (lf_cp (lf_cp s.1 16 80 0 0 4) 17 81 0 0 4) 18 82 0 0 4) 19 83 0 0 6) 20 84 0 0 6) 21 85 0 0 12) 79 6 ((lf_cp (lf_cp (lf_cp (lf_cp (lf_cp (lf_cp s.1 16 80 0 0 4) 17 81 0 0 4) 18 82 0 0 4) 19 83 0 0 6) 20 84 0 0 6) 21 85 0 0 12) 15 6)) 79 7 ((lf_cp (lf_cp (lf_cp (lf_cp (lf_cp (lf_cp s.1 16 80 0 0 4) 17 81 0 0 4) 18 82 0 0 4) 19 83 0 0 6) 20 84 0 0 6) 21 85 0 0 12) 15 7)) s.2.2 := lf_fq_up fr20 rfl (fun h => absurd h (by decide))
  have b30 : (-2147483648) ≤ (lf_cp (lf_cp (lf_cp (lf_cp (lf_cp (lf_cp s.1 16 80 0 0 4) 17 81 0 0 4) 18 82 0 0 4) 19 83 0 0 6) 20 84 0 0 6) 21 85 0 0 12) 15 8 ∧ (lf_cp (lf_cp (lf_cp (lf_cp (lf_cp (lf_cp s.1 16 80 0 0 4) 17 81 0 0 4) 18 82 0 0 4) 19 83 0 0 6) 20 84 0 0 6) 21 85 0 0 12) 15 8 ≤ 2147483647 := (show (-2147483648) ≤ (lf_up (lf_up (lf_cp (lf_cp (lf_cp (lf_cp (lf_cp (lf_cp s.1 16 80 0 0 4) 17 81 0 0 4) 18 82 0 0 4) 19 83 0 0 6) 20 84 0 0 6) 21 85 0 0 12) 79 6 ((lf_cp (lf_cp (lf_cp (lf_cp (lf_cp (lf_cp s.1 16 80 0 0 4) 17 81 0 0 4) 18 82 0 0 4) 19 83 0 0 6) 20 84 0 0 6) 21 85 0 0 12) 15 6)) 79 7 ((lf_cp (lf_cp (lf_cp (lf_cp (lf_cp (lf_cp s.1 16 80 0 0 4) 17 81 0 0 4) 18 82 0 0 4) 19 83 0 0 6) 20 84 0 0 6) 21 85 0 0 12) 15 7)) 15 8 ∧ (lf_up (lf_up (lf_cp (lf_cp (lf_cp (lf_cp (lf_cp (lf_cp s.1 16 80 0 0 4) 17 81 0 0 4) 18 82 0 0 4) 19 83 0 0 6) 20 84 0 0 6) 21 85 0 0 12) 79 6 ((lf_cp (lf_cp (lf_cp (lf_cp (lf_cp (lf_cp s.1 16 80 0 0 4) 17 81 0 0 4) 18 82 0 0 4) 19 83 0 0 6) 20 84 0 0 6) 21 85 0 0 12) 15 6)) 79 7 ((lf_cp (lf_cp (lf_cp (lf_cp (lf_cp (lf_cp s.1 16 80 0 0 4) 17 81 0 0 4) 18 82 0 0 4) 19 83 0 0 6) 20 84 0 0 6) 21 85 0 0 12) 15 7)) 15 8 ≤ 2147483647 from iv_full hI28)
  have b31 : (lf_cp (lf_cp (lf_cp (lf_cp (lf_cp (lf_cp s.1 16 80 0 0 4) 17 81 0 0 4) 18 82 0 0 4) 19 83 0 0 6) 20 84 0 0 6) 21 85 0 0 12) 15 8 = (lf_cp (lf_cp (lf_cp (lf_cp (lf_cp s.1 16 80 0 0 4) 17 81 0 0 4) 18 82 0 0 4) 19 83 0 0 6) 20 84 0 0 6) 15 8 := lf_cp_c (by omega)
  have b32 : (lf_cp (lf_cp (lf_cp (lf_cp (lf_cp s.1 16 80 0 0 4) 17 81 0 0 4) 18 82 0 0 4) 19 83 0 0 6) 20 84 0 0 6) 15 8 = (lf_cp (lf_cp (lf_cp (lf_cp s.1 16 80 0 0 4) 17 81 0 0 4) 18 82 0 0 4) 19 83 0 0 6) 15 8 := lf_cp_c (by omega)
  have b33 : (lf_cp (lf_cp (lf_cp (lf_cp s.1 16 80 0 0 4) 17 81 0 0 4) 18 82 0 0 4) 19 83 0 0 6) 15 8 = (lf_cp (lf_cp (lf_cp s.1 16 80 0 0 4) 17 81 0 0 4) 18 82 0 0 4) 15 8 := lf_cp_c (by omega)
  have b34 : (lf_cp (lf_cp (lf_cp s.1 16 80 0 0 4) 17 81 0 0 4) 18 82 0 0 4) 15 8 = (lf_cp (lf_cp s.1 16 80 0 0 4) 17 81 0 0 4) 15 8 := lf_cp_c (by omega)
  have b35 : (lf_cp (lf_cp s.1 16 80 0 0 4) 17 81 0 0 4) 15 8 = (lf_cp s.1 16 80 0 0 4) 15 8 := lf_cp_c (by omega)
  have b36 : (lf_cp s.1 16 80 0 0 4) 15 8 = s.1 15 8 := lf_cp_c (by omega)
  have hI37 : iv_A (lf_up (lf_up (lf_up (lf_cp (lf_cp (lf_cp (lf_cp (lf_cp (lf_cp s.1 16 80 0 0 4) 17 81 0 0 4) 18 82 0 0 4) 19 83 0 0 6) 20 84 0 0 6) 21 85 0 0 12) 79 6 ((lf_cp (lf_cp (lf_cp (lf_cp (lf_cp (lf_cp s.1 16 80 0 0 4) 17 81 0 0 4) 18 82 0 0 4) 19 83 0 0 6) 20 84 0 0 6) 21 85 0 0 12) 15 6)) 79 7 ((lf_cp (lf_cp (lf_cp (lf_cp (lf_cp (lf_cp s.1 16 80 0 0 4) 17 81 0 0 4) 18 82 0 0 4) 19 83 0 0 6) 20 84 0 0 6) 21 85 0 0 12) 15 7)) 79 8 ((lf_cp (lf_cp (lf_cp (lf_cp (lf_cp (lf_cp s.1 16 80 0 0 4) 17 81 0 0 4) 18 82 0 0 4) 19 83 0 0 6) 20 84 0 0 6) 21 85 0 0 12) 15 8)) s.2.2 := iv_w79_8 hI28 (by omega)
  have fr38 : lf_fq [79, 80, 81, 82, 83, 84, 85] 1000000 true s.1 s.2.2 (lf_up (lf_up (lf_up (lf_cp (lf_cp (lf_cp (lf_cp (lf_cp (lf_cp s.1 16 80 0 0 4) 17 81 0 0 4) 18 82 0 0 4) 19 83 0 0 6) 20 84 0 0 6) 21 85 0 0 12) 79 6 ((lf_cp (lf_cp (lf_cp (lf_cp (lf_cp (lf_cp s.1 16 80 0 0 4) 17 81 0 0 4) 18 82 0 0 4) 19 83 0 0 6) 20 84 0 0 6) 21 85 0 0 12) 15 6)) 79 7 ((lf_cp (lf_cp (lf_cp (lf_cp (lf_cp (lf_cp s.1 16 80 0 0 4) 17 81 0 0 4) 18 82 0 0 4) 19 83 0 0 6) 20 84 0 0 6) 21 85 0 0 12) 15 7)) 79 8 ((lf_cp (lf_cp (lf_cp (lf_cp (lf_cp (lf_cp s.1 16 80 0 0 4) 17 81 0 0 4) 18 82 0 0 4) 19 83 0 0 6) 20 84 0 0 6) 21 85 0 0 12) 15 8)) s.2.2 := lf_fq_up fr29 rfl (fun h => absurd h (by decide))
  exact hQ (lf_up (lf_up (lf_up (lf_cp (lf_cp (lf_cp (lf_cp (lf_cp (lf_cp s.1 16 80 0 0 4) 17 81 0 0 4) 18 82 0 0 4) 19 83 0 0 6) 20 84 0 0 6) 21 85 0 0 12) 79 6 ((lf_cp (lf_cp (lf_cp (lf_cp (lf_cp (lf_cp s.1 16 80 0 0 4) 17 81 0 0 4) 18 82 0 0 4) 19 83 0 0 6) 20 84 0 0 6) 21 85 0 0 12) 15 6)) 79 7 ((lf_cp (lf_cp (lf_cp (lf_cp (lf_cp (lf_cp s.1 16 80 0 0 4) 17 81 0 0 4) 18 82 0 0 4) 19 83 0 0 6) 20 84 0 0 6) 21 85 0 0 12) 15 7)) 79 8 ((lf_cp (lf_cp (lf_cp (lf_cp (lf_cp (lf_cp s.1 16 80 0 0 4) 17 81 0 0 4) 18 82 0 0 4) 19 83 0 0 6) 20 84 0 0 6) 21 85 0 0 12) 15 8), s.2.1, s.2.2) hI37 fr38
-- fm_175 Steps.likeOther 86 22
theorem sm_175 {Q : lf_Z → Prop} {s : lf_Z} (hI : iv_A s.1 s.2.2) (hQ : ∀  (s' : lf_Z), iv_A s'.1 s'.2.2 → lf_fq [86, 87, 88] 1000000 true s.1 s.2.2 s'.1 s'.2.2 → Q  s') : fm_175 Q s := by
  unfold fm_175
  have hI1 : iv_A (lf_cp s.1 23 87 0 0 1170) s.2.2 := iv_cp23_87 hI
  have fr2 : lf_fq [86, 87, 88] 1000000 true s.1 s.2.2 (lf_cp s.1 23 87 0 0 1170) s.2.2 := lf_fq_cp (lf_fq_rf) rfl (by decide)
  have hI3 : iv_A (lf_cp (lf_cp s.1 23 87 0 0 1170) 24 88 0 0 30) s.2.2 := iv_cp24_88 hI1
  have fr4 : lf_fq [86, 87, 88] 1000000 true s.1 s.2.2 (lf_cp (lf_cp s.1 23 87 0 0 1170) 24 88 0 0 30) s.2.2 := lf_fq_cp fr2 rfl (by decide)
  have b5 : 0 ≤ (lf_cp (lf_cp s.1 23 87 0 0 1170) 24 88 0 0 30) 22 2 ∧ (lf_cp (lf_cp s.1 23 87 0 0 1170) 24 88 0 0 30) 22 2 ≤ 29 := iv_r22_2 hI3
  have b6 : (lf_cp (lf_cp s.1 23 87 0 0 1170) 24 88 0 0 30) 22 2 = (lf_cp s.1 23 87 0 0 1170) 22 2 := lf_cp_c (by omega)
  have b7 : (lf_cp s.1 23 87 0 0 1170) 22 2 = s.1 22 2 := lf_cp_c (by omega)
  have hI8 : iv_A (lf_up (lf_cp (lf_cp s.1 23 87 0 0 1170) 24 88 0 0 30) 86 2 ((lf_cp (lf_cp s.1 23 87 0 0 1170) 24 88 0 0 30) 22 2)) s.2.2 := iv_w86_2 hI3 (by omega)
  have fr9 : lf_fq [86, 87, 88] 1000000 true s.1 s.2.2 (lf_up (lf_cp (lf_cp s.1 23 87 0 0 1170) 24 88 0 0 30) 86 2 ((lf_cp (lf_cp s.1 23 87 0 0 1170) 24 88 0 0 30) 22 2)) s.2.2 := lf_fq_up fr4 rfl (fun h => absurd h (by decide))
  have b10 : 0 ≤ (lf_cp (lf_cp s.1 23 87 0 0 1170) 24 88 0 0 30) 22 3 ∧ (lf_cp (lf_cp s.1 23 87 0 0 1170) 24 88 0 0 30) 22 3 ≤ 30 := (show 0 ≤ (lf_up (lf_cp (lf_cp s.1 23 87 0 0 1170) 24 88 0 0 30) 86 2 ((lf_cp (lf_cp s.1 23 87 0 0 1170) 24 88 0 0 30) 22 2)) 22 3 ∧ (lf_up (lf_cp (lf_cp s.1 23 87 0 0 1170) 24 88 0 0 30) 86 2 ((lf_cp (lf_cp s.1 23 87 0 0 1170) 24 88 0 0 30) 22 2)) 22 3 ≤ 30 from iv_r22_3 hI8)
  have b11 : (lf_cp (lf_cp s.1 23 87 0 0 1170) 24 88 0 0 30) 22 3 = (lf_cp s.1 23 87 0 0 1170) 22 3 := lf_cp_c (by omega)
  have b12 : (lf_cp s.1 23 87 0 0 1170) 22 3 = s.1 22 3 := lf_cp_c (by omega)
  have hI13 : iv_A (lf_up (lf_up (lf_cp (lf_cp s.1 23 87 0 0 1170) 24 88 0 0 30) 86 2 ((lf_cp (lf_cp s.1 23 87 0 0 1170) 24 88 0 0 30) 22 2)) 86 3 ((lf_cp (lf_cp s.1 23 87 0 0 1170) 24 88 0 0 30) 22 3)) s.2.2 := iv_w86_3 hI8 (by omega)
  have fr14 : lf_fq [86, 87, 88] 1000000 true s.1 s.2.2 (lf_up (lf_up (lf_cp (lf_cp s.1 23 87 0 0 1170) 24 88 0 0 30) 86 2 ((lf_cp (lf_cp s.1 23 87 0 0 1170) 24 88 0 0 30) 22 2)) 86 3 ((lf_cp (lf_cp s.1 23 87 0 0 1170) 24 88 0 0 30) 22 3)) s.2.2 := lf_fq_up fr9 rfl (fun h => absurd h (by decide))
  exact hQ (lf_up (lf_up (lf_cp (lf_cp s.1 23 87 0 0 1170) 24 88 0 0 30) 86 2 ((lf_cp (lf_cp s.1 23 87 0 0 1170) 24 88 0 0 30) 22 2)) 86 3 ((lf_cp (lf_cp s.1 23 87 0 0 1170) 24 88 0 0 30) 22 3), s.2.1, s.2.2) hI13 fr14
-- fm_176 Notes.likeOther 89 25
theorem sm_176 {Q : lf_Z → Prop} {s : lf_Z} (hI : iv_A s.1 s.2.2) (hQ : ∀  (s' : lf_Z), iv_A s'.1 s'.2.2 → lf_fq [89, 90, 91, 92, 93, 94] 1000000 true s.1 s.2.2 s'.1 s'.2.2 → Q  s') : fm_176 Q s := by
  unfold fm_176
  have hI1 : iv_A (lf_cp s.1 26 90 0 0 6) s.2.2 := iv_cp26_90 hI
  have fr2 : lf_fq [89, 90, 91, 92, 93, 94] 1000000 true s.1 s.2.2 (lf_cp s.1 26 90 0 0 6) s.2.2 := lf_fq_cp (lf_fq_rf) rfl (by decide)
  have hI3 : iv_A (lf_cp (lf_cp s.1 26 90 0 0 6) 27 91 0 0 6) s.2.2 := iv_cp27_91 hI1
  have fr4 : lf_fq [89, 90, 91, 92, 93, 94] 1000000 true s.1 s.2.2 (lf_cp (lf_cp s.1 26 90 0 0 6) 27 91 0 0 6) s.2.2 := lf_fq_cp fr2 rfl (by decide)
  have hI5 : iv_A (lf_cp (lf_cp (lf_cp s.1 26 90 0 0 6) 27 91 0 0 6) 28 92 0 0 16) s.2.2 := iv_cp28_92 hI3
  have fr6 : lf_fq [89, 90, 91, 92, 93, 94] 1000000 true s.1 s.2.2 (lf_cp (lf_cp (lf_cp s.1 26 90 0 0 6) 27 91 0 0 6) 28 92 0 0 16) s.2.2 := lf_fq_cp fr4 rfl (by decide)
  have hI7 : iv_A (lf_cp (lf_cp (lf_cp (lf_cp s.1 26 90 0 0 6) 27 91 0 0 6) 28 92 0 0 16) 29 93 0 0 4) s.2.2 := iv_cp29_93 hI5
  have fr8 : lf_fq [89, 90, 91, 92, 93, 94] 1000000 true s.1 s.2.2 (lf_cp (lf_cp (lf_cp (lf_cp s.1 26 90 0 0 6) 27 91 0 0 6) 28 92 0 0 16) 29 93 0 0 4) s.2.2 := lf_fq_cp fr6 rfl (by decide)
  have hI9 : iv_A (lf_cp (lf_cp (lf_cp (lf_cp (lf_cp s.1 26 90 0 0 6) 27 91 0 0 6) 28 92 0 0 16) 29 93 0 0 4) 30 94 0 0 4) s.2.2 := iv_cp30_94 hI7
  have fr10 : lf_fq [89, 90, 91, 92, 93, 94] 1000000 true s.1 s.2.2 (lf_cp (lf_cp (lf_cp (lf_cp (lf_cp s.1 26 90 0 0 6) 27 91 0 0 6) 28 92 0 0 16) 29 93 0 0 4) 30 94 0 0 4) s.2.2 := lf_fq_cp fr8 rfl (by decide)
  have b11 : 0 ≤ (lf_cp (lf_cp (lf_cp (lf_cp (lf_cp s.1 26 90 0 0 6) 27 91 0 0 6) 28 92 0 0 16) 29 93 0 0 4) 30 94 0 0 4) 25 2 ∧ (lf_cp (lf_cp (lf_cp (lf_cp (lf_cp s.1 26 90 0 0 6) 27 91 0 0 6) 28 92 0 0 16) 29 93 0 0 4) 30 94 0 0 4) 25 2 ≤ 6 := iv_r25_2 hI9
  have b12 : (lf_cp (lf_cp (lf_cp (lf_cp (lf_cp s.1 26 90 0 0 6) 27 91 0 0 6) 28 92 0 0 16) 29 93 0 0 4) 30 94 0 0 4) 25 2 = (lf_cp (lf_cp (lf_cp (lf_cp s.1 26 90 0 0 6) 27 91 0 0 6) 28 92 0 0 16) 29 93 0 0 4) 25 2 := lf_cp_c (by omega)
  have b13 : (lf_cp (lf_cp (lf_cp (lf_cp s.1 26 90 0 0 6) 27 91 0 0 6) 28 92 0 0 16) 29 93 0 0 4) 25 2 = (lf_cp (lf_cp (lf_cp s.1 26 90 0 0 6) 27 91 0 0 6) 28 92 0 0 16) 25 2 := lf_cp_c (by omega)
  have b14 : (lf_cp (lf_cp (lf_cp s.1 26 90 0 0 6) 27 91 0 0 6) 28 92 0 0 16) 25 2 = (lf_cp (lf_cp s.1 26 90 0 0 6) 27 91 0 0 6) 25 2 := lf_cp_c (by omega)
  have b15 : (lf_cp (lf_cp s.1 26 90 0 0 6) 27 91 0 0 6) 25 2 = (lf_cp s.1 26 90 0 0 6) 25 2 := lf_cp_c (by omega)
  have b16 : (lf_cp s.1 26 90 0 0 6) 25 2 = s.1 25 2 := lf_cp_c (by omega)
  have hI17 : iv_A (lf_up (lf_cp (lf_cp (lf_cp (lf_cp (lf_cp s.1 26 90 0 0 6) 27 91 0 0 6) 28 92 0 0 16) 29 93 0 0 4) 30 94 0 0 4) 89 2 ((lf_cp (lf_cp (lf_cp (lf_cp (lf_cp s.1 26 90 0 0 6) 27 91 0 0 6) 28 92 0 0 16) 29 93 0 0 4) 30 94 0 0 4) 25 2)) s.2.2 := iv_w89_2 hI9 (by omega)
  have fr18 : lf_fq [89, 90, 91, 92, 93, 94] 1000000 true s.1 s.2.2 (lf_up (lf_cp (lf_cp (lf_cp (lf_cp (lf_cp s.1 26 90 0 0 6) 27 91 0 0 6) 28 92 0 0 16) 29 93 0 0 4) 30 94 0 0 4) 89 2 ((lf_cp (lf_cp (lf_cp (lf_cp (lf_cp s.1 26 90 0 0 6) 27 91 0 0 6) 28 92 0 0 16) 29 93 0 0 4) 30 94 0 0 4) 25 2)) s.2.2 := lf_fq_up fr10 rfl (fun h => absurd h (by decide))
  exact hQ (lf_up (lf_cp (lf_cp (lf_cp (lf_cp (lf_cp s.1 26 90 0 0 6) 27 91 0 0 6) 28 92 0 0 16) 29 93 0 0 4) 30 94 0 0 4) 89 2 ((lf_cp (lf_cp (lf_cp (lf_cp (lf_cp s.1 26 90 0 0 6) 27 91 0 0 6) 28 92 0 0 16) 29 93 0 0 4) 30 94 0 0 4) 25 2), s.2.1, s.2.2) hI17 fr18
-- fm_173 ElevenBullocks.image 0
theorem sm_173 {Q : Int → lf_Z → Prop} {s : lf_Z} (hI : iv_A s.1 s.2.2) (hQ : ∀ (r : Int) (s' : lf_Z), iv_A s'.1 s'.2.2 → lf_fq [78, 79, 80, 81, 82, 83, 84, 85, 86, 87, 88, 89, 90, 91, 92, 93, 94] 1000000 true s.1 s.2.2 s'.1 s'.2.2 → ((-2147483648) ≤ r ∧ r ≤ 2147483647) → Q r s') : fm_173 Q s := by
  unfold fm_173
  have b1 : 0 ≤ s.1 1 0 ∧ s.1 1 0 ≤ 12 := iv_r1_0 hI
  have hI2 : iv_A (lf_up s.1 78 0 (s.1 1 0)) s.2.2 := iv_w78_0 hI (by omega)
  have fr3 : lf_fq [78, 79, 80, 81, 82, 83, 84, 85, 86, 87, 88, 89, 90, 91, 92, 93, 94] 1000000 true s.1 s.2.2 (lf_up s.1 78 0 (s.1 1 0)) s.2.2 := lf_fq_up (lf_fq_rf) rfl (fun h => absurd h (by decide))
  have b4 : 0 ≤ s.1 1 1 ∧ s.1 1 1 ≤ 16 := (show 0 ≤ (lf_up s.1 78 0 (s.1 1 0)) 1 1 ∧ (lf_up s.1 78 0 (s.1 1 0)) 1 1 ≤ 16 from iv_r1_1 hI2)
  have hI5 : iv_A (lf_up (lf_up s.1 78 0 (s.1 1 0)) 78 1 (s.1 1 1)) s.2.2 := iv_w78_1 hI2 (by omega)
  have fr6 : lf_fq [78, 79, 80, 81, 82, 83, 84, 85, 86, 87, 88, 89, 90, 91, 92, 93, 94] 1000000 true s.1 s.2.2 (lf_up (lf_up s.1 78 0 (s.1 1 0)) 78 1 (s.1 1 1)) s.2.2 := lf_fq_up fr3 rfl (fun h => absurd h (by decide))
  have b7 : 0 ≤ s.1 1 2 ∧ s.1 1 2 ≤ 6 := (show 0 ≤ (lf_up (lf_up s.1 78 0 (s.1 1 0)) 78 1 (s.1 1 1)) 1 2 ∧ (lf_up (lf_up s.1 78 0 (s.1 1 0)) 78 1 (s.1 1 1)) 1 2 ≤ 6 from iv_r1_2 hI5)
  have hI8 : iv_A (lf_up (lf_up (lf_up s.1 78 0 (s.1 1 0)) 78 1 (s.1 1 1)) 78 2 (s.1 1 2)) s.2.2 := iv_w78_2 hI5 (by omega)
  have fr9 : lf_fq [78, 79, 80, 81, 82, 83, 84, 85, 86, 87, 88, 89, 90, 91, 92, 93, 94] 1000000 true s.1 s.2.2 (lf_up (lf_up (lf_up s.1 78 0 (s.1 1 0)) 78 1 (s.1 1 1)) 78 2 (s.1 1 2)) s.2.2 := lf_fq_up fr6 rfl (fun h => absurd h (by decide))
  have b10 : 0 ≤ s.1 0 11 ∧ s.1 0 11 ≤ 4 := (show 0 ≤ (lf_up (lf_up (lf_up s.1 78 0 (s.1 1 0)) 78 1 (s.1 1 1)) 78 2 (s.1 1 2)) 0 11 ∧ (lf_up (lf_up (lf_up s.1 78 0 (s.1 1 0)) 78 1 (s.1 1 1)) 78 2 (s.1 1 2)) 0 11 ≤ 4 from iv_r0_11 hI8)
  have hI11 : iv_A (lf_up (lf_up (lf_up (lf_up s.1 78 0 (s.1 1 0)) 78 1 (s.1 1 1)) 78 2 (s.1 1 2)) 78 3 (s.1 0 11)) s.2.2 := iv_w78_3 hI8 (by omega)
  have fr12 : lf_fq [78, 79, 80, 81, 82, 83, 84, 85, 86, 87, 88, 89, 90, 91, 92, 93, 94] 1000000 true s.1 s.2.2 (lf_up (lf_up (lf_up (lf_up s.1 78 0 (s.1 1 0)) 78 1 (s.1 1 1)) 78 2 (s.1 1 2)) 78 3 (s.1 0 11)) s.2.2 := lf_fq_up fr9 rfl (fun h => absurd h (by decide))
  have b13 : (-1) ≤ s.1 0 12 ∧ s.1 0 12 ≤ 3 := (show (-1) ≤ (lf_up (lf_up (lf_up (lf_up s.1 78 0 (s.1 1 0)) 78 1 (s.1 1 1)) 78 2 (s.1 1 2)) 78 3 (s.1 0 11)) 0 12 ∧ (lf_up (lf_up (lf_up (lf_up s.1 78 0 (s.1 1 0)) 78 1 (s.1 1 1)) 78 2 (s.1 1 2)) 78 3 (s.1 0 11)) 0 12 ≤ 3 from iv_r0_12 hI11)
  have hI14 : iv_A (lf_up (lf_up (lf_up (lf_up (lf_up s.1 78 0 (s.1 1 0)) 78 1 (s.1 1 1)) 78 2 (s.1 1 2)) 78 3 (s.1 0 11)) 78 4 (s.1 0 12)) s.2.2 := iv_w78_4 hI11 (by omega)
  have fr15 : lf_fq [78, 79, 80, 81, 82, 83, 84, 85, 86, 87, 88, 89, 90, 91, 92, 93, 94] 1000000 true s.1 s.2.2 (lf_up (lf_up (lf_up (lf_up (lf_up s.1 78 0 (s.1 1 0)) 78 1 (s.1 1 1)) 78 2 (s.1 1 2)) 78 3 (s.1 0 11)) 78 4 (s.1 0 12)) s.2.2 := lf_fq_up fr12 rfl (fun h => absurd h (by decide))
  refine sm_174 hI14 (fun s21 hI17 fr16 => ?_)
  have fr19 : lf_fq [78, 79, 80, 81, 82, 83, 84, 85, 86, 87, 88, 89, 90, 91, 92, 93, 94] 1000000 true s.1 s.2.2 s21.1 s21.2.2 := lf_fq_tr fr15 (lf_fq_wk fr16 rfl (by decide) (by decide))
  refine sm_175 hI17 (fun s22 hI21 fr20 => ?_)
  have fr23 : lf_fq [78, 79, 80, 81, 82, 83, 84, 85, 86, 87, 88, 89, 90, 91, 92, 93, 94] 1000000 true s.1 s.2.2 s22.1 s22.2.2 := lf_fq_tr fr19 (lf_fq_wk fr20 rfl (by decide) (by decide))
  refine sm_176 hI21 (fun s23 hI25 fr24 => ?_)
  have fr27 : lf_fq [78, 79, 80, 81, 82, 83, 84, 85, 86, 87, 88, 89, 90, 91, 92, 93, 94] 1000000 true s.1 s.2.2 s23.1 s23.2.2 := lf_fq_tr fr23 (lf_fq_wk fr24 rfl (by decide) (by decide))
  have b28 : (-2147483648) ≤ s23.1 15 7 ∧ s23.1 15 7 ≤ 2147483647 := iv_full hI25
  have b29 : s23.1 15 7 = s22.1 15 7 := congrFun (fr24.1 15 rfl) _
  have b30 : s22.1 15 7 = s21.1 15 7 := congrFun (fr20.1 15 rfl) _
  have b31 : s21.1 15 7 = s.1 15 7 := congrFun (fr16.1 15 rfl) _
  exact hQ (s23.1 15 7) s23 hI25 fr27 (show (-2147483648 : Int) ≤ s23.1 15 7 ∧ s23.1 15 7 ≤ (2147483647 : Int) from by omega)
-- fm_181 Model.copy 96 97
theorem sm_181 {Q : lf_Z → Prop} {s : lf_Z} (hI : iv_A s.1 s.2.2) (hQ : ∀  (s' : lf_Z), iv_A s'.1 s'.2.2 → lf_fq [97] 1000000 true s.1 s.2.2 s'.1 s'.2.2 → Q  s') : fm_181 Q s := by
  unfold fm_181 fm_181_p2L
  intro X hX
  have key : ∀ (m : Nat) (x2 : Int) (s' : lf_Z), 0 ≤ x2 → x2 ≤ 1538 → (1538 - x2).toNat < m → s'.2 = s.2 → (∀ a, a ≠ 97 → s'.1 a = s.1 a) → (∀ j : Int, 0 ≤ j → j < x2 → s'.1 97 j = s.1 96 j) → (∀ j : Int, ¬ (0 ≤ j ∧ j < x2) → s'.1 97 j = s.1 97 j) → X x2 s' := by
    intro m
    induction m with
    | zero => intros; omega
    | succ m ih =>
      intro x2 s' h0 h1 hm hs hr hd ho
      refine hX _ _ ?_
      unfold fm_181_p2
      refine ⟨lf_Rof (by omega), fun c => ?_, fun c => ⟨by omega, ?_⟩⟩
      · have e : x2 = 1538 := by omega
        subst e
        refine hQ s' ?_ ⟨fun a ha => hr a (fun e => by subst e; cases ha), fun i hi => ?_, fun _ => by rw [hs], fun r _ i _ => by rw [hr 96 (by decide)]⟩
        · rw [show s'.2.2 = s.2.2 from by rw [hs]]
          exact iv_copyAll (c := 96) (d := 97) (Or.inl ⟨rfl, rfl⟩) hI hr (fun j a b => hd j a b) ho
        · rw [hr 96 (by decide)]
      · refine ih (x2 + 1) _ (by omega) (by omega) (by omega) hs ?_ ?_ ?_
        · intro a ha
          show lf_up s'.1 97 x2 (s'.1 96 x2) a = _
          rw [lf_up_row ha]
          exact hr a ha
        · intro j j0 j1
          show lf_up s'.1 97 x2 (s'.1 96 x2) 97 j = _
          by_cases hj : j = x2
          · subst hj
            rw [lf_up_s, hr 96 (by decide)]
          · rw [lf_up_i hj]
            exact hd j j0 (by omega)
        · intro j hj
          show lf_up s'.1 97 x2 (s'.1 96 x2) 97 j = _
          rw [lf_up_i (by omega)]
          exact ho j (by omega)
  exact key _ 0 s (by omega) (by omega) (Nat.lt_succ_self _) rfl (fun _ _ => rfl) (fun j a b => by omega) (fun _ _ => rfl)
-- fm_325 Model.image 95
theorem sm_325 {Q : Int → lf_Z → Prop} {s : lf_Z} (hI : iv_A s.1 s.2.2) (hQ : ∀ (r : Int) (s' : lf_Z), iv_A s'.1 s'.2.2 → lf_fq [97] 1000000 true s.1 s.2.2 s'.1 s'.2.2 → ((-2147483648) ≤ r ∧ r ≤ 2147483647) → Q r s') : fm_325 Q s := by
  unfold fm_325
  refine sm_181 hI (fun s21 hI2 fr1 => ?_)
  have fr4 : lf_fq [97] 1000000 true s.1 s.2.2 s21.1 s21.2.2 := lf_fq_tr (lf_fq_rf) (lf_fq_wk fr1 rfl (by decide) (by decide))
  have b5 : (-2147483648) ≤ s21.1 96 3 ∧ s21.1 96 3 ≤ 2147483647 := iv_full hI2
  have b6 : s21.1 96 3 = s.1 96 3 := congrFun (fr1.1 96 rfl) _
  exact hQ (s21.1 96 3) s21 hI2 fr4 (show (-2147483648 : Int) ≤ s21.1 96 3 ∧ s21.1 96 3 ≤ (2147483647 : Int) from by omega)
-- fm_2b Land.setApart 13
theorem sm_2b_p9 {X9 : Int → lf_Z → Prop} {Q : lf_Z → Prop} {x1 : Int} {s : lf_Z} (hQ : ∀  (s' : lf_Z), iv_A s'.1 s'.2.2 → lf_fq [13] 1000000 true s.1 s.2.2 s'.1 s'.2.2 → Q  s') {M9 : Nat} (hX9 : ∀ (x1 : Int) (s' : lf_Z), iv_A s'.1 s'.2.2 → lf_fq [13] 1000000 true s.1 s.2.2 s'.1 s'.2.2 → 0 ≤ x1 ∧ x1 ≤ 12 → (12 - x1).toNat < M9 → X9 x1 s') (hM9 : (12 - x1).toNat ≤ M9) (hI : iv_A s.1 s.2.2) (bx1 : 0 ≤ x1 ∧ x1 ≤ 12) : fm_2b_p9 Q X9 x1 s := by
  unfold fm_2b_p9
  refine ⟨(show lf_R x1 from lf_Rof (by omega)), ?_⟩
  refine ⟨fun c3 => ?_, fun c3 => ?_⟩
  · skip
    replace c3 : 12 ≤ x1 := c3
    exact hQ s hI (lf_fq_rf)
  · skip
    replace c3 : ¬ (12 ≤ x1) := c3
    refine ⟨(show (0 : Int) ≤ (x1 * 12) + x1 ∧ (x1 * 12) + x1 < (144 : Int) from by omega), ?_⟩
    have hI4 : iv_A (lf_up s.1 13 ((x1 * 12) + x1) 0) s.2.2 := iv_w13 hI (by omega)
    have fr5 : lf_fq [13] 1000000 true s.1 s.2.2 (lf_up s.1 13 ((x1 * 12) + x1) 0) s.2.2 := lf_fq_up (lf_fq_rf) rfl (fun h => absurd h (by decide))
    exact hX9 (x1 + 1) (lf_up s.1 13 ((x1 * 12) + x1) 0, s.2.1, s.2.2) hI4 fr5 (show (0 : Int) ≤ x1 + 1 ∧ x1 + 1 ≤ (12 : Int) from by omega) (show (12 - (x1 + 1)).toNat < M9 from by omega)
theorem sm_2b_p9L {Q : lf_Z → Prop} {x1 : Int} {s : lf_Z} (hQ : ∀  (s' : lf_Z), iv_A s'.1 s'.2.2 → lf_fq [13] 1000000 true s.1 s.2.2 s'.1 s'.2.2 → Q  s') (hI : iv_A s.1 s.2.2) (bx1 : 0 ≤ x1 ∧ x1 ≤ 12) : fm_2b_p9L Q x1 s := by
  intro X9 hX
  have key : ∀ (m9 : Nat) (x1 : Int) (s' : lf_Z), iv_A s'.1 s'.2.2 → lf_fq [13] 1000000 true s.1 s.2.2 s'.1 s'.2.2 → 0 ≤ x1 ∧ x1 ≤ 12 → (12 - x1).toNat < m9 → X9 x1 s' := by
    intro m9
    induction m9 with
    | zero => intro x1 s' _ _ bx1 h9; exact absurd h9 (Nat.not_lt_zero _)
    | succ m9 ih => intro x1 s' i7 f7 bx1 h9; exact hX _ _ (sm_2b_p9 (fun t9 i9 f9 => hQ t9 i9 (lf_fq_tr f7 f9))   (fun x1' t8 i8 f8 bx1' h8 => ih x1' t8 i8 (lf_fq_tr f7 f8) bx1' (by omega)) (Nat.le_refl _)  i7  bx1  )
  exact key _ _ s hI lf_fq_rf bx1 (Nat.lt_succ_self _)
theorem sm_2b {Q : lf_Z → Prop} {s : lf_Z} (hI : iv_A s.1 s.2.2) (hQ : ∀  (s' : lf_Z), iv_A s'.1 s'.2.2 → lf_fq [13] 1000000 true s.1 s.2.2 s'.1 s'.2.2 → Q  s') : fm_2b Q s := by
  unfold fm_2b
  have hI1 : iv_A (lf_fl s.1 13 144 1000) s.2.2 := iv_fl13 hI (by omega)
  have fr2 : lf_fq [13] 1000000 true s.1 s.2.2 (lf_fl s.1 13 144 1000) s.2.2 := lf_fq_fl (lf_fq_rf) rfl (by decide)
  exact sm_2b_p9L (fun t9 i9 f9 => hQ t9 i9 (lf_fq_tr fr2 f9)) hI1 (show (0 : Int) ≤ 0 ∧ 0 ≤ (12 : Int) from by omega)
-- fm_178 Land.cutTo 1 i i i
theorem sm_178_p33 {X33 : Int → lf_Z → Prop} {Q : lf_Z → Prop} {x4 : Int} {s : lf_Z} (hQ : ∀  (s' : lf_Z), iv_A s'.1 s'.2.2 → lf_fq [1, 11, 12, 13] 1000000 true s.1 s.2.2 s'.1 s'.2.2 → Q  s') {M33 : Nat} (hX33 : ∀ (x4 : Int) (s' : lf_Z), iv_A s'.1 s'.2.2 → lf_fq [1, 11, 12, 13] 1000000 true s.1 s.2.2 s'.1 s'.2.2 → 0 ≤ x4 ∧ x4 ≤ 16 → (16 - x4).toNat < M33 → X33 x4 s') (hM33 : (16 - x4).toNat ≤ M33) (hI : iv_A s.1 s.2.2) (bx4 : 0 ≤ x4 ∧ x4 ≤ 16) : fm_178_p33 Q X33 x4 s := by
  unfold fm_178_p33
  have b13 : 0 ≤ s.1 1 1 ∧ s.1 1 1 ≤ 16 := iv_r1_1 hI
  refine ⟨(show lf_R x4 from lf_Rof (by omega)), ?_⟩
  refine ⟨(show lf_R (s.1 1 1) from lf_Rof (by omega)), ?_⟩
  refine ⟨fun c14 => ?_, fun c14 => ?_⟩
  · skip
    replace c14 : s.1 1 1 ≤ x4 := c14
    exact hQ s hI (lf_fq_rf)
  · skip
    replace c14 : ¬ (s.1 1 1 ≤ x4) := c14
    refine sm_20 hI (show (0 : Int) ≤ x4 ∧ x4 ≤ (15 : Int) from by omega) (fun s24 hI16 fr15 => ?_)
    have fr18 : lf_fq [1, 11, 12, 13] 1000000 true s.1 s.2.2 s24.1 s24.2.2 := lf_fq_tr (lf_fq_rf) (lf_fq_wk fr15 rfl (by decide) (by decide))
    exact hX33 (x4 + 1) s24 hI16 fr18 (show (0 : Int) ≤ x4 + 1 ∧ x4 + 1 ≤ (16 : Int) from by omega) (show (16 - (x4 + 1)).toNat < M33 from by omega)
theorem sm_178_p33L {Q : lf_Z → Prop} {x4 : Int} {s : lf_Z} (hQ : ∀  (s' : lf_Z), iv_A s'.1 s'.2.2 → lf_fq [1, 11, 12, 13] 1000000 true s.1 s.2.2 s'.1 s'.2.2 → Q  s') (hI : iv_A s.1 s.2.2) (bx4 : 0 ≤ x4 ∧ x4 ≤ 16) : fm_178_p33L Q x4 s := by
  intro X33 hX
  have key : ∀ (m9 : Nat) (x4 : Int) (s' : lf_Z), iv_A s'.1 s'.2.2 → lf_fq [1, 11, 12, 13] 1000000 true s.1 s.2.2 s'.1 s'.2.2 → 0 ≤ x4 ∧ x4 ≤ 16 → (16 - x4).toNat < m9 → X33 x4 s' := by
    intro m9
    induction m9 with
    | zero => intro x4 s' _ _ bx4 h9; exact absurd h9 (Nat.not_lt_zero _)
    | succ m9 ih => intro x4 s' i7 f7 bx4 h9; exact hX _ _ (sm_178_p33 (fun t9 i9 f9 => hQ t9 i9 (lf_fq_tr f7 f9))   (fun x4' t8 i8 f8 bx4' h8 => ih x4' t8 i8 (lf_fq_tr f7 f8) bx4' (by omega)) (Nat.le_refl _)  i7  bx4  )
  exact key _ _ s hI lf_fq_rf bx4 (Nat.lt_succ_self _)
theorem sm_178 {a1 : Int} {a2 : Int} {a3 : Int} {Q : lf_Z → Prop} {s : lf_Z} (hI : iv_A s.1 s.2.2) (ba1 : 0 ≤ a1 ∧ a1 ≤ 12) (ba2 : 0 ≤ a2 ∧ a2 ≤ 16) (ba3 : 0 ≤ a3 ∧ a3 ≤ 6) (hQ : ∀  (s' : lf_Z), iv_A s'.1 s'.2.2 → lf_fq [1, 11, 12, 13] 1000000 true s.1 s.2.2 s'.1 s'.2.2 → Q  s') : fm_178 a1 a2 a3 Q s := by
  unfold fm_178
  have hI1 : iv_A (lf_up s.1 1 0 a1) s.2.2 := iv_w1_0 hI (by omega)
  have fr2 : lf_fq [1, 11, 12, 13] 1000000 true s.1 s.2.2 (lf_up s.1 1 0 a1) s.2.2 := lf_fq_up (lf_fq_rf) rfl (fun h => absurd h (by decide))
  have hI3 : iv_A (lf_up (lf_up s.1 1 0 a1) 1 1 a2) s.2.2 := iv_w1_1 hI1 (by omega)
  have fr4 : lf_fq [1, 11, 12, 13] 1000000 true s.1 s.2.2 (lf_up (lf_up s.1 1 0 a1) 1 1 a2) s.2.2 := lf_fq_up fr2 rfl (fun h => absurd h (by decide))
  have hI5 : iv_A (lf_up (lf_up (lf_up s.1 1 0 a1) 1 1 a2) 1 2 a3) s.2.2 := iv_w1_2 hI3 (by omega)
  have fr6 : lf_fq [1, 11, 12, 13] 1000000 true s.1 s.2.2 (lf_up (lf_up (lf_up s.1 1 0 a1) 1 1 a2) 1 2 a3) s.2.2 := lf_fq_up fr4 rfl (fun h => absurd h (by decide))
  have hI7 : iv_A (lf_fl (lf_up (lf_up (lf_up s.1 1 0 a1) 1 1 a2) 1 2 a3) 12 12 0) s.2.2 := iv_fl12 hI5 (by omega)
  have fr8 : lf_fq [1, 11, 12, 13] 1000000 true s.1 s.2.2 (lf_fl (lf_up (lf_up (lf_up s.1 1 0 a1) 1 1 a2) 1 2 a3) 12 12 0) s.2.2 := lf_fq_fl fr6 rfl (by decide)
  refine sm_2b hI7 (fun s21 hI10 fr9 => ?_)
  have fr12 : lf_fq [1, 11, 12, 13] 1000000 true s.1 s.2.2 s21.1 s21.2.2 := lf_fq_tr fr8 (lf_fq_wk fr9 rfl (by decide) (by decide))
  exact sm_178_p33L (fun t9 i9 f9 => hQ t9 i9 (lf_fq_tr fr12 f9)) hI10 (show (0 : Int) ≤ 0 ∧ 0 ≤ (16 : Int) from by omega)
-- fm_174b Stand.likeOther 15 79
theorem sm_174b {Q : lf_Z → Prop} {s : lf_Z} (hI : iv_A s.1 s.2.2) (hQ : ∀  (s' : lf_Z), iv_A s'.1 s'.2.2 → lf_fq [15, 16, 17, 18, 19, 20, 21] 1000000 true s.1 s.2.2 s'.1 s'.2.2 → Q  s') : fm_174b Q s := by
  unfold fm_174b
  have fr1 : lf_fq [15, 16, 17, 18, 19, 20, 21] 1000000 true s.1 s.2.2 (lf_cp s.1 80 16 0 0 4) s.2.2 := lf_fq_cp (lf_fq_rf) rfl (by decide)
  have hI2 : iv_A (lf_cp (lf_cp s.1 80 16 0 0 4) 81 17 0 0 4) s.2.2 := iv_cp2 hI (Or.inr ⟨rfl, rfl⟩)
  have fr3 : lf_fq [15, 16, 17, 18, 19, 20, 21] 1000000 true s.1 s.2.2 (lf_cp (lf_cp s.1 80 16 0 0 4) 81 17 0 0 4) s.2.2 := lf_fq_cp fr1 rfl (by decide)
  have hI4 : iv_A (lf_cp (lf_cp (lf_cp s.1 80 16 0 0 4) 81 17 0 0 4) 82 18 0 0 4) s.2.2 := iv_cp82_18 hI2
  have fr5 : lf_fq [15, 16, 17, 18, 19, 20, 21] 1000000 true s.1 s.2.2 (lf_cp (lf_cp (lf_cp s.1 80 16 0 0 4) 81 17 0 0 4) 82 18 0 0 4) s.2.2 := lf_fq_cp fr3 rfl (by decide)
  have hI6 : iv_A (lf_cp (lf_cp (lf_cp (lf_cp s.1 80 16 0 0 4) 81 17 0 0 4) 82 18 0 0 4) 83 19 0 0 6) s.2.2 := iv_cp83_19 hI4
  have fr7 : lf_fq [15, 16, 17, 18, 19, 20, 21] 1000000 true s.1 s.2.2 (lf_cp (lf_cp (lf_cp (lf_cp s.1 80 16 0 0 4) 81 17 0 0 4) 82 18 0 0 4) 83 19 0 0 6) s.2.2 := lf_fq_cp fr5 rfl (by decide)
  have hI8 : iv_A (lf_cp (lf_cp (lf_cp (lf_cp (lf_cp s.1 80 16 0 0 4) 81 17 0 0 4) 82 18 0 0 4) 83 19 0 0 6) 84 20 0 0 6) s.2.2 := iv_cp84_20 hI6
  have fr9 : lf_fq [15, 16, 17, 18, 19, 20, 21] 1000000 true s.1 s.2.2 (lf_cp (lf_cp (lf_cp (lf_cp (lf_cp s.1 80 16 0 0 4) 81 17 0 0 4) 82 18 0 0 4) 83 19 0 0 6) 84 20 0 0 6) s.2.2 := lf_fq_cp fr7 rfl (by decide)
  have hI10 : iv_A (lf_cp (lf_cp (lf_cp (lf_cp (lf_cp (lf_cp s.1 80 16 0 0 4) 81 17 0 0 4) 82 18 0 0 4) 83 19 0 0 6) 84 20 0 0 6) 85 21 0 0 12) s.2.2 := iv_cp85_21 hI8
  have fr11 : lf_fq [15, 16, 17, 18, 19, 20, 21] 1000000 true s.1 s.2.2 (lf_cp (lf_cp (lf_cp (lf_cp (lf_cp (lf_cp s.1 80 16 0 0 4) 81 17 0 0 4) 82 18 0 0 4) 83 19 0 0 6) 84 20 0 0 6) 85 21 0 0 12) s.2.2 := lf_fq_cp fr9 rfl (by decide)
  have b12 : (-2147483648) ≤ (lf_cp (lf_cp (lf_cp (lf_cp (lf_cp (lf_cp s.1 80 16 0 0 4) 81 17 0 0 4) 82 18 0 0 4) 83 19 0 0 6) 84 20 0 0 6) 85 21 0 0 12) 79 6 ∧ (lf_cp (lf_cp (lf_cp (lf_cp (lf_cp (lf_cp s.1 80 16 0 0 4) 81 17 0 0 4) 82 18 0 0 4) 83 19 0 0 6) 84 20 0 0 6) 85 21 0 0 12) 79 6 ≤ 2147483647 := iv_full hI10
  have b13 : (lf_cp (lf_cp (lf_cp (lf_cp (lf_cp (lf_cp s.1 80 16 0 0 4) 81 17 0 0 4) 82 18 0 0 4) 83 19 0 0 6) 84 20 0 0 6) 85 21 0 0 12) 79 6 = (lf_cp (lf_cp (lf_cp (lf_cp (lf_cp s.1 80 16 0 0 4) 81 17 0 0 4) 82 18 0 0 4) 83 19 0 0 6) 84 20 0 0 6) 79 6 := lf_cp_c (by omega)
  have b14 : (lf_cp (lf_cp (lf_cp (lf_cp (lf_cp s.1 80 16 0 0 4) 81 17 0 0 4) 82 18 0 0 4) 83 19 0 0 6) 84 20 0 0 6) 79 6 = (lf_cp (lf_cp (lf_cp (lf_cp s.1 80 16 0 0 4) 81 17 0 0 4) 82 18 0 0 4) 83 19 0 0 6) 79 6 := lf_cp_c (by omega)
  have b15 : (lf_cp (lf_cp (lf_cp (lf_cp s.1 80 16 0 0 4) 81 17 0 0 4) 82 18 0 0 4) 83 19 0 0 6) 79 6 = (lf_cp (lf_cp (lf_cp s.1 80 16 0 0 4) 81 17 0 0 4) 82 18 0 0 4) 79 6 := lf_cp_c (by omega)
  have b16 : (lf_cp (lf_cp (lf_cp s.1 80 16 0 0 4) 81 17 0 0 4) 82 18 0 0 4) 79 6 = (lf_cp (lf_cp s.1 80 16 0 0 4) 81 17 0 0 4) 79 6 := lf_cp_c (by omega)
  have b17 : (lf_cp (lf_cp s.1 80 16 0 0 4) 81 17 0 0 4) 79 6 = (lf_cp s.1 80 16 0 0 4) 79 6 := lf_cp_c (by omega)
  have b18 : (lf_cp s.1 80 16 0 0 4) 79 6 = s.1 79 6 := lf_cp_c (by omega)
  have hI19 : iv_A (lf_up (lf_cp (lf_cp (lf_cp (lf_cp (lf_cp (lf_cp s.1 80 16 0 0 4) 81 17 0 0 4) 82 18 0 0 4) 83 19 0 0 6) 84 20 0 0 6) 85 21 0 0 12) 15 6 ((lf_cp (lf_cp (lf_cp (lf_cp (lf_cp (lf_cp s.1 80 16 0 0 4) 81 17 0 0 4) 82 18 0 0 4) 83 19 0 0 6) 84 20 0 0 6) 85 21 0 0 12) 79 6)) s.2.2 := iv_w15_6 hI10 (by omega)
  have fr20 : lf_fq [15, 16, 17, 18, 19, 20, 21] 1000000 true s.1 s.2.2 (lf_up (lf_cp (lf_cp (lf_cp (lf_cp (lf_cp (lf_cp s.1 80 16 0 0 4) 81 17 0 0 4) 82 18 0 0 4) 83 19 0 0 6) 84 20 0 0 6) 85 21 0 0 12) 15 6 ((lf_cp (lf_cp (lf_cp (lf_cp (lf_cp (lf_cp s.1 80 16 0 0 4) 81 17 0 0 4) 82 18 0 0 4) 83 19 0 0 6) 84 20 0 0 6) 85 21 0 0 12) 79 6)) s.2.2 := lf_fq_up fr11 rfl (fun h => absurd h (by decide))
  have b21 : (-2147483648) ≤ (lf_cp (lf_cp (lf_cp (lf_cp (lf_cp (lf_cp s.1 80 16 0 0 4) 81 17 0 0 4) 82 18 0 0 4) 83 19 0 0 6) 84 20 0 0 6) 85 21 0 0 12) 79 7 ∧ (lf_cp (lf_cp (lf_cp (lf_cp (lf_cp (lf_cp s.1 80 16 0 0 4) 81 17 0 0 4) 82 18 0 0 4) 83 19 0 0 6) 84 20 0 0 6) 85 21 0 0 12) 79 7 ≤ 2147483647 := (show (-2147483648) ≤ (lf_up (lf_cp (lf_cp (lf_cp (lf_cp (lf_cp (lf_cp s.1 80 16 0 0 4) 81 17 0 0 4) 82 18 0 0 4) 83 19 0 0 6) 84 20 0 0 6) 85 21 0 0 12) 15 6 ((lf_cp (lf_cp (lf_cp (lf_cp (lf_cp (lf_cp s.1 80 16 0 0 4) 81 17 0 0 4) 82 18 0 0 4) 83 19 0 0 6) 84 20 0 0 6) 85 21 0 0 12) 79 6)) 79 7 ∧ (lf_up (lf_cp (lf_cp (lf_cp (lf_cp (lf_cp (lf_cp s.1 80 16 0 0 4) 81 17 0 0 4) 82 18 0 0 4) 83 19 0 0 6) 84 20 0 0 6) 85 21 0 0 12) 15 6 ((lf_cp (lf_cp (lf_cp (lf_cp (lf_cp (lf_cp s.1 80 16 0 0 4) 81 17 0 0 4) 82 18 0 0 4) 83 19 0 0 6) 84 20 0 0 6) 85 21 0 0 12) 79 6)) 79 7 ≤ 2147483647 from iv_full hI19)
  have b22 : (lf_cp (lf_cp (lf_cp (lf_cp (lf_cp (lf_cp s.1 80 16 0 0 4) 81 17 0 0 4) 82 18 0 0 4) 83 19 0 0 6) 84 20 0 0 6) 85 21 0 0 12) 79 7 = (lf_cp (lf_cp (lf_cp (lf_cp (lf_cp s.1 80 16 0 0 4) 81 17 0 0 4) 82 18 0 0 4) 83 19 0 0 6) 84 20 0 0 6) 79 7 := lf_cp_c (by omega)
  have b23 : (lf_cp (lf_cp (lf_cp (lf_cp (lf_cp s.1 80 16 0 0 4) 81 17 0 0 4) 82 18 0 0 4) 83 19 0 0 6) 84 20 0 0 6) 79 7 = (lf_cp (lf_cp (lf_cp (lf_cp s.1 80 16 0 0 4) 81 17 0 0 4) 82 18 0 0 4) 83 19 0 0 6) 79 7 := lf_cp_c (by omega)
  have b24 : (lf_cp (lf_cp (lf_cp (lf_cp s.1 80 16 0 0 4) 81 17 0 0 4) 82 18 0 0 4) 83 19 0 0 6) 79 7 = (lf_cp (lf_cp (lf_cp s.1 80 16 0 0 4) 81 17 0 0 4) 82 18 0 0 4) 79 7 := lf_cp_c (by omega)
  have b25 : (lf_cp (lf_cp (lf_cp s.1 80 16 0 0 4) 81 17 0 0 4) 82 18 0 0 4) 79 7 = (lf_cp (lf_cp s.1 80 16 0 0 4) 81 17 0 0 4) 79 7 := lf_cp_c (by omega)
  have b26 : (lf_cp (lf_cp s.1 80 16 0 0 4) 81 17 0 0 4) 79 7 = (lf_cp s.1 80 16 0 0 4) 79 7 := lf_cp_c (by omega)
  have b27 : (lf_cp s.1 80 16 0 0 4) 79 7 = s.1 79 7 := lf_cp_c (by omega)
  have hI28 : iv_A (lf_up (lf_up (lf_cp (lf_cp (lf_cp (lf_cp (lf_cp (lf_cp s.1 80 16 0 0 4) 81 17 0 0 4) 82 18 0 0 4) 83 19 0 0 6) 84 20 0 0 6) 85 21 0 0 12) 15 6 ((lf_cp (lf_cp (lf_cp (lf_cp (lf_cp (lf_cp s.1 80 16 0 0 4) 81 17 0 0 4) 82 18 0 0 4) 83 19 0 0 6) 84 20 0 0 6) 85 21 0 0 12) 79 6)) 15 7 ((lf_cp (lf_cp (lf_cp (lf_cp (lf_cp (lf_cp s.1 80 16 0 0 4) 81 17 0 0 4) 82 18 0 0 4) 83 19 0 0 6) 84 20 0 0 6) 85 21 0 0 12) 79 7)) s.2.2 := iv_w15_7 hI19 (by omega)
  have fr29 : lf_fq [15, 16, 17, 18, 19, 20, 21] 1000000 true s.1 s.2.2 (lf_up (lf_up (lf_cp (lf_cp (lf_cp (lf_cp (lf_cp (lf_cp s.1 80 16 0 0 4) 81 17 0 0 4) 82 18 0 0 4) 83 19 0 0 6) 84 20 0 0 6) 85 21 0 0 12) 15 6 ((lf_cp (lf_cp (lf_cp (lf_cp (lf_cp (lf_cp s.1 80 16 0 0 4) 81 17 0 0 4) 82 18 0 0 4) 83 19 0 0 6) 84 20 0 0 6) 85 21 0 0 12) 79 6)) 15 7 ((lf_cp (lf_cp (lf_cp (lf_cp (lf_cp (lf_cp s.1 80 16 0 0 4) 81 17 0 0 4) 82 18 0 0 4) 83 19 0 0 6) 84 20 0 0 6) 85 21 0 0 12) 79 7)) s.2.2 := lf_fq_up fr20 rfl (fun h => absurd h (by decide))
  have b30 : (-2147483648) ≤ (lf_cp (lf_cp (lf_cp (lf_cp (lf_cp (lf_cp s.1 80 16 0 0 4) 81 17 0 0 4) 82 18 0 0 4) 83 19 0 0 6) 84 20 0 0 6) 85 21 0 0 12) 79 8 ∧ (lf_cp (lf_cp (lf_cp (lf_cp (lf_cp (lf_cp s.1 80 16 0 0 4) 81 17 0 0 4) 82 18 0 0 4) 83 19 0 0 6) 84 20 0 0 6) 85 21 0 0 12) 79 8 ≤ 2147483647 := (show (-2147483648) ≤ (lf_up (lf_up (lf_cp (lf_cp (lf_cp (lf_cp (lf_cp (lf_cp s.1 80 16 0 0 4) 81 17 0 0 4) 82 18 0 0 4) 83 19 0 0 6) 84 20 0 0 6) 85 21 0 0 12) 15 6 ((lf_cp (lf_cp (lf_cp (lf_cp (lf_cp (lf_cp s.1 80 16 0 0 4) 81 17 0 0 4) 82 18 0 0 4) 83 19 0 0 6) 84 20 0 0 6) 85 21 0 0 12) 79 6)) 15 7 ((lf_cp (lf_cp (lf_cp (lf_cp (lf_cp (lf_cp s.1 80 16 0 0 4) 81 17 0 0 4) 82 18 0 0 4) 83 19 0 0 6) 84 20 0 0 6) 85 21 0 0 12) 79 7)) 79 8 ∧ (lf_up (lf_up (lf_cp (lf_cp (lf_cp (lf_cp (lf_cp (lf_cp s.1 80 16 0 0 4) 81 17 0 0 4) 82 18 0 0 4) 83 19 0 0 6) 84 20 0 0 6) 85 21 0 0 12) 15 6 ((lf_cp (lf_cp (lf_cp (lf_cp (lf_cp (lf_cp s.1 80 16 0 0 4) 81 17 0 0 4) 82 18 0 0 4) 83 19 0 0 6) 84 20 0 0 6) 85 21 0 0 12) 79 6)) 15 7 ((lf_cp (lf_cp (lf_cp (lf_cp (lf_cp (lf_cp s.1 80 16 0 0 4) 81 17 0 0 4) 82 18 0 0 4) 83 19 0 0 6) 84 20 0 0 6) 85 21 0 0 12) 79 7)) 79 8 ≤ 2147483647 from iv_full hI28)
  have b31 : (lf_cp (lf_cp (lf_cp (lf_cp (lf_cp (lf_cp s.1 80 16 0 0 4) 81 17 0 0 4) 82 18 0 0 4) 83 19 0 0 6) 84 20 0 0 6) 85 21 0 0 12) 79 8 = (lf_cp (lf_cp (lf_cp (lf_cp (lf_cp s.1 80 16 0 0 4) 81 17 0 0 4) 82 18 0 0 4) 83 19 0 0 6) 84 20 0 0 6) 79 8 := lf_cp_c (by omega)
  have b32 : (lf_cp (lf_cp (lf_cp (lf_cp (lf_cp s.1 80 16 0 0 4) 81 17 0 0 4) 82 18 0 0 4) 83 19 0 0 6) 84 20 0 0 6) 79 8 = (lf_cp (lf_cp (lf_cp (lf_cp s.1 80 16 0 0 4) 81 17 0 0 4) 82 18 0 0 4) 83 19 0 0 6) 79 8 := lf_cp_c (by omega)
  have b33 : (lf_cp (lf_cp (lf_cp (lf_cp s.1 80 16 0 0 4) 81 17 0 0 4) 82 18 0 0 4) 83 19 0 0 6) 79 8 = (lf_cp (lf_cp (lf_cp s.1 80 16 0 0 4) 81 17 0 0 4) 82 18 0 0 4) 79 8 := lf_cp_c (by omega)
  have b34 : (lf_cp (lf_cp (lf_cp s.1 80 16 0 0 4) 81 17 0 0 4) 82 18 0 0 4) 79 8 = (lf_cp (lf_cp s.1 80 16 0 0 4) 81 17 0 0 4) 79 8 := lf_cp_c (by omega)
  have b35 : (lf_cp (lf_cp s.1 80 16 0 0 4) 81 17 0 0 4) 79 8 = (lf_cp s.1 80 16 0 0 4) 79 8 := lf_cp_c (by omega)
  have b36 : (lf_cp s.1 80 16 0 0 4) 79 8 = s.1 79 8 := lf_cp_c (by omega)
  have hI37 : iv_A (lf_up (lf_up (lf_up (lf_cp (lf_cp (lf_cp (lf_cp (lf_cp (lf_cp s.1 80 16 0 0 4) 81 17 0 0 4) 82 18 0 0 4) 83 19 0 0 6) 84 20 0 0 6) 85 21 0 0 12) 15 6 ((lf_cp (lf_cp (lf_cp (lf_cp (lf_cp (lf_cp s.1 80 16 0 0 4) 81 17 0 0 4) 82 18 0 0 4) 83 19 0 0 6) 84 20 0 0 6) 85 21 0 0 12) 79 6)) 15 7 ((lf_cp (lf_cp (lf_cp (lf_cp (lf_cp (lf_cp s.1 80 16 0 0 4) 81 17 0 0 4) 82 18 0 0 4) 83 19 0 0 6) 84 20 0 0 6) 85 21 0 0 12) 79 7)) 15 8 ((lf_cp (lf_cp (lf_cp (lf_cp (lf_cp (lf_cp s.1 80 16 0 0 4) 81 17 0 0 4) 82 18 0 0 4) 83 19 0 0 6) 84 20 0 0 6) 85 21 0 0 12) 79 8)) s.2.2 := iv_w15_8 hI28 (by omega)
  have fr38 : lf_fq [15, 16, 17, 18, 19, 20, 21] 1000000 true s.1 s.2.2 (lf_up (lf_up (lf_up (lf_cp (lf_cp (lf_cp (lf_cp (lf_cp (lf_cp s.1 80 16 0 0 4) 81 17 0 0 4) 82 18 0 0 4) 83 19 0 0 6) 84 20 0 0 6) 85 21 0 0 12) 15 6 ((lf_cp (lf_cp (lf_cp (lf_cp (lf_cp (lf_cp s.1 80 16 0 0 4) 81 17 0 0 4) 82 18 0 0 4) 83 19 0 0 6) 84 20 0 0 6) 85 21 0 0 12) 79 6)) 15 7 ((lf_cp (lf_cp (lf_cp (lf_cp (lf_cp (lf_cp s.1 80 16 0 0 4) 81 17 0 0 4) 82 18 0 0 4) 83 19 0 0 6) 84 20 0 0 6) 85 21 0 0 12) 79 7)) 15 8 ((lf_cp (lf_cp (lf_cp (lf_cp (lf_cp (lf_cp s.1 80 16 0 0 4) 81 17 0 0 4) 82 18 0 0 4) 83 19 0 0 6) 84 20 0 0 6) 85 21 0 0 12) 79 8)) s.2.2 := lf_fq_up fr29 rfl (fun h => absurd h (by decide))
  exact hQ (lf_up (lf_up (lf_up (lf_cp (lf_cp (lf_cp (lf_cp (lf_cp (lf_cp s.1 80 16 0 0 4) 81 17 0 0 4) 82 18 0 0 4) 83 19 0 0 6) 84 20 0 0 6) 85 21 0 0 12) 15 6 ((lf_cp (lf_cp (lf_cp (lf_cp (lf_cp (lf_cp s.1 80 16 0 0 4) 81 17 0 0 4) 82 18 0 0 4) 83 19 0 0 6) 84 20 0 0 6) 85 21 0 0 12) 79 6)) 15 7 ((lf_cp (lf_cp (lf_cp (lf_cp (lf_cp (lf_cp s.1 80 16 0 0 4) 81 17 0 0 4) 82 18 0 0 4) 83 19 0 0 6) 84 20 0 0 6) 85 21 0 0 12) 79 7)) 15 8 ((lf_cp (lf_cp (lf_cp (lf_cp (lf_cp (lf_cp s.1 80 16 0 0 4) 81 17 0 0 4) 82 18 0 0 4) 83 19 0 0 6) 84 20 0 0 6) 85 21 0 0 12) 79 8), s.2.1, s.2.2) hI37 fr38
-- fm_175b Steps.likeOther 22 86
theorem sm_175b {Q : lf_Z → Prop} {s : lf_Z} (hI : iv_A s.1 s.2.2) (hQ : ∀  (s' : lf_Z), iv_A s'.1 s'.2.2 → lf_fq [22, 23, 24] 1000000 true s.1 s.2.2 s'.1 s'.2.2 → Q  s') : fm_175b Q s := by
  unfold fm_175b
  have hI1 : iv_A (lf_cp s.1 87 23 0 0 1170) s.2.2 := iv_cp87_23 hI
  have fr2 : lf_fq [22, 23, 24] 1000000 true s.1 s.2.2 (lf_cp s.1 87 23 0 0 1170) s.2.2 := lf_fq_cp (lf_fq_rf) rfl (by decide)
  have hI3 : iv_A (lf_cp (lf_cp s.1 87 23 0 0 1170) 88 24 0 0 30) s.2.2 := iv_cp88_24 hI1
  have fr4 : lf_fq [22, 23, 24] 1000000 true s.1 s.2.2 (lf_cp (lf_cp s.1 87 23 0 0 1170) 88 24 0 0 30) s.2.2 := lf_fq_cp fr2 rfl (by decide)
  have b5 : 0 ≤ (lf_cp (lf_cp s.1 87 23 0 0 1170) 88 24 0 0 30) 86 2 ∧ (lf_cp (lf_cp s.1 87 23 0 0 1170) 88 24 0 0 30) 86 2 ≤ 29 := iv_r86_2 hI3
  have b6 : (lf_cp (lf_cp s.1 87 23 0 0 1170) 88 24 0 0 30) 86 2 = (lf_cp s.1 87 23 0 0 1170) 86 2 := lf_cp_c (by omega)
  have b7 : (lf_cp s.1 87 23 0 0 1170) 86 2 = s.1 86 2 := lf_cp_c (by omega)
  have hI8 : iv_A (lf_up (lf_cp (lf_cp s.1 87 23 0 0 1170) 88 24 0 0 30) 22 2 ((lf_cp (lf_cp s.1 87 23 0 0 1170) 88 24 0 0 30) 86 2)) s.2.2 := iv_w22_2 hI3 (by omega)
  have fr9 : lf_fq [22, 23, 24] 1000000 true s.1 s.2.2 (lf_up (lf_cp (lf_cp s.1 87 23 0 0 1170) 88 24 0 0 30) 22 2 ((lf_cp (lf_cp s.1 87 23 0 0 1170) 88 24 0 0 30) 86 2)) s.2.2 := lf_fq_up fr4 rfl (fun h => absurd h (by decide))
  have b10 : 0 ≤ (lf_cp (lf_cp s.1 87 23 0 0 1170) 88 24 0 0 30) 86 3 ∧ (lf_cp (lf_cp s.1 87 23 0 0 1170) 88 24 0 0 30) 86 3 ≤ 30 := (show 0 ≤ (lf_up (lf_cp (lf_cp s.1 87 23 0 0 1170) 88 24 0 0 30) 22 2 ((lf_cp (lf_cp s.1 87 23 0 0 1170) 88 24 0 0 30) 86 2)) 86 3 ∧ (lf_up (lf_cp (lf_cp s.1 87 23 0 0 1170) 88 24 0 0 30) 22 2 ((lf_cp (lf_cp s.1 87 23 0 0 1170) 88 24 0 0 30) 86 2)) 86 3 ≤ 30 from iv_r86_3 hI8)
  have b11 : (lf_cp (lf_cp s.1 87 23 0 0 1170) 88 24 0 0 30) 86 3 = (lf_cp s.1 87 23 0 0 1170) 86 3 := lf_cp_c (by omega)
  have b12 : (lf_cp s.1 87 23 0 0 1170) 86 3 = s.1 86 3 := lf_cp_c (by omega)
  have hI13 : iv_A (lf_up (lf_up (lf_cp (lf_cp s.1 87 23 0 0 1170) 88 24 0 0 30) 22 2 ((lf_cp (lf_cp s.1 87 23 0 0 1170) 88 24 0 0 30) 86 2)) 22 3 ((lf_cp (lf_cp s.1 87 23 0 0 1170) 88 24 0 0 30) 86 3)) s.2.2 := iv_w22_3 hI8 (by omega)
  have fr14 : lf_fq [22, 23, 24] 1000000 true s.1 s.2.2 (lf_up (lf_up (lf_cp (lf_cp s.1 87 23 0 0 1170) 88 24 0 0 30) 22 2 ((lf_cp (lf_cp s.1 87 23 0 0 1170) 88 24 0 0 30) 86 2)) 22 3 ((lf_cp (lf_cp s.1 87 23 0 0 1170) 88 24 0 0 30) 86 3)) s.2.2 := lf_fq_up fr9 rfl (fun h => absurd h (by decide))
  exact hQ (lf_up (lf_up (lf_cp (lf_cp s.1 87 23 0 0 1170) 88 24 0 0 30) 22 2 ((lf_cp (lf_cp s.1 87 23 0 0 1170) 88 24 0 0 30) 86 2)) 22 3 ((lf_cp (lf_cp s.1 87 23 0 0 1170) 88 24 0 0 30) 86 3), s.2.1, s.2.2) hI13 fr14
-- fm_176b Notes.likeOther 25 89
theorem sm_176b {Q : lf_Z → Prop} {s : lf_Z} (hI : iv_A s.1 s.2.2) (hQ : ∀  (s' : lf_Z), iv_A s'.1 s'.2.2 → lf_fq [25, 26, 27, 28, 29, 30] 1000000 true s.1 s.2.2 s'.1 s'.2.2 → Q  s') : fm_176b Q s := by
  unfold fm_176b
  have hI1 : iv_A (lf_cp s.1 90 26 0 0 6) s.2.2 := iv_cp90_26 hI
  have fr2 : lf_fq [25, 26, 27, 28, 29, 30] 1000000 true s.1 s.2.2 (lf_cp s.1 90 26 0 0 6) s.2.2 := lf_fq_cp (lf_fq_rf) rfl (by decide)
  have hI3 : iv_A (lf_cp (lf_cp s.1 90 26 0 0 6) 91 27 0 0 6) s.2.2 := iv_cp91_27 hI1
  have fr4 : lf_fq [25, 26, 27, 28, 29, 30] 1000000 true s.1 s.2.2 (lf_cp (lf_cp s.1 90 26 0 0 6) 91 27 0 0 6) s.2.2 := lf_fq_cp fr2 rfl (by decide)
  have hI5 : iv_A (lf_cp (lf_cp (lf_cp s.1 90 26 0 0 6) 91 27 0 0 6) 92 28 0 0 16) s.2.2 := iv_cp92_28 hI3
  have fr6 : lf_fq [25, 26, 27, 28, 29, 30] 1000000 true s.1 s.2.2 (lf_cp (lf_cp (lf_cp s.1 90 26 0 0 6) 91 27 0 0 6) 92 28 0 0 16) s.2.2 := lf_fq_cp fr4 rfl (by decide)
  have hI7 : iv_A (lf_cp (lf_cp (lf_cp (lf_cp s.1 90 26 0 0 6) 91 27 0 0 6) 92 28 0 0 16) 93 29 0 0 4) s.2.2 := iv_cp93_29 hI5
  have fr8 : lf_fq [25, 26, 27, 28, 29, 30] 1000000 true s.1 s.2.2 (lf_cp (lf_cp (lf_cp (lf_cp s.1 90 26 0 0 6) 91 27 0 0 6) 92 28 0 0 16) 93 29 0 0 4) s.2.2 := lf_fq_cp fr6 rfl (by decide)
  have hI9 : iv_A (lf_cp (lf_cp (lf_cp (lf_cp (lf_cp s.1 90 26 0 0 6) 91 27 0 0 6) 92 28 0 0 16) 93 29 0 0 4) 94 30 0 0 4) s.2.2 := iv_cp94_30 hI7
  have fr10 : lf_fq [25, 26, 27, 28, 29, 30] 1000000 true s.1 s.2.2 (lf_cp (lf_cp (lf_cp (lf_cp (lf_cp s.1 90 26 0 0 6) 91 27 0 0 6) 92 28 0 0 16) 93 29 0 0 4) 94 30 0 0 4) s.2.2 := lf_fq_cp fr8 rfl (by decide)
  have b11 : 0 ≤ (lf_cp (lf_cp (lf_cp (lf_cp (lf_cp s.1 90 26 0 0 6) 91 27 0 0 6) 92 28 0 0 16) 93 29 0 0 4) 94 30 0 0 4) 89 2 ∧ (lf_cp (lf_cp (lf_cp (lf_cp (lf_cp s.1 90 26 0 0 6) 91 27 0 0 6) 92 28 0 0 16) 93 29 0 0 4) 94 30 0 0 4) 89 2 ≤ 6 := iv_r89_2 hI9
  have b12 : (lf_cp (lf_cp (lf_cp (lf_cp (lf_cp s.1 90 26 0 0 6) 91 27 0 0 6) 92 28 0 0 16) 93 29 0 0 4) 94 30 0 0 4) 89 2 = (lf_cp (lf_cp (lf_cp (lf_cp s.1 90 26 0 0 6) 91 27 0 0 6) 92 28 0 0 16) 93 29 0 0 4) 89 2 := lf_cp_c (by omega)
  have b13 : (lf_cp (lf_cp (lf_cp (lf_cp s.1 90 26 0 0 6) 91 27 0 0 6) 92 28 0 0 16) 93 29 0 0 4) 89 2 = (lf_cp (lf_cp (lf_cp s.1 90 26 0 0 6) 91 27 0 0 6) 92 28 0 0 16) 89 2 := lf_cp_c (by omega)
  have b14 : (lf_cp (lf_cp (lf_cp s.1 90 26 0 0 6) 91 27 0 0 6) 92 28 0 0 16) 89 2 = (lf_cp (lf_cp s.1 90 26 0 0 6) 91 27 0 0 6) 89 2 := lf_cp_c (by omega)
  have b15 : (lf_cp (lf_cp s.1 90 26 0 0 6) 91 27 0 0 6) 89 2 = (lf_cp s.1 90 26 0 0 6) 89 2 := lf_cp_c (by omega)
  have b16 : (lf_cp s.1 90 26 0 0 6) 89 2 = s.1 89 2 := lf_cp_c (by omega)
  have hI17 : iv_A (lf_up (lf_cp (lf_cp (lf_cp (lf_cp (lf_cp s.1 90 26 0 0 6) 91 27 0 0 6) 92 28 0 0 16) 93 29 0 0 4) 94 30 0 0 4) 25 2 ((lf_cp (lf_cp (lf_cp (lf_cp (lf_cp s.1 90 26 0 0 6) 91 27 0 0 6) 92 28 0 0 16) 93 29 0 0 4) 94 30 0 0 4) 89 2)) s.2.2 := iv_w25_2 hI9 (by omega)
  have fr18 : lf_fq [25, 26, 27, 28, 29, 30] 1000000 true s.1 s.2.2 (lf_up (lf_cp (lf_cp (lf_cp (lf_cp (lf_cp s.1 90 26 0 0 6) 91 27 0 0 6) 92 28 0 0 16) 93 29 0 0 4) 94 30 0 0 4) 25 2 ((lf_cp (lf_cp (lf_cp (lf_cp (lf_cp s.1 90 26 0 0 6) 91 27 0 0 6) 92 28 0 0 16) 93 29 0 0 4) 94 30 0 0 4) 89 2)) s.2.2 := lf_fq_up fr10 rfl (fun h => absurd h (by decide))
  exact hQ (lf_up (lf_cp (lf_cp (lf_cp (lf_cp (lf_cp s.1 90 26 0 0 6) 91 27 0 0 6) 92 28 0 0 16) 93 29 0 0 4) 94 30 0 0 4) 25 2 ((lf_cp (lf_cp (lf_cp (lf_cp (lf_cp s.1 90 26 0 0 6) 91 27 0 0 6) 92 28 0 0 16) 93 29 0 0 4) 94 30 0 0 4) 89 2), s.2.1, s.2.2) hI17 fr18
-- fm_177 ElevenBullocks.back 0
theorem sm_177 {Q : Int → lf_Z → Prop} {s : lf_Z} (hI : iv_A s.1 s.2.2) (hQ : ∀ (r : Int) (s' : lf_Z), iv_A s'.1 s'.2.2 → lf_fq [0, 1, 11, 12, 13, 15, 16, 17, 18, 19, 20, 21, 22, 23, 24, 25, 26, 27, 28, 29, 30] 1000000 false s.1 s.2.2 s'.1 s'.2.2 → ((-2147483648) ≤ r ∧ r ≤ 2147483647) → Q r s') : fm_177 Q s := by
  unfold fm_177
  have b1 : 0 ≤ s.1 78 0 ∧ s.1 78 0 ≤ 12 := iv_r78_0 hI
  have b2 : 0 ≤ s.1 78 1 ∧ s.1 78 1 ≤ 16 := iv_r78_1 hI
  have b3 : 0 ≤ s.1 78 2 ∧ s.1 78 2 ≤ 6 := iv_r78_2 hI
  refine sm_178 hI (show (0 : Int) ≤ s.1 78 0 ∧ s.1 78 0 ≤ (12 : Int) from by omega) (show (0 : Int) ≤ s.1 78 1 ∧ s.1 78 1 ≤ (16 : Int) from by omega) (show (0 : Int) ≤ s.1 78 2 ∧ s.1 78 2 ≤ (6 : Int) from by omega) (fun s21 hI5 fr4 => ?_)
  have fr7 : lf_fq [0, 1, 11, 12, 13, 15, 16, 17, 18, 19, 20, 21, 22, 23, 24, 25, 26, 27, 28, 29, 30] 1000000 false s.1 s.2.2 s21.1 s21.2.2 := lf_fq_tr (lf_fq_rf) (lf_fq_wk fr4 rfl (by decide) (by decide))
  have b8 : 0 ≤ s21.1 78 3 ∧ s21.1 78 3 ≤ 4 := iv_r78_3 hI5
  have b9 : s21.1 78 3 = s.1 78 3 := congrFun (fr4.1 78 rfl) _
  have hI10 : iv_A (lf_up s21.1 0 11 (s21.1 78 3)) s21.2.2 := iv_w0_11 hI5 (by omega)
  have fr11 : lf_fq [0, 1, 11, 12, 13, 15, 16, 17, 18, 19, 20, 21, 22, 23, 24, 25, 26, 27, 28, 29, 30] 1000000 false s.1 s.2.2 (lf_up s21.1 0 11 (s21.1 78 3)) s21.2.2 := lf_fq_up fr7 rfl (fun h => absurd h (by decide))
  have b12 : (-1) ≤ s21.1 78 4 ∧ s21.1 78 4 ≤ 3 := (show (-1) ≤ (lf_up s21.1 0 11 (s21.1 78 3)) 78 4 ∧ (lf_up s21.1 0 11 (s21.1 78 3)) 78 4 ≤ 3 from iv_r78_4 hI10)
  have b13 : s21.1 78 4 = s.1 78 4 := congrFun (fr4.1 78 rfl) _
  refine sm_61 hI10 (show (-1 : Int) ≤ s21.1 78 4 ∧ s21.1 78 4 ≤ (3 : Int) from by omega) (fun s22 hI15 fr14 => ?_)
  have fr17 : lf_fq [0, 1, 11, 12, 13, 15, 16, 17, 18, 19, 20, 21, 22, 23, 24, 25, 26, 27, 28, 29, 30] 1000000 false s.1 s.2.2 s22.1 s22.2.2 := lf_fq_tr fr11 (lf_fq_wk fr14 rfl (by decide) (by decide))
  refine sm_174b hI15 (fun s23 hI19 fr18 => ?_)
  have fr21 : lf_fq [0, 1, 11, 12, 13, 15, 16, 17, 18, 19, 20, 21, 22, 23, 24, 25, 26, 27, 28, 29, 30] 1000000 false s.1 s.2.2 s23.1 s23.2.2 := lf_fq_tr fr17 (lf_fq_wk fr18 rfl (by decide) (by decide))
  refine sm_175b hI19 (fun s24 hI23 fr22 => ?_)
  have fr25 : lf_fq [0, 1, 11, 12, 13, 15, 16, 17, 18, 19, 20, 21, 22, 23, 24, 25, 26, 27, 28, 29, 30] 1000000 false s.1 s.2.2 s24.1 s24.2.2 := lf_fq_tr fr21 (lf_fq_wk fr22 rfl (by decide) (by decide))
  refine sm_176b hI23 (fun s25 hI27 fr26 => ?_)
  have fr29 : lf_fq [0, 1, 11, 12, 13, 15, 16, 17, 18, 19, 20, 21, 22, 23, 24, 25, 26, 27, 28, 29, 30] 1000000 false s.1 s.2.2 s25.1 s25.2.2 := lf_fq_tr fr25 (lf_fq_wk fr26 rfl (by decide) (by decide))
  have b30 : (-2147483648) ≤ s25.1 15 7 ∧ s25.1 15 7 ≤ 2147483647 := iv_full hI27
  have b31 : s25.1 15 7 = s24.1 15 7 := congrFun (fr26.1 15 rfl) _
  have b32 : s24.1 15 7 = s23.1 15 7 := congrFun (fr22.1 15 rfl) _
  exact hQ (s25.1 15 7) s25 hI27 fr29 (show (-2147483648 : Int) ≤ s25.1 15 7 ∧ s25.1 15 7 ≤ (2147483647 : Int) from by omega)
-- fm_181b Model.copy 97 96
theorem sm_181b {Q : lf_Z → Prop} {s : lf_Z} (hI : iv_A s.1 s.2.2) (hQ : ∀  (s' : lf_Z), iv_A s'.1 s'.2.2 → lf_fq [96, 1000, 1001, 1002, 1003, 1004, 1005, 1006] 0 true s.1 s.2.2 s'.1 s'.2.2 → Q  s') : fm_181b Q s := by
  unfold fm_181b fm_181b_p2L
  intro X hX
  have key : ∀ (m : Nat) (x2 : Int) (s' : lf_Z), 0 ≤ x2 → x2 ≤ 1538 → (1538 - x2).toNat < m → s'.2 = s.2 → (∀ a, a ≠ 96 → s'.1 a = s.1 a) → (∀ j : Int, 0 ≤ j → j < x2 → s'.1 96 j = s.1 97 j) → (∀ j : Int, ¬ (0 ≤ j ∧ j < x2) → s'.1 96 j = s.1 96 j) → X x2 s' := by
    intro m
    induction m with
    | zero => intros; omega
    | succ m ih =>
      intro x2 s' h0 h1 hm hs hr hd ho
      refine hX _ _ ?_
      unfold fm_181b_p2
      refine ⟨lf_Rof (by omega), fun c => ?_, fun c => ⟨by omega, ?_⟩⟩
      · have e : x2 = 1538 := by omega
        subst e
        refine hQ s' ?_ ⟨fun a ha => hr a (fun e => by subst e; cases ha), fun i hi => ?_, fun _ => by rw [hs], fun r hr9 i hi => absurd hi (fr_o (Or.inl rfl) (Or.inl rfl) (Or.inl rfl) (Or.inl rfl) (Or.inl rfl) (Or.inl rfl) (Or.inl rfl) r hr9)⟩
        · rw [show s'.2.2 = s.2.2 from by rw [hs]]
          exact iv_copyAll (c := 97) (d := 96) (Or.inr ⟨rfl, rfl⟩) hI hr (fun j a b => hd j a b) ho
        · exact ho i (by omega)
      · refine ih (x2 + 1) _ (by omega) (by omega) (by omega) hs ?_ ?_ ?_
        · intro a ha
          show lf_up s'.1 96 x2 (s'.1 97 x2) a = _
          rw [lf_up_row ha]
          exact hr a ha
        · intro j j0 j1
          show lf_up s'.1 96 x2 (s'.1 97 x2) 96 j = _
          by_cases hj : j = x2
          · subst hj
            rw [lf_up_s, hr 97 (by decide)]
          · rw [lf_up_i hj]
            exact hd j j0 (by omega)
        · intro j hj
          show lf_up s'.1 96 x2 (s'.1 97 x2) 96 j = _
          rw [lf_up_i (by omega)]
          exact ho j (by omega)
  exact key _ 0 s (by omega) (by omega) (Nat.lt_succ_self _) rfl (fun _ _ => rfl) (fun j a b => by omega) (fun _ _ => rfl)
-- fm_326 Model.back 95
theorem sm_326 {Q : Int → lf_Z → Prop} {s : lf_Z} (hI : iv_A s.1 s.2.2) (hQ : ∀ (r : Int) (s' : lf_Z), iv_A s'.1 s'.2.2 → lf_fq [96, 1000, 1001, 1002, 1003, 1004, 1005, 1006] 0 true s.1 s.2.2 s'.1 s'.2.2 → ((-2147483648) ≤ r ∧ r ≤ 2147483647) → Q r s') : fm_326 Q s := by
  unfold fm_326
  refine sm_181b hI (fun s21 hI2 fr1 => ?_)
  have fr4 : lf_fq [96, 1000, 1001, 1002, 1003, 1004, 1005, 1006] 0 true s.1 s.2.2 s21.1 s21.2.2 := lf_fq_tr (lf_fq_rf) (lf_fq_wk fr1 rfl (by decide) (by decide))
  have b5 : (-2147483648) ≤ s21.1 96 3 ∧ s21.1 96 3 ≤ 2147483647 := iv_full hI2
  exact hQ (s21.1 96 3) s21 hI2 fr4 (show (-2147483648 : Int) ≤ s21.1 96 3 ∧ s21.1 96 3 ≤ (2147483647 : Int) from by omega)
-- fm_179 ElevenBullocks.about 0 i
theorem sm_179 {a1 : Int} {Q : Int → lf_Z → Prop} {s : lf_Z} (hI : iv_A s.1 s.2.2) (ba1 : (-2147483648) ≤ a1 ∧ a1 ≤ 2147483647) (hQ : ∀ (r : Int), ((-2147483648) ≤ r ∧ r ≤ 2147483647) → Q r s) : fm_179 a1 Q s := by
  unfold fm_179
  refine ⟨(show lf_R a1 from lf_Rof (by omega)), ?_⟩
  refine ⟨fun c1 => ?_, fun c1 => ?_, fun c1 => ?_, fun c1 => ?_, fun c1 => ?_, fun c1 => ?_, fun c1 => ?_, fun c1 => ?_, fun c1 => ?_, fun c1 => ?_, fun c1 => ?_, fun c1 => ?_, fun c1 => ?_, fun c1 => ?_⟩
  · replace c1 : a1 < 0 ∨ 12 < a1 := c1
    exact hQ (-2) (show (-2147483648 : Int) ≤ (-2) ∧ (-2) ≤ (2147483647 : Int) from by omega)
  · replace c1 : a1 = 0 := c1
    have b2 : 0 ≤ s.1 1 0 ∧ s.1 1 0 ≤ 12 := iv_r1_0 hI
    exact hQ (s.1 1 0) (show (-2147483648 : Int) ≤ s.1 1 0 ∧ s.1 1 0 ≤ (2147483647 : Int) from by omega)
  · replace c1 : a1 = 1 := c1
    have b3 : 0 ≤ s.1 1 1 ∧ s.1 1 1 ≤ 16 := iv_r1_1 hI
    exact hQ (s.1 1 1) (show (-2147483648 : Int) ≤ s.1 1 1 ∧ s.1 1 1 ≤ (2147483647 : Int) from by omega)
  · replace c1 : a1 = 2 := c1
    have b4 : 0 ≤ s.1 1 2 ∧ s.1 1 2 ≤ 6 := iv_r1_2 hI
    exact hQ (s.1 1 2) (show (-2147483648 : Int) ≤ s.1 1 2 ∧ s.1 1 2 ≤ (2147483647 : Int) from by omega)
  · replace c1 : a1 = 3 := c1
    have b5 : (-2147483648) ≤ s.1 15 7 ∧ s.1 15 7 ≤ 2147483647 := iv_full hI
    exact hQ (s.1 15 7) (show (-2147483648 : Int) ≤ s.1 15 7 ∧ s.1 15 7 ≤ (2147483647 : Int) from by omega)
  · replace c1 : a1 = 4 := c1
    refine sm_64 hI (fun r23 q6 => ?_)
    exact hQ r23 (show (-2147483648 : Int) ≤ r23 ∧ r23 ≤ (2147483647 : Int) from by omega)
  · replace c1 : a1 = 5 := c1
    refine sm_97 hI (fun r25 q7 => ?_)
    exact hQ r25 (show (-2147483648 : Int) ≤ r25 ∧ r25 ≤ (2147483647 : Int) from by omega)
  · replace c1 : a1 = 6 := c1
    have b8 : (-2147483648) ≤ s.1 15 8 ∧ s.1 15 8 ≤ 2147483647 := iv_full hI
    exact hQ (s.1 15 8) (show (-2147483648 : Int) ≤ s.1 15 8 ∧ s.1 15 8 ≤ (2147483647 : Int) from by omega)
  · replace c1 : a1 = 7 := c1
    have b9 : 0 ≤ s.1 0 11 ∧ s.1 0 11 ≤ 4 := iv_r0_11 hI
    exact hQ (s.1 0 11) (show (-2147483648 : Int) ≤ s.1 0 11 ∧ s.1 0 11 ≤ (2147483647 : Int) from by omega)
  · replace c1 : a1 = 8 := c1
    have b10 : (-1) ≤ s.1 0 12 ∧ s.1 0 12 ≤ 3 := iv_r0_12 hI
    exact hQ (s.1 0 12) (show (-2147483648 : Int) ≤ s.1 0 12 ∧ s.1 0 12 ≤ (2147483647 : Int) from by omega)
  · replace c1 : a1 = 9 := c1
    have b11 : 0 ≤ s.1 22 3 ∧ s.1 22 3 ≤ 30 := iv_r22_3 hI
    exact hQ (s.1 22 3) (show (-2147483648 : Int) ≤ s.1 22 3 ∧ s.1 22 3 ≤ (2147483647 : Int) from by omega)
  · replace c1 : a1 = 10 := c1
    have b12 : 0 ≤ s.1 25 2 ∧ s.1 25 2 ≤ 6 := iv_r25_2 hI
    exact hQ (s.1 25 2) (show (-2147483648 : Int) ≤ s.1 25 2 ∧ s.1 25 2 ≤ (2147483647 : Int) from by omega)
  · replace c1 : a1 = 11 := c1
    refine sm_168 hI (fun r27 q13 => ?_)
    exact hQ r27 (show (-2147483648 : Int) ≤ r27 ∧ r27 ≤ (2147483647 : Int) from by omega)
  · replace c1 : a1 = 12 := c1
    have b14 : 0 ≤ s.1 31 1 ∧ s.1 31 1 ≤ 300 := iv_r31_1 hI
    exact hQ (s.1 31 1) (show (-2147483648 : Int) ≤ s.1 31 1 ∧ s.1 31 1 ≤ (2147483647 : Int) from by omega)
