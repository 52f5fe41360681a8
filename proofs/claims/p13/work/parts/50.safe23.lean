-- fm_322 Model.turned 95 i i
theorem sm_322 {a1 : Int} {a2 : Int} {Q : Int → lf_Z → Prop} {s : lf_Z} (hI : iv_A s.1 s.2.2) (ba1 : (-2147483648) ≤ a1 ∧ a1 ≤ 2147483647) (ba2 : 0 ≤ a2 ∧ a2 ≤ 1) (hQ : ∀ (r : Int), ((-2147483648) ≤ r ∧ r ≤ 2147483647) → Q r s) : fm_322 a1 a2 Q s := by
  unfold fm_322
  refine sm_183 hI (show (-2147483648 : Int) ≤ a1 ∧ a1 ≤ (2147483647 : Int) from by omega) (show (-1 : Int) ≤ 0 ∧ 0 ≤ (97 : Int) from by omega) (show (-1 : Int) ≤ 3 ∧ 3 ≤ (9999 : Int) from by omega) (fun z22 q1 => ?_)
  refine ⟨fun c2 => ?_, fun c2 => ?_⟩
  · skip
    have dc2 := q1.2 c2
    exact hQ (-1) (show (-2147483648 : Int) ≤ (-1) ∧ (-1) ≤ (2147483647 : Int) from by omega)
  · skip
    have dc2 := q1.1 c2
    refine sm_323 hI (show (-1 : Int) ≤ a1 ∧ a1 ≤ (3 : Int) from by omega) (show (0 : Int) ≤ 0 ∧ 0 ≤ (1 : Int) from by omega) (fun r24 ps4 q3 => ?_)
    replace ps4 : r24 = lf_tm ((s.1 96)) (a1) (0) ((s.1 96 11)) := ps4
    refine ⟨(show lf_R r24 from lf_Rof (by omega)), ?_⟩
    refine ⟨fun c5 => ?_, fun c5 => ?_⟩
    · skip
      replace c5 : r24 ≠ 0 := c5
      refine sm_323 hI (show (-1 : Int) ≤ a1 ∧ a1 ≤ (3 : Int) from by omega) (show (0 : Int) ≤ 1 ∧ 1 ≤ (1 : Int) from by omega) (fun r27 ps7 q6 => ?_)
      replace ps7 : r27 = lf_tm ((s.1 96)) (a1) (1) ((s.1 96 11)) := ps7
      refine ⟨(show lf_R r27 from lf_Rof (by omega)), ?_⟩
      refine sm_323 hI (show (-1 : Int) ≤ a1 ∧ a1 ≤ (3 : Int) from by omega) (show (0 : Int) ≤ 0 ∧ 0 ≤ (1 : Int) from by omega) (fun r30 ps9 q8 => ?_)
      replace ps9 : r30 = lf_tm ((s.1 96)) (a1) (0) ((s.1 96 11)) := ps9
      refine ⟨(show lf_R r30 from lf_Rof (by omega)), ?_⟩
      have b10 : lf_wl r27 = r27 := lf_wlR (by omega)
      have b11 : lf_wl r30 = r30 := lf_wlR (by omega)
      refine sm_291 hI (show (0 : Int) ≤ a2 ∧ a2 ≤ (1 : Int) from by omega) (show lf_wl r30 ≠ 0 from by omega) (fun r33 => ?_)
      have b13 : (-2147483648) ≤ lf_w (lf_wl r33) ∧ lf_w (lf_wl r33) ≤ 2147483647 := lf_wB
      exact hQ (lf_w (lf_wl r33)) (show (-2147483648 : Int) ≤ lf_w (lf_wl r33) ∧ lf_w (lf_wl r33) ≤ (2147483647 : Int) from by omega)
    · skip
      replace c5 : ¬ (r24 ≠ 0) := c5
      exact hQ (-1) (show (-2147483648 : Int) ≤ (-1) ∧ (-1) ≤ (2147483647 : Int) from by omega)
-- fm_172 Notes.isBetter 25 i i
theorem sm_172 {a1 : Int} {a2 : Int} {Q : Bool → lf_Z → Prop} {s : lf_Z} (hI : iv_A s.1 s.2.2) (ba1 : 0 ≤ a1 ∧ a1 ≤ 3) (ba2 : 0 ≤ a2 ∧ a2 ≤ 3) (hQ : ∀ (z : Bool), Q z s) : fm_172 a1 a2 Q s := by
  unfold fm_172
  refine ⟨(show (0 : Int) ≤ a1 ∧ a1 < (4 : Int) from by omega), ?_⟩
  have b1 : (-2147483648) ≤ s.1 30 a1 ∧ s.1 30 a1 ≤ 2147483647 := iv_full hI
  refine ⟨(show (0 : Int) ≤ a2 ∧ a2 < (4 : Int) from by omega), ?_⟩
  have b2 : (-2147483648) ≤ s.1 29 a2 ∧ s.1 29 a2 ≤ 2147483647 := iv_full hI
  have b3 : (-2147483648) ≤ lf_w ((s.1 30 a1) * (s.1 29 a2)) ∧ lf_w ((s.1 30 a1) * (s.1 29 a2)) ≤ 2147483647 := lf_wB
  have b4 : (-2147483648) ≤ s.1 30 a2 ∧ s.1 30 a2 ≤ 2147483647 := iv_full hI
  have b5 : (-2147483648) ≤ s.1 29 a1 ∧ s.1 29 a1 ≤ 2147483647 := iv_full hI
  have b6 : (-2147483648) ≤ lf_w ((s.1 30 a2) * (s.1 29 a1)) ∧ lf_w ((s.1 30 a2) * (s.1 29 a1)) ≤ 2147483647 := lf_wB
  refine ⟨fun c7 => ?_, fun c7 => ?_⟩
  · skip
    replace c7 : lf_w ((s.1 30 a2) * (s.1 29 a1)) < lf_w ((s.1 30 a1) * (s.1 29 a2)) := c7
    exact hQ true
  · skip
    replace c7 : ¬ (lf_w ((s.1 30 a2) * (s.1 29 a1)) < lf_w ((s.1 30 a1) * (s.1 29 a2))) := c7
    refine ⟨fun c8 => ?_, fun c8 => ?_⟩
    · skip
      replace c8 : lf_w ((s.1 30 a1) * (s.1 29 a2)) ≠ lf_w ((s.1 30 a2) * (s.1 29 a1)) := c8
      exact hQ false
    · skip
      replace c8 : ¬ (lf_w ((s.1 30 a1) * (s.1 29 a2)) ≠ lf_w ((s.1 30 a2) * (s.1 29 a1))) := c8
      refine ⟨(show lf_R (s.1 29 a1) from lf_Rof (by omega)), ?_⟩
      refine ⟨(show lf_R (s.1 29 a2) from lf_Rof (by omega)), ?_⟩
      refine ⟨fun c9 => ?_, fun c9 => ?_⟩
      · skip
        replace c9 : s.1 29 a1 ≤ s.1 29 a2 := c9
        exact hQ false
      · skip
        replace c9 : ¬ (s.1 29 a1 ≤ s.1 29 a2) := c9
        exact hQ true
-- fm_171 Notes.bestHow 25
theorem sm_171_p34 {X4 : Int → Int → lf_Z → Prop} {Q : Int → lf_Z → Prop} {x1 : Int} {x2 : Int} {s : lf_Z} (hQ : ∀ (r : Int), ((-1) ≤ r ∧ r ≤ 3) → Q r s) {M4 : Nat} (hX4 : ∀ (x1 : Int) (x2 : Int), (-1) ≤ x1 ∧ x1 ≤ 3 → 0 ≤ x2 ∧ x2 ≤ 4 → (4 - x2).toNat < M4 → X4 x1 x2 s) (hM4 : (4 - x2).toNat ≤ M4) (hI : iv_A s.1 s.2.2) (bx1 : (-1) ≤ x1 ∧ x1 ≤ 3) (bx2 : 0 ≤ x2 ∧ x2 ≤ 3) : fm_171_p34 X4 Q x1 x2 s := by
  unfold fm_171_p34
  exact hX4 (x1) (x2 + 1) (show (-1 : Int) ≤ x1 ∧ x1 ≤ (3 : Int) from by omega) (show (0 : Int) ≤ x2 + 1 ∧ x2 + 1 ≤ (4 : Int) from by omega) (show (4 - (x2 + 1)).toNat < M4 from by omega)
theorem sm_171_p32 {X4 : Int → Int → lf_Z → Prop} {Q : Int → lf_Z → Prop} {x2 : Int} {s : lf_Z} (hQ : ∀ (r : Int), ((-1) ≤ r ∧ r ≤ 3) → Q r s) {M4 : Nat} (hX4 : ∀ (x1 : Int) (x2 : Int), (-1) ≤ x1 ∧ x1 ≤ 3 → 0 ≤ x2 ∧ x2 ≤ 4 → (4 - x2).toNat < M4 → X4 x1 x2 s) (hM4 : (4 - x2).toNat ≤ M4) (hI : iv_A s.1 s.2.2) (bx2 : 0 ≤ x2 ∧ x2 ≤ 3) : fm_171_p32 X4 Q x2 s := by
  unfold fm_171_p32
  exact sm_171_p34 hQ hX4 (show (4 - x2).toNat ≤ M4 from by omega) hI (show (-1 : Int) ≤ x2 ∧ x2 ≤ (3 : Int) from by omega) (show (0 : Int) ≤ x2 ∧ x2 ≤ (3 : Int) from by omega)
theorem sm_171_p4 {X4 : Int → Int → lf_Z → Prop} {Q : Int → lf_Z → Prop} {x1 : Int} {x2 : Int} {s : lf_Z} (hQ : ∀ (r : Int), ((-1) ≤ r ∧ r ≤ 3) → Q r s) {M4 : Nat} (hX4 : ∀ (x1 : Int) (x2 : Int), (-1) ≤ x1 ∧ x1 ≤ 3 → 0 ≤ x2 ∧ x2 ≤ 4 → (4 - x2).toNat < M4 → X4 x1 x2 s) (hM4 : (4 - x2).toNat ≤ M4) (hI : iv_A s.1 s.2.2) (bx1 : (-1) ≤ x1 ∧ x1 ≤ 3) (bx2 : 0 ≤ x2 ∧ x2 ≤ 4) : fm_171_p4 Q X4 x1 x2 s := by
  unfold fm_171_p4
  refine ⟨(show lf_R x2 from lf_Rof (by omega)), ?_⟩
  refine ⟨fun c1 => ?_, fun c1 => ?_⟩
  · skip
    replace c1 : 4 ≤ x2 := c1
    exact hQ x1 (show (-1 : Int) ≤ x1 ∧ x1 ≤ (3 : Int) from by omega)
  · skip
    replace c1 : ¬ (4 ≤ x2) := c1
    refine ⟨(show (0 : Int) ≤ x2 ∧ x2 < (4 : Int) from by omega), ?_⟩
    have b2 : (-2147483648) ≤ s.1 29 x2 ∧ s.1 29 x2 ≤ 2147483647 := iv_full hI
    refine ⟨(show lf_R (s.1 29 x2) from lf_Rof (by omega)), ?_⟩
    refine ⟨fun c3 => ?_, fun c3 => ?_⟩
    · skip
      replace c3 : s.1 29 x2 ≤ 0 := c3
      exact sm_171_p34 hQ hX4 (show (4 - x2).toNat ≤ M4 from by omega) hI (show (-1 : Int) ≤ x1 ∧ x1 ≤ (3 : Int) from by omega) (show (0 : Int) ≤ x2 ∧ x2 ≤ (3 : Int) from by omega)
    · skip
      replace c3 : ¬ (s.1 29 x2 ≤ 0) := c3
      refine ⟨(show lf_R x1 from lf_Rof (by omega)), ?_⟩
      refine ⟨fun c4 => ?_, fun c4 => ?_⟩
      · skip
        replace c4 : x1 = (-1) := c4
        exact sm_171_p32 hQ hX4 (show (4 - x2).toNat ≤ M4 from by omega) hI (show (0 : Int) ≤ x2 ∧ x2 ≤ (3 : Int) from by omega)
      · skip
        replace c4 : ¬ (x1 = (-1)) := c4
        refine sm_172 hI (show (0 : Int) ≤ x2 ∧ x2 ≤ (3 : Int) from by omega) (show (0 : Int) ≤ x1 ∧ x1 ≤ (3 : Int) from by omega) (fun z26 => ?_)
        refine ⟨fun c6 => ?_, fun c6 => ?_⟩
        · skip
          exact sm_171_p34 hQ hX4 (show (4 - x2).toNat ≤ M4 from by omega) hI (show (-1 : Int) ≤ x1 ∧ x1 ≤ (3 : Int) from by omega) (show (0 : Int) ≤ x2 ∧ x2 ≤ (3 : Int) from by omega)
        · skip
          exact sm_171_p32 hQ hX4 (show (4 - x2).toNat ≤ M4 from by omega) hI (show (0 : Int) ≤ x2 ∧ x2 ≤ (3 : Int) from by omega)
theorem sm_171_p4L {Q : Int → lf_Z → Prop} {x1 : Int} {x2 : Int} {s : lf_Z} (hQ : ∀ (r : Int), ((-1) ≤ r ∧ r ≤ 3) → Q r s) (hI : iv_A s.1 s.2.2) (bx1 : (-1) ≤ x1 ∧ x1 ≤ 3) (bx2 : 0 ≤ x2 ∧ x2 ≤ 4) : fm_171_p4L Q x1 x2 s := by
  intro X4 hX
  have key : ∀ (m9 : Nat) (x1 : Int) (x2 : Int), (-1) ≤ x1 ∧ x1 ≤ 3 → 0 ≤ x2 ∧ x2 ≤ 4 → (4 - x2).toNat < m9 → X4 x1 x2 s := by
    intro m9
    induction m9 with
    | zero => intro x1 x2 bx1 bx2 h9; exact absurd h9 (Nat.not_lt_zero _)
    | succ m9 ih => intro x1 x2 bx1 bx2 h9; exact hX _ _ _ (sm_171_p4 hQ   (fun x1' x2' bx1' bx2' h8 => ih x1' x2' bx1' bx2' (by omega)) (Nat.le_refl _)  hI  bx1 bx2  )
  exact key _ _ _ bx1 bx2   (Nat.lt_succ_self _)
theorem sm_171 {Q : Int → lf_Z → Prop} {s : lf_Z} (hI : iv_A s.1 s.2.2) (hQ : ∀ (r : Int), ((-1) ≤ r ∧ r ≤ 3) → Q r s) : fm_171 Q s := by
  unfold fm_171
  exact sm_171_p4L hQ hI (show (-1 : Int) ≤ (-1) ∧ (-1) ≤ (3 : Int) from by omega) (show (0 : Int) ≤ 0 ∧ 0 ≤ (4 : Int) from by omega)
-- fm_170 ElevenBullocks.best 0
theorem sm_170 {Q : Int → lf_Z → Prop} {s : lf_Z} (hI : iv_A s.1 s.2.2) (hQ : ∀ (r : Int), ((-1) ≤ r ∧ r ≤ 3) → Q r s) : fm_170 Q s := by
  unfold fm_170
  refine sm_171 hI (fun r22 q1 => ?_)
  exact hQ r22 (show (-1 : Int) ≤ r22 ∧ r22 ≤ (3 : Int) from by omega)
-- fm_324 Model.best 95
theorem sm_324_p77 {X4 : Int → Int → lf_Z → Prop} {Q : Int → lf_Z → Prop} {x1 : Int} {x2 : Int} {s : lf_Z} (hQ : ∀ (r : Int), ((-1) ≤ r ∧ r ≤ 3) → Q r s) {M4 : Nat} (hX4 : ∀ (x1 : Int) (x2 : Int), (-1) ≤ x1 ∧ x1 ≤ 3 → 0 ≤ x2 ∧ x2 ≤ 4 → (4 - x2).toNat < M4 → X4 x1 x2 s) (hM4 : (4 - x2).toNat ≤ M4) (hI : iv_A s.1 s.2.2) (bx1 : (-1) ≤ x1 ∧ x1 ≤ 3) (bx2 : 0 ≤ x2 ∧ x2 ≤ 3) : fm_324_p77 X4 Q x1 x2 s := by
  unfold fm_324_p77
  exact hX4 (x1) (x2 + 1) (show (-1 : Int) ≤ x1 ∧ x1 ≤ (3 : Int) from by omega) (show (0 : Int) ≤ x2 + 1 ∧ x2 + 1 ≤ (4 : Int) from by omega) (show (4 - (x2 + 1)).toNat < M4 from by omega)
theorem sm_324_p75 {X4 : Int → Int → lf_Z → Prop} {Q : Int → lf_Z → Prop} {x2 : Int} {s : lf_Z} (hQ : ∀ (r : Int), ((-1) ≤ r ∧ r ≤ 3) → Q r s) {M4 : Nat} (hX4 : ∀ (x1 : Int) (x2 : Int), (-1) ≤ x1 ∧ x1 ≤ 3 → 0 ≤ x2 ∧ x2 ≤ 4 → (4 - x2).toNat < M4 → X4 x1 x2 s) (hM4 : (4 - x2).toNat ≤ M4) (hI : iv_A s.1 s.2.2) (bx2 : 0 ≤ x2 ∧ x2 ≤ 3) : fm_324_p75 X4 Q x2 s := by
  unfold fm_324_p75
  exact sm_324_p77 hQ hX4 (show (4 - x2).toNat ≤ M4 from by omega) hI (show (-1 : Int) ≤ x2 ∧ x2 ≤ (3 : Int) from by omega) (show (0 : Int) ≤ x2 ∧ x2 ≤ (3 : Int) from by omega)
theorem sm_324_p53 {X4 : Int → Int → lf_Z → Prop} {Q : Int → lf_Z → Prop} {x1 : Int} {x2 : Int} {x3 : Int} {y0 : Int} {s : lf_Z} (hQ : ∀ (r : Int), ((-1) ≤ r ∧ r ≤ 3) → Q r s) {M4 : Nat} (hX4 : ∀ (x1 : Int) (x2 : Int), (-1) ≤ x1 ∧ x1 ≤ 3 → 0 ≤ x2 ∧ x2 ≤ 4 → (4 - x2).toNat < M4 → X4 x1 x2 s) (hM4 : (4 - x2).toNat ≤ M4) (hI : iv_A s.1 s.2.2) (bx1 : (-1) ≤ x1 ∧ x1 ≤ 3) (bx2 : 0 ≤ x2 ∧ x2 ≤ 3) (bx3 : 1 ≤ x3 ∧ x3 ≤ 12) (by0 : (-144) ≤ y0 ∧ y0 ≤ 144) : fm_324_p53 X4 Q x1 x2 x3 y0 s := by
  unfold fm_324_p53
  refine ⟨(show lf_R y0 from lf_Rof (by omega)), ?_⟩
  refine ⟨fun c14 => ?_, fun c14 => ?_⟩
  · skip
    replace c14 : 0 < y0 := c14
    exact sm_324_p75 hQ hX4 (show (4 - x2).toNat ≤ M4 from by omega) hI (show (0 : Int) ≤ x2 ∧ x2 ≤ (3 : Int) from by omega)
  · skip
    replace c14 : ¬ (0 < y0) := c14
    refine ⟨fun c15 => ?_, fun c15 => ?_⟩
    · skip
      replace c15 : y0 ≠ 0 := c15
      exact sm_324_p77 hQ hX4 (show (4 - x2).toNat ≤ M4 from by omega) hI (show (-1 : Int) ≤ x1 ∧ x1 ≤ (3 : Int) from by omega) (show (0 : Int) ≤ x2 ∧ x2 ≤ (3 : Int) from by omega)
    · skip
      replace c15 : ¬ (y0 ≠ 0) := c15
      refine sm_323 hI (show (-1 : Int) ≤ x1 ∧ x1 ≤ (3 : Int) from by omega) (show (0 : Int) ≤ 0 ∧ 0 ≤ (1 : Int) from by omega) (fun r34 ps17 q16 => ?_)
      replace ps17 : r34 = lf_tm ((s.1 96)) (x1) (0) ((s.1 96 11)) := ps17
      refine ⟨(show lf_R x3 from lf_Rof (by omega)), ?_⟩
      refine ⟨(show lf_R r34 from lf_Rof (by omega)), ?_⟩
      refine ⟨fun c18 => ?_, fun c18 => ?_⟩
      · skip
        replace c18 : x3 ≤ r34 := c18
        exact sm_324_p77 hQ hX4 (show (4 - x2).toNat ≤ M4 from by omega) hI (show (-1 : Int) ≤ x1 ∧ x1 ≤ (3 : Int) from by omega) (show (0 : Int) ≤ x2 ∧ x2 ≤ (3 : Int) from by omega)
      · skip
        replace c18 : ¬ (x3 ≤ r34) := c18
        exact sm_324_p75 hQ hX4 (show (4 - x2).toNat ≤ M4 from by omega) hI (show (0 : Int) ≤ x2 ∧ x2 ≤ (3 : Int) from by omega)
theorem sm_324_p4 {X4 : Int → Int → lf_Z → Prop} {Q : Int → lf_Z → Prop} {x1 : Int} {x2 : Int} {s : lf_Z} (hQ : ∀ (r : Int), ((-1) ≤ r ∧ r ≤ 3) → Q r s) {M4 : Nat} (hX4 : ∀ (x1 : Int) (x2 : Int), (-1) ≤ x1 ∧ x1 ≤ 3 → 0 ≤ x2 ∧ x2 ≤ 4 → (4 - x2).toNat < M4 → X4 x1 x2 s) (hM4 : (4 - x2).toNat ≤ M4) (hI : iv_A s.1 s.2.2) (bx1 : (-1) ≤ x1 ∧ x1 ≤ 3) (bx2 : 0 ≤ x2 ∧ x2 ≤ 4) : fm_324_p4 Q X4 x1 x2 s := by
  unfold fm_324_p4
  refine ⟨(show lf_R x2 from lf_Rof (by omega)), ?_⟩
  refine ⟨fun c1 => ?_, fun c1 => ?_⟩
  · skip
    replace c1 : 4 ≤ x2 := c1
    exact hQ x1 (show (-1 : Int) ≤ x1 ∧ x1 ≤ (3 : Int) from by omega)
  · skip
    replace c1 : ¬ (4 ≤ x2) := c1
    refine sm_323 hI (show (-1 : Int) ≤ x2 ∧ x2 ≤ (3 : Int) from by omega) (show (0 : Int) ≤ 0 ∧ 0 ≤ (1 : Int) from by omega) (fun r23 ps3 q2 => ?_)
    replace ps3 : r23 = lf_tm ((s.1 96)) (x2) (0) ((s.1 96 11)) := ps3
    refine ⟨(show lf_R r23 from lf_Rof (by omega)), ?_⟩
    refine ⟨fun c4 => ?_, fun c4 => ?_⟩
    · skip
      replace c4 : r23 ≠ 0 := c4
      refine ⟨(show lf_R x1 from lf_Rof (by omega)), ?_⟩
      refine ⟨fun c5 => ?_, fun c5 => ?_⟩
      · skip
        replace c5 : 0 ≤ x1 := c5
        refine sm_323 hI (show (-1 : Int) ≤ x2 ∧ x2 ≤ (3 : Int) from by omega) (show (0 : Int) ≤ 1 ∧ 1 ≤ (1 : Int) from by omega) (fun r27 ps7 q6 => ?_)
        replace ps7 : r27 = lf_tm ((s.1 96)) (x2) (1) ((s.1 96 11)) := ps7
        refine sm_323 hI (show (-1 : Int) ≤ x1 ∧ x1 ≤ (3 : Int) from by omega) (show (0 : Int) ≤ 0 ∧ 0 ≤ (1 : Int) from by omega) (fun r29 ps9 q8 => ?_)
        replace ps9 : r29 = lf_tm ((s.1 96)) (x1) (0) ((s.1 96 11)) := ps9
        have b10 : 0 ≤ r27 * r29 ∧ r27 * r29 ≤ 144 := lf_mulB (a := r27) (b := r29) (p := 0) (q := 12) (r := 0) (u := 12) (by omega) (by omega) (by decide) (by decide) (by decide) (by decide) (by decide) (by decide) (by decide) (by decide)
        refine sm_323 hI (show (-1 : Int) ≤ x1 ∧ x1 ≤ (3 : Int) from by omega) (show (0 : Int) ≤ 1 ∧ 1 ≤ (1 : Int) from by omega) (fun r31 ps12 q11 => ?_)
        replace ps12 : r31 = lf_tm ((s.1 96)) (x1) (1) ((s.1 96 11)) := ps12
        have b13 : 0 ≤ r31 * r23 ∧ r31 * r23 ≤ 144 := lf_mulB (a := r31) (b := r23) (p := 0) (q := 12) (r := 1) (u := 12) (by omega) (by omega) (by decide) (by decide) (by decide) (by decide) (by decide) (by decide) (by decide) (by decide)
        exact sm_324_p53 hQ hX4 (show (4 - x2).toNat ≤ M4 from by omega) hI (show (-1 : Int) ≤ x1 ∧ x1 ≤ (3 : Int) from by omega) (show (0 : Int) ≤ x2 ∧ x2 ≤ (3 : Int) from by omega) (show (1 : Int) ≤ r23 ∧ r23 ≤ (12 : Int) from by omega) (show (-144 : Int) ≤ (r27 * r29) - (r31 * r23) ∧ (r27 * r29) - (r31 * r23) ≤ (144 : Int) from by omega)
      · skip
        replace c5 : ¬ (0 ≤ x1) := c5
        exact sm_324_p53 hQ hX4 (show (4 - x2).toNat ≤ M4 from by omega) hI (show (-1 : Int) ≤ x1 ∧ x1 ≤ (3 : Int) from by omega) (show (0 : Int) ≤ x2 ∧ x2 ≤ (3 : Int) from by omega) (show (1 : Int) ≤ r23 ∧ r23 ≤ (12 : Int) from by omega) (show (-144 : Int) ≤ 1 ∧ 1 ≤ (144 : Int) from by omega)
    · skip
      replace c4 : ¬ (r23 ≠ 0) := c4
      exact sm_324_p77 hQ hX4 (show (4 - x2).toNat ≤ M4 from by omega) hI (show (-1 : Int) ≤ x1 ∧ x1 ≤ (3 : Int) from by omega) (show (0 : Int) ≤ x2 ∧ x2 ≤ (3 : Int) from by omega)
theorem sm_324_p4L {Q : Int → lf_Z → Prop} {x1 : Int} {x2 : Int} {s : lf_Z} (hQ : ∀ (r : Int), ((-1) ≤ r ∧ r ≤ 3) → Q r s) (hI : iv_A s.1 s.2.2) (bx1 : (-1) ≤ x1 ∧ x1 ≤ 3) (bx2 : 0 ≤ x2 ∧ x2 ≤ 4) : fm_324_p4L Q x1 x2 s := by
  intro X4 hX
  have key : ∀ (m9 : Nat) (x1 : Int) (x2 : Int), (-1) ≤ x1 ∧ x1 ≤ 3 → 0 ≤ x2 ∧ x2 ≤ 4 → (4 - x2).toNat < m9 → X4 x1 x2 s := by
    intro m9
    induction m9 with
    | zero => intro x1 x2 bx1 bx2 h9; exact absurd h9 (Nat.not_lt_zero _)
    | succ m9 ih => intro x1 x2 bx1 bx2 h9; exact hX _ _ _ (sm_324_p4 hQ   (fun x1' x2' bx1' bx2' h8 => ih x1' x2' bx1' bx2' (by omega)) (Nat.le_refl _)  hI  bx1 bx2  )
  exact key _ _ _ bx1 bx2   (Nat.lt_succ_self _)
theorem sm_324 {Q : Int → lf_Z → Prop} {s : lf_Z} (hI : iv_A s.1 s.2.2) (hQ : ∀ (r : Int), ((-1) ≤ r ∧ r ≤ 3) → Q r s) : fm_324 Q s := by
  unfold fm_324
  exact sm_324_p4L hQ hI (show (-1 : Int) ≤ (-1) ∧ (-1) ≤ (3 : Int) from by omega) (show (0 : Int) ≤ 0 ∧ 0 ≤ (4 : Int) from by omega)
-- fm_174 Stand.likeOther 79 15
theorem sm_174 {Q : lf_Z → Prop} {s : lf_Z} (hI : iv_A s.1 s.2.2) (hQ : ∀  (s' : lf_Z), iv_A s'.1 s'.2.2 → lf_fq [79, 80, 81, 82, 83, 84, 85] 1000000 true s.1 s.2.2 s'.1 s'.2.2 → Q  s') : fm_174 Q s := by
  unfold fm_174
  have fr1 : lf_fq [79, 80, 81, 82, 83, 84, 85] 1000000 true s.1 s.2.2 (lf_cp s.1 16 80 0 0 4) s.2.2 := lf_fq_cp (lf_fq_rf) rfl (by decide)
  have hI2 : iv_A (lf_cp (lf_cp s.1 16 80 0 0 4) 17 81 0 0 4) s.2.2 := iv_cp2 hI (Or.inl ⟨rfl, rfl⟩)
  have fr3 : lf_fq [79, 80, 81, 82, 83, 84, 85] 1000000 true s.1 s.2.2 (lf_cp (lf_cp s.1 16 80 0 0 4) 17 81 0 0 4) s.2.2 := lf_fq_cp fr1 rfl (by decide)
  have hI4 : iv_A (lf_cp (lf_cp (lf_cp s.1 16 80 0 0 4) 17 81 0 0 4) 18 82 0 0 4) s.2.2 := iv_cp18_82 hI2
  have fr5 : lf_fq [79, 80, 81, 82, 83, 84, 85] 1000000 true s.1 s.2.2 (lf_cp (lf_cp (lf_cp s.1 16 80 0 0 4) 17 81 0 0 4) 18 82 0 0 4) s.2.2 := lf_fq_cp fr3 rfl (by decide)
  have hI6 : iv_A (lf_cp (lf_cp (lf_cp (lf_cp s.1 16 80 0 0 4) 17 81 0 0 4) 18 82 0 0 4) 19 83 0 0 6) s.2.2 := iv_cp19_83 hI4
  have fr7 : lf_fq [79, 80, 81, 82, 83, 84, 85] 1000000 true s.1 s.2.2 (lf_cp (lf_cp (lf_cp (lf_cp s.1 16 80 0 0 4) 17 81 0 0 4) 18 82 0 0 4) 19 83 0 0 6) s.2.2 := lf_fq_cp fr5 rfl (by decide)
  have hI8 : iv_A (lf_cp (lf_cp (lf_cp (lf_cp (lf_cp s.1 16 80 0 0 4) 17 81 0 0 4) 18 82 0 0 4) 19 83 0 0 6) 20 84 0 0 6) s.2.2 := iv_cp20_84 hI6
  have fr9 : lf_fq [79, 80, 81, 82, 83, 84, 85] 1000000 true s.1 s.2.2 (lf_cp (lf_cp (lf_cp (lf_cp (lf_cp s.1 16 80 0 0 4) 17 81 0 0 4) 18 82 0 0 4) 19 83 0 0 6) 20 84 0 0 6) s.2.2 := lf_fq_cp fr7 rfl (by decide)
  have hI10 : iv_A (lf_cp (lf_cp (lf_cp (lf_cp (lf_cp (lf_cp s.1 16 80 0 0 4) 17 81 0 0 4) 18 82 0 0 4) 19 83 0 0 6) 20 84 0 0 6) 21 85 0 0 12) s.2.2 := iv_cp21_85 hI8
  have fr11 : lf_fq [79, 80, 81, 82, 83, 84, 85] 1000000 true s.1 s.2.2 (lf_cp (lf_cp (lf_cp (lf_cp (lf_cp (lf_cp s.1 16 80 0 0 4) 17 81 0 0 4) 18 82 0 0 4) 19 83 0 0 6) 20 84 0 0 6) 21 85 0 0 12) s.2.2 := lf_fq_cp fr9 rfl (by decide)
  have b12 : (-2147483648) ≤ (lf_cp (lf_cp (lf_cp (lf_cp (lf_cp (lf_cp s.1 16 80 0 0 4) 17 81 0 0 4) 18 82 0 0 4) 19 83 0 0 6) 20 84 0 0 6) 21 85 0 0 12) 15 6 ∧ (lf_cp (lf_cp (lf_cp (lf_cp (lf_cp (lf_cp s.1 16 80 0 0 4) 17 81 0 0 4) 18 82 0 0 4) 19 83 0 0 6) 20 84 0 0 6) 21 85 0 0 12) 15 6 ≤ 2147483647 := iv_full hI10
  have b13 : (lf_cp (lf_cp (lf_cp (lf_cp (lf_cp (lf_cp s.1 16 80 0 0 4) 17 81 0 0 4) 18 82 0 0 4) 19 83 0 0 6) 20 84 0 0 6) 21 85 0 0 12) 15 6 = (lf_cp (lf_cp (lf_cp (lf_cp (lf_cp s.1 16 80 0 0 4) 17 81 0 0 4) 18 82 0 0 4) 19 83 0 0 6) 20 84 0 0 6) 15 6 := lf_cp_c (by omega)
  have b14 : (lf_cp (lf_cp (lf_cp (lf_cp (lf_cp s.1 16 80 0 0 4) 17 81 0 0 4) 18 82 0 0 4) 19 83 0 0 6) 20 84 0 0 6) 15 6 = (lf_cp (lf_cp (lf_cp (lf_cp s.1 16 80 0 0 4) 17 81 0 0 4) 18 82 0 0 4) 19 83 0 0 6) 15 6 := lf_cp_c (by omega)
  have b15 : (lf_cp (lf_cp (lf_cp (lf_cp s.1 16 80 0 0 4) 17 81 0 0 4) 18 82 0 0 4) 19 83 0 0 6) 15 6 = (lf_cp (lf_cp (lf_cp s.1 16 80 0 0 4) 17 81 0 0 4) 18 82 0 0 4) 15 6 := lf_cp_c (by omega)
  have b16 : (lf_cp (lf_cp (lf_cp s.1 16 80 0 0 4) 17 81 0 0 4) 18 82 0 0 4) 15 6 = (lf_cp (lf_cp s.1 16 80 0 0 4) 17 81 0 0 4) 15 6 := lf_cp_c (by omega)
  have b17 : (lf_cp (lf_cp s.1 16 80 0 0 4) 17 81 0 0 4) 15 6 = (lf_cp s.1 16 80 0 0 4) 15 6 := lf_cp_c (by omega)
  have b18 : (lf_cp s.1 16 80 0 0 4) 15 6 = s.1 15 6 := lf_cp_c (by omega)
  have hI19 : iv_A (lf_up (lf_cp (lf_cp (lf_cp (lf_cp (lf_cp (lf_cp s.1 16 80 0 0 4) 17 81 0 0 4) 18 82 0 0 4) 19 83 0 0 6) 20 84 0 0 6) 21 85 0 0 12) 79 6 ((lf_cp (lf_cp (lf_cp (lf_cp (lf_cp (lf_cp s.1 16 80 0 0 4) 17 81 0 0 4) 18 82 0 0 4) 19 83 0 0 6) 20 84 0 0 6) 21 85 0 0 12) 15 6)) s.2.2 := iv_w79_6 hI10 (by omega)
  have fr20 : lf_fq [79, 80, 81, 82, 83, 84, 85] 1000000 true s.1 s.2.2 (lf_up (lf_cp (lf_cp (lf_cp (lf_cp (lf_cp (lf_cp s.1 16 80 0 0 4) 17 81 0 0 4) 18 82 0 0 4) 19 83 0 0 6) 20 84 0 0 6) 21 85 0 0 12) 79 6 ((lf_cp (lf_cp (lf_cp (lf_cp (lf_cp (lf_cp s.1 16 80 0 0 4) 17 81 0 0 4) 18 82 0 0 4) 19 83 0 0 6) 20 84 0 0 6) 21 85 0 0 12) 15 6)) s.2.2 := lf_fq_up fr11 rfl (fun h => absurd h (by decide))
  have b21 : (-2147483648) ≤ (lf_cp (lf_cp (lf_cp (lf_cp (lf_cp (lf_cp s.1 16 80 0 0 4) 17 81 0 0 4) 18 82 0 0 4) 19 83 0 0 6) 20 84 0 0 6) 21 85 0 0 12) 15 7 ∧ (lf_cp (lf_cp (lf_cp (lf_cp (lf_cp (lf_cp s.1 16 80 0 0 4) 17 81 0 0 4) 18 82 0 0 4) 19 83 0 0 6) 20 84 0 0 6) 21 85 0 0 12) 15 7 ≤ 2147483647 := (show (-2147483648) ≤ (lf_up (lf_cp (lf_cp (lf_cp (lf_cp (lf_cp (lf_cp s.1 16 80 0 0 4) 17 81 0 0 4) 18 82 0 0 4) 19 83 0 0 6) 20 84 0 0 6) 21 85 0 0 12) 79 6 ((lf_cp (lf_cp (lf_cp (lf_cp (lf_cp (lf_cp s.1 16 80 0 0 4) 17 81 0 0 4) 18 82 0 0 4) 19 83 0 0 6) 20 84 0 0 6) 21 85 0 0 12) 15 6)) 15 7 ∧ (lf_up (lf_cp (lf_cp (lf_cp (lf_cp (lf_cp (lf_cp s.1 16 80 0 0 4) 17 81 0 0 4) 18 82 0 0 4) 19 83 0 0 6) 20 84 0 0 6) 21 85 0 0 12) 79 6 ((lf_cp (lf_cp (lf_cp (lf_cp (lf_cp (lf_cp s.1 16 80 0 0 4) 17 81 0 0 4) 18 82 0 0 4) 19 83 0 0 6) 20 84 0 0 6) 21 85 0 0 12) 15 6)) 15 7 ≤ 2147483647 from iv_full hI19)
  have b22 : (lf_cp (lf_cp (lf_cp (lf_cp (lf_cp (lf_cp s.1 16 80 0 0 4) 17 81 0 0 4) 18 82 0 0 4) 19 83 0 0 6) 20 84 0 0 6) 21 85 0 0 12) 15 7 = (lf_cp (lf_cp (lf_cp (lf_cp (lf_cp s.1 16 80 0 0 4) 17 81 0 0 4) 18 82 0 0 4) 19 83 0 0 6) 20 84 0 0 6) 15 7 := lf_cp_c (by omega)
  have b23 : (lf_cp (lf_cp (lf_cp (lf_cp (lf_cp s.1 16 80 0 0 4) 17 81 0 0 4) 18 82 0 0 4) 19 83 0 0 6) 20 84 0 0 6) 15 7 = (lf_cp (lf_cp (lf_cp (lf_cp s.1 16 80 0 0 4) 17 81 0 0 4) 18 82 0 0 4) 19 83 0 0 6) 15 7 := lf_cp_c (by omega)
  have b24 : (lf_cp (lf_cp (lf_cp (lf_cp s.1 16 80 0 0 4) 17 81 0 0 4) 18 82 0 0 4) 19 83 0 0 6) 15 7 = (lf_cp (lf_cp (lf_cp s.1 16 80 0 0 4) 17 81 0 0 4) 18 82 0 0 4) 15 7 := lf_cp_c (by omega)
  have b25 : (lf_cp (lf_cp (lf_cp s.1 16 80 0 0 4) 17 81 0 0 4) 18 82 0 0 4) 15 7 = (lf_cp (lf_cp s.1 16 80 0 0 4) 17 81 0 0 4) 15 7 := lf_cp_c (by omega)
  have b26 : (lf_cp (lf_cp s.1 16 80 0 0 4) 17 81 0 0 4) 15 7 = (lf_cp s.1 16 80 0 0 4) 15 7 := lf_cp_c (by omega)
  have b27 : (lf_cp s.1 16 80 0 0 4) 15 7 = s.1 15 7 := lf_cp_c (by omega)
  have hI28 : iv_A (lf_up (lf_up (lf_cp (lf_cp (lf_cp (lf_cp (lf_cp (lf_cp s.1 16 80 0 0 4) 17 81 0 0 4) 18 82 0 0 4) 19 83 0 0 6) 20 84 0 0 6) 21 85 0 0 12) 79 6 ((lf_cp (lf_cp (lf_cp (lf_cp (lf_cp (lf_cp s.1 16 80 0 0 4) 17 81 0 0 4) 18 82 0 0 4) 19 83 0 0 6) 20 84 0 0 6) 21 85 0 0 12) 15 6)) 79 7 ((lf_cp (lf_cp (lf_cp (lf_cp (lf_cp (lf_cp s.1 16 80 0 0 4) 17 81 0 0 4) 18 82 0 0 4) 19 83 0 0 6) 20 84 0 0 6) 21 85 0 0 12) 15 7)) s.2.2 := iv_w79_7 hI19 (by omega)
  have fr29 : lf_fq [79, 80, 81, 82, 83, 84, 85] 1000000 true s.1 s.2.2 (lf_up (lf_up (lf_cp (lf_cp (lf_cp (lf_cp (lf_cp (lf_cp s.1 16 80 0 0 4) 17 81 0 0 4) 18 82 0 0 4) 19 83 0 0 6) 20 84 0 0 6) 21 85 0 0 12) 79 6 ((lf_cp (lf_cp (lf_cp (lf_cp (lf_cp (lf_cp s.1 16 80 0 0 4) 17 81 0 0 4) 18 82 0 0 4) 19 83 0 0 6) 20 84 0 0 6) 21 85 0 0 12) 15 6)) 79 7 ((lf_cp (lf_cp (lf_cp (lf_cp (lf_cp (lf_cp s.1 16 80 0 0 4) 17 81 0 0 4) 18 82 0 0 4) 19 83 0 0 6) 20 84 0 0 6) 21 85 0 0 12) 15 7)) s.2.2 := lf_fq_up fr20 rfl (fun h => absurd h (by decide))
  have b30 : (-2147483648) ≤ (lf_cp (lf_cp (lf_cp (lf_cp (lf_cp (lf_cp s.1 16 80 0 0 4) 17 81 0 0 4) 18 82 0 0 4) 19 83 0 0 6) 20 84 0 0 6) 21 85 0 0 12) 15 8 ∧ (lf_cp (lf_cp (lf_cp (lf_cp (lf_cp (lf_cp s.1 16 80 0 0 4) 17 81 0 0 4) 18 82 0 0 4) 19 83 0 0 6) 20 84 0 0 6) 21 85 0 0 12) 15 8 ≤ 2147483647 := (show (-2147483648) ≤ (lf_up (lf_up (lf_cp (lf_cp (lf_cp (lf_cp (lf_cp (lf_cp s.1 16 80 0 0 4) 17 81 0 0 4) 18 82 0 0 4) 19 83 0 0 6) 20 84 0 0 6) 21 85 0 0 12) 79 6 ((lf_cp (lf_cp (lf_cp (lf_cp (lf_cp (lf_cp s.1 16 80 0 0 4) 17 81 0 0 4) 18 82 0 0 4) 19 83 0 0 6) 20 84 0 0 6) 21 85 0 0 12) 15 6)) 79 7 ((lf_cp (lf_cp (lf_cp (lf_cp (lf_cp (lf_cp s.1 16 80 0 0 4) 17 81 0 0 4) 18 82 0 0 4) 19 83 0 0 6) 20 84 0 0 6) 21 85 0 0 12) 15 7)) 15 8 ∧ (lf_up (lf_up (lf_cp (lf_cp (lf_cp (lf_cp (lf_cp (lf_cp s.1 16 80 0 0 4) 17 81 0 0 4) 18 82 0 0 4) 19 83 0 0 6) 20 84 0 0 6) 21 85 0 0 12) 79 6 ((lf_cp (lf_cp (lf_cp (lf_cp (lf_cp (lf_cp s.1 16 80 0 0 4) 17 81 0 0 4) 18 82 0 0 4) 19 83 0 0 6) 20 84 0 0 6) 21 85 0 0 12) 15 6)) 79 7 ((lf_cp (lf_cp (lf_cp (lf_cp (lf_cp (lf_cp s.1 16 80 0 0 4) 17 81 0 0 4) 18 82 0 0 4) 19 83 0 0 6) 20 84 0 0 6) 21 85 0 0 12) 15 7)) 15 8 ≤ 2147483647 from iv_full hI28)
  have b31 : (lf_cp (lf_cp (lf_cp (lf_cp (lf_cp (lf_cp s.1 16 80 0 0 4) 17 81 0 0 4) 18 82 0 0 4) 19 83 0 0 6) 20 84 0 0 6) 21 85 0 0 12) 15 8 = (lf_cp (lf_cp (lf_cp (lf_cp (lf_cp s.1 16 80 0 0 4) 17 81 0 0 4) 18 82 0 0 4) 19 83 0 0 6) 20 84 0 0 6) 15 8 := lf_cp_c (by omega)
  have b32 : (lf_cp (lf_cp (lf_cp (lf_cp (lf_cp s.1 16 80 0 0 4) 17 81 0 0 4) 18 82 0 0 4) 19 83 0 0 6) 20 84 0 0 6) 15 8 = (lf_cp (lf_cp (lf_cp (lf_cp s.1 16 80 0 0 4) 17 81 0 0 4) 18 82 0 0 4) 19 83 0 0 6) 15 8 := lf_cp_c (by omega)
  have b33 : (lf_cp (lf_cp (lf_cp (lf_cp s.1 16 80 0 0 4) 17 81 0 0 4) 18 82 0 0 4) 19 83 0 0 6) 15 8 = (lf_cp (lf_cp (lf_cp s.1 16 80 0 0 4) 17 81 0 0 4) 18 82 0 0 4) 15 8 := lf_cp_c (by omega)
  have b34 : (lf_cp (lf_cp (lf_cp s.1 16 80 0 0 4) 17 81 0 0 4) 18 82 0 0 4) 15 8 = (lf_cp (lf_cp s.1 16 80 0 0 4) 17 81 0 0 4) 15 8 := lf_cp_c (by omega)
  have b35 : (lf_cp (lf_cp s.1 16 80 0 0 4) 17 81 0 0 4) 15 8 = (lf_cp s.1 16 80 0 0 4) 15 8 := lf_cp_c (by omega)
  have b36 : (lf_cp s.1 16 80 0 0 4) 15 8 = s.1 15 8 := lf_cp_c (by omega)
  have hI37 : iv_A (lf_up (lf_up (lf_up (lf_cp (lf_cp (lf_cp (lf_cp (lf_cp (lf_cp s.1 16 80 0 0 4) 17 81 0 0 4) 18 82 0 0 4) 19 83 0 0 6) 20 84 0 0 6) 21 85 0 0 12) 79 6 ((lf_cp (lf_cp (lf_cp (lf_cp (lf_cp (lf_cp s.1 16 80 0 0 4) 17 81 0 0 4) 18 82 0 0 4) 19 83 0 0 6) 20 84 0 0 6) 21 85 0 0 12) 15 6)) 79 7 ((lf_cp (lf_cp (lf_cp (lf_cp (lf_cp (lf_cp s.1 16 80 0 0 4) 17 81 0 0 4) 18 82 0 0 4) 19 83 0 0 6) 20 84 0 0 6) 21 85 0 0 12) 15 7)) 79 8 ((lf_cp (lf_cp (lf_cp (lf_cp (lf_cp (lf_cp s.1 16 80 0 0 4) 17 81 0 0 4) 18 82 0 0 4) 19 83 0 0 6) 20 84 0 0 6) 21 85 0 0 12) 15 8)) s.2.2 := iv_w79_8 hI28 (by omega)
  have fr38 : lf_fq [79, 80, 81, 82, 83, 84, 85] 1000000 true s.1 s.2.2 (lf_up (lf_up (lf_up (lf_cp (lf_cp (lf_cp (lf_cp (lf_cp (lf_cp s.1 16 80 0 0 4) 17 81 0 0 4) 18 82 0 0 4) 19 83 0 0 6) 20 84 0 0 6) 21 85 0 0 12) 79 6 ((lf_cp (lf_cp (lf_cp (lf_cp (lf_cp (lf_cp s.1 16 80 0 0 4) 17 81 0 0 4) 18 82 0 0 4) 19 83 0 0 6) 20 84 0 0 6) 21 85 0 0 12) 15 6)) 79 7 ((lf_cp (lf_cp (lf_cp (lf_cp (lf_cp (lf_cp s.1 16 80 0 0 4) 17 81 0 0 4) 18 82 0 0 4) 19 83 0 0 6) 20 84 0 0 6) 21 85 0 0 12) 15 7)) 79 8 ((lf_cp (lf_cp (lf_cp (lf_cp (lf_cp (lf_cp s.1 16 80 0 0 4) 17 81 0 0 4) 18 82 0 0 4) 19 83 0 0 6) 20 84 0 0 6) 21 85 0 0 12) 15 8)) s.2.2 := lf_fq_up fr29 rfl (fun h => absurd h (by decide))
  exact hQ (lf_up (lf_up (lf_up (lf_cp (lf_cp (lf_cp (lf_cp (lf_cp (lf_cp s.1 16 80 0 0 4) 17 81 0 0 4) 18 82 0 0 4) 19 83 0 0 6) 20 84 0 0 6) 21 85 0 0 12) 79 6 ((lf_cp (lf_cp (lf_cp (lf_cp (lf_cp (lf_cp s.1 16 80 0 0 4) 17 81 0 0 4) 18 82 0 0 4) 19 83 0 0 6) 20 84 0 0 6) 21 85 0 0 12) 15 6)) 79 7 ((lf_cp (lf_cp (lf_cp (lf_cp (lf_cp (lf_cp s.1 16 80 0 0 4) 17 81 0 0 4) 18 82 0 0 4) 19 83 0 0 6) 20 84 0 0 6) 21 85 0 0 12) 15 7)) 79 8 ((lf_cp (lf_cp (lf_cp (lf_cp (lf_cp (lf_cp s.1 16 80 0 0 4) 17 81 0 0 4) 18 82 0 0 4) 19 83 0 0 6) 20 84 0 0 6) 21 85 0 0 12) 15 8), s.2.1, s.2.2) hI37 fr38
-- fm_175 Steps.likeOther 86 22
theorem sm_175 {Q : lf_Z → Prop} {s : lf_Z} (hI : iv_A s.1 s.2.2) (hQ : ∀  (s' : lf_Z), iv_A s'.1 s'.2.2 → lf_fq [86, 87, 88] 1000000 true s.1 s.2.2 s'.1 s'.2.2 → Q  s') : fm_175 Q s := by
  unfold fm_175
  have hI1 : iv_A (lf_cp s.1 23 87 0 0 1170) s.2.2 := iv_cp23_87 hI
  have fr2 : lf_fq [86, 87, 88] 1000000 true s.1 s.2.2 (lf_cp s.1 23 87 0 0 1170) s.2.2 := lf_fq_cp (lf_fq_rf) rfl (by decide)
  have hI3 : iv_A (lf_cp (lf_cp s.1 23 87 0 0 1170) 24 88 0 0 30) s.2.2 := iv_cp24_88 hI1
  have fr4 : lf_fq [86, 87, 88] 1000000 true s.1 s.2.2 (lf_cp (lf_cp s.1 23 87 0 0 1170) 24 88 0 0 30) s.2.2 := lf_fq_cp fr2 rfl (by decide)
  have b5 : 0 ≤ (lf_cp (lf_cp s.1 23 87 0 0 1170) 24 88 0 0 30) 22 2 ∧ (lf_cp (lf_cp s.1 23 87 0 0 1170) 24 88 0 0 30) 22 2 ≤ 29 := iv_r22_2 hI3
  have b6 : (lf_cp (lf_cp s.1 23 87 0 0 1170) 24 88 0 0 30) 22 2 = (lf_cp s.1 23 87 0 0 1170) 22 2 := lf_cp_c (by omega)
  have b7 : (lf_cp s.1 23 87 0 0 1170) 22 2 = s.1 22 2 := lf_cp_c (by omega)
  have hI8 : iv_A (lf_up (lf_cp (lf_cp s.1 23 87 0 0 1170) 24 88 0 0 30) 86 2 ((lf_cp (lf_cp s.1 23 87 0 0 1170) 24 88 0 0 30) 22 2)) s.2.2 := iv_w86_2 hI3 (by omega)
  have fr9 : lf_fq [86, 87, 88] 1000000 true s.1 s.2.2 (lf_up (lf_cp (lf_cp s.1 23 87 0 0 1170) 24 88 0 0 30) 86 2 ((lf_cp (lf_cp s.1 23 87 0 0 1170) 24 88 0 0 30) 22 2)) s.2.2 := lf_fq_up fr4 rfl (fun h => absurd h (by decide))
  have b10 : 0 ≤ (lf_cp (lf_cp s.1 23 87 0 0 1170) 24 88 0 0 30) 22 3 ∧ (lf_cp (lf_cp s.1 23 87 0 0 1170) 24 88 0 0 30) 22 3 ≤ 30 := (show 0 ≤ (lf_up (lf_cp (lf_cp s.1 23 87 0 0 1170) 24 88 0 0 30) 86 2 ((lf_cp (lf_cp s.1 23 87 0 0 1170) 24 88 0 0 30) 22 2)) 22 3 ∧ (lf_up (lf_cp (lf_cp s.1 23 87 0 0 1170) 24 88 0 0 30) 86 2 ((lf_cp (lf_cp s.1 23 87 0 0 1170) 24 88 0 0 30) 22 2)) 22 3 ≤ 30 from iv_r22_3 hI8)
  have b11 : (lf_cp (lf_cp s.1 23 87 0 0 1170) 24 88 0 0 30) 22 3 = (lf_cp s.1 23 87 0 0 1170) 22 3 := lf_cp_c (by omega)
  have b12 : (lf_cp s.1 23 87 0 0 1170) 22 3 = s.1 22 3 := lf_cp_c (by omega)
  have hI13 : iv_A (lf_up (lf_up (lf_cp (lf_cp s.1 23 87 0 0 1170) 24 88 0 0 30) 86 2 ((lf_cp (lf_cp s.1 23 87 0 0 1170) 24 88 0 0 30) 22 2)) 86 3 ((lf_cp (lf_cp s.1 23 87 0 0 1170) 24 88 0 0 30) 22 3)) s.2.2 := iv_w86_3 hI8 (by omega)
  have fr14 : lf_fq [86, 87, 88] 1000000 true s.1 s.2.2 (lf_up (lf_up (lf_cp (lf_cp s.1 23 87 0 0 1170) 24 88 0 0 30) 86 2 ((lf_cp (lf_cp s.1 23 87 0 0 1170) 24 88 0 0 30) 22 2)) 86 3 ((lf_cp (lf_cp s.1 23 87 0 0 1170) 24 88 0 0 30) 22 3)) s.2.2 := lf_fq_up fr9 rfl (fun h => absurd h (by decide))
  exact hQ (lf_up (lf_up (lf_cp (lf_cp s.1 23 87 0 0 1170) 24 88 0 0 30) 86 2 ((lf_cp (lf_cp s.1 23 87 0 0 1170) 24 88 0 0 30) 22 2)) 86 3 ((lf_cp (lf_cp s.1 23 87 0 0 1170) 24 88 0 0 30) 22 3), s.2.1, s.2.2) hI13 fr14
-- fm_176 Notes.likeOther 89 25
theorem sm_176 {Q : lf_Z → Prop} {s : lf_Z} (hI : iv_A s.1 s.2.2) (hQ : ∀  (s' : lf_Z), iv_A s'.1 s'.2.2 → lf_fq [89, 90, 91, 92, 93, 94] 1000000 true s.1 s.2.2 s'.1 s'.2.2 → Q  s') : fm_176 Q s := by
  unfold fm_176
  have hI1 : iv_A (lf_cp s.1 26 90 0 0 6) s.2.2 := iv_cp26_90 hI
  have fr2 : lf_fq [89, 90, 91, 92, 93, 94] 1000000 true s.1 s.2.2 (lf_cp s.1 26 90 0 0 6) s.2.2 := lf_fq_cp (lf_fq_rf) rfl (by decide)
  have hI3 : iv_A (lf_cp (lf_cp s.1 26 90 0 0 6) 27 91 0 0 6) s.2.2 := iv_cp27_91 hI1
  have fr4 : lf_fq [89, 90, 91, 92, 93, 94] 1000000 true s.1 s.2.2 (lf_cp (lf_cp s.1 26 90 0 0 6) 27 91 0 0 6) s.2.2 := lf_fq_cp fr2 rfl (by decide)
  have hI5 : iv_A (lf_cp (lf_cp (lf_cp s.1 26 90 0 0 6) 27 91 0 0 6) 28 92 0 0 16) s.2.2 := iv_cp28_92 hI3
  have fr6 : lf_fq [89, 90, 91, 92, 93, 94] 1000000 true s.1 s.2.2 (lf_cp (lf_cp (lf_cp s.1 26 90 0 0 6) 27 91 0 0 6) 28 92 0 0 16) s.2.2 := lf_fq_cp fr4 rfl (by decide)
  have hI7 : iv_A (lf_cp (lf_cp (lf_cp (lf_cp s.1 26 90 0 0 6) 27 91 0 0 6) 28 92 0 0 16) 29 93 0 0 4) s.2.2 := iv_cp29_93 hI5
  have fr8 : lf_fq [89, 90, 91, 92, 93, 94] 1000000 true s.1 s.2.2 (lf_cp (lf_cp (lf_cp (lf_cp s.1 26 90 0 0 6) 27 91 0 0 6) 28 92 0 0 16) 29 93 0 0 4) s.2.2 := lf_fq_cp fr6 rfl (by decide)
  have hI9 : iv_A (lf_cp (lf_cp (lf_cp (lf_cp (lf_cp s.1 26 90 0 0 6) 27 91 0 0 6) 28 92 0 0 16) 29 93 0 0 4) 30 94 0 0 4) s.2.2 := iv_cp30_94 hI7
  have fr10 : lf_fq [89, 90, 91, 92, 93, 94] 1000000 true s.1 s.2.2 (lf_cp (lf_cp (lf_cp (lf_cp (lf_cp s.1 26 90 0 0 6) 27 91 0 0 6) 28 92 0 0 16) 29 93 0 0 4) 30 94 0 0 4) s.2.2 := lf_fq_cp fr8 rfl (by decide)
  have b11 : 0 ≤ (lf_cp (lf_cp (lf_cp (lf_cp (lf_cp s.1 26 90 0 0 6) 27 91 0 0 6) 28 92 0 0 16) 29 93 0 0 4) 30 94 0 0 4) 25 2 ∧ (lf_cp (lf_cp (lf_cp (lf_cp (lf_cp s.1 26 90 0 0 6) 27 91 0 0 6) 28 92 0 0 16) 29 93 0 0 4) 30 94 0 0 4) 25 2 ≤ 6 := iv_r25_2 hI9
  have b12 : (lf_cp (lf_cp (lf_cp (lf_cp (lf_cp s.1 26 90 0 0 6) 27 91 0 0 6) 28 92 0 0 16) 29 93 0 0 4) 30 94 0 0 4) 25 2 = (lf_cp (lf_cp (lf_cp (lf_cp s.1 26 90 0 0 6) 27 91 0 0 6) 28 92 0 0 16) 29 93 0 0 4) 25 2 := lf_cp_c (by omega)
  have b13 : (lf_cp (lf_cp (lf_cp (lf_cp s.1 26 90 0 0 6) 27 91 0 0 6) 28 92 0 0 16) 29 93 0 0 4) 25 2 = (lf_cp (lf_cp (lf_cp s.1 26 90 0 0 6) 27 91 0 0 6) 28 92 0 0 16) 25 2 := lf_cp_c (by omega)
  have b14 : (lf_cp (lf_cp (lf_cp s.1 26 90 0 0 6) 27 91 0 0 6) 28 92 0 0 16) 25 2 = (lf_cp (lf_cp s.1 26 90 0 0 6) 27 91 0 0 6) 25 2 := lf_cp_c (by omega)
  have b15 : (lf_cp (lf_cp s.1 26 90 0 0 6) 27 91 0 0 6) 25 2 = (lf_cp s.1 26 90 0 0 6) 25 2 := lf_cp_c (by omega)
  have b16 : (lf_cp s.1 26 90 0 0 6) 25 2 = s.1 25 2 := lf_cp_c (by omega)
  have hI17 : iv_A (lf_up (lf_cp (lf_cp (lf_cp (lf_cp (lf_cp s.1 26 90 0 0 6) 27 91 0 0 6) 28 92 0 0 16) 29 93 0 0 4) 30 94 0 0 4) 89 2 ((lf_cp (lf_cp (lf_cp (lf_cp (lf_cp s.1 26 90 0 0 6) 27 91 0 0 6) 28 92 0 0 16) 29 93 0 0 4) 30 94 0 0 4) 25 2)) s.2.2 := iv_w89_2 hI9 (by omega)
  have fr18 : lf_fq [89, 90, 91, 92, 93, 94] 1000000 true s.1 s.2.2 (lf_up (lf_cp (lf_cp (lf_cp (lf_cp (lf_cp s.1 26 90 0 0 6) 27 91 0 0 6) 28 92 0 0 16) 29 93 0 0 4) 30 94 0 0 4) 89 2 ((lf_cp (lf_cp (lf_cp (lf_cp (lf_cp s.1 26 90 0 0 6) 27 91 0 0 6) 28 92 0 0 16) 29 93 0 0 4) 30 94 0 0 4) 25 2)) s.2.2 := lf_fq_up fr10 rfl (fun h => absurd h (by decide))
  exact hQ (lf_up (lf_cp (lf_cp (lf_cp (lf_cp (lf_cp s.1 26 90 0 0 6) 27 91 0 0 6) 28 92 0 0 16) 29 93 0 0 4) 30 94 0 0 4) 89 2 ((lf_cp (lf_cp (lf_cp (lf_cp (lf_cp s.1 26 90 0 0 6) 27 91 0 0 6) 28 92 0 0 16) 29 93 0 0 4) 30 94 0 0 4) 25 2), s.2.1, s.2.2) hI17 fr18
-- fm_173 ElevenBullocks.image 0
theorem sm_173 {Q : Int → lf_Z → Prop} {s : lf_Z} (hI : iv_A s.1 s.2.2) (hQ : ∀ (r : Int) (s' : lf_Z), iv_A s'.1 s'.2.2 → lf_fq [78, 79, 80, 81, 82, 83, 84, 85, 86, 87, 88, 89, 90, 91, 92, 93, 94] 1000000 true s.1 s.2.2 s'.1 s'.2.2 → ((-2147483648) ≤ r ∧ r ≤ 2147483647) → Q r s') : fm_173 Q s := by
  unfold fm_173
  have b1 : 0 ≤ s.1 1 0 ∧ s.1 1 0 ≤ 12 := iv_r1_0 hI
  have hI2 : iv_A (lf_up s.1 78 0 (s.1 1 0)) s.2.2 := iv_w78_0 hI (by omega)
  have fr3 : lf_fq [78, 79, 80, 81, 82, 83, 84, 85, 86, 87, 88, 89, 90, 91, 92, 93, 94] 1000000 true s.1 s.2.2 (lf_up s.1 78 0 (s.1 1 0)) s.2.2 := lf_fq_up (lf_fq_rf) rfl (fun h => absurd h (by decide))
  have b4 : 0 ≤ s.1 1 1 ∧ s.1 1 1 ≤ 16 := (show 0 ≤ (lf_up s.1 78 0 (s.1 1 0)) 1 1 ∧ (lf_up s.1 78 0 (s.1 1 0)) 1 1 ≤ 16 from iv_r1_1 hI2)
  have hI5 : iv_A (lf_up (lf_up s.1 78 0 (s.1 1 0)) 78 1 (s.1 1 1)) s.2.2 := iv_w78_1 hI2 (by omega)
  have fr6 : lf_fq [78, 79, 80, 81, 82, 83, 84, 85, 86, 87, 88, 89, 90, 91, 92, 93, 94] 1000000 true s.1 s.2.2 (lf_up (lf_up s.1 78 0 (s.1 1 0)) 78 1 (s.1 1 1)) s.2.2 := lf_fq_up fr3 rfl (fun h => absurd h (by decide))
  have b7 : 0 ≤ s.1 1 2 ∧ s.1 1 2 ≤ 6 := (show 0 ≤ (lf_up (lf_up s.1 78 0 (s.1 1 0)) 78 1 (s.1 1 1)) 1 2 ∧ (lf_up (lf_up s.1 78 0 (s.1 1 0)) 78 1 (s.1 1 1)) 1 2 ≤ 6 from iv_r1_2 hI5)
  have hI8 : iv_A (lf_up (lf_up (lf_up s.1 78 0 (s.1 1 0)) 78 1 (s.1 1 1)) 78 2 (s.1 1 2)) s.2.2 := iv_w78_2 hI5 (by omega)
  have fr9 : lf_fq [78, 79, 80, 81, 82, 83, 84, 85, 86, 87, 88, 89, 90, 91, 92, 93, 94] 1000000 true s.1 s.2.2 (lf_up (lf_up (lf_up s.1 78 0 (s.1 1 0)) 78 1 (s.1 1 1)) 78 2 (s.1 1 2)) s.2.2 := lf_fq_up fr6 rfl (fun h => absurd h (by decide))
  have b10 : 0 ≤ s.1 0 11 ∧ s.1 0 11 ≤ 4 := (show 0 ≤ (lf_up (lf_up (lf_up s.1 78 0 (s.1 1 0)) 78 1 (s.1 1 1)) 78 2 (s.1 1 2)) 0 11 ∧ (lf_up (lf_up (lf_up s.1 78 0 (s.1 1 0)) 78 1 (s.1 1 1)) 78 2 (s.1 1 2)) 0 11 ≤ 4 from iv_r0_11 hI8)
  have hI11 : iv_A (lf_up (lf_up (lf_up (lf_up s.1 78 0 (s.1 1 0)) 78 1 (s.1 1 1)) 78 2 (s.1 1 2)) 78 3 (s.1 0 11)) s.2.2 := iv_w78_3 hI8 (by omega)
  have fr12 : lf_fq [78, 79, 80, 81, 82, 83, 84, 85, 86, 87, 88, 89, 90, 91, 92, 93, 94] 1000000 true s.1 s.2.2 (lf_up (lf_up (lf_up (lf_up s.1 78 0 (s.1 1 0)) 78 1 (s.1 1 1)) 78 2 (s.1 1 2)) 78 3 (s.1 0 11)) s.2.2 := lf_fq_up fr9 rfl (fun h => absurd h (by decide))
  have b13 : (-1) ≤ s.1 0 12 ∧ s.1 0 12 ≤ 3 := (show (-1) ≤ (lf_up (lf_up (lf_up (lf_up s.1 78 0 (s.1 1 0)) 78 1 (s.1 1 1)) 78 2 (s.1 1 2)) 78 3 (s.1 0 11)) 0 12 ∧ (lf_up (lf_up (lf_up (lf_up s.1 78 0 (s.1 1 0)) 78 1 (s.1 1 1)) 78 2 (s.1 1 2)) 78 3 (s.1 0 11)) 0 12 ≤ 3 from iv_r0_12 hI11)
  have hI14 : iv_A (lf_up (lf_up (lf_up (lf_up (lf_up s.1 78 0 (s.1 1 0)) 78 1 (s.1 1 1)) 78 2 (s.1 1 2)) 78 3 (s.1 0 11)) 78 4 (s.1 0 12)) s.2.2 := iv_w78_4 hI11 (by omega)
  have fr15 : lf_fq [78, 79, 80, 81, 82, 83, 84, 85, 86, 87, 88, 89, 90, 91, 92, 93, 94] 1000000 true s.1 s.2.2 (lf_up (lf_up (lf_up (lf_up (lf_up s.1 78 0 (s.1 1 0)) 78 1 (s.1 1 1)) 78 2 (s.1 1 2)) 78 3 (s.1 0 11)) 78 4 (s.1 0 12)) s.2.2 := lf_fq_up fr12 rfl (fun h => absurd h (by decide))
  refine sm_174 hI14 (fun s21 hI17 fr16 => ?_)
  have fr19 : lf_fq [78, 79, 80, 81, 82, 83, 84, 85, 86, 87, 88, 89, 90, 91, 92, 93, 94] 1000000 true s.1 s.2.2 s21.1 s21.2.2 := lf_fq_tr fr15 (lf_fq_wk fr16 rfl (by decide) (by decide))
  refine sm_175 hI17 (fun s22 hI21 fr20 => ?_)
  have fr23 : lf_fq [78, 79, 80, 81, 82, 83, 84, 85, 86, 87, 88, 89, 90, 91, 92, 93, 94] 1000000 true s.1 s.2.2 s22.1 s22.2.2 := lf_fq_tr fr19 (lf_fq_wk fr20 rfl (by decide) (by decide))
  refine sm_176 hI21 (fun s23 hI25 fr24 => ?_)
  have fr27 : lf_fq [78, 79, 80, 81, 82, 83, 84, 85, 86, 87, 88, 89, 90, 91, 92, 93, 94] 1000000 true s.1 s.2.2 s23.1 s23.2.2 := lf_fq_tr fr23 (lf_fq_wk fr24 rfl (by decide) (by decide))
  have b28 : (-2147483648) ≤ s23.1 15 7 ∧ s23.1 15 7 ≤ 2147483647 := iv_full hI25
  have b29 : s23.1 15 7 = s22.1 15 7 := congrFun (fr24.1 15 rfl) _
  have b30 : s22.1 15 7 = s21.1 15 7 := congrFun (fr20.1 15 rfl) _
  have b31 : s21.1 15 7 = s.1 15 7 := congrFun (fr16.1 15 rfl) _
  exact hQ (s23.1 15 7) s23 hI25 fr27 (show (-2147483648 : Int) ≤ s23.1 15 7 ∧ s23.1 15 7 ≤ (2147483647 : Int) from by omega)
-- fm_181 Model.copy 96 97
theorem sm_181 {Q : lf_Z → Prop} {s : lf_Z} (hI : iv_A s.1 s.2.2) (hQ : ∀  (s' : lf_Z), iv_A s'.1 s'.2.2 → lf_fq [97] 1000000 true s.1 s.2.2 s'.1 s'.2.2 → Q  s') : fm_181 Q s := by
  unfold fm_181 fm_181_p2L
  intro X hX
  have key : ∀ (m : Nat) (x2 : Int) (s' : lf_Z), 0 ≤ x2 → x2 ≤ 1538 → (1538 - x2).toNat < m → s'.2 = s.2 → (∀ a, a ≠ 97 → s'.1 a = s.1 a) → (∀ j : Int, 0 ≤ j → j < x2 → s'.1 97 j = s.1 96 j) → (∀ j : Int, ¬ (0 ≤ j ∧ j < x2) → s'.1 97 j = s.1 97 j) → X x2 s' := by
    intro m
    induction m with
    | zero => intros; omega
    | succ m ih =>
      intro x2 s' h0 h1 hm hs hr hd ho
      refine hX _ _ ?_
      unfold fm_181_p2
      refine ⟨lf_Rof (by omega), fun c => ?_, fun c => ⟨by omega, ?_⟩⟩
      · have e : x2 = 1538 := by omega
        subst e
        refine hQ s' ?_ ⟨fun a ha => hr a (fun e => by subst e; cases ha), fun i hi => ?_, fun _ => by rw [hs], fun r _ i _ => by rw [hr 96 (by decide)]⟩
        · rw [show s'.2.2 = s.2.2 from by rw [hs]]
          exact iv_copyAll (c := 96) (d := 97) (Or.inl ⟨rfl, rfl⟩) hI hr (fun j a b => hd j a b) ho
        · rw [hr 96 (by decide)]
      · refine ih (x2 + 1) _ (by omega) (by omega) (by omega) hs ?_ ?_ ?_
        · intro a ha
          show lf_up s'.1 97 x2 (s'.1 96 x2) a = _
          rw [lf_up_row ha]
          exact hr a ha
        · intro j j0 j1
          show lf_up s'.1 97 x2 (s'.1 96 x2) 97 j = _
          by_cases hj : j = x2
          · subst hj
            rw [lf_up_s, hr 96 (by decide)]
          · rw [lf_up_i hj]
            exact hd j j0 (by omega)
        · intro j hj
          show lf_up s'.1 97 x2 (s'.1 96 x2) 97 j = _
          rw [lf_up_i (by omega)]
          exact ho j (by omega)
  exact key _ 0 s (by omega) (by omega) (Nat.lt_succ_self _) rfl (fun _ _ => rfl) (fun j a b => by omega) (fun _ _ => rfl)
-- fm_325 Model.image 95
theorem sm_325 {Q : Int → lf_Z → Prop} {s : lf_Z} (hI : iv_A s.1 s.2.2) (hQ : ∀ (r : Int) (s' : lf_Z), iv_A s'.1 s'.2.2 → lf_fq [97] 1000000 true s.1 s.2.2 s'.1 s'.2.2 → ((-2147483648) ≤ r ∧ r ≤ 2147483647) → Q r s') : fm_325 Q s := by
  unfold fm_325
  refine sm_181 hI (fun s21 hI2 fr1 => ?_)
  have fr4 : lf_fq [97] 1000000 true s.1 s.2.2 s21.1 s21.2.2 := lf_fq_tr (lf_fq_rf) (lf_fq_wk fr1 rfl (by decide) (by decide))
  have b5 : (-2147483648) ≤ s21.1 96 3 ∧ s21.1 96 3 ≤ 2147483647 := iv_full hI2
  have b6 : s21.1 96 3 = s.1 96 3 := congrFun (fr1.1 96 rfl) _
  exact hQ (s21.1 96 3) s21 hI2 fr4 (show (-2147483648 : Int) ≤ s21.1 96 3 ∧ s21.1 96 3 ≤ (2147483647 : Int) from by omega)
-- fm_2b Land.setApart 13
theorem sm_2b_p9 {X9 : Int → lf_Z → Prop} {Q : lf_Z → Prop} {x1 : Int} {s : lf_Z} (hQ : ∀  (s' : lf_Z), iv_A s'.1 s'.2.2 → lf_fq [13] 1000000 true s.1 s.2.2 s'.1 s'.2.2 → Q  s') {M9 : Nat} (hX9 : ∀ (x1 : Int) (s' : lf_Z), iv_A s'.1 s'.2.2 → lf_fq [13] 1000000 true s.1 s.2.2 s'.1 s'.2.2 → 0 ≤ x1 ∧ x1 ≤ 12 → (12 - x1).toNat < M9 → X9 x1 s') (hM9 : (12 - x1).toNat ≤ M9) (hI : iv_A s.1 s.2.2) (bx1 : 0 ≤ x1 ∧ x1 ≤ 12) : fm_2b_p9 Q X9 x1 s := by
  unfold fm_2b_p9
  refine ⟨(show lf_R x1 from lf_Rof (by omega)), ?_⟩
  refine ⟨fun c3 => ?_, fun c3 => ?_⟩
  · skip
    replace c3 : 12 ≤ x1 := c3
    exact hQ s hI (lf_fq_rf)
  · skip
    replace c3 : ¬ (12 ≤ x1) := c3
    refine ⟨(show (0 : Int) ≤ (x1 * 12) + x1 ∧ (x1 * 12) + x1 < (144 : Int) from by omega), ?_⟩
    have hI4 : iv_A (lf_up s.1 13 ((x1 * 12) + x1) 0) s.2.2 := iv_w13 hI (by omega)
    have fr5 : lf_fq [13] 1000000 true s.1 s.2.2 (lf_up s.1 13 ((x1 * 12) + x1) 0) s.2.2 := lf_fq_up (lf_fq_rf) rfl (fun h => absurd h (by decide))
    exact hX9 (x1 + 1) (lf_up s.1 13 ((x1 * 12) + x1) 0, s.2.1, s.2.2) hI4 fr5 (show (0 : Int) ≤ x1 + 1 ∧ x1 + 1 ≤ (12 : Int) from by omega) (show (12 - (x1 + 1)).toNat < M9 from by omega)
theorem sm_2b_p9L {Q : lf_Z → Prop} {x1 : Int} {s : lf_Z} (hQ : ∀  (s' : lf_Z), iv_A s'.1 s'.2.2 → lf_fq [13] 1000000 true s.1 s.2.2 s'.1 s'.2.2 → Q  s') (hI : iv_A s.1 s.2.2) (bx1 : 0 ≤ x1 ∧ x1 ≤ 12) : fm_2b_p9L Q x1 s := by
  intro X9 hX
  have key : ∀ (m9 : Nat) (x1 : Int) (s' : lf_Z), iv_A s'.1 s'.2.2 → lf_fq [13] 1000000 true s.1 s.2.2 s'.1 s'.2.2 → 0 ≤ x1 ∧ x1 ≤ 12 → (12 - x1).toNat < m9 → X9 x1 s' := by
    intro m9
    induction m9 with
    | zero => intro x1 s' _ _ bx1 h9; exact absurd h9 (Nat.not_lt_zero _)
    | succ m9 ih => intro x1 s' i7 f7 bx1 h9; exact hX _ _ (sm_2b_p9 (fun t9 i9 f9 => hQ t9 i9 (lf_fq_tr f7 f9))   (fun x1' t8 i8 f8 bx1' h8 => ih x1' t8 i8 (lf_fq_tr f7 f8) bx1' (by omega)) (Nat.le_refl _)  i7  bx1  )
  exact key _ _ s hI lf_fq_rf bx1 (Nat.lt_succ_self _)
theorem sm_2b {Q : lf_Z → Prop} {s : lf_Z} (hI : iv_A s.1 s.2.2) (hQ : ∀  (s' : lf_Z), iv_A s'.1 s'.2.2 → lf_fq [13] 1000000 true s.1 s.2.2 s'.1 s'.2.2 → Q  s') : fm_2b Q s := by
  unfold fm_2b
  have hI1 : iv_A (lf_fl s.1 13 144 1000) s.2.2 := iv_fl13 hI (by omega)
  have fr2 : lf_fq [13] 1000000 true s.1 s.2.2 (lf_fl s.1 13 144 1000) s.2.2 := lf_fq_fl (lf_fq_rf) rfl (by decide)
  exact sm_2b_p9L (fun t9 i9 f9 => hQ t9 i9 (lf_fq_tr fr2 f9)) hI1 (show (0 : Int) ≤ 0 ∧ 0 ≤ (12 : Int) from by omega)
-- fm_178 Land.cutTo 1 i i i
theorem sm_178_p33 {X33 : Int → lf_Z → Prop} {Q : lf_Z → Prop} {x4 : Int} {s : lf_Z} (hQ : ∀  (s' : lf_Z), iv_A s'.1 s'.2.2 → lf_fq [1, 11, 12, 13] 1000000 true s.1 s.2.2 s'.1 s'.2.2 → Q  s') {M33 : Nat} (hX33 : ∀ (x4 : Int) (s' : lf_Z), iv_A s'.1 s'.2.2 → lf_fq [1, 11, 12, 13] 1000000 true s.1 s.2.2 s'.1 s'.2.2 → 0 ≤ x4 ∧ x4 ≤ 16 → (16 - x4).toNat < M33 → X33 x4 s') (hM33 : (16 - x4).toNat ≤ M33) (hI : iv_A s.1 s.2.2) (bx4 : 0 ≤ x4 ∧ x4 ≤ 16) : fm_178_p33 Q X33 x4 s := by
  unfold fm_178_p33
  have b13 : 0 ≤ s.1 1 1 ∧ s.1 1 1 ≤ 16 := iv_r1_1 hI
  refine ⟨(show lf_R x4 from lf_Rof (by omega)), ?_⟩
  refine ⟨(show lf_R (s.1 1 1) from lf_Rof (by omega)), ?_⟩
  refine ⟨fun c14 => ?_, fun c14 => ?_⟩
  · skip
    replace c14 : s.1 1 1 ≤ x4 := c14
    exact hQ s hI (lf_fq_rf)
  · skip
    replace c14 : ¬ (s.1 1 1 ≤ x4) := c14
    refine sm_20 hI (show (0 : Int) ≤ x4 ∧ x4 ≤ (15 : Int) from by omega) (fun s24 hI16 fr15 => ?_)
    have fr18 : lf_fq [1, 11, 12, 13] 1000000 true s.1 s.2.2 s24.1 s24.2.2 := lf_fq_tr (lf_fq_rf) (lf_fq_wk fr15 rfl (by decide) (by decide))
    exact hX33 (x4 + 1) s24 hI16 fr18 (show (0 : Int) ≤ x4 + 1 ∧ x4 + 1 ≤ (16 : Int) from by omega) (show (16 - (x4 + 1)).toNat < M33 from by omega)
theorem sm_178_p33L {Q : lf_Z → Prop} {x4 : Int} {s : lf_Z} (hQ : ∀  (s' : lf_Z), iv_A s'.1 s'.2.2 → lf_fq [1, 11, 12, 13] 1000000 true s.1 s.2.2 s'.1 s'.2.2 → Q  s') (hI : iv_A s.1 s.2.2) (bx4 : 0 ≤ x4 ∧ x4 ≤ 16) : fm_178_p33L Q x4 s := by
  intro X33 hX
  have key : ∀ (m9 : Nat) (x4 : Int) (s' : lf_Z), iv_A s'.1 s'.2.2 → lf_fq [1, 11, 12, 13] 1000000 true s.1 s.2.2 s'.1 s'.2.2 → 0 ≤ x4 ∧ x4 ≤ 16 → (16 - x4).toNat < m9 → X33 x4 s' := by
    intro m9
    induction m9 with
    | zero => intro x4 s' _ _ bx4 h9; exact absurd h9 (Nat.not_lt_zero _)
    | succ m9 ih => intro x4 s' i7 f7 bx4 h9; exact hX _ _ (sm_178_p33 (fun t9 i9 f9 => hQ t9 i9 (lf_fq_tr f7 f9))   (fun x4' t8 i8 f8 bx4' h8 => ih x4' t8 i8 (lf_fq_tr f7 f8) bx4' (by omega)) (Nat.le_refl _)  i7  bx4  )
  exact key _ _ s hI lf_fq_rf bx4 (Nat.lt_succ_self _)
theorem sm_178 {a1 : Int} {a2 : Int} {a3 : Int} {Q : lf_Z → Prop} {s : lf_Z} (hI : iv_A s.1 s.2.2) (ba1 : 0 ≤ a1 ∧ a1 ≤ 12) (ba2 : 0 ≤ a2 ∧ a2 ≤ 16) (ba3 : 0 ≤ a3 ∧ a3 ≤ 6) (hQ : ∀  (s' : lf_Z), iv_A s'.1 s'.2.2 → lf_fq [1, 11, 12, 13] 1000000 true s.1 s.2.2 s'.1 s'.2.2 → Q  s') : fm_178 a1 a2 a3 Q s := by
  unfold fm_178
  have hI1 : iv_A (lf_up s.1 1 0 a1) s.2.2 := iv_w1_0 hI (by omega)
  have fr2 : lf_fq [1, 11, 12, 13] 1000000 true s.1 s.2.2 (lf_up s.1 1 0 a1) s.2.2 := lf_fq_up (lf_fq_rf) rfl (fun h => absurd h (by decide))
  have hI3 : iv_A (lf_up (lf_up s.1 1 0 a1) 1 1 a2) s.2.2 := iv_w1_1 hI1 (by omega)
  have fr4 : lf_fq [1, 11, 12, 13] 1000000 true s.1 s.2.2 (lf_up (lf_up s.1 1 0 a1) 1 1 a2) s.2.2 := lf_fq_up fr2 rfl (fun h => absurd h (by decide))
  have hI5 : iv_A (lf_up (lf_up (lf_up s.1 1 0 a1) 1 1 a2) 1 2 a3) s.2.2 := iv_w1_2 hI3 (by omega)
  have fr6 : lf_fq [1, 11, 12, 13] 1000000 true s.1 s.2.2 (lf_up (lf_up (lf_up s.1 1 0 a1) 1 1 a2) 1 2 a3) s.2.2 := lf_fq_up fr4 rfl (fun h => absurd h (by decide))
  have hI7 : iv_A (lf_fl (lf_up (lf_up (lf_up s.1 1 0 a1) 1 1 a2) 1 2 a3) 12 12 0) s.2.2 := iv_fl12 hI5 (by omega)
  have fr8 : lf_fq [1, 11, 12, 13] 1000000 true s.1 s.2.2 (lf_fl (lf_up (lf_up (lf_up s.1 1 0 a1) 1 1 a2) 1 2 a3) 12 12 0) s.2.2 := lf_fq_fl fr6 rfl (by decide)
  refine sm_2b hI7 (fun s21 hI10 fr9 => ?_)
  have fr12 : lf_fq [1, 11, 12, 13] 1000000 true s.1 s.2.2 s21.1 s21.2.2 := lf_fq_tr fr8 (lf_fq_wk fr9 rfl (by decide) (by decide))
  exact sm_178_p33L (fun t9 i9 f9 => hQ t9 i9 (lf_fq_tr fr12 f9)) hI10 (show (0 : Int) ≤ 0 ∧ 0 ≤ (16 : Int) from by omega)
-- fm_174b Stand.likeOther 15 79
theorem sm_174b {Q : lf_Z → Prop} {s : lf_Z} (hI : iv_A s.1 s.2.2) (hQ : ∀  (s' : lf_Z), iv_A s'.1 s'.2.2 → lf_fq [15, 16, 17, 18, 19, 20, 21] 1000000 true s.1 s.2.2 s'.1 s'.2.2 → Q  s') : fm_174b Q s := by
  unfold fm_174b
  have fr1 : lf_fq [15, 16, 17, 18, 19, 20, 21] 1000000 true s.1 s.2.2 (lf_cp s.1 80 16 0 0 4) s.2.2 := lf_fq_cp (lf_fq_rf) rfl (by decide)
  have hI2 : iv_A (lf_cp (lf_cp s.1 80 16 0 0 4) 81 17 0 0 4) s.2.2 := iv_cp2 hI (Or.inr ⟨rfl, rfl⟩)
  have fr3 : lf_fq [15, 16, 17, 18, 19, 20, 21] 1000000 true s.1 s.2.2 (lf_cp (lf_cp s.1 80 16 0 0 4) 81 17 0 0 4) s.2.2 := lf_fq_cp fr1 rfl (by decide)
  have hI4 : iv_A (lf_cp (lf_cp (lf_cp s.1 80 16 0 0 4) 81 17 0 0 4) 82 18 0 0 4) s.2.2 := iv_cp82_18 hI2
  have fr5 : lf_fq [15, 16, 17, 18, 19, 20, 21] 1000000 true s.1 s.2.2 (lf_cp (lf_cp (lf_cp s.1 80 16 0 0 4) 81 17 0 0 4) 82 18 0 0 4) s.2.2 := lf_fq_cp fr3 rfl (by decide)
  have hI6 : iv_A (lf_cp (lf_cp (lf_cp (lf_cp s.1 80 16 0 0 4) 81 17 0 0 4) 82 18 0 0 4) 83 19 0 0 6) s.2.2 := iv_cp83_19 hI4
  have fr7 : lf_fq [15, 16, 17, 18, 19, 20, 21] 1000000 true s.1 s.2.2 (lf_cp (lf_cp (lf_cp (lf_cp s.1 80 16 0 0 4) 81 17 0 0 4) 82 18 0 0 4) 83 19 0 0 6) s.2.2 := lf_fq_cp fr5 rfl (by decide)
  have hI8 : iv_A (lf_cp (lf_cp (lf_cp (lf_cp (lf_cp s.1 80 16 0 0 4) 81 17 0 0 4) 82 18 0 0 4) 83 19 0 0 6) 84 20 0 0 6) s.2.2 := iv_cp84_20 hI6
  have fr9 : lf_fq [15, 16, 17, 18, 19, 20, 21] 1000000 true s.1 s.2.2 (lf_cp (lf_cp (lf_cp (lf_cp (lf_cp s.1 80 16 0 0 4) 81 17 0 0 4) 82 18 0 0 4) 83 19 0 0 6) 84 20 0 0 6) s.2.2 := lf_fq_cp fr7 rfl (by decide)
  have hI10 : iv_A (lf_cp (lf_cp (lf_cp (lf_cp (lf_cp (lf_cp s.1 80 16 0 0 4) 81 17 0 0 4) 82 18 0 0 4) 83 19 0 0 6) 84 20 0 0 6) 85 21 0 0 12) s.2.2 := iv_cp85_21 hI8
  have fr11 : lf_fq [15, 16, 17, 18, 19, 20, 21] 1000000 true s.1 s.2.2 (lf_cp (lf_cp (lf_cp (lf_cp (lf_cp (lf_cp s.1 80 16 0 0 4) 81 17 0 0 4) 82 18 0 0 4) 83 19 0 0 6) 84 20 0 0 6) 85 21 0 0 12) s.2.2 := lf_fq_cp fr9 rfl (by decide)
  have b12 : (-2147483648) ≤ (lf_cp (lf_cp (lf_cp (lf_cp (lf_cp (lf_cp s.1 80 16 0 0 4) 81 17 0 0 4) 82 18 0 0 4) 83 19 0 0 6) 84 20 0 0 6) 85 21 0 0 12) 79 6 ∧ (lf_cp (lf_cp (lf_cp (lf_cp (lf_cp (lf_cp s.1 80 16 0 0 4) 81 17 0 0 4) 82 18 0 0 4) 83 19 0 0 6) 84 20 0 0 6) 85 21 0 0 12) 79 6 ≤ 2147483647 := iv_full hI10
  have b13 : (lf_cp (lf_cp (lf_cp (lf_cp (lf_cp (lf_cp s.1 80 16 0 0 4) 81 17 0 0 4) 82 18 0 0 4) 83 19 0 0 6) 84 20 0 0 6) 85 21 0 0 12) 79 6 = (lf_cp (lf_cp (lf_cp (lf_cp (lf_cp s.1 80 16 0 0 4) 81 17 0 0 4) 82 18 0 0 4) 83 19 0 0 6) 84 20 0 0 6) 79 6 := lf_cp_c (by omega)
  have b14 : (lf_cp (lf_cp (lf_cp (lf_cp (lf_cp s.1 80 16 0 0 4) 81 17 0 0 4) 82 18 0 0 4) 83 19 0 0 6) 84 20 0 0 6) 79 6 = (lf_cp (lf_cp (lf_cp (lf_cp s.1 80 16 0 0 4) 81 17 0 0 4) 82 18 0 0 4) 83 19 0 0 6) 79 6 := lf_cp_c (by omega)
  have b15 : (lf_cp (lf_cp (lf_cp (lf_cp s.1 80 16 0 0 4) 81 17 0 0 4) 82 18 0 0 4) 83 19 0 0 6) 79 6 = (lf_cp (lf_cp (lf_cp s.1 80 16 0 0 4) 81 17 0 0 4) 82 18 0 0 4) 79 6 := lf_cp_c (by omega)
  have b16 : (lf_cp (lf_cp (lf_cp s.1 80 16 0 0 4) 81 17 0 0 4) 82 18 0 0 4) 79 6 = (lf_cp (lf_cp s.1 80 16 0 0 4) 81 17 0 0 4) 79 6 := lf_cp_c (by omega)
  have b17 : (lf_cp (lf_cp s.1 80 16 0 0 4) 81 17 0 0 4) 79 6 = (lf_cp s.1 80 16 0 0 4) 79 6 := lf_cp_c (by omega)
  have b18 : (lf_cp s.1 80 16 0 0 4) 79 6 = s.1 79 6 := lf_cp_c (by omega)
  have hI19 : iv_A (lf_up (lf_cp (lf_cp (lf_cp (lf_cp (lf_cp (lf_cp s.1 80 16 0 0 4) 81 17 0 0 4) 82 18 0 0 4) 83 19 0 0 6) 84 20 0 0 6) 85 21 0 0 12) 15 6 ((lf_cp (lf_cp (lf_cp (lf_cp (lf_cp (lf_cp s.1 80 16 0 0 4) 81 17 0 0 4) 82 18 0 0 4) 83 19 0 0 6) 84 20 0 0 6) 85 21 0 0 12) 79 6)) s.2.2 := iv_w15_6 hI10 (by omega)
  have fr20 : lf_fq [15, 16, 17, 18, 19, 20, 21] 1000000 true s.1 s.2.2 (lf_up (lf_cp (lf_cp (lf_cp (lf_cp (lf_cp (lf_cp s.1 80 16 0 0 4) 81 17 0 0 4) 82 18 0 0 4) 83 19 0 0 6) 84 20 0 0 6) 85 21 0 0 12) 15 6 ((lf_cp (lf_cp (lf_cp (lf_cp (lf_cp (lf_cp s.1 80 16 0 0 4) 81 17 0 0 4) 82 18 0 0 4) 83 19 0 0 6) 84 20 0 0 6) 85 21 0 0 12) 79 6)) s.2.2 := lf_fq_up fr11 rfl (fun h => absurd h (by decide))
  have b21 : (-2147483648) ≤ (lf_cp (lf_cp (lf_cp (lf_cp (lf_cp (lf_cp s.1 80 16 0 0 4) 81 17 0 0 4) 82 18 0 0 4) 83 19 0 0 6) 84 20 0 0 6) 85 21 0 0 12) 79 7 ∧ (lf_cp (lf_cp (lf_cp (lf_cp (lf_cp (lf_cp s.1 80 16 0 0 4) 81 17 0 0 4) 82 18 0 0 4) 83 19 0 0 6) 84 20 0 0 6) 85 21 0 0 12) 79 7 ≤ 2147483647 := (show (-2147483648) ≤ (lf_up (lf_cp (lf_cp (lf_cp (lf_cp (lf_cp (lf_cp s.1 80 16 0 0 4) 81 17 0 0 4) 82 18 0 0 4) 83 19 0 0 6) 84 20 0 0 6) 85 21 0 0 12) 15 6 ((lf_cp (lf_cp (lf_cp (lf_cp (lf_cp (lf_cp s.1 80 16 0 0 4) 81 17 0 0 4) 82 18 0 0 4) 83 19 0 0 6) 84 20 0 0 6) 85 21 0 0 12) 79 6)) 79 7 ∧ (lf_up (lf_cp (lf_cp (lf_cp (lf_cp (lf_cp (lf_cp s.1 80 16 0 0 4) 81 17 0 0 4) 82 18 0 0 4) 83 19 0 0 6) 84 20 0 0 6) 85 21 0 0 12) 15 6 ((lf_cp (lf_cp (lf_cp (lf_cp (lf_cp (lf_cp s.1 80 16 0 0 4) 81 17 0 0 4) 82 18 0 0 4) 83 19 0 0 6) 84 20 0 0 6) 85 21 0 0 12) 79 6)) 79 7 ≤ 2147483647 from iv_full hI19)
  have b22 : (lf_cp (lf_cp (lf_cp (lf_cp (lf_cp (lf_cp s.1 80 16 0 0 4) 81 17 0 0 4) 82 18 0 0 4) 83 19 0 0 6) 84 20 0 0 6) 85 21 0 0 12) 79 7 = (lf_cp (lf_cp (lf_cp (lf_cp (lf_cp s.1 80 16 0 0 4) 81 17 0 0 4) 82 18 0 0 4) 83 19 0 0 6) 84 20 0 0 6) 79 7 := lf_cp_c (by omega)
  have b23 : (lf_cp (lf_cp (lf_cp (lf_cp (lf_cp s.1 80 16 0 0 4) 81 17 0 0 4) 82 18 0 0 4) 83 19 0 0 6) 84 20 0 0 6) 79 7 = (lf_cp (lf_cp (lf_cp (lf_cp s.1 80 16 0 0 4) 81 17 0 0 4) 82 18 0 0 4) 83 19 0 0 6) 79 7 := lf_cp_c (by omega)
  have b24 : (lf_cp (lf_cp (lf_cp (lf_cp s.1 80 16 0 0 4) 81 17 0 0 4) 82 18 0 0 4) 83 19 0 0 6) 79 7 = (lf_cp (lf_cp (lf_cp s.1 80 16 0 0 4) 81 17 0 0 4) 82 18 0 0 4) 79 7 := lf_cp_c (by omega)
  have b25 : (lf_cp (lf_cp (lf_cp s.1 80 16 0 0 4) 81 17 0 0 4) 82 18 0 0 4) 79 7 = (lf_cp (lf_cp s.1 80 16 0 0 4) 81 17 0 0 4) 79 7 := lf_cp_c (by omega)
  have b26 : (lf_cp (lf_cp s.1 80 16 0 0 4) 81 17 0 0 4) 79 7 = (lf_cp s.1 80 16 0 0 4) 79 7 := lf_cp_c (by omega)
  have b27 : (lf_cp s.1 80 16 0 0 4) 79 7 = s.1 79 7 := lf_cp_c (by omega)
  have hI28 : iv_A (lf_up (lf_up (lf_cp (lf_cp (lf_cp (lf_cp (lf_cp (lf_cp s.1 80 16 0 0 4) 81 17 0 0 4) 82 18 0 0 4) 83 19 0 0 6) 84 20 0 0 6) 85 21 0 0 12) 15 6 ((lf_cp (lf_cp (lf_cp (lf_cp (lf_cp (lf_cp s.1 80 16 0 0 4) 81 17 0 0 4) 82 18 0 0 4) 83 19 0 0 6) 84 20 0 0 6) 85 21 0 0 12) 79 6)) 15 7 ((lf_cp (lf_cp (lf_cp (lf_cp (lf_cp (lf_cp s.1 80 16 0 0 4) 81 17 0 0 4) 82 18 0 0 4) 83 19 0 0 6) 84 20 0 0 6) 85 21 0 0 12) 79 7)) s.2.2 := iv_w15_7 hI19 (by omega)
  have fr29 : lf_fq [15, 16, 17, 18, 19, 20, 21] 1000000 true s.1 s.2.2 (lf_up (lf_up (lf_cp (lf_cp (lf_cp (lf_cp (lf_cp (lf_cp s.1 80 16 0 0 4) 81 17 0 0 4) 82 18 0 0 4) 83 19 0 0 6) 84 20 0 0 6) 85 21 0 0 12) 15 6 ((lf_cp (lf_cp (lf_cp (lf_cp (lf_cp (lf_cp s.1 80 16 0 0 4) 81 17 0 0 4) 82 18 0 0 4) 83 19 0 0 6) 84 20 0 0 6) 85 21 0 0 12) 79 6)) 15 7 ((lf_cp (lf_cp (lf_cp (lf_cp (lf_cp (lf_cp s.1 80 16 0 0 4) 81 17 0 0 4) 82 18 0 0 4) 83 19 0 0 6) 84 20 0 0 6) 85 21 0 0 12) 79 7)) s.2.2 := lf_fq_up fr20 rfl (fun h => absurd h (by decide))
  have b30 : (-2147483648) ≤ (lf_cp (lf_cp (lf_cp (lf_cp (lf_cp (lf_cp s.1 80 16 0 0 4) 81 17 0 0 4) 82 18 0 0 4) 83 19 0 0 6) 84 20 0 0 6) 85 21 0 0 12) 79 8 ∧ (lf_cp (lf_cp (lf_cp (lf_cp (lf_cp (lf_cp s.1 80 16 0 0 4) 81 17 0 0 4) 82 18 0 0 4) 83 19 0 0 6) 84 20 0 0 6) 85 21 0 0 12) 79 8 ≤ 2147483647 := (show (-2147483648) ≤ (lf_up (lf_up (lf_cp (lf_cp (lf_cp (lf_cp (lf_cp (lf_cp s.1 80 16 0 0 4) 81 17 0 0 4) 82 18 0 0 4) 83 19 0 0 6) 84 20 0 0 6) 85 21 0 0 12) 15 6 ((lf_cp (lf_cp (lf_cp (lf_cp (lf_cp (lf_cp s.1 80 16 0 0 4) 81 17 0 0 4) 82 18 0 0 4) 83 19 0 0 6) 84 20 0 0 6) 85 21 0 0 12) 79 6)) 15 7 ((lf_cp (lf_cp (lf_cp (lf_cp (lf_cp (lf_cp s.1 80 16 0 0 4) 81 17 0 0 4) 82 18 0 0 4) 83 19 0 0 6) 84 20 0 0 6) 85 21 0 0 12) 79 7)) 79 8 ∧ (lf_up (lf_up (lf_cp (lf_cp (lf_cp (lf_cp (lf_cp (lf_cp s.1 80 16 0 0 4) 81 17 0 0 4) 82 18 0 0 4) 83 19 0 0 6) 84 20 0 0 6) 85 21 0 0 12) 15 6 ((lf_cp (lf_cp (lf_cp (lf_cp (lf_cp (lf_cp s.1 80 16 0 0 4) 81 17 0 0 4) 82 18 0 0 4) 83 19 0 0 6) 84 20 0 0 6) 85 21 0 0 12) 79 6)) 15 7 ((lf_cp (lf_cp (lf_cp (lf_cp (lf_cp (lf_cp s.1 80 16 0 0 4) 81 17 0 0 4) 82 18 0 0 4) 83 19 0 0 6) 84 20 0 0 6) 85 21 0 0 12) 79 7)) 79 8 ≤ 2147483647 from iv_full hI28)
  have b31 : (lf_cp (lf_cp (lf_cp (lf_cp (lf_cp (lf_cp s.1 80 16 0 0 4) 81 17 0 0 4) 82 18 0 0 4) 83 19 0 0 6) 84 20 0 0 6) 85 21 0 0 12) 79 8 = (lf_cp (lf_cp (lf_cp (lf_cp (lf_cp s.1 80 16 0 0 4) 81 17 0 0 4) 82 18 0 0 4) 83 19 0 0 6) 84 20 0 0 6) 79 8 := lf_cp_c (by omega)
  have b32 : (lf_cp (lf_cp (lf_cp (lf_cp (lf_cp s.1 80 16 0 0 4) 81 17 0 0 4) 82 18 0 0 4) 83 19 0 0 6) 84 20 0 0 6) 79 8 = (lf_cp (lf_cp (lf_cp (lf_cp s.1 80 16 0 0 4) 81 17 0 0 4) 82 18 0 0 4) 83 19 0 0 6) 79 8 := lf_cp_c (by omega)
  have b33 : (lf_cp (lf_cp (lf_cp (lf_cp s.1 80 16 0 0 4) 81 17 0 0 4) 82 18 0 0 4) 83 19 0 0 6) 79 8 = (lf_cp (lf_cp (lf_cp s.1 80 16 0 0 4) 81 17 0 0 4) 82 18 0 0 4) 79 8 := lf_cp_c (by omega)
  have b34 : (lf_cp (lf_cp (lf_cp s.1 80 16 0 0 4) 81 17 0 0 4) 82 18 0 0 4) 79 8 = (lf_cp (lf_cp s.1 80 16 0 0 4) 81 17 0 0 4) 79 8 := lf_cp_c (by omega)
  have b35 : (lf_cp (lf_cp s.1 80 16 0 0 4) 81 17 0 0 4) 79 8 = (lf_cp s.1 80 16 0 0 4) 79 8 := lf_cp_c (by omega)
  have b36 : (lf_cp s.1 80 16 0 0 4) 79 8 = s.1 79 8 := lf_cp_c (by omega)
  have hI37 : iv_A (lf_up (lf_up (lf_up (lf_cp (lf_cp (lf_cp (lf_cp (lf_cp (lf_cp s.1 80 16 0 0 4) 81 17 0 0 4) 82 18 0 0 4) 83 19 0 0 6) 84 20 0 0 6) 85 21 0 0 12) 15 6 ((lf_cp (lf_cp (lf_cp (lf_cp (lf_cp (lf_cp s.1 80 16 0 0 4) 81 17 0 0 4) 82 18 0 0 4) 83 19 0 0 6) 84 20 0 0 6) 85 21 0 0 12) 79 6)) 15 7 ((lf_cp (lf_cp (lf_cp (lf_cp (lf_cp (lf_cp s.1 80 16 0 0 4) 81 17 0 0 4) 82 18 0 0 4) 83 19 0 0 6) 84 20 0 0 6) 85 21 0 0 12) 79 7)) 15 8 ((lf_cp (lf_cp (lf_cp (lf_cp (lf_cp (lf_cp s.1 80 16 0 0 4) 81 17 0 0 4) 82 18 0 0 4) 83 19 0 0 6) 84 20 0 0 6) 85 21 0 0 12) 79 8)) s.2.2 := iv_w15_8 hI28 (by omega)
  have fr38 : lf_fq [15, 16, 17, 18, 19, 20, 21] 1000000 true s.1 s.2.2 (lf_up (lf_up (lf_up (lf_cp (lf_cp (lf_cp (lf_cp (lf_cp (lf_cp s.1 80 16 0 0 4) 81 17 0 0 4) 82 18 0 0 4) 83 19 0 0 6) 84 20 0 0 6) 85 21 0 0 12) 15 6 ((lf_cp (lf_cp (lf_cp (lf_cp (lf_cp (lf_cp s.1 80 16 0 0 4) 81 17 0 0 4) 82 18 0 0 4) 83 19 0 0 6) 84 20 0 0 6) 85 21 0 0 12) 79 6)) 15 7 ((lf_cp (lf_cp (lf_cp (lf_cp (lf_cp (lf_cp s.1 80 16 0 0 4) 81 17 0 0 4) 82 18 0 0 4) 83 19 0 0 6) 84 20 0 0 6) 85 21 0 0 12) 79 7)) 15 8 ((lf_cp (lf_cp (lf_cp (lf_cp (lf_cp (lf_cp s.1 80 16 0 0 4) 81 17 0 0 4) 82 18 0 0 4) 83 19 0 0 6) 84 20 0 0 6) 85 21 0 0 12) 79 8)) s.2.2 := lf_fq_up fr29 rfl (fun h => absurd h (by decide))
  exact hQ (lf_up (lf_up (lf_up (lf_cp (lf_cp (lf_cp (lf_cp (lf_cp (lf_cp s.1 80 16 0 0 4) 81 17 0 0 4) 82 18 0 0 4) 83 19 0 0 6) 84 20 0 0 6) 85 21 0 0 12) 15 6 ((lf_cp (lf_cp (lf_cp (lf_cp (lf_cp (lf_cp s.1 80 16 0 0 4) 81 17 0 0 4) 82 18 0 0 4) 83 19 0 0 6) 84 20 0 0 6) 85 21 0 0 12) 79 6)) 15 7 ((lf_cp (lf_cp (lf_cp (lf_cp (lf_cp (lf_cp s.1 80 16 0 0 4) 81 17 0 0 4) 82 18 0 0 4) 83 19 0 0 6) 84 20 0 0 6) 85 21 0 0 12) 79 7)) 15 8 ((lf_cp (lf_cp (lf_cp (lf_cp (lf_cp (lf_cp s.1 80 16 0 0 4) 81 17 0 0 4) 82 18 0 0 4) 83 19 0 0 6) 84 20 0 0 6) 85 21 0 0 12) 79 8), s.2.1, s.2.2) hI37 fr38
-- fm_175b Steps.likeOther 22 86
theorem sm_175b {Q : lf_Z → Prop} {s : lf_Z} (hI : iv_A s.1 s.2.2) (hQ : ∀  (s' : lf_Z), iv_A s'.1 s'.2.2 → lf_fq [22, 23, 24] 1000000 true s.1 s.2.2 s'.1 s'.2.2 → Q  s') : fm_175b Q s := by
  unfold fm_175b
  have hI1 : iv_A (lf_cp s.1 87 23 0 0 1170) s.2.2 := iv_cp87_23 hI
  have fr2 : lf_fq [22, 23, 24] 1000000 true s.1 s.2.2 (lf_cp s.1 87 23 0 0 1170) s.2.2 := lf_fq_cp (lf_fq_rf) rfl (by decide)
  have hI3 : iv_A (lf_cp (lf_cp s.1 87 23 0 0 1170) 88 24 0 0 30) s.2.2 := iv_cp88_24 hI1
  have fr4 : lf_fq [22, 23, 24] 1000000 true s.1 s.2.2 (lf_cp (lf_cp s.1 87 23 0 0 1170) 88 24 0 0 30) s.2.2 := lf_fq_cp fr2 rfl (by decide)
  have b5 : 0 ≤ (lf_cp (lf_cp s.1 87 23 0 0 1170) 88 24 0 0 30) 86 2 ∧ (lf_cp (lf_cp s.1 87 23 0 0 1170) 88 24 0 0 30) 86 2 ≤ 29 := iv_r86_2 hI3
  have b6 : (lf_cp (lf_cp s.1 87 23 0 0 1170) 88 24 0 0 30) 86 2 = (lf_cp s.1 87 23 0 0 1170) 86 2 := lf_cp_c (by omega)
  have b7 : (lf_cp s.1 87 23 0 0 1170) 86 2 = s.1 86 2 := lf_cp_c (by omega)
  have hI8 : iv_A (lf_up (lf_cp (lf_cp s.1 87 23 0 0 1170) 88 24 0 0 30) 22 2 ((lf_cp (lf_cp s.1 87 23 0 0 1170) 88 24 0 0 30) 86 2)) s.2.2 := iv_w22_2 hI3 (by omega)
  have fr9 : lf_fq [22, 23, 24] 1000000 true s.1 s.2.2 (lf_up (lf_cp (lf_cp s.1 87 23 0 0 1170) 88 24 0 0 30) 22 2 ((lf_cp (lf_cp s.1 87 23 0 0 1170) 88 24 0 0 30) 86 2)) s.2.2 := lf_fq_up fr4 rfl (fun h => absurd h (by decide))
  have b10 : 0 ≤ (lf_cp (lf_cp s.1 87 23 0 0 1170) 88 24 0 0 30) 86 3 ∧ (lf_cp (lf_cp s.1 87 23 0 0 1170) 88 24 0 0 30) 86 3 ≤ 30 := (show 0 ≤ (lf_up (lf_cp (lf_cp s.1 87 23 0 0 1170) 88 24 0 0 30) 22 2 ((lf_cp (lf_cp s.1 87 23 0 0 1170) 88 24 0 0 30) 86 2)) 86 3 ∧ (lf_up (lf_cp (lf_cp s.1 87 23 0 0 1170) 88 24 0 0 30) 22 2 ((lf_cp (lf_cp s.1 87 23 0 0 1170) 88 24 0 0 30) 86 2)) 86 3 ≤ 30 from iv_r86_3 hI8)
  have b11 : (lf_cp (lf_cp s.1 87 23 0 0 1170) 88 24 0 0 30) 86 3 = (lf_cp s.1 87 23 0 0 1170) 86 3 := lf_cp_c (by omega)
  have b12 : (lf_cp s.1 87 23 0 0 1170) 86 3 = s.1 86 3 := lf_cp_c (by omega)
  have hI13 : iv_A (lf_up (lf_up (lf_cp (lf_cp s.1 87 23 0 0 1170) 88 24 0 0 30) 22 2 ((lf_cp (lf_cp s.1 87 23 0 0 1170) 88 24 0 0 30) 86 2)) 22 3 ((lf_cp (lf_cp s.1 87 23 0 0 1170) 88 24 0 0 30) 86 3)) s.2.2 := iv_w22_3 hI8 (by omega)
  have fr14 : lf_fq [22, 23, 24] 1000000 true s.1 s.2.2 (lf_up (lf_up (lf_cp (lf_cp s.1 87 23 0 0 1170) 88 24 0 0 30) 22 2 ((lf_cp (lf_cp s.1 87 23 0 0 1170) 88 24 0 0 30) 86 2)) 22 3 ((lf_cp (lf_cp s.1 87 23 0 0 1170) 88 24 0 0 30) 86 3)) s.2.2 := lf_fq_up fr9 rfl (fun h => absurd h (by decide))
  exact hQ (lf_up (lf_up (lf_cp (lf_cp s.1 87 23 0 0 1170) 88 24 0 0 30) 22 2 ((lf_cp (lf_cp s.1 87 23 0 0 1170) 88 24 0 0 30) 86 2)) 22 3 ((lf_cp (lf_cp s.1 87 23 0 0 1170) 88 24 0 0 30) 86 3), s.2.1, s.2.2) hI13 fr14
-- fm_176b Notes.likeOther 25 89
theorem sm_176b {Q : lf_Z → Prop} {s : lf_Z} (hI : iv_A s.1 s.2.2) (hQ : ∀  (s' : lf_Z), iv_A s'.1 s'.2.2 → lf_fq [25, 26, 27, 28, 29, 30] 1000000 true s.1 s.2.2 s'.1 s'.2.2 → Q  s') : fm_176b Q s := by
  unfold fm_176b
  have hI1 : iv_A (lf_cp s.1 90 26 0 0 6) s.2.2 := iv_cp90_26 hI
  have fr2 : lf_fq [25, 26, 27, 28, 29, 30] 1000000 true s.1 s.2.2 (lf_cp s.1 90 26 0 0 6) s.2.2 := lf_fq_cp (lf_fq_rf) rfl (by decide)
  have hI3 : iv_A (lf_cp (lf_cp s.1 90 26 0 0 6) 91 27 0 0 6) s.2.2 := iv_cp91_27 hI1
  have fr4 : lf_fq [25, 26, 27, 28, 29, 30] 1000000 true s.1 s.2.2 (lf_cp (lf_cp s.1 90 26 0 0 6) 91 27 0 0 6) s.2.2 := lf_fq_cp fr2 rfl (by decide)
  have hI5 : iv_A (lf_cp (lf_cp (lf_cp s.1 90 26 0 0 6) 91 27 0 0 6) 92 28 0 0 16) s.2.2 := iv_cp92_28 hI3
  have fr6 : lf_fq [25, 26, 27, 28, 29, 30] 1000000 true s.1 s.2.2 (lf_cp (lf_cp (lf_cp s.1 90 26 0 0 6) 91 27 0 0 6) 92 28 0 0 16) s.2.2 := lf_fq_cp fr4 rfl (by decide)
  have hI7 : iv_A (lf_cp (lf_cp (lf_cp (lf_cp s.1 90 26 0 0 6) 91 27 0 0 6) 92 28 0 0 16) 93 29 0 0 4) s.2.2 := iv_cp93_29 hI5
  have fr8 : lf_fq [25, 26, 27, 28, 29, 30] 1000000 true s.1 s.2.2 (lf_cp (lf_cp (lf_cp (lf_cp s.1 90 26 0 0 6) 91 27 0 0 6) 92 28 0 0 16) 93 29 0 0 4) s.2.2 := lf_fq_cp fr6 rfl (by decide)
  have hI9 : iv_A (lf_cp (lf_cp (lf_cp (lf_cp (lf_cp s.1 90 26 0 0 6) 91 27 0 0 6) 92 28 0 0 16) 93 29 0 0 4) 94 30 0 0 4) s.2.2 := iv_cp94_30 hI7
  have fr10 : lf_fq [25, 26, 27, 28, 29, 30] 1000000 true s.1 s.2.2 (lf_cp (lf_cp (lf_cp (lf_cp (lf_cp s.1 90 26 0 0 6) 91 27 0 0 6) 92 28 0 0 16) 93 29 0 0 4) 94 30 0 0 4) s.2.2 := lf_fq_cp fr8 rfl (by decide)
  have b11 : 0 ≤ (lf_cp (lf_cp (lf_cp (lf_cp (lf_cp s.1 90 26 0 0 6) 91 27 0 0 6) 92 28 0 0 16) 93 29 0 0 4) 94 30 0 0 4) 89 2 ∧ (lf_cp (lf_cp (lf_cp (lf_cp (lf_cp s.1 90 26 0 0 6) 91 27 0 0 6) 92 28 0 0 16) 93 29 0 0 4) 94 30 0 0 4) 89 2 ≤ 6 := iv_r89_2 hI9
  have b12 : (lf_cp (lf_cp (lf_cp (lf_cp (lf_cp s.1 90 26 0 0 6) 91 27 0 0 6) 92 28 0 0 16) 93 29 0 0 4) 94 30 0 0 4) 89 2 = (lf_cp (lf_cp (lf_cp (lf_cp s.1 90 26 0 0 6) 91 27 0 0 6) 92 28 0 0 16) 93 29 0 0 4) 89 2 := lf_cp_c (by omega)
  have b13 : (lf_cp (lf_cp (lf_cp (lf_cp s.1 90 26 0 0 6) 91 27 0 0 6) 92 28 0 0 16) 93 29 0 0 4) 89 2 = (lf_cp (lf_cp (lf_cp s.1 90 26 0 0 6) 91 27 0 0 6) 92 28 0 0 16) 89 2 := lf_cp_c (by omega)
  have b14 : (lf_cp (lf_cp (lf_cp s.1 90 26 0 0 6) 91 27 0 0 6) 92 28 0 0 16) 89 2 = (lf_cp (lf_cp s.1 90 26 0 0 6) 91 27 0 0 6) 89 2 := lf_cp_c (by omega)
  have b15 : (lf_cp (lf_cp s.1 90 26 0 0 6) 91 27 0 0 6) 89 2 = (lf_cp s.1 90 26 0 0 6) 89 2 := lf_cp_c (by omega)
  have b16 : (lf_cp s.1 90 26 0 0 6) 89 2 = s.1 89 2 := lf_cp_c (by omega)
  have hI17 : iv_A (lf_up (lf_cp (lf_cp (lf_cp (lf_cp (lf_cp s.1 90 26 0 0 6) 91 27 0 0 6) 92 28 0 0 16) 93 29 0 0 4) 94 30 0 0 4) 25 2 ((lf_cp (lf_cp (lf_cp (lf_cp (lf_cp s.1 90 26 0 0 6) 91 27 0 0 6) 92 28 0 0 16) 93 29 0 0 4) 94 30 0 0 4) 89 2)) s.2.2 := iv_w25_2 hI9 (by omega)
  have fr18 : lf_fq [25, 26, 27, 28, 29, 30] 1000000 true s.1 s.2.2 (lf_up (lf_cp (lf_cp (lf_cp (lf_cp (lf_cp s.1 90 26 0 0 6) 91 27 0 0 6) 92 28 0 0 16) 93 29 0 0 4) 94 30 0 0 4) 25 2 ((lf_cp (lf_cp (lf_cp (lf_cp (lf_cp s.1 90 26 0 0 6) 91 27 0 0 6) 92 28 0 0 16) 93 29 0 0 4) 94 30 0 0 4) 89 2)) s.2.2 := lf_fq_up fr10 rfl (fun h => absurd h (by decide))
  exact hQ (lf_up (lf_cp (lf_cp (lf_cp (lf_cp (lf_cp s.1 90 26 0 0 6) 91 27 0 0 6) 92 28 0 0 16) 93 29 0 0 4) 94 30 0 0 4) 25 2 ((lf_cp (lf_cp (lf_cp (lf_cp (lf_cp s.1 90 26 0 0 6) 91 27 0 0 6) 92 28 0 0 16) 93 29 0 0 4) 94 30 0 0 4) 89 2), s.2.1, s.2.2) hI17 fr18
-- fm_177 ElevenBullocks.back 0
theorem sm_177 {Q : Int → lf_Z → Prop} {s : lf_Z} (hI : iv_A s.1 s.2.2) (hQ : ∀ (r : Int) (s' : lf_Z), iv_A s'.1 s'.2.2 → lf_fq [0, 1, 11, 12, 13, 15, 16, 17, 18, 19, 20, 21, 22, 23, 24, 25, 26, 27, 28, 29, 30] 1000000 false s.1 s.2.2 s'.1 s'.2.2 → ((-2147483648) ≤ r ∧ r ≤ 2147483647) → Q r s') : fm_177 Q s := by
  unfold fm_177
  have b1 : 0 ≤ s.1 78 0 ∧ s.1 78 0 ≤ 12 := iv_r78_0 hI
  have b2 : 0 ≤ s.1 78 1 ∧ s.1 78 1 ≤ 16 := iv_r78_1 hI
  have b3 : 0 ≤ s.1 78 2 ∧ s.1 78 2 ≤ 6 := iv_r78_2 hI
  refine sm_178 hI (show (0 : Int) ≤ s.1 78 0 ∧ s.1 78 0 ≤ (12 : Int) from by omega) (show (0 : Int) ≤ s.1 78 1 ∧ s.1 78 1 ≤ (16 : Int) from by omega) (show (0 : Int) ≤ s.1 78 2 ∧ s.1 78 2 ≤ (6 : Int) from by omega) (fun s21 hI5 fr4 => ?_)
  have fr7 : lf_fq [0, 1, 11, 12, 13, 15, 16, 17, 18, 19, 20, 21, 22, 23, 24, 25, 26, 27, 28, 29, 30] 1000000 false s.1 s.2.2 s21.1 s21.2.2 := lf_fq_tr (lf_fq_rf) (lf_fq_wk fr4 rfl (by decide) (by decide))
  have b8 : 0 ≤ s21.1 78 3 ∧ s21.1 78 3 ≤ 4 := iv_r78_3 hI5
  have b9 : s21.1 78 3 = s.1 78 3 := congrFun (fr4.1 78 rfl) _
  have hI10 : iv_A (lf_up s21.1 0 11 (s21.1 78 3)) s21.2.2 := iv_w0_11 hI5 (by omega)
  have fr11 : lf_fq [0, 1, 11, 12, 13, 15, 16, 17, 18, 19, 20, 21, 22, 23, 24, 25, 26, 27, 28, 29, 30] 1000000 false s.1 s.2.2 (lf_up s21.1 0 11 (s21.1 78 3)) s21.2.2 := lf_fq_up fr7 rfl (fun h => absurd h (by decide))
  have b12 : (-1) ≤ s21.1 78 4 ∧ s21.1 78 4 ≤ 3 := (show (-1) ≤ (lf_up s21.1 0 11 (s21.1 78 3)) 78 4 ∧ (lf_up s21.1 0 11 (s21.1 78 3)) 78 4 ≤ 3 from iv_r78_4 hI10)
  have b13 : s21.1 78 4 = s.1 78 4 := congrFun (fr4.1 78 rfl) _
  refine sm_61 hI10 (show (-1 : Int) ≤ s21.1 78 4 ∧ s21.1 78 4 ≤ (3 : Int) from by omega) (fun s22 hI15 fr14 => ?_)
  have fr17 : lf_fq [0, 1, 11, 12, 13, 15, 16, 17, 18, 19, 20, 21, 22, 23, 24, 25, 26, 27, 28, 29, 30] 1000000 false s.1 s.2.2 s22.1 s22.2.2 := lf_fq_tr fr11 (lf_fq_wk fr14 rfl (by decide) (by decide))
  refine sm_174b hI15 (fun s23 hI19 fr18 => ?_)
  have fr21 : lf_fq [0, 1, 11, 12, 13, 15, 16, 17, 18, 19, 20, 21, 22, 23, 24, 25, 26, 27, 28, 29, 30] 1000000 false s.1 s.2.2 s23.1 s23.2.2 := lf_fq_tr fr17 (lf_fq_wk fr18 rfl (by decide) (by decide))
  refine sm_175b hI19 (fun s24 hI23 fr22 => ?_)
  have fr25 : lf_fq [0, 1, 11, 12, 13, 15, 16, 17, 18, 19, 20, 21, 22, 23, 24, 25, 26, 27, 28, 29, 30] 1000000 false s.1 s.2.2 s24.1 s24.2.2 := lf_fq_tr fr21 (lf_fq_wk fr22 rfl (by decide) (by decide))
  refine sm_176b hI23 (fun s25 hI27 fr26 => ?_)
  have fr29 : lf_fq [0, 1, 11, 12, 13, 15, 16, 17, 18, 19, 20, 21, 22, 23, 24, 25, 26, 27, 28, 29, 30] 1000000 false s.1 s.2.2 s25.1 s25.2.2 := lf_fq_tr fr25 (lf_fq_wk fr26 rfl (by decide) (by decide))
  have b30 : (-2147483648) ≤ s25.1 15 7 ∧ s25.1 15 7 ≤ 2147483647 := iv_full hI27
  have b31 : s25.1 15 7 = s24.1 15 7 := congrFun (fr26.1 15 rfl) _
  have b32 : s24.1 15 7 = s23.1 15 7 := congrFun (fr22.1 15 rfl) _
  exact hQ (s25.1 15 7) s25 hI27 fr29 (show (-2147483648 : Int) ≤ s25.1 15 7 ∧ s25.1 15 7 ≤ (2147483647 : Int) from by omega)
-- fm_181b Model.copy 97 96
theorem sm_181b {Q : lf_Z → Prop} {s : lf_Z} (hI : iv_A s.1 s.2.2) (hQ : ∀  (s' : lf_Z), iv_A s'.1 s'.2.2 → lf_fq [96, 1000, 1001, 1002, 1003, 1004, 1005, 1006] 0 true s.1 s.2.2 s'.1 s'.2.2 → Q  s') : fm_181b Q s := by
  unfold fm_181b fm_181b_p2L
  intro X hX
  have key : ∀ (m : Nat) (x2 : Int) (s' : lf_Z), 0 ≤ x2 → x2 ≤ 1538 → (1538 - x2).toNat < m → s'.2 = s.2 → (∀ a, a ≠ 96 → s'.1 a = s.1 a) → (∀ j : Int, 0 ≤ j → j < x2 → s'.1 96 j = s.1 97 j) → (∀ j : Int, ¬ (0 ≤ j ∧ j < x2) → s'.1 96 j = s.1 96 j) → X x2 s' := by
    intro m
    induction m with
    | zero => intros; omega
    | succ m ih =>
      intro x2 s' h0 h1 hm hs hr hd ho
      refine hX _ _ ?_
      unfold fm_181b_p2
      refine ⟨lf_Rof (by omega), fun c => ?_, fun c => ⟨by omega, ?_⟩⟩
      · have e : x2 = 1538 := by omega
        subst e
        refine hQ s' ?_ ⟨fun a ha => hr a (fun e => by subst e; cases ha), fun i hi => ?_, fun _ => by rw [hs], fun r hr9 i hi => absurd hi (fr_o (Or.inl rfl) (Or.inl rfl) (Or.inl rfl) (Or.inl rfl) (Or.inl rfl) (Or.inl rfl) (Or.inl rfl) r hr9)⟩
        · rw [show s'.2.2 = s.2.2 from by rw [hs]]
          exact iv_copyAll (c := 97) (d := 96) (Or.inr ⟨rfl, rfl⟩) hI hr (fun j a b => hd j a b) ho
        · exact ho i (by omega)
      · refine ih (x2 + 1) _ (by omega) (by omega) (by omega) hs ?_ ?_ ?_
        · intro a ha
          show lf_up s'.1 96 x2 (s'.1 97 x2) a = _
          rw [lf_up_row ha]
          exact hr a ha
        · intro j j0 j1
          show lf_up s'.1 96 x2 (s'.1 97 x2) 96 j = _
          by_cases hj : j = x2
          · subst hj
            rw [lf_up_s, hr 97 (by decide)]
          · rw [lf_up_i hj]
            exact hd j j0 (by omega)
        · intro j hj
          show lf_up s'.1 96 x2 (s'.1 97 x2) 96 j = _
          rw [lf_up_i (by omega)]
          exact ho j (by omega)
  exact key _ 0 s (by omega) (by omega) (Nat.lt_succ_self _) rfl (fun _ _ => rfl) (fun j a b => by omega) (fun _ _ => rfl)
-- fm_326 Model.back 95
theorem sm_326 {Q : Int → lf_Z → Prop} {s : lf_Z} (hI : iv_A s.1 s.2.2) (hQ : ∀ (r : Int) (s' : lf_Z), iv_A s'.1 s'.2.2 → lf_fq [96, 1000, 1001, 1002, 1003, 1004, 1005, 1006] 0 true s.1 s.2.2 s'.1 s'.2.2 → ((-2147483648) ≤ r ∧ r ≤ 2147483647) → Q r s') : fm_326 Q s := by
  unfold fm_326
  refine sm_181b hI (fun s21 hI2 fr1 => ?_)
  have fr4 : lf_fq [96, 1000, 1001, 1002, 1003, 1004, 1005, 1006] 0 true s.1 s.2.2 s21.1 s21.2.2 := lf_fq_tr (lf_fq_rf) (lf_fq_wk fr1 rfl (by decide) (by decide))
  have b5 : (-2147483648) ≤ s21.1 96 3 ∧ s21.1 96 3 ≤ 2147483647 := iv_full hI2
  exact hQ (s21.1 96 3) s21 hI2 fr4 (show (-2147483648 : Int) ≤ s21.1 96 3 ∧ s21.1 96 3 ≤ (2147483647 : Int) from by omega)
-- fm_179 ElevenBullocks.about 0 i
theorem sm_179 {a1 : Int} {Q : Int → lf_Z → Prop} {s : lf_Z} (hI : iv_A s.1 s.2.2) (ba1 : (-2147483648) ≤ a1 ∧ a1 ≤ 2147483647) (hQ : ∀ (r : Int), ((-2147483648) ≤ r ∧ r ≤ 2147483647) → Q r s) : fm_179 a1 Q s := by
  unfold fm_179
  refine ⟨(show lf_R a1 from lf_Rof (by omega)), ?_⟩
  refine ⟨fun c1 => ?_, fun c1 => ?_, fun c1 => ?_, fun c1 => ?_, fun c1 => ?_, fun c1 => ?_, fun c1 => ?_, fun c1 => ?_, fun c1 => ?_, fun c1 => ?_, fun c1 => ?_, fun c1 => ?_, fun c1 => ?_, fun c1 => ?_⟩
  · replace c1 : a1 < 0 ∨ 12 < a1 := c1
    exact hQ (-2) (show (-2147483648 : Int) ≤ (-2) ∧ (-2) ≤ (2147483647 : Int) from by omega)
  · replace c1 : a1 = 0 := c1
    have b2 : 0 ≤ s.1 1 0 ∧ s.1 1 0 ≤ 12 := iv_r1_0 hI
    exact hQ (s.1 1 0) (show (-2147483648 : Int) ≤ s.1 1 0 ∧ s.1 1 0 ≤ (2147483647 : Int) from by omega)
  · replace c1 : a1 = 1 := c1
    have b3 : 0 ≤ s.1 1 1 ∧ s.1 1 1 ≤ 16 := iv_r1_1 hI
    exact hQ (s.1 1 1) (show (-2147483648 : Int) ≤ s.1 1 1 ∧ s.1 1 1 ≤ (2147483647 : Int) from by omega)
  · replace c1 : a1 = 2 := c1
    have b4 : 0 ≤ s.1 1 2 ∧ s.1 1 2 ≤ 6 := iv_r1_2 hI
    exact hQ (s.1 1 2) (show (-2147483648 : Int) ≤ s.1 1 2 ∧ s.1 1 2 ≤ (2147483647 : Int) from by omega)
  · replace c1 : a1 = 3 := c1
    have b5 : (-2147483648) ≤ s.1 15 7 ∧ s.1 15 7 ≤ 2147483647 := iv_full hI
    exact hQ (s.1 15 7) (show (-2147483648 : Int) ≤ s.1 15 7 ∧ s.1 15 7 ≤ (2147483647 : Int) from by omega)
  · replace c1 : a1 = 4 := c1
    refine sm_64 hI (fun r23 q6 => ?_)
    exact hQ r23 (show (-2147483648 : Int) ≤ r23 ∧ r23 ≤ (2147483647 : Int) from by omega)
  · replace c1 : a1 = 5 := c1
    refine sm_97 hI (fun r25 q7 => ?_)
    exact hQ r25 (show (-2147483648 : Int) ≤ r25 ∧ r25 ≤ (2147483647 : Int) from by omega)
  · replace c1 : a1 = 6 := c1
    have b8 : (-2147483648) ≤ s.1 15 8 ∧ s.1 15 8 ≤ 2147483647 := iv_full hI
    exact hQ (s.1 15 8) (show (-2147483648 : Int) ≤ s.1 15 8 ∧ s.1 15 8 ≤ (2147483647 : Int) from by omega)
  · replace c1 : a1 = 7 := c1
    have b9 : 0 ≤ s.1 0 11 ∧ s.1 0 11 ≤ 4 := iv_r0_11 hI
    exact hQ (s.1 0 11) (show (-2147483648 : Int) ≤ s.1 0 11 ∧ s.1 0 11 ≤ (2147483647 : Int) from by omega)
  · replace c1 : a1 = 8 := c1
    have b10 : (-1) ≤ s.1 0 12 ∧ s.1 0 12 ≤ 3 := iv_r0_12 hI
    exact hQ (s.1 0 12) (show (-2147483648 : Int) ≤ s.1 0 12 ∧ s.1 0 12 ≤ (2147483647 : Int) from by omega)
  · replace c1 : a1 = 9 := c1
    have b11 : 0 ≤ s.1 22 3 ∧ s.1 22 3 ≤ 30 := iv_r22_3 hI
    exact hQ (s.1 22 3) (show (-2147483648 : Int) ≤ s.1 22 3 ∧ s.1 22 3 ≤ (2147483647 : Int) from by omega)
  · replace c1 : a1 = 10 := c1
    have b12 : 0 ≤ s.1 25 2 ∧ s.1 25 2 ≤ 6 := iv_r25_2 hI
    exact hQ (s.1 25 2) (show (-2147483648 : Int) ≤ s.1 25 2 ∧ s.1 25 2 ≤ (2147483647 : Int) from by omega)
  · replace c1 : a1 = 11 := c1
    refine sm_168 hI (fun r27 q13 => ?_)
    exact hQ r27 (show (-2147483648 : Int) ≤ r27 ∧ r27 ≤ (2147483647 : Int) from by omega)
  · replace c1 : a1 = 12 := c1
    have b14 : 0 ≤ s.1 31 1 ∧ s.1 31 1 ≤ 300 := iv_r31_1 hI
    exact hQ (s.1 31 1) (show (-2147483648 : Int) ≤ s.1 31 1 ∧ s.1 31 1 ≤ (2147483647 : Int) from by omega)
-- fm_327 Model.about 95 i
theorem sm_327 {a1 : Int} {Q : Int → lf_Z → Prop} {s : lf_Z} (hI : iv_A s.1 s.2.2) (ba1 : (-2147483648) ≤ a1 ∧ a1 ≤ 2147483647) (hQ : ∀ (r : Int), ((-2147483648) ≤ r ∧ r ≤ 2147483647) → Q r s) : fm_327 a1 Q s := by
  unfold fm_327
  refine ⟨(show lf_R a1 from lf_Rof (by omega)), ?_⟩
  refine ⟨fun c1 => ?_, fun c1 => ?_⟩
  · skip
    replace c1 : a1 ≠ 4 := c1
    refine ⟨fun c2 => ?_, fun c2 => ?_⟩
    · skip
      replace c2 : a1 ≠ 5 := c2
      refine sm_183 hI (show (-2147483648 : Int) ≤ a1 ∧ a1 ≤ (2147483647 : Int) from by omega) (show (-1 : Int) ≤ 0 ∧ 0 ≤ (97 : Int) from by omega) (show (-1 : Int) ≤ 11 ∧ 11 ≤ (9999 : Int) from by omega) (fun z23 q3 => ?_)
      refine ⟨fun c4 => ?_, fun c4 => ?_⟩
      · skip
        have dc4 := q3.2 c4
        refine ⟨fun c5 => ?_, fun c5 => ?_⟩
        · skip
          replace c5 : a1 ≠ 12 := c5
          exact hQ (-2) (show (-2147483648 : Int) ≤ (-2) ∧ (-2) ≤ (2147483647 : Int) from by omega)
        · skip
          replace c5 : ¬ (a1 ≠ 12) := c5
          have b6 : 0 ≤ s.1 95 4 ∧ s.1 95 4 ≤ 300 := iv_r95_4 hI
          exact hQ (s.1 95 4) (show (-2147483648 : Int) ≤ s.1 95 4 ∧ s.1 95 4 ≤ (2147483647 : Int) from by omega)
      · skip
        have dc4 := q3.1 c4
        refine ⟨(show (0 : Int) ≤ a1 ∧ a1 < (1538 : Int) from by omega), ?_⟩
        have b7 : (-2147483648) ≤ s.1 96 a1 ∧ s.1 96 a1 ≤ 2147483647 := iv_full hI
        exact hQ (s.1 96 a1) (show (-2147483648 : Int) ≤ s.1 96 a1 ∧ s.1 96 a1 ≤ (2147483647 : Int) from by omega)
    · skip
      replace c2 : ¬ (a1 ≠ 5) := c2
      refine sm_279 hI (fun r26 q8 => ?_)
      exact hQ r26 (show (-2147483648 : Int) ≤ r26 ∧ r26 ≤ (2147483647 : Int) from by omega)
  · skip
    replace c1 : ¬ (a1 ≠ 4) := c1
    refine sm_243 hI (fun r28 ps10 q9 => ?_)
    replace ps10 : r28 = (s.1 96 114) + (s.1 96 117) + (s.1 96 120) + (s.1 96 123) := ps10
    exact hQ r28 (show (-2147483648 : Int) ≤ r28 ∧ r28 ≤ (2147483647 : Int) from by omega)
/-! tries: the class's counts are counts over the reference's rows -/
section TR
variable {t u f t' u' f' : Int → Int}
def tr_T (t u f : Int → Int) : Prop := 0 ≤ f 11 ∧ f 11 ≤ 12 ∧ (∀ j : Int, 0 ≤ j → j < f 11 → 0 ≤ f (254 + 2 * j) ∧ f (254 + 2 * j) ≤ 3) ∧ ∀ h : Int, 0 ≤ h → h < 4 → t h = lf_tm f h 0 (f 11) ∧ u h = lf_tm f h 1 (f 11)
def tr_A (I : Nat → Int → Int) : Prop := tr_T (I 29) (I 30) (I 96) ∧ tr_T (I 93) (I 94) (I 97)
theorem tr_tn {h b : Int} : ∀ n : Nat, (∀ j : Int, 254 ≤ j → j < 254 + 2 * (n : Int) → f' j = f j) → lf_tm f' h b (n : Int) = lf_tm f h b (n : Int) := by
  intro n
  induction n with
  | zero => intro _; rfl
  | succ n ih =>
    intro hj
    have e : ((n + 1 : Nat) : Int) = (n : Int) + 1 := by omega
    rw [e] at hj ⊢
    rw [lf_tmN (by omega), lf_tmN (by omega), ih (fun j a b => hj j a (by omega)), hj (254 + 2 * (n : Int)) (by omega) (by omega), hj (254 + 2 * (n : Int) + 1) (by omega) (by omega)]
theorem tr_tc {h b k : Int} (hk : 0 ≤ k) (hj : ∀ j : Int, 254 ≤ j → j < 254 + 2 * k → f' j = f j) : lf_tm f' h b k = lf_tm f h b k := by
  obtain ⟨n, rfl⟩ := Int.eq_ofNat_of_zero_le hk
  exact tr_tn n hj
theorem tr_b0 {h b : Int} : ∀ n : Nat, 0 ≤ lf_tm f h b (n : Int) ∧ lf_tm f h b (n : Int) ≤ (n : Int) := by
  intro n
  induction n with
  | zero => exact ⟨Int.le_refl _, Int.le_refl _⟩
  | succ n ih =>
    have e : ((n + 1 : Nat) : Int) = (n : Int) + 1 := by omega
    rw [e, lf_tmN (by omega)]
    by_cases hc : f (254 + 2 * (n : Int)) = h ∧ (b = 0 ∨ f (254 + 2 * (n : Int) + 1) = 1)
    · rw [if_pos hc]; omega
    · rw [if_neg hc]; omega
theorem tr_b {h b k : Int} (hk : 0 ≤ k) : 0 ≤ lf_tm f h b k ∧ lf_tm f h b k ≤ k := by
  obtain ⟨n, rfl⟩ := Int.eq_ofNat_of_zero_le hk
  exact tr_b0 n
theorem tr_01 {h : Int} : ∀ n : Nat, lf_tm f h 1 (n : Int) ≤ lf_tm f h 0 (n : Int) := by
  intro n
  induction n with
  | zero => exact Int.le_refl _
  | succ n ih =>
    have e : ((n + 1 : Nat) : Int) = (n : Int) + 1 := by omega
    rw [e, lf_tmN (by omega), lf_tmN (by omega)]
    by_cases hc : f (254 + 2 * (n : Int)) = h
    · rw [if_pos (show f (254 + 2 * (n : Int)) = h ∧ ((0 : Int) = 0 ∨ f (254 + 2 * (n : Int) + 1) = 1) from ⟨hc, Or.inl rfl⟩)]
      by_cases hd : f (254 + 2 * (n : Int)) = h ∧ ((1 : Int) = 0 ∨ f (254 + 2 * (n : Int) + 1) = 1)
      · rw [if_pos hd]; omega
      · rw [if_neg hd]; omega
    · rw [if_neg (fun c => hc c.1), if_neg (fun c => hc c.1)]; omega
theorem tr_le {h k : Int} (hk : 0 ≤ k) : lf_tm f h 1 k ≤ lf_tm f h 0 k := by
  obtain ⟨n, rfl⟩ := Int.eq_ofNat_of_zero_le hk
  exact tr_01 n
theorem tr_sumn : ∀ n : Nat, (∀ j : Int, 0 ≤ j → j < (n : Int) → 0 ≤ f (254 + 2 * j) ∧ f (254 + 2 * j) ≤ 3) → lf_tm f 0 0 (n : Int) + lf_tm f 1 0 (n : Int) + lf_tm f 2 0 (n : Int) + lf_tm f 3 0 (n : Int) = (n : Int) := by
  intro n
  induction n with
  | zero => intro _; rfl
  | succ n ih =>
    intro hj
    have e : ((n + 1 : Nat) : Int) = (n : Int) + 1 := by omega
    rw [e] at hj ⊢
    have h1 := ih (fun j a b => hj j a (by omega))
    have h2 := hj (n : Int) (by omega) (by omega)
    rw [lf_tmN (by omega), lf_tmN (by omega), lf_tmN (by omega), lf_tmN (by omega)]
    have pos : ∀ {h : Int}, f (254 + 2 * (n : Int)) = h → (if f (254 + 2 * (n : Int)) = h ∧ ((0 : Int) = 0 ∨ f (254 + 2 * (n : Int) + 1) = 1) then (1 : Int) else 0) = 1 := fun hc => if_pos ⟨hc, Or.inl rfl⟩
    have neg : ∀ {h : Int}, f (254 + 2 * (n : Int)) ≠ h → (if f (254 + 2 * (n : Int)) = h ∧ ((0 : Int) = 0 ∨ f (254 + 2 * (n : Int) + 1) = 1) then (1 : Int) else 0) = 0 := fun hc => if_neg (fun c => hc c.1)
    rcases (show f (254 + 2 * (n : Int)) = 0 ∨ f (254 + 2 * (n : Int)) = 1 ∨ f (254 + 2 * (n : Int)) = 2 ∨ f (254 + 2 * (n : Int)) = 3 by omega) with hv | hv | hv | hv
    · rw [pos hv, neg (by omega), neg (by omega), neg (by omega)]; omega
    · rw [pos hv, neg (by omega), neg (by omega), neg (by omega)]; omega
    · rw [pos hv, neg (by omega), neg (by omega), neg (by omega)]; omega
    · rw [pos hv, neg (by omega), neg (by omega), neg (by omega)]; omega
theorem tr_sum {k : Int} (hk : 0 ≤ k) (hj : ∀ j : Int, 0 ≤ j → j < k → 0 ≤ f (254 + 2 * j) ∧ f (254 + 2 * j) ≤ 3) : lf_tm f 0 0 k + lf_tm f 1 0 k + lf_tm f 2 0 k + lf_tm f 3 0 k = k := by
  obtain ⟨n, rfl⟩ := Int.eq_ofNat_of_zero_le hk
  exact tr_sumn n hj
theorem tr_w {a : Int} (h : -2147483648 ≤ a ∧ a ≤ 2147483647) : lf_w a = a := Int32.toInt_ofInt_of_le h.1 (Int.lt_add_one_of_le h.2)
def tr_s4 (t : Int → Int) : Int := lf_w (lf_w (lf_w (lf_w (0 + t 0) + t (0 + 1)) + t (0 + 1 + 1)) + t (0 + 1 + 1 + 1))
theorem tr_S (h : tr_T t u f) : tr_s4 t = f 11 := by
  obtain ⟨h0, h1, h2, h3⟩ := h
  have e := tr_sum h0 h2
  have b := fun q : Int => tr_b (f := f) (h := q) (b := 0) h0
  have b0 := b 0
  have b1 := b 1
  have b2 := b 2
  have b3 := b 3
  show lf_w (lf_w (lf_w (lf_w (0 + t 0) + t 1) + t 2) + t 3) = f 11
  rw [(h3 0 (by omega) (by omega)).1, (h3 1 (by omega) (by omega)).1, (h3 2 (by omega) (by omega)).1, (h3 3 (by omega) (by omega)).1]
  rw [tr_w (a := 0 + lf_tm f 0 0 (f 11)) (by omega), tr_w (a := 0 + lf_tm f 0 0 (f 11) + lf_tm f 1 0 (f 11)) (by omega), tr_w (a := 0 + lf_tm f 0 0 (f 11) + lf_tm f 1 0 (f 11) + lf_tm f 2 0 (f 11)) (by omega), tr_w (by omega)]
  omega
/-! what nobody but tried, image and back touches -/
theorem tr_Tc (h : tr_T t u f) (ht : ∀ j : Int, 0 ≤ j → j < 4 → t' j = t j ∧ u' j = u j) (hf : ∀ i : Int, i = 11 ∨ (254 ≤ i ∧ i < 278) → f' i = f i) : tr_T t' u' f' := by
  obtain ⟨h0, h1, h2, h3⟩ := h
  have e := hf 11 (Or.inl rfl)
  unfold tr_T
  rw [e]
  refine ⟨h0, h1, fun j a b => ?_, fun q a b => ?_⟩
  · rw [hf _ (Or.inr ⟨by omega, by omega⟩)]; exact h2 j a b
  · rw [(ht q a b).1, (ht q a b).2, tr_tc (f := f) h0 (fun j c d => hf j (Or.inr ⟨c, by omega⟩)), tr_tc (f := f) h0 (fun j c d => hf j (Or.inr ⟨c, by omega⟩))]
    exact h3 q a b
theorem tr_fq {I I' : Nat → Int → Int} {P P' : Nat → Option Nat} {l : List Nat} {w : Int} {b : Bool} (h : tr_A I) (q : lf_fq l w b I P I' P') (hl : (l.contains 29 || l.contains 30 || l.contains 93 || l.contains 94 || l.contains 97 || l.contains 1000) = false) : tr_A I' := by
  simp only [Bool.or_eq_false_iff] at hl
  obtain ⟨⟨⟨⟨⟨a1, a2⟩, a3⟩, a4⟩, a5⟩, a6⟩ := hl
  refine ⟨tr_Tc h.1 (fun j _ _ => ⟨by rw [q.1 29 a1], by rw [q.1 30 a2]⟩) (fun i hi => q.2.2.2 0 a6 i hi), ?_⟩
  rw [q.1 93 a3, q.1 94 a4, q.1 97 a5]
  exact h.2
/-! tried -/
def tr_C (a b r : Int) (t u t' u' : Int → Int) : Prop := (a = -1 ∧ r = 0 ∧ ∀ h : Int, 0 ≤ h → h < 4 → t' h = 0 ∧ u' h = 0) ∨ (a ≠ -1 ∧ (a < 0 ∨ 3 < a ∨ 12 ≤ tr_s4 t) ∧ r = -2 ∧ t' = t ∧ u' = u) ∨ (0 ≤ a ∧ a ≤ 3 ∧ tr_s4 t < 12 ∧ t' a = lf_w (t a + 1) ∧ u' a = lf_w (u a + (if b = 0 then 0 else 1)) ∧ (∀ j, j ≠ a → t' j = t j ∧ u' j = u j) ∧ r = tr_s4 t')
def tr_M (a b r : Int) (f f' : Int → Int) : Prop := (a = -1 ∧ r = 0 ∧ f' 11 = 0) ∨ (a ≠ -1 ∧ (a < 0 ∨ 3 < a ∨ f 11 = 12) ∧ r = -2 ∧ f' = f) ∨ (0 ≤ a ∧ a ≤ 3 ∧ f 11 ≠ 12 ∧ f' (254 + 2 * f 11) = a ∧ f' (254 + 2 * f 11 + 1) = (if b = 0 then 0 else 1) ∧ f' 11 = f 11 + 1 ∧ (∀ j, j ≠ 11 → j ≠ 254 + 2 * f 11 → j ≠ 254 + 2 * f 11 + 1 → f' j = f j) ∧ r = f 11 + 1)
theorem tr_step {a b r r' : Int} (h : tr_T t u f) (c : tr_C a b r t u t' u') (m : tr_M a b r' f f') : r = r' ∧ tr_T t' u' f' := by
  have hS := tr_S h
  obtain ⟨h0, h1, h2, h3⟩ := h
  rcases c with ⟨ca, cr, ct⟩ | ⟨ca, cb, cr, ct, cu⟩ | ⟨ca, cb, cs, ct, cu, co, cr⟩
  · rcases m with ⟨_, mr, m1⟩ | ⟨ma, _⟩ | ⟨ma, _⟩
    · refine ⟨by omega, by rw [m1]; exact Int.le_refl _, by rw [m1]; decide, fun j a b => by rw [m1] at b; omega, fun q a b => ?_⟩
      rw [m1]
      exact ct q a b
    · exact absurd ca ma
    · omega
  · rcases m with ⟨ma, _⟩ | ⟨_, _, mr, me⟩ | ⟨ma, mb, mc, _⟩
    · exact absurd ma ca
    · subst ct cu me
      exact ⟨by omega, h0, h1, h2, h3⟩
    · rw [hS] at cb
      omega
  · rcases m with ⟨ma, _⟩ | ⟨_, ma, _⟩ | ⟨_, _, mc, m1, m2, m3, mo, mr⟩
    · omega
    · rw [hS] at cs; omega
    · have hT : tr_T t' u' f' := by
        unfold tr_T
        rw [m3]
        refine ⟨by omega, by omega, fun j a b => ?_, fun q q0 q1 => ?_⟩
        · by_cases hj : j = f 11
          · subst hj; rw [m1]; exact ⟨ca, cb⟩
          · rw [mo _ (by omega) (by omega) (by omega)]; exact h2 j a (by omega)
        · rw [lf_tmN h0, lf_tmN h0, m1, m2, tr_tc (f := f) h0 (fun j c d => mo j (by omega) (by omega) (by omega)), tr_tc (f := f) h0 (fun j c d => mo j (by omega) (by omega) (by omega))]
          have k0 := tr_b (f := f) (h := q) (b := 0) h0
          have k1 := tr_b (f := f) (h := q) (b := 1) h0
          have e := h3 q q0 q1
          by_cases hq : q = a
          · subst hq
            rw [ct, cu, e.1, e.2, if_pos (show q = q ∧ ((0 : Int) = 0 ∨ (if b = 0 then (0 : Int) else 1) = 1) from ⟨rfl, Or.inl rfl⟩), tr_w (by omega)]
            refine ⟨rfl, ?_⟩
            by_cases hb : b = 0
            · rw [if_pos hb, if_neg (show ¬ (q = q ∧ ((1 : Int) = 0 ∨ (0 : Int) = 1)) from fun c => by omega), tr_w (by omega)]
            · rw [if_neg hb, if_pos (show q = q ∧ ((1 : Int) = 0 ∨ (1 : Int) = 1) from ⟨rfl, Or.inr rfl⟩), tr_w (by omega)]
          · rw [(co q hq).1, (co q hq).2, if_neg (fun c => hq c.1.symm), if_neg (fun c => hq c.1.symm)]
            exact ⟨by omega, by omega⟩
      refine ⟨?_, hT⟩
      rw [cr, tr_S hT, m3, mr]
/-! tried of the class, and of the reference -/
variable {I : Nat → Int → Int} {s : lf_Z}
theorem tr_65c {Q : Int → lf_Z → Prop} (h : Q (tr_s4 (s.1 29)) s) : fm_65c Q s := by
  unfold fm_65c
  intro X hX
  refine hX _ _ _ ⟨lf_Rof (by omega), lf_Rof (by omega), fun c => absurd c (by omega), fun _ => ⟨by omega, ?_⟩⟩
  refine hX _ _ _ ⟨lf_Rof (by omega), lf_Rof (by omega), fun c => absurd c (by omega), fun _ => ⟨by omega, ?_⟩⟩
  refine hX _ _ _ ⟨lf_Rof (by omega), lf_Rof (by omega), fun c => absurd c (by omega), fun _ => ⟨by omega, ?_⟩⟩
  refine hX _ _ _ ⟨lf_Rof (by omega), lf_Rof (by omega), fun c => absurd c (by omega), fun _ => ⟨by omega, ?_⟩⟩
  exact hX _ _ _ ⟨lf_Rof (by omega), lf_Rof (by omega), fun _ => h, fun c => absurd (by omega) c⟩
theorem tr_s4B : -2147483648 ≤ tr_s4 t ∧ tr_s4 t ≤ 2147483647 := lf_wB
theorem tr_166 {a1 a2 : Int} {Q : Int → lf_Z → Prop} (hI : iv_A s.1 s.2.2) (ba1 : (-2147483648) ≤ a1 ∧ a1 ≤ 2147483647) (ba2 : 0 ≤ a2 ∧ a2 ≤ 1) (hQ : ∀ (r : Int) (s' : lf_Z), iv_A s'.1 s'.2.2 → lf_fq [29, 30] 1000000 true s.1 s.2.2 s'.1 s'.2.2 → tr_C a1 a2 r (s.1 29) (s.1 30) (s'.1 29) (s'.1 30) → ((-2147483648) ≤ r ∧ r ≤ 2147483647) → Q r s') : fm_166 a1 a2 Q s := by
  unfold fm_166
  refine ⟨lf_Rof (by omega), fun c1 => ?_, fun c1 => ?_⟩
  · refine sm_15 hI (by omega) (by omega) (by omega) (fun z q2 => ?_)
    refine ⟨fun c3 => ?_, fun c3 => ?_⟩
    · have dc3 := q2.2 c3
      exact hQ (-2) s hI lf_fq_rf (Or.inr (Or.inl ⟨c1, by omega, rfl, rfl, rfl⟩)) (by omega)
    · have dc3 := q2.1 c3
      refine tr_65c ?_
      have hB := tr_s4B (t := s.1 29)
      refine ⟨lf_Rof (by omega), fun c5 => ?_, fun c5 => ?_⟩
      · have fin : ∀ v : Int, v = (if a2 = 0 then 0 else 1) → fm_166_p70 Q a1 (s.1 30 a1) v (lf_up s.1 29 a1 (lf_w ((s.1 29 a1) + 1)), s.2.1, s.2.2) := by
          intro v hv
          have hv1 : 0 ≤ v ∧ v ≤ 1 := by rw [hv]; split <;> omega
          have hI8 : iv_A (lf_up s.1 29 a1 (lf_w ((s.1 29 a1) + 1))) s.2.2 := iv_w29 hI lf_wB
          have fr9 : lf_fq [29, 30] 1000000 true s.1 s.2.2 (lf_up s.1 29 a1 (lf_w ((s.1 29 a1) + 1))) s.2.2 := lf_fq_up (lf_fq_rf) rfl (fun h => absurd h (by decide))
          have hI9 : iv_A (lf_up (lf_up s.1 29 a1 (lf_w ((s.1 29 a1) + 1))) 30 a1 (lf_w (s.1 30 a1 + v))) s.2.2 := iv_w30 hI8 lf_wB
          have fr10 : lf_fq [29, 30] 1000000 true s.1 s.2.2 (lf_up (lf_up s.1 29 a1 (lf_w ((s.1 29 a1) + 1))) 30 a1 (lf_w (s.1 30 a1 + v))) s.2.2 := lf_fq_up fr9 rfl (fun h => absurd h (by decide))
          refine ⟨by omega, tr_65c ?_⟩
          refine hQ _ (lf_up (lf_up s.1 29 a1 (lf_w ((s.1 29 a1) + 1))) 30 a1 (lf_w (s.1 30 a1 + v)), s.2.1, s.2.2) hI9 fr10 (Or.inr (Or.inr ⟨by omega, by omega, c5, ?_, ?_, ?_, rfl⟩)) tr_s4B
          · show lf_up (lf_up s.1 29 a1 (lf_w ((s.1 29 a1) + 1))) 30 a1 (lf_w (s.1 30 a1 + v)) 29 a1 = _
            rw [lf_up_c (by decide), lf_up_s]
          · show lf_up (lf_up s.1 29 a1 (lf_w ((s.1 29 a1) + 1))) 30 a1 (lf_w (s.1 30 a1 + v)) 30 a1 = _
            rw [lf_up_s, hv]
          · intro j hj
            show lf_up (lf_up s.1 29 a1 (lf_w ((s.1 29 a1) + 1))) 30 a1 (lf_w (s.1 30 a1 + v)) 29 j = _ ∧ lf_up (lf_up s.1 29 a1 (lf_w ((s.1 29 a1) + 1))) 30 a1 (lf_w (s.1 30 a1 + v)) 30 j = _
            rw [lf_up_c (by decide), lf_up_i hj, lf_up_i hj, lf_up_c (by decide)]
            exact ⟨rfl, rfl⟩
        refine ⟨by omega, lf_Rof (by omega), fun c11 => ?_, fun c11 => ?_⟩
        · exact fin 0 (by rw [if_pos c11])
        · exact fin 1 (by rw [if_neg c11])
      · exact hQ (-2) s hI lf_fq_rf (Or.inr (Or.inl ⟨c1, Or.inr (Or.inr (by omega)), rfl, rfl, rfl⟩)) (by omega)
  · have e : a1 = -1 := by omega
    have hI1 : iv_A (lf_fl s.1 29 4 0) s.2.2 := iv_fl29 hI (by omega)
    have hI3 : iv_A (lf_fl (lf_fl s.1 29 4 0) 30 4 0) s.2.2 := iv_fl30 hI1 (by omega)
    have fr2 : lf_fq [29, 30] 1000000 true s.1 s.2.2 (lf_fl s.1 29 4 0) s.2.2 := lf_fq_fl (lf_fq_rf) rfl (by decide)
    have fr4 : lf_fq [29, 30] 1000000 true s.1 s.2.2 (lf_fl (lf_fl s.1 29 4 0) 30 4 0) s.2.2 := lf_fq_fl fr2 rfl (by decide)
    refine hQ 0 (lf_fl (lf_fl s.1 29 4 0) 30 4 0, s.2.1, s.2.2) hI3 fr4 (Or.inl ⟨e, rfl, fun q q0 q1 => ?_⟩) (by omega)
    show lf_fl (lf_fl s.1 29 4 0) 30 4 0 29 q = 0 ∧ lf_fl (lf_fl s.1 29 4 0) 30 4 0 30 q = 0
    rw [lf_fl_c (by decide)]
    unfold lf_fl
    rw [if_pos ⟨rfl, q0, q1⟩, if_pos ⟨rfl, q0, q1⟩]
    exact ⟨rfl, rfl⟩
theorem tr_321 {a1 a2 : Int} {Q : Int → lf_Z → Prop} (hI : iv_A s.1 s.2.2) (ba1 : (-2147483648) ≤ a1 ∧ a1 ≤ 2147483647) (ba2 : 0 ≤ a2 ∧ a2 ≤ 1) (hQ : ∀ (r : Int) (s' : lf_Z), iv_A s'.1 s'.2.2 → lf_fq [96, 1000] 11 true s.1 s.2.2 s'.1 s'.2.2 → tr_M a1 a2 r (s.1 96) (s'.1 96) → ((-2) ≤ r ∧ r ≤ 13) → Q r s') : fm_321 a1 a2 Q s := by
  have fo : ∀ {i : Int}, i = 11 ∨ (254 ≤ i ∧ i < 278) → ∀ r, [96, 1000].contains (1000 + r) = false → ¬ fr_g r i := fun h => fr_o (Or.inl rfl) (Or.inr (fr_n1 (by omega))) (Or.inr (fr_n2 (by omega))) (Or.inr (fr_n3 (by omega))) (Or.inr (fr_n4 (by omega))) (Or.inr (fr_n5 (by omega))) (Or.inr (fr_n6 (by omega)))
  unfold fm_321
  refine ⟨lf_Rof (by omega), fun c1 => ?_, fun c1 => ?_⟩
  · refine sm_183 hI (by omega) (by omega) (by omega) (fun z q2 => ?_)
    refine ⟨fun c3 => ?_, fun c3 => ?_⟩
    · have dc3 := q2.2 c3
      exact hQ (-2) s hI lf_fq_rf (Or.inr (Or.inl ⟨c1, by omega, rfl, rfl⟩)) (by omega)
    · have dc3 := q2.1 c3
      have b4 : 0 ≤ s.1 96 11 ∧ s.1 96 11 ≤ 12 := iv_rd96 hI (iv_f6cd46d53 rfl)
      refine ⟨lf_Rof (by omega), fun c5 => ?_, fun c5 => ?_⟩
      · have hI6 : iv_A (lf_up s.1 96 (254 + (2 * (s.1 96 11))) a1) s.2.2 := iv_wd96 hI (lf_le2 (iv_fd5258eed (s.1 96 11) rfl (by omega)) (by omega)) (fun h => absurd h (by omega))
        have fr7 : lf_fq [96, 1000] 11 true s.1 s.2.2 (lf_up s.1 96 (254 + (2 * (s.1 96 11))) a1) s.2.2 := lf_fq_up (lf_fq_rf) rfl (fun _ => ⟨by omega, fo (Or.inr (by omega))⟩)
        have b9 : (lf_up s.1 96 (254 + (2 * (s.1 96 11))) a1) 96 11 = s.1 96 11 := lf_up_i (by omega)
        have fin : ∀ v : Int, v = (if a2 = 0 then 0 else 1) → fm_321_p86 Q ((254 + (2 * ((lf_up s.1 96 (254 + (2 * (s.1 96 11))) a1) 96 11))) + 1) v (lf_up s.1 96 (254 + (2 * (s.1 96 11))) a1, s.2.1, s.2.2) := by
          intro v hv
          have hv1 : 0 ≤ v ∧ v ≤ 1 := by rw [hv]; split <;> omega
          rw [b9]
          have y1 : 255 ≤ 254 + (2 * (s.1 96 11)) + 1 ∧ 254 + (2 * (s.1 96 11)) + 1 ≤ 277 := by omega
          have hI11 : iv_A (lf_up (lf_up s.1 96 (254 + (2 * (s.1 96 11))) a1) 96 (254 + (2 * (s.1 96 11)) + 1) v) s.2.2 := iv_wd96 hI6 (lf_le2 (iv_f84ea52dc (254 + (2 * (s.1 96 11)) + 1) (by omega) y1) (by omega)) (fun h => absurd h (by omega))
          have fr12 : lf_fq [96, 1000] 11 true s.1 s.2.2 (lf_up (lf_up s.1 96 (254 + (2 * (s.1 96 11))) a1) 96 (254 + (2 * (s.1 96 11)) + 1) v) s.2.2 := lf_fq_up fr7 rfl (fun _ => ⟨by omega, fo (Or.inr (by omega))⟩)
          have e11 : (lf_up (lf_up s.1 96 (254 + (2 * (s.1 96 11))) a1) 96 (254 + (2 * (s.1 96 11)) + 1) v) 96 11 = s.1 96 11 := (lf_up_i (by omega)).trans b9
          refine ⟨by omega, ?_⟩
          show Q (((lf_up (lf_up s.1 96 (254 + (2 * (s.1 96 11))) a1) 96 (254 + (2 * (s.1 96 11)) + 1) v) 96 11) + 1) (lf_up (lf_up (lf_up s.1 96 (254 + (2 * (s.1 96 11))) a1) 96 (254 + (2 * (s.1 96 11)) + 1) v) 96 11 (((lf_up (lf_up s.1 96 (254 + (2 * (s.1 96 11))) a1) 96 (254 + (2 * (s.1 96 11)) + 1) v) 96 11) + 1), s.2.1, s.2.2)
          rw [e11]
          have hI15 : iv_A (lf_up (lf_up (lf_up s.1 96 (254 + (2 * (s.1 96 11))) a1) 96 (254 + (2 * (s.1 96 11)) + 1) v) 96 11 (s.1 96 11 + 1)) s.2.2 := iv_wd96 hI11 (lf_le2 (iv_f9442898f rfl) (by omega)) (fun h => absurd h (by omega))
          have fr16 : lf_fq [96, 1000] 11 true s.1 s.2.2 (lf_up (lf_up (lf_up s.1 96 (254 + (2 * (s.1 96 11))) a1) 96 (254 + (2 * (s.1 96 11)) + 1) v) 96 11 (s.1 96 11 + 1)) s.2.2 := lf_fq_up fr12 rfl (fun _ => ⟨by omega, fo (Or.inl rfl)⟩)
          refine hQ _ (lf_up (lf_up (lf_up s.1 96 (254 + (2 * (s.1 96 11))) a1) 96 (254 + (2 * (s.1 96 11)) + 1) v) 96 11 (s.1 96 11 + 1), s.2.1, s.2.2) hI15 fr16 (Or.inr (Or.inr ⟨by omega, by omega, c5, ?_, ?_, ?_, ?_, rfl⟩)) (by omega)
          · show lf_up (lf_up (lf_up s.1 96 (254 + (2 * (s.1 96 11))) a1) 96 (254 + (2 * (s.1 96 11)) + 1) v) 96 11 (s.1 96 11 + 1) 96 (254 + 2 * s.1 96 11) = a1
            rw [lf_up_i (by omega), lf_up_i (by omega), lf_up_s]
          · show lf_up (lf_up (lf_up s.1 96 (254 + (2 * (s.1 96 11))) a1) 96 (254 + (2 * (s.1 96 11)) + 1) v) 96 11 (s.1 96 11 + 1) 96 (254 + 2 * s.1 96 11 + 1) = _
            rw [lf_up_i (by omega), lf_up_s, hv]
          · show lf_up (lf_up (lf_up s.1 96 (254 + (2 * (s.1 96 11))) a1) 96 (254 + (2 * (s.1 96 11)) + 1) v) 96 11 (s.1 96 11 + 1) 96 11 = _
            rw [lf_up_s]
          · intro j j1 j2 j3
            show lf_up (lf_up (lf_up s.1 96 (254 + (2 * (s.1 96 11))) a1) 96 (254 + (2 * (s.1 96 11)) + 1) v) 96 11 (s.1 96 11 + 1) 96 j = _
            rw [lf_up_i j1, lf_up_i j3, lf_up_i j2]
        refine ⟨by omega, lf_Rof (by omega), fun c10 => ?_, fun c10 => ?_⟩
        · exact fin 0 (by rw [if_pos c10])
        · exact fin 1 (by rw [if_neg c10])
      · exact hQ (-2) s hI lf_fq_rf (Or.inr (Or.inl ⟨c1, Or.inr (Or.inr (by omega)), rfl, rfl⟩)) (by omega)
  · have e : a1 = -1 := by omega
    have hI17 : iv_A (lf_up s.1 96 11 0) s.2.2 := iv_wd96 hI (lf_le2 (iv_f9442898f rfl) (by omega)) (fun h => absurd h (by omega))
    have fr18 : lf_fq [96, 1000] 11 true s.1 s.2.2 (lf_up s.1 96 11 0) s.2.2 := lf_fq_up (lf_fq_rf) rfl (fun _ => ⟨by omega, fo (Or.inl rfl)⟩)
    exact hQ 0 (lf_up s.1 96 11 0, s.2.1, s.2.2) hI17 fr18 (Or.inl ⟨e, rfl, (show lf_up s.1 96 11 0 96 11 = 0 from lf_up_s)⟩) (by omega)
/-! turned -/
def tr_g : Nat → Int → Int → Int
  | 0, a, _ => a
  | n + 1, a, b => if b = 0 then a else tr_g n b (a.tmod b)
def tr_q (u a b : Int) : Int := (if b = 0 then u else a).tdiv (tr_g 20 a u)
def tr_ok (u a : Nat) : Bool := decide (tr_g 20 a u = tr_g 20 u a) && decide (1 ≤ tr_g 20 (a : Int) u) && decide (tr_g 20 (a : Int) u ≤ 12)
theorem tr_okA : (List.range 13).all (fun u => (List.range 12).all (fun a => tr_ok u (a + 1))) = true := by decide +kernel
theorem tr_gq {u a : Int} (h0 : 0 ≤ u) (h1 : u ≤ 12) (a0 : 1 ≤ a) (a1 : a ≤ 12) : tr_g 20 a u = tr_g 20 u a ∧ 1 ≤ tr_g 20 a u ∧ tr_g 20 a u ≤ 12 := by
  obtain ⟨n, rfl⟩ := Int.eq_ofNat_of_zero_le h0
  obtain ⟨m, hm⟩ := Int.eq_ofNat_of_zero_le (show 0 ≤ a - 1 by omega)
  have e : a = ((m + 1 : Nat) : Int) := by omega
  subst e
  have h := List.all_eq_true.mp (List.all_eq_true.mp tr_okA n (List.mem_range.mpr (by omega))) m (List.mem_range.mpr (by omega))
  unfold tr_ok at h
  simp only [Bool.and_eq_true, decide_eq_true_eq] at h
  exact ⟨h.1.1, h.1.2, h.2⟩
theorem tr_wl {a : Int} (h : -1000 ≤ a ∧ a ≤ 1000) : lf_wl a = a := lf_wlR (by omega)
theorem tr_dv {y g : Int} (h0 : 0 ≤ y) (h1 : y ≤ 12) (g0 : 1 ≤ g) : 0 ≤ y.tdiv g ∧ y.tdiv g ≤ 12 := by
  rw [Int.tdiv_eq_ediv_of_nonneg h0]
  exact ⟨Int.ediv_nonneg h0 (by omega), Int.le_trans (Int.ediv_le_self _ h0) h1⟩
theorem tr_md {x y : Int} (h0 : 0 ≤ x) (y0 : 0 ≤ y) (hy : y ≠ 0) : 0 ≤ x.tmod y ∧ x.tmod y < y := by
  rw [Int.tmod_eq_emod_of_nonneg h0]
  exact ⟨Int.emod_nonneg _ hy, Int.emod_lt_of_pos _ (by omega)⟩
theorem tr_qB {u a b : Int} (h0 : 0 ≤ u) (h1 : u ≤ 12) (a0 : 1 ≤ a) (a1 : a ≤ 12) : 0 ≤ tr_q u a b ∧ tr_q u a b ≤ 12 := by
  unfold tr_q
  have hg := tr_gq h0 h1 a0 a1
  exact tr_dv (by split <;> omega) (by split <;> omega) hg.2.1
theorem tr_125 {a0 a1 a2 : Int} {Q : Int → lf_Z → Prop} (h0 : 0 ≤ a0) (h1 : a0 ≤ 12) (h2 : 1 ≤ a1) (h3 : a1 ≤ 12) (ba2 : 0 ≤ a2 ∧ a2 ≤ 1) (hQ : Q (tr_q a0 a1 a2) s) : fm_125 a0 a1 a2 Q s := by
  have hg := tr_gq h0 h1 h2 h3
  unfold fm_125
  intro X hX
  have key : ∀ (n : Nat) (x5 x7 x9 : Int), 0 ≤ x5 → x5 ≤ 12 → 0 ≤ x7 → x7 ≤ 12 → x7 < n → 0 ≤ x9 → x9 + n ≤ 1000 → tr_g n x5 x7 = tr_g 20 a1 a0 → X x5 x7 x9 s := by
    intro n
    induction n with
    | zero => intros; omega
    | succ n ih =>
      intro x5 x7 x9 p0 p1 q0 q1 hn m0 m1 he
      refine hX _ _ _ _ ?_
      unfold fm_125_p9
      refine ⟨lf_Rof (by omega), fun c => absurd c (by omega), fun _ => ⟨fun c => ?_, fun c => ?_⟩⟩
      · rw [tr_wl (by omega)] at c
        have e5 : x5 = tr_g 20 a1 a0 := by
          rw [← he]
          show x5 = if x7 = 0 then x5 else _
          rw [if_pos c]
        have fin : ∀ y : Int, y = (if a2 = 0 then a0 else a1) → fm_125_p55 Q x5 y s := by
          intro y hy
          have y01 : 0 ≤ y ∧ y ≤ 12 := by rw [hy]; split <;> omega
          unfold fm_125_p55
          rw [tr_wl (a := x5) (by omega), tr_wl (a := y) (by omega)]
          refine ⟨fun c => ⟨c, ?_⟩, fun c => absurd (by omega) c⟩
          have hd := tr_dv y01.1 y01.2 (show 1 ≤ x5 by omega)
          rw [tr_wl (by omega), e5, hy]
          exact hQ
        unfold fm_125_p45
        refine ⟨lf_Rof (by omega), fun c => ?_, fun c => ?_⟩
        · exact fin a0 (by rw [if_pos c])
        · exact fin a1 (by rw [if_neg c])
      · rw [tr_wl (by omega)] at c
        have hm := tr_md p0 q0 c
        rw [tr_wl (a := x7) (by omega), tr_wl (a := x5) (by omega), tr_wl (by omega)]
        refine ⟨c, ih x7 _ _ q0 q1 hm.1 (by omega) (by omega) (by omega) (by omega) ?_⟩
        rw [← he]
        show _ = if x7 = 0 then x5 else tr_g n x7 (x5.tmod x7)
        rw [if_neg c]
  exact key 20 a1 a0 0 (by omega) h3 h0 h1 (by omega) (by omega) (by omega) rfl
theorem tr_291 {a0 a1 a2 : Int} {Q : Int → lf_Z → Prop} (h0 : 0 ≤ a0) (h1 : a0 ≤ 12) (h2 : 1 ≤ a1) (h3 : a1 ≤ 12) (ba2 : 0 ≤ a2 ∧ a2 ≤ 1) (hQ : Q (tr_q a0 a1 a2) s) : fm_291 a0 a1 a2 Q s := by
  have hg := tr_gq h0 h1 h2 h3
  have fin : ∀ y : Int, y = (if a2 = 0 then a0 else a1) → fm_291_p10 Q a0 a1 y s := by
    intro y hy
    have y01 : 0 ≤ y ∧ y ≤ 12 := by rw [hy]; split <;> omega
    unfold fm_291_p10
    rw [tr_wl (a := a0) (by omega), tr_wl (a := a1) (by omega)]
    unfold fm_292
    intro X hX
    have key : ∀ (n : Nat) (x4 x6 : Int), 0 ≤ x4 → x4 ≤ 12 → 0 ≤ x6 → x6 ≤ 12 → x6 < n → tr_g n x4 x6 = tr_g 20 a0 a1 → X x4 x6 s := by
      intro n
      induction n with
      | zero => intros; omega
      | succ n ih =>
        intro x4 x6 p0 p1 q0 q1 hn he
        refine hX _ _ _ ?_
        unfold fm_292_p6
        refine ⟨fun c => ?_, fun c => ?_⟩
        · rw [tr_wl (by omega)] at c
          have e4 : x4 = tr_g 20 a1 a0 := by
            rw [hg.1, ← he]
            show x4 = if x6 = 0 then x4 else _
            rw [if_pos c]
          rw [tr_wl (a := x4) (by omega), tr_wl (a := x4) (by omega), tr_wl (a := y) (by omega)]
          refine ⟨by omega, ?_⟩
          have hd := tr_dv y01.1 y01.2 (show 1 ≤ x4 by omega)
          rw [tr_wl (by omega), e4, hy]
          exact hQ
        · rw [tr_wl (by omega)] at c
          have hm := tr_md p0 q0 c
          rw [tr_wl (a := x6) (by omega), tr_wl (a := x4) (by omega), tr_wl (by omega)]
          refine ⟨c, ih x6 _ q0 q1 hm.1 (by omega) (by omega) ?_⟩
          rw [← he]
          show _ = if x6 = 0 then x4 else tr_g n x6 (x4.tmod x6)
          rw [if_neg c]
    exact key 20 a0 a1 h0 h1 (by omega) h3 (by omega) rfl
  unfold fm_291
  refine ⟨lf_Rof (by omega), fun c => ?_, fun c => ?_⟩
  · exact fin a0 (by rw [if_pos c])
  · exact fin a1 (by rw [if_neg c])
def tr_a (f : Int → Int) (h b : Int) : Int := if 0 ≤ h ∧ h ≤ 3 ∧ lf_tm f h 0 (f 11) ≠ 0 then tr_q (lf_tm f h 1 (f 11)) (lf_tm f h 0 (f 11)) b else -1
theorem tr_in {a : Int} (h : 0 ≤ a ∧ a ≤ 12) : lf_w (lf_wl a) = a := by rw [tr_wl (by omega), tr_w (by omega)]
theorem tr_169 {a1 a2 : Int} {Q : Int → lf_Z → Prop} (hI : iv_A s.1 s.2.2) (ba1 : (-2147483648) ≤ a1 ∧ a1 ≤ 2147483647) (ba2 : 0 ≤ a2 ∧ a2 ≤ 1) (hT : tr_A s.1) (hQ : ∀ (r : Int), r = tr_a (s.1 96) a1 a2 → ((-2147483648) ≤ r ∧ r ≤ 2147483647) → Q r s) : fm_169 a1 a2 Q s := by
  unfold fm_169
  refine sm_15 hI (by omega) (by omega) (by omega) (fun z q2 => ?_)
  refine ⟨fun c3 => ?_, fun c3 => ?_⟩
  · have dc3 := q2.2 c3
    refine hQ (-1) ?_ (by omega)
    unfold tr_a
    rw [if_neg (fun c => dc3 ⟨c.1, c.2.1⟩)]
  · have dc3 := q2.1 c3
    obtain ⟨h0, h1, h2, h3⟩ := hT.1
    have e := h3 a1 (by omega) (by omega)
    have k0 := tr_b (f := s.1 96) (h := a1) (b := 0) h0
    have k1 := tr_b (f := s.1 96) (h := a1) (b := 1) h0
    have kl := tr_le (f := s.1 96) (h := a1) h0
    refine ⟨by omega, ?_⟩
    rw [e.1, e.2]
    refine ⟨lf_Rof (by omega), fun c => ⟨lf_Rof (by omega), ?_⟩, fun c => ?_⟩
    · refine tr_125 k1.1 (by omega) (by omega) (by omega) ba2 ?_
      have hb := tr_qB (b := a2) k1.1 (show lf_tm (s.1 96) a1 1 (s.1 96 11) ≤ 12 by omega) (show 1 ≤ lf_tm (s.1 96) a1 0 (s.1 96 11) by omega) (by omega)
      rw [tr_in hb]
      refine hQ _ ?_ (by omega)
      unfold tr_a
      rw [if_pos ⟨by omega, by omega, c⟩]
    · refine hQ (-1) ?_ (by omega)
      unfold tr_a
      rw [if_neg (fun d => c d.2.2)]
theorem tr_322 {a1 a2 : Int} {Q : Int → lf_Z → Prop} (hI : iv_A s.1 s.2.2) (ba1 : (-2147483648) ≤ a1 ∧ a1 ≤ 2147483647) (ba2 : 0 ≤ a2 ∧ a2 ≤ 1) (hQ : ∀ (r : Int), r = tr_a (s.1 96) a1 a2 → ((-2147483648) ≤ r ∧ r ≤ 2147483647) → Q r s) : fm_322 a1 a2 Q s := by
  have b4 : 0 ≤ s.1 96 11 ∧ s.1 96 11 ≤ 12 := iv_rd96 hI (iv_f6cd46d53 rfl)
  unfold fm_322
  refine sm_183 hI (by omega) (by omega) (by omega) (fun z q2 => ?_)
  refine ⟨fun c3 => ?_, fun c3 => ?_⟩
  · have dc3 := q2.2 c3
    refine hQ (-1) ?_ (by omega)
    unfold tr_a
    rw [if_neg (fun c => dc3 ⟨c.1, c.2.1⟩)]
  · have dc3 := q2.1 c3
    have k0 := tr_b (f := s.1 96) (h := a1) (b := 0) b4.1
    have k1 := tr_b (f := s.1 96) (h := a1) (b := 1) b4.1
    refine sm_323 hI (by omega) (by omega) (fun r e1 q1 => ?_)
    subst e1
    refine ⟨lf_Rof (by omega), fun c => ?_, fun c => ?_⟩
    · refine sm_323 hI (by omega) (by omega) (fun r e2 q2 => ?_)
      subst e2
      refine ⟨lf_Rof (by omega), ?_⟩
      refine sm_323 hI (by omega) (by omega) (fun r e3 q3 => ?_)
      subst e3
      refine ⟨lf_Rof (by omega), ?_⟩
      refine tr_291 k1.1 (by omega) (by omega) (by omega) ba2 ?_
      have hb := tr_qB (b := a2) k1.1 (show lf_tm (s.1 96) a1 1 (s.1 96 11) ≤ 12 by omega) (show 1 ≤ lf_tm (s.1 96) a1 0 (s.1 96 11) by omega) (by omega)
      rw [tr_in hb]
      refine hQ _ ?_ (by omega)
      unfold tr_a
      rw [if_pos ⟨by omega, by omega, c⟩]
    · refine hQ (-1) ?_ (by omega)
      unfold tr_a
      rw [if_neg (fun d => c d.2.2)]
/-! best -/
def tr_s (T U : Int → Int) (b h : Int) : Int := if T h = 0 then b else if b < 0 then h else if U b * T h < U h * T b ∨ (U h * T b = U b * T h ∧ T b < T h) then h else b
def tr_best (T U : Int → Int) : Int := tr_s T U (tr_s T U (tr_s T U (tr_s T U (-1) 0) 1) 2) 3
theorem tr_sB {T U : Int → Int} {b h : Int} (hb : -1 ≤ b ∧ b ≤ 3) (hh : 0 ≤ h ∧ h ≤ 3) : -1 ≤ tr_s T U b h ∧ tr_s T U b h ≤ 3 := by
  unfold tr_s
  (repeat' split) <;> omega
theorem tr_pr {x y : Int} (hx : 0 ≤ x ∧ x ≤ 12) (hy : 0 ≤ y ∧ y ≤ 12) : 0 ≤ x * y ∧ x * y ≤ 144 := by
  refine ⟨Int.mul_nonneg hx.1 hy.1, ?_⟩
  have h1 := Int.mul_le_mul_of_nonneg_right hx.2 hy.1
  omega
def tr_R (T U : Int → Int) : Prop := ∀ h : Int, 0 ≤ h → h < 4 → (0 ≤ T h ∧ T h ≤ 12) ∧ (0 ≤ U h ∧ U h ≤ 12)
theorem tr_tR (h : tr_T t u f) : tr_R t u := by
  obtain ⟨h0, h1, h2, h3⟩ := h
  intro q q0 q1
  have e := h3 q q0 q1
  have k0 := tr_b (f := f) (h := q) (b := 0) h0
  have k1 := tr_b (f := f) (h := q) (b := 1) h0
  rw [e.1, e.2]
  exact ⟨⟨k0.1, by omega⟩, ⟨k1.1, by omega⟩⟩
theorem tr_bc {T U T' U' : Int → Int} (h : ∀ q : Int, 0 ≤ q → q < 4 → T' q = T q ∧ U' q = U q) : tr_best T' U' = tr_best T U := by
  have st : ∀ {b q : Int}, -1 ≤ b ∧ b ≤ 3 → 0 ≤ q ∧ q ≤ 3 → tr_s T' U' b q = tr_s T U b q := by
    intro b q hb hq
    unfold tr_s
    have e := h q hq.1 (by omega)
    rw [e.1, e.2]
    by_cases c : b < 0
    · rw [if_pos c, if_pos c]
    · have e2 := h b (by omega) (by omega)
      rw [e2.1, e2.2]
  unfold tr_best
  have b0 := tr_sB (T := T) (U := U) (b := -1) (h := 0) (by omega) (by omega)
  have b1 := tr_sB (T := T) (U := U) (h := 1) b0 (by omega)
  have b2 := tr_sB (T := T) (U := U) (h := 2) b1 (by omega)
  rw [st (b := -1) (q := 0) (by omega) (by omega), st b0 (by omega), st b1 (by omega), st b2 (by omega)]
theorem tr_171 {Q : Int → lf_Z → Prop} (hR : tr_R (s.1 29) (s.1 30)) (hQ : Q (tr_best (s.1 29) (s.1 30)) s) : fm_171 Q s := by
  unfold fm_171
  intro X hX
  have step : ∀ x1 x2 : Int, -1 ≤ x1 ∧ x1 ≤ 3 → 0 ≤ x2 ∧ x2 ≤ 3 → X (tr_s (s.1 29) (s.1 30) x1 x2) (x2 + 1) s → X x1 x2 s := by
    intro x1 x2 h1 h2 h
    refine hX _ _ _ ?_
    have r2 := hR x2 h2.1 (by omega)
    unfold fm_171_p4
    refine ⟨lf_Rof (by omega), fun c => absurd c (by omega), fun _ => ⟨by omega, lf_Rof (by omega), fun c => ?_, fun c => ⟨lf_Rof (by omega), fun d => ?_, fun d => ?_⟩⟩⟩
    · have e : tr_s (s.1 29) (s.1 30) x1 x2 = x1 := by unfold tr_s; rw [if_pos (by omega)]
      rw [e] at h
      exact h
    · have e : tr_s (s.1 29) (s.1 30) x1 x2 = x2 := by unfold tr_s; rw [if_neg (by omega), if_pos (by omega)]
      rw [e] at h
      exact h
    · have r1 := hR x1 (by omega) (by omega)
      have p1 := tr_pr r1.2 r2.1
      have p2 := tr_pr r2.2 r1.1
      have yes : (s.1 30 x1 * s.1 29 x2 < s.1 30 x2 * s.1 29 x1 ∨ (s.1 30 x2 * s.1 29 x1 = s.1 30 x1 * s.1 29 x2 ∧ s.1 29 x1 < s.1 29 x2)) → X x2 (x2 + 1) s := by
        intro c9
        have e : tr_s (s.1 29) (s.1 30) x1 x2 = x2 := by unfold tr_s; rw [if_neg (by omega), if_neg (by omega), if_pos c9]
        rw [e] at h
        exact h
      have no : ¬ (s.1 30 x1 * s.1 29 x2 < s.1 30 x2 * s.1 29 x1 ∨ (s.1 30 x2 * s.1 29 x1 = s.1 30 x1 * s.1 29 x2 ∧ s.1 29 x1 < s.1 29 x2)) → X x1 (x2 + 1) s := by
        intro c9
        have e : tr_s (s.1 29) (s.1 30) x1 x2 = x1 := by unfold tr_s; rw [if_neg (by omega), if_neg (by omega), if_neg c9]
        rw [e] at h
        exact h
      unfold fm_172
      rw [tr_w (a := s.1 30 x1 * s.1 29 x2) (by omega), tr_w (a := s.1 30 x2 * s.1 29 x1) (by omega)]
      have yesF : s.1 30 x1 * s.1 29 x2 < s.1 30 x2 * s.1 29 x1 ∨ (s.1 30 x2 * s.1 29 x1 = s.1 30 x1 * s.1 29 x2 ∧ s.1 29 x1 < s.1 29 x2) → (true = false → fm_171_p34 X Q x1 x2 s) ∧ (true = true → fm_171_p32 X Q x2 s) := fun c9 => ⟨(fun e => by cases e), fun _ => yes c9⟩
      have noF : ¬ (s.1 30 x1 * s.1 29 x2 < s.1 30 x2 * s.1 29 x1 ∨ (s.1 30 x2 * s.1 29 x1 = s.1 30 x1 * s.1 29 x2 ∧ s.1 29 x1 < s.1 29 x2)) → (false = false → fm_171_p34 X Q x1 x2 s) ∧ (false = true → fm_171_p32 X Q x2 s) := fun c9 => ⟨fun _ => no c9, fun e => by cases e⟩
      refine ⟨by omega, by omega, fun c9 => yesF (Or.inl c9), fun c9 => ⟨fun d9 => noF (fun o => ?_), fun d9 => ⟨lf_Rof (by omega), lf_Rof (by omega), fun e9 => noF (fun o => ?_), fun e9 => yesF (Or.inr ⟨Classical.not_not.mp d9, by omega⟩)⟩⟩⟩
      · rcases o with o | o
        · exact c9 o
        · exact d9 o.1
      · rcases o with o | o
        · exact c9 o
        · omega
  have b0 := tr_sB (T := s.1 29) (U := s.1 30) (b := -1) (h := 0) (by omega) (by omega)
  have b1 := tr_sB (T := s.1 29) (U := s.1 30) (h := 1) b0 (by omega)
  have b2 := tr_sB (T := s.1 29) (U := s.1 30) (h := 2) b1 (by omega)
  have b3 := tr_sB (T := s.1 29) (U := s.1 30) (h := 3) b2 (by omega)
  refine step (-1) 0 (by omega) (by omega) (step _ 1 b0 (by omega) (step _ 2 b1 (by omega) (step _ 3 b2 (by omega) ?_)))
  refine hX _ _ _ ?_
  unfold fm_171_p4
  exact ⟨lf_Rof (by omega), fun _ => hQ, fun c => absurd (by omega) c⟩
theorem tr_170 {Q : Int → lf_Z → Prop} (hI : iv_A s.1 s.2.2) (hT : tr_A s.1) (hQ : ∀ (r : Int), r = tr_best (fun h => lf_tm (s.1 96) h 0 (s.1 96 11)) (fun h => lf_tm (s.1 96) h 1 (s.1 96 11)) → ((-1) ≤ r ∧ r ≤ 3) → Q r s) : fm_170 Q s := by
  have hR := tr_tR hT.1
  unfold fm_170
  refine tr_171 hR ?_
  refine hQ _ (tr_bc (fun q q0 q1 => hT.1.2.2.2 q q0 q1)) ?_
  unfold tr_best
  exact tr_sB (tr_sB (tr_sB (tr_sB (by omega) (by omega)) (by omega)) (by omega)) (by omega)
theorem tr_324 {Q : Int → lf_Z → Prop} (hI : iv_A s.1 s.2.2) (hQ : ∀ (r : Int), r = tr_best (fun h => lf_tm (s.1 96) h 0 (s.1 96 11)) (fun h => lf_tm (s.1 96) h 1 (s.1 96 11)) → ((-1) ≤ r ∧ r ≤ 3) → Q r s) : fm_324 Q s := by
  have b4 : 0 ≤ s.1 96 11 ∧ s.1 96 11 ≤ 12 := iv_rd96 hI (iv_f6cd46d53 rfl)
  obtain ⟨T, hTe⟩ : ∃ T : Int → Int, T = fun h => lf_tm (s.1 96) h 0 (s.1 96 11) := ⟨_, rfl⟩
  obtain ⟨U, hUe⟩ : ∃ U : Int → Int, U = fun h => lf_tm (s.1 96) h 1 (s.1 96 11) := ⟨_, rfl⟩
  have eT : ∀ q : Int, lf_tm (s.1 96) q 0 (s.1 96 11) = T q := fun q => by rw [hTe]
  have eU : ∀ q : Int, lf_tm (s.1 96) q 1 (s.1 96 11) = U q := fun q => by rw [hUe]
  have hR : tr_R T U := by
    intro q q0 q1
    rw [← eT, ← eU]
    have k0 := tr_b (f := s.1 96) (h := q) (b := 0) b4.1
    have k1 := tr_b (f := s.1 96) (h := q) (b := 1) b4.1
    exact ⟨⟨k0.1, by omega⟩, ⟨k1.1, by omega⟩⟩
  rw [← hTe, ← hUe] at hQ
  unfold fm_324
  intro X hX
  have step : ∀ x1 x2 : Int, -1 ≤ x1 ∧ x1 ≤ 3 → 0 ≤ x2 ∧ x2 ≤ 3 → X (tr_s T U x1 x2) (x2 + 1) s → X x1 x2 s := by
    intro x1 x2 h1 h2 h
    refine hX _ _ _ ?_
    have r2 := hR x2 h2.1 (by omega)
    unfold fm_324_p4
    refine ⟨lf_Rof (by omega), fun c => absurd c (by omega), fun _ => ?_⟩
    refine sm_323 hI (by omega) (by omega) (fun r e1 q1 => ?_)
    rw [eT] at e1
    subst e1
    refine ⟨lf_Rof (by omega), fun c => ⟨lf_Rof (by omega), fun d => ?_, fun d => ?_⟩, fun c => ?_⟩
    · refine sm_323 hI (by omega) (by omega) (fun r e2 q2 => ?_)
      rw [eU] at e2
      subst e2
      refine sm_323 hI (by omega) (by omega) (fun r e3 q3 => ?_)
      rw [eT] at e3
      subst e3
      refine sm_323 hI (by omega) (by omega) (fun r e4 q4 => ?_)
      rw [eU] at e4
      subst e4
      have r1 := hR x1 d (by omega)
      have p1 := tr_pr r1.2 r2.1
      have p2 := tr_pr r2.2 r1.1
      have yes : (U x1 * T x2 < U x2 * T x1 ∨ (U x2 * T x1 = U x1 * T x2 ∧ T x1 < T x2)) → X x2 (x2 + 1) s := by
        intro c9
        have e : tr_s T U x1 x2 = x2 := by unfold tr_s; rw [if_neg c, if_neg (by omega), if_pos c9]
        rw [e] at h
        exact h
      have no : ¬ (U x1 * T x2 < U x2 * T x1 ∨ (U x2 * T x1 = U x1 * T x2 ∧ T x1 < T x2)) → X x1 (x2 + 1) s := by
        intro c9
        have e : tr_s T U x1 x2 = x1 := by unfold tr_s; rw [if_neg c, if_neg (by omega), if_neg c9]
        rw [e] at h
        exact h
      unfold fm_324_p53
      refine ⟨lf_Rof (by omega), fun c9 => yes (Or.inl (by omega)), fun c9 => ⟨fun d9 => no (fun o => ?_), fun d9 => ?_⟩⟩
      · rcases o with o | o
        · omega
        · omega
      · refine sm_323 hI (by omega) (by omega) (fun r e5 q5 => ?_)
        rw [eT] at e5
        subst e5
        refine ⟨lf_Rof (by omega), lf_Rof (by omega), fun e9 => no (fun o => ?_), fun e9 => yes (Or.inr ⟨by omega, by omega⟩)⟩
        rcases o with o | o
        · omega
        · omega
    · have e : tr_s T U x1 x2 = x2 := by unfold tr_s; rw [if_neg c, if_pos (by omega)]
      rw [e] at h
      unfold fm_324_p53
      exact ⟨lf_Rof (by omega), fun _ => h, fun c9 => absurd (by omega) c9⟩
    · have e : tr_s T U x1 x2 = x1 := by unfold tr_s; rw [if_pos (Classical.not_not.mp c)]
      rw [e] at h
      exact h
  have b0 := tr_sB (T := T) (U := U) (b := -1) (h := 0) (by omega) (by omega)
  have b1 := tr_sB (T := T) (U := U) (h := 1) b0 (by omega)
  have b2 := tr_sB (T := T) (U := U) (h := 2) b1 (by omega)
  have b3 := tr_sB (T := T) (U := U) (h := 3) b2 (by omega)
  refine step (-1) 0 (by omega) (by omega) (step _ 1 b0 (by omega) (step _ 2 b1 (by omega) (step _ 3 b2 (by omega) ?_)))
  refine hX _ _ _ ?_
  unfold fm_324_p4
  exact ⟨lf_Rof (by omega), fun _ => hQ _ rfl b3, fun c => absurd (by omega) c⟩
/-! image and back -/
theorem tr_cps {f : Nat → Int → Int} {x y : Nat} {n j : Int} (j0 : 0 ≤ j) (j1 : j < n) : lf_cp f x y 0 0 n y j = f x j := by
  unfold lf_cp
  rw [if_pos ⟨rfl, j0, by omega⟩]
  congr 1
  omega
theorem tr_176 {Q : lf_Z → Prop} (hI : iv_A s.1 s.2.2) (hQ : ∀ (s' : lf_Z), iv_A s'.1 s'.2.2 → lf_fq [89, 90, 91, 92, 93, 94] 1000000 true s.1 s.2.2 s'.1 s'.2.2 → (∀ j : Int, 0 ≤ j → j < 4 → s'.1 93 j = s.1 29 j ∧ s'.1 94 j = s.1 30 j) → Q s') : fm_176 Q s := by
  have h := sm_176 (Q := fun t => iv_A t.1 t.2.2 ∧ lf_fq [89, 90, 91, 92, 93, 94] 1000000 true s.1 s.2.2 t.1 t.2.2) hI (fun t i q => ⟨i, q⟩)
  unfold fm_176 at h ⊢
  refine hQ _ h.1 h.2 (fun j j0 j1 => ?_)
  constructor
  · dsimp only
    refine Eq.trans (lf_up_c (c := 89) (a := 93) (by decide)) ?_
    refine Eq.trans (lf_cp_c (y := 94) (a := 93) (by decide)) ?_
    refine Eq.trans (tr_cps j0 j1) ?_
    refine Eq.trans (lf_cp_c (y := 92) (a := 29) (by decide)) ?_
    refine Eq.trans (lf_cp_c (y := 91) (a := 29) (by decide)) ?_
    exact lf_cp_c (y := 90) (a := 29) (by decide)
  · dsimp only
    refine Eq.trans (lf_up_c (c := 89) (a := 94) (by decide)) ?_
    refine Eq.trans (tr_cps j0 j1) ?_
    refine Eq.trans (lf_cp_c (y := 93) (a := 30) (by decide)) ?_
    refine Eq.trans (lf_cp_c (y := 92) (a := 30) (by decide)) ?_
    refine Eq.trans (lf_cp_c (y := 91) (a := 30) (by decide)) ?_
    exact lf_cp_c (y := 90) (a := 30) (by decide)
theorem tr_176b {Q : lf_Z → Prop} (hI : iv_A s.1 s.2.2) (hQ : ∀ (s' : lf_Z), iv_A s'.1 s'.2.2 → lf_fq [25, 26, 27, 28, 29, 30] 1000000 true s.1 s.2.2 s'.1 s'.2.2 → (∀ j : Int, 0 ≤ j → j < 4 → s'.1 29 j = s.1 93 j ∧ s'.1 30 j = s.1 94 j) → Q s') : fm_176b Q s := by
  have h := sm_176b (Q := fun t => iv_A t.1 t.2.2 ∧ lf_fq [25, 26, 27, 28, 29, 30] 1000000 true s.1 s.2.2 t.1 t.2.2) hI (fun t i q => ⟨i, q⟩)
  unfold fm_176b at h ⊢
  refine hQ _ h.1 h.2 (fun j j0 j1 => ?_)
  constructor
  · dsimp only
    refine Eq.trans (lf_up_c (c := 25) (a := 29) (by decide)) ?_
    refine Eq.trans (lf_cp_c (y := 30) (a := 29) (by decide)) ?_
    refine Eq.trans (tr_cps j0 j1) ?_
    refine Eq.trans (lf_cp_c (y := 28) (a := 93) (by decide)) ?_
    refine Eq.trans (lf_cp_c (y := 27) (a := 93) (by decide)) ?_
    exact lf_cp_c (y := 26) (a := 93) (by decide)
  · dsimp only
    refine Eq.trans (lf_up_c (c := 25) (a := 30) (by decide)) ?_
    refine Eq.trans (tr_cps j0 j1) ?_
    refine Eq.trans (lf_cp_c (y := 29) (a := 94) (by decide)) ?_
    refine Eq.trans (lf_cp_c (y := 28) (a := 94) (by decide)) ?_
    refine Eq.trans (lf_cp_c (y := 27) (a := 94) (by decide)) ?_
    exact lf_cp_c (y := 26) (a := 94) (by decide)
theorem tr_173 {Q : Int → lf_Z → Prop} {s : lf_Z} (hI : iv_A s.1 s.2.2) (hQ : ∀ (r : Int) (s' : lf_Z), iv_A s'.1 s'.2.2 → lf_fq [78, 79, 80, 81, 82, 83, 84, 85, 86, 87, 88, 89, 90, 91, 92, 93, 94] 1000000 true s.1 s.2.2 s'.1 s'.2.2 → (∀ j : Int, 0 ≤ j → j < 4 → s'.1 93 j = s.1 29 j ∧ s'.1 94 j = s.1 30 j) → ((-2147483648) ≤ r ∧ r ≤ 2147483647) → Q r s') : fm_173 Q s := by
  unfold fm_173
  have b1 : 0 ≤ s.1 1 0 ∧ s.1 1 0 ≤ 12 := iv_r1_0 hI
  have hI2 : iv_A (lf_up s.1 78 0 (s.1 1 0)) s.2.2 := iv_w78_0 hI (by omega)
  have fr3 : lf_fq [78, 79, 80, 81, 82, 83, 84, 85, 86, 87, 88, 89, 90, 91, 92, 93, 94] 1000000 true s.1 s.2.2 (lf_up s.1 78 0 (s.1 1 0)) s.2.2 := lf_fq_up (lf_fq_rf) rfl (fun h => absurd h (by decide))
  have b4 : 0 ≤ s.1 1 1 ∧ s.1 1 1 ≤ 16 := (show 0 ≤ (lf_up s.1 78 0 (s.1 1 0)) 1 1 ∧ (lf_up s.1 78 0 (s.1 1 0)) 1 1 ≤ 16 from iv_r1_1 hI2)
  have hI5 : iv_A (lf_up (lf_up s.1 78 0 (s.1 1 0)) 78 1 (s.1 1 1)) s.2.2 := iv_w78_1 hI2 (by omega)
  have fr6 : lf_fq [78, 79, 80, 81, 82, 83, 84, 85, 86, 87, 88, 89, 90, 91, 92, 93, 94] 1000000 true s.1 s.2.2 (lf_up (lf_up s.1 78 0 (s.1 1 0)) 78 1 (s.1 1 1)) s.2.2 := lf_fq_up fr3 rfl (fun h => absurd h (by decide))
  have b7 : 0 ≤ s.1 1 2 ∧ s.1 1 2 ≤ 6 := (show 0 ≤ (lf_up (lf_up s.1 78 0 (s.1 1 0)) 78 1 (s.1 1 1)) 1 2 ∧ (lf_up (lf_up s.1 78 0 (s.1 1 0)) 78 1 (s.1 1 1)) 1 2 ≤ 6 from iv_r1_2 hI5)
  have hI8 : iv_A (lf_up (lf_up (lf_up s.1 78 0 (s.1 1 0)) 78 1 (s.1 1 1)) 78 2 (s.1 1 2)) s.2.2 := iv_w78_2 hI5 (by omega)
  have fr9 : lf_fq [78, 79, 80, 81, 82, 83, 84, 85, 86, 87, 88, 89, 90, 91, 92, 93, 94] 1000000 true s.1 s.2.2 (lf_up (lf_up (lf_up s.1 78 0 (s.1 1 0)) 78 1 (s.1 1 1)) 78 2 (s.1 1 2)) s.2.2 := lf_fq_up fr6 rfl (fun h => absurd h (by decide))
  have b10 : 0 ≤ s.1 0 11 ∧ s.1 0 11 ≤ 4 := (show 0 ≤ (lf_up (lf_up (lf_up s.1 78 0 (s.1 1 0)) 78 1 (s.1 1 1)) 78 2 (s.1 1 2)) 0 11 ∧ (lf_up (lf_up (lf_up s.1 78 0 (s.1 1 0)) 78 1 (s.1 1 1)) 78 2 (s.1 1 2)) 0 11 ≤ 4 from iv_r0_11 hI8)
  have hI11 : iv_A (lf_up (lf_up (lf_up (lf_up s.1 78 0 (s.1 1 0)) 78 1 (s.1 1 1)) 78 2 (s.1 1 2)) 78 3 (s.1 0 11)) s.2.2 := iv_w78_3 hI8 (by omega)
  have fr12 : lf_fq [78, 79, 80, 81, 82, 83, 84, 85, 86, 87, 88, 89, 90, 91, 92, 93, 94] 1000000 true s.1 s.2.2 (lf_up (lf_up (lf_up (lf_up s.1 78 0 (s.1 1 0)) 78 1 (s.1 1 1)) 78 2 (s.1 1 2)) 78 3 (s.1 0 11)) s.2.2 := lf_fq_up fr9 rfl (fun h => absurd h (by decide))
  have b13 : (-1) ≤ s.1 0 12 ∧ s.1 0 12 ≤ 3 := (show (-1) ≤ (lf_up (lf_up (lf_up (lf_up s.1 78 0 (s.1 1 0)) 78 1 (s.1 1 1)) 78 2 (s.1 1 2)) 78 3 (s.1 0 11)) 0 12 ∧ (lf_up (lf_up (lf_up (lf_up s.1 78 0 (s.1 1 0)) 78 1 (s.1 1 1)) 78 2 (s.1 1 2)) 78 3 (s.1 0 11)) 0 12 ≤ 3 from iv_r0_12 hI11)
  have hI14 : iv_A (lf_up (lf_up (lf_up (lf_up (lf_up s.1 78 0 (s.1 1 0)) 78 1 (s.1 1 1)) 78 2 (s.1 1 2)) 78 3 (s.1 0 11)) 78 4 (s.1 0 12)) s.2.2 := iv_w78_4 hI11 (by omega)
  have fr15 : lf_fq [78, 79, 80, 81, 82, 83, 84, 85, 86, 87, 88, 89, 90, 91, 92, 93, 94] 1000000 true s.1 s.2.2 (lf_up (lf_up (lf_up (lf_up (lf_up s.1 78 0 (s.1 1 0)) 78 1 (s.1 1 1)) 78 2 (s.1 1 2)) 78 3 (s.1 0 11)) 78 4 (s.1 0 12)) s.2.2 := lf_fq_up fr12 rfl (fun h => absurd h (by decide))
  refine sm_174 hI14 (fun s21 hI17 fr16 => ?_)
  have fr19 : lf_fq [78, 79, 80, 81, 82, 83, 84, 85, 86, 87, 88, 89, 90, 91, 92, 93, 94] 1000000 true s.1 s.2.2 s21.1 s21.2.2 := lf_fq_tr fr15 (lf_fq_wk fr16 rfl (by decide) (by decide))
  refine sm_175 hI17 (fun s22 hI21 fr20 => ?_)
  have fr23 : lf_fq [78, 79, 80, 81, 82, 83, 84, 85, 86, 87, 88, 89, 90, 91, 92, 93, 94] 1000000 true s.1 s.2.2 s22.1 s22.2.2 := lf_fq_tr fr19 (lf_fq_wk fr20 rfl (by decide) (by decide))
  refine tr_176 hI21 (fun s23 hI25 fr24 ps9 => ?_)
  have fr27 : lf_fq [78, 79, 80, 81, 82, 83, 84, 85, 86, 87, 88, 89, 90, 91, 92, 93, 94] 1000000 true s.1 s.2.2 s23.1 s23.2.2 := lf_fq_tr fr23 (lf_fq_wk fr24 rfl (by decide) (by decide))
  have b28 : (-2147483648) ≤ s23.1 15 7 ∧ s23.1 15 7 ≤ 2147483647 := iv_full hI25
  have b29 : s23.1 15 7 = s22.1 15 7 := congrFun (fr24.1 15 rfl) _
  have b30 : s22.1 15 7 = s21.1 15 7 := congrFun (fr20.1 15 rfl) _
  have b31 : s21.1 15 7 = s.1 15 7 := congrFun (fr16.1 15 rfl) _
  exact hQ (s23.1 15 7) s23 hI25 fr27 (fun j j0 j1 => by have e := ps9 j j0 j1; rw [e.1, e.2, fr20.1 29 rfl, fr20.1 30 rfl, fr16.1 29 rfl, fr16.1 30 rfl]; exact ⟨rfl, rfl⟩) (show (-2147483648 : Int) ≤ s23.1 15 7 ∧ s23.1 15 7 ≤ (2147483647 : Int) from by omega)
theorem tr_177 {Q : Int → lf_Z → Prop} {s : lf_Z} (hI : iv_A s.1 s.2.2) (hQ : ∀ (r : Int) (s' : lf_Z), iv_A s'.1 s'.2.2 → lf_fq [0, 1, 11, 12, 13, 15, 16, 17, 18, 19, 20, 21, 22, 23, 24, 25, 26, 27, 28, 29, 30] 1000000 false s.1 s.2.2 s'.1 s'.2.2 → (∀ j : Int, 0 ≤ j → j < 4 → s'.1 29 j = s.1 93 j ∧ s'.1 30 j = s.1 94 j) → ((-2147483648) ≤ r ∧ r ≤ 2147483647) → Q r s') : fm_177 Q s := by
  unfold fm_177
  have b1 : 0 ≤ s.1 78 0 ∧ s.1 78 0 ≤ 12 := iv_r78_0 hI
  have b2 : 0 ≤ s.1 78 1 ∧ s.1 78 1 ≤ 16 := iv_r78_1 hI
  have b3 : 0 ≤ s.1 78 2 ∧ s.1 78 2 ≤ 6 := iv_r78_2 hI
  refine sm_178 hI (show (0 : Int) ≤ s.1 78 0 ∧ s.1 78 0 ≤ (12 : Int) from by omega) (show (0 : Int) ≤ s.1 78 1 ∧ s.1 78 1 ≤ (16 : Int) from by omega) (show (0 : Int) ≤ s.1 78 2 ∧ s.1 78 2 ≤ (6 : Int) from by omega) (fun s21 hI5 fr4 => ?_)
  have fr7 : lf_fq [0, 1, 11, 12, 13, 15, 16, 17, 18, 19, 20, 21, 22, 23, 24, 25, 26, 27, 28, 29, 30] 1000000 false s.1 s.2.2 s21.1 s21.2.2 := lf_fq_tr (lf_fq_rf) (lf_fq_wk fr4 rfl (by decide) (by decide))
  have b8 : 0 ≤ s21.1 78 3 ∧ s21.1 78 3 ≤ 4 := iv_r78_3 hI5
  have b9 : s21.1 78 3 = s.1 78 3 := congrFun (fr4.1 78 rfl) _
  have hI10 : iv_A (lf_up s21.1 0 11 (s21.1 78 3)) s21.2.2 := iv_w0_11 hI5 (by omega)
  have fr11 : lf_fq [0, 1, 11, 12, 13, 15, 16, 17, 18, 19, 20, 21, 22, 23, 24, 25, 26, 27, 28, 29, 30] 1000000 false s.1 s.2.2 (lf_up s21.1 0 11 (s21.1 78 3)) s21.2.2 := lf_fq_up fr7 rfl (fun h => absurd h (by decide))
  have b12 : (-1) ≤ s21.1 78 4 ∧ s21.1 78 4 ≤ 3 := (show (-1) ≤ (lf_up s21.1 0 11 (s21.1 78 3)) 78 4 ∧ (lf_up s21.1 0 11 (s21.1 78 3)) 78 4 ≤ 3 from iv_r78_4 hI10)
  have b13 : s21.1 78 4 = s.1 78 4 := congrFun (fr4.1 78 rfl) _
  refine sm_61 hI10 (show (-1 : Int) ≤ s21.1 78 4 ∧ s21.1 78 4 ≤ (3 : Int) from by omega) (fun s22 hI15 fr14 => ?_)
  have fr17 : lf_fq [0, 1, 11, 12, 13, 15, 16, 17, 18, 19, 20, 21, 22, 23, 24, 25, 26, 27, 28, 29, 30] 1000000 false s.1 s.2.2 s22.1 s22.2.2 := lf_fq_tr fr11 (lf_fq_wk fr14 rfl (by decide) (by decide))
  refine sm_174b hI15 (fun s23 hI19 fr18 => ?_)
  have fr21 : lf_fq [0, 1, 11, 12, 13, 15, 16, 17, 18, 19, 20, 21, 22, 23, 24, 25, 26, 27, 28, 29, 30] 1000000 false s.1 s.2.2 s23.1 s23.2.2 := lf_fq_tr fr17 (lf_fq_wk fr18 rfl (by decide) (by decide))
  refine sm_175b hI19 (fun s24 hI23 fr22 => ?_)
  have fr25 : lf_fq [0, 1, 11, 12, 13, 15, 16, 17, 18, 19, 20, 21, 22, 23, 24, 25, 26, 27, 28, 29, 30] 1000000 false s.1 s.2.2 s24.1 s24.2.2 := lf_fq_tr fr21 (lf_fq_wk fr22 rfl (by decide) (by decide))
  refine tr_176b hI23 (fun s25 hI27 fr26 ps9 => ?_)
  have fr29 : lf_fq [0, 1, 11, 12, 13, 15, 16, 17, 18, 19, 20, 21, 22, 23, 24, 25, 26, 27, 28, 29, 30] 1000000 false s.1 s.2.2 s25.1 s25.2.2 := lf_fq_tr fr25 (lf_fq_wk fr26 rfl (by decide) (by decide))
  have b30 : (-2147483648) ≤ s25.1 15 7 ∧ s25.1 15 7 ≤ 2147483647 := iv_full hI27
  have b31 : s25.1 15 7 = s24.1 15 7 := congrFun (fr26.1 15 rfl) _
  have b32 : s24.1 15 7 = s23.1 15 7 := congrFun (fr22.1 15 rfl) _
  exact hQ (s25.1 15 7) s25 hI27 fr29 (fun j j0 j1 => by have e := ps9 j j0 j1; rw [e.1, e.2, fr22.1 93 rfl, fr22.1 94 rfl, fr18.1 93 rfl, fr18.1 94 rfl, fr14.1 93 rfl, fr14.1 94 rfl]; exact ⟨congrFun (fr4.1 93 rfl) j, congrFun (fr4.1 94 rfl) j⟩) (show (-2147483648 : Int) ≤ s25.1 15 7 ∧ s25.1 15 7 ≤ (2147483647 : Int) from by omega)
theorem tr_181 {Q : lf_Z → Prop} {s : lf_Z} (hI : iv_A s.1 s.2.2) (hQ : ∀  (s' : lf_Z), iv_A s'.1 s'.2.2 → lf_fq [97] 1000000 true s.1 s.2.2 s'.1 s'.2.2 → (∀ j : Int, 0 ≤ j → j < 1538 → s'.1 97 j = s.1 96 j) → Q  s') : fm_181 Q s := by
  unfold fm_181 fm_181_p2L
  intro X hX
  have key : ∀ (m : Nat) (x2 : Int) (s' : lf_Z), 0 ≤ x2 → x2 ≤ 1538 → (1538 - x2).toNat < m → s'.2 = s.2 → (∀ a, a ≠ 97 → s'.1 a = s.1 a) → (∀ j : Int, 0 ≤ j → j < x2 → s'.1 97 j = s.1 96 j) → (∀ j : Int, ¬ (0 ≤ j ∧ j < x2) → s'.1 97 j = s.1 97 j) → X x2 s' := by
    intro m
    induction m with
    | zero => intros; omega
    | succ m ih =>
      intro x2 s' h0 h1 hm hs hr hd ho
      refine hX _ _ ?_
      unfold fm_181_p2
      refine ⟨lf_Rof (by omega), fun c => ?_, fun c => ⟨by omega, ?_⟩⟩
      · have e : x2 = 1538 := by omega
        subst e
        refine hQ s' ?_ ⟨fun a ha => hr a (fun e => by subst e; cases ha), fun i hi => ?_, fun _ => by rw [hs], fun r _ i _ => by rw [hr 96 (by decide)]⟩ (fun j j0 j1 => hd j j0 j1)
        · rw [show s'.2.2 = s.2.2 from by rw [hs]]
          exact iv_copyAll (c := 96) (d := 97) (Or.inl ⟨rfl, rfl⟩) hI hr (fun j a b => hd j a b) ho
        · rw [hr 96 (by decide)]
      · refine ih (x2 + 1) _ (by omega) (by omega) (by omega) hs ?_ ?_ ?_
        · intro a ha
          show lf_up s'.1 97 x2 (s'.1 96 x2) a = _
          rw [lf_up_row ha]
          exact hr a ha
        · intro j j0 j1
          show lf_up s'.1 97 x2 (s'.1 96 x2) 97 j = _
          by_cases hj : j = x2
          · subst hj
            rw [lf_up_s, hr 96 (by decide)]
          · rw [lf_up_i hj]
            exact hd j j0 (by omega)
        · intro j hj
          show lf_up s'.1 97 x2 (s'.1 96 x2) 97 j = _
          rw [lf_up_i (by omega)]
          exact ho j (by omega)
  exact key _ 0 s (by omega) (by omega) (Nat.lt_succ_self _) rfl (fun _ _ => rfl) (fun j a b => by omega) (fun _ _ => rfl)
theorem tr_325 {Q : Int → lf_Z → Prop} {s : lf_Z} (hI : iv_A s.1 s.2.2) (hQ : ∀ (r : Int) (s' : lf_Z), iv_A s'.1 s'.2.2 → lf_fq [97] 1000000 true s.1 s.2.2 s'.1 s'.2.2 → (∀ j : Int, 0 ≤ j → j < 1538 → s'.1 97 j = s.1 96 j) → ((-2147483648) ≤ r ∧ r ≤ 2147483647) → Q r s') : fm_325 Q s := by
  unfold fm_325
  refine tr_181 hI (fun s21 hI2 fr1 ps9 => ?_)
  have fr4 : lf_fq [97] 1000000 true s.1 s.2.2 s21.1 s21.2.2 := lf_fq_tr (lf_fq_rf) (lf_fq_wk fr1 rfl (by decide) (by decide))
  have b5 : (-2147483648) ≤ s21.1 96 3 ∧ s21.1 96 3 ≤ 2147483647 := iv_full hI2
  have b6 : s21.1 96 3 = s.1 96 3 := congrFun (fr1.1 96 rfl) _
  exact hQ (s21.1 96 3) s21 hI2 fr4 ps9 (show (-2147483648 : Int) ≤ s21.1 96 3 ∧ s21.1 96 3 ≤ (2147483647 : Int) from by omega)
theorem tr_181b {Q : lf_Z → Prop} {s : lf_Z} (hI : iv_A s.1 s.2.2) (hQ : ∀  (s' : lf_Z), iv_A s'.1 s'.2.2 → lf_fq [96, 1000, 1001, 1002, 1003, 1004, 1005, 1006] 0 true s.1 s.2.2 s'.1 s'.2.2 → (∀ j : Int, 0 ≤ j → j < 1538 → s'.1 96 j = s.1 97 j) → Q  s') : fm_181b Q s := by
  unfold fm_181b fm_181b_p2L
  intro X hX
  have key : ∀ (m : Nat) (x2 : Int) (s' : lf_Z), 0 ≤ x2 → x2 ≤ 1538 → (1538 - x2).toNat < m → s'.2 = s.2 → (∀ a, a ≠ 96 → s'.1 a = s.1 a) → (∀ j : Int, 0 ≤ j → j < x2 → s'.1 96 j = s.1 97 j) → (∀ j : Int, ¬ (0 ≤ j ∧ j < x2) → s'.1 96 j = s.1 96 j) → X x2 s' := by
    intro m
    induction m with
    | zero => intros; omega
    | succ m ih =>
      intro x2 s' h0 h1 hm hs hr hd ho
      refine hX _ _ ?_
      unfold fm_181b_p2
      refine ⟨lf_Rof (by omega), fun c => ?_, fun c => ⟨by omega, ?_⟩⟩
      · have e : x2 = 1538 := by omega
        subst e
        refine hQ s' ?_ ⟨fun a ha => hr a (fun e => by subst e; cases ha), fun i hi => ?_, fun _ => by rw [hs], fun r hr9 i hi => absurd hi (fr_o (Or.inl rfl) (Or.inl rfl) (Or.inl rfl) (Or.inl rfl) (Or.inl rfl) (Or.inl rfl) (Or.inl rfl) r hr9)⟩ (fun j j0 j1 => hd j j0 j1)
        · rw [show s'.2.2 = s.2.2 from by rw [hs]]
          exact iv_copyAll (c := 97) (d := 96) (Or.inr ⟨rfl, rfl⟩) hI hr (fun j a b => hd j a b) ho
        · exact ho i (by omega)
      · refine ih (x2 + 1) _ (by omega) (by omega) (by omega) hs ?_ ?_ ?_
        · intro a ha
          show lf_up s'.1 96 x2 (s'.1 97 x2) a = _
          rw [lf_up_row ha]
          exact hr a ha
        · intro j j0 j1
          show lf_up s'.1 96 x2 (s'.1 97 x2) 96 j = _
          by_cases hj : j = x2
          · subst hj
            rw [lf_up_s, hr 97 (by decide)]
          · rw [lf_up_i hj]
            exact hd j j0 (by omega)
        · intro j hj
          show lf_up s'.1 96 x2 (s'.1 97 x2) 96 j = _
          rw [lf_up_i (by omega)]
          exact ho j (by omega)
  exact key _ 0 s (by omega) (by omega) (Nat.lt_succ_self _) rfl (fun _ _ => rfl) (fun j a b => by omega) (fun _ _ => rfl)
theorem tr_326 {Q : Int → lf_Z → Prop} {s : lf_Z} (hI : iv_A s.1 s.2.2) (hQ : ∀ (r : Int) (s' : lf_Z), iv_A s'.1 s'.2.2 → lf_fq [96, 1000, 1001, 1002, 1003, 1004, 1005, 1006] 0 true s.1 s.2.2 s'.1 s'.2.2 → (∀ j : Int, 0 ≤ j → j < 1538 → s'.1 96 j = s.1 97 j) → ((-2147483648) ≤ r ∧ r ≤ 2147483647) → Q r s') : fm_326 Q s := by
  unfold fm_326
  refine tr_181b hI (fun s21 hI2 fr1 ps9 => ?_)
  have fr4 : lf_fq [96, 1000, 1001, 1002, 1003, 1004, 1005, 1006] 0 true s.1 s.2.2 s21.1 s21.2.2 := lf_fq_tr (lf_fq_rf) (lf_fq_wk fr1 rfl (by decide) (by decide))
  have b5 : (-2147483648) ≤ s21.1 96 3 ∧ s21.1 96 3 ≤ 2147483647 := iv_full hI2
  exact hQ (s21.1 96 3) s21 hI2 fr4 ps9 (show (-2147483648 : Int) ≤ s21.1 96 3 ∧ s21.1 96 3 ≤ (2147483647 : Int) from by omega)
theorem tr_Ti {a b c d e g : Int → Int} (h : tr_T a b c) (h1 : ∀ j : Int, 0 ≤ j → j < 4 → d j = a j ∧ e j = b j) (h2 : ∀ j : Int, 0 ≤ j → j < 1538 → g j = c j) : tr_T d e g := tr_Tc h h1 (fun i hi => h2 i (by omega) (by omega))
/-! the two sides between two calls of the law -/
section TRL
variable {I I' : Nat → Int → Int} {P P' : Nat → Option Nat} {l : List Nat} {w : Int} {bb : Bool}
def tr_BB (a b r : Int) (I : Nat → Int → Int) : Prop := (∃ t u : Int → Int, tr_T t u (I 96) ∧ tr_C a b r t u (I 29) (I 30)) ∧ tr_T (I 93) (I 94) (I 97)
def tr_BE (a b : Int) (I : Nat → Int → Int) : Prop := ∃ r : Int, tr_BB a b r I
def tr_IM (I : Nat → Int → Int) : Prop := tr_T (I 29) (I 30) (I 96) ∧ ∀ j : Int, 0 ≤ j → j < 4 → I 93 j = I 29 j ∧ I 94 j = I 30 j
def tr_KM (I : Nat → Int → Int) : Prop := tr_T (I 93) (I 94) (I 97) ∧ ∀ j : Int, 0 ≤ j → j < 4 → I 29 j = I 93 j ∧ I 30 j = I 94 j
theorem tr_t1 {a b r : Int} (h : tr_A I) (q : lf_fq [29, 30] w bb I P I' P') (c : tr_C a b r (I 29) (I 30) (I' 29) (I' 30)) : tr_BB a b r I' := by
  refine ⟨⟨I 29, I 30, ?_, c⟩, ?_⟩
  · rw [q.1 96 rfl]; exact h.1
  · rw [q.1 93 rfl, q.1 94 rfl, q.1 97 rfl]; exact h.2
theorem tr_bb {a b r a' b' r' : Int} (h : tr_BB a b r I) (ha : a' = a) (hb : b' = b) (hr : r' = r) : tr_BB a' b' r' I := by
  subst ha hb hr
  exact h
theorem tr_be {a b r a' b' : Int} (h : tr_BB a b r I) (ha : a' = a) (hb : b' = b) : tr_BE a' b' I := by
  subst ha hb
  exact ⟨r, h⟩
theorem tr_t2 {a b r r' : Int} (h : tr_BB a b r I) (q : lf_fq [96, 1000] w bb I P I' P') (m : tr_M a b r' (I 96) (I' 96)) : r = r' ∧ tr_A I' := by
  obtain ⟨⟨t, u, hT, hC⟩, h2⟩ := h
  have e := tr_step hT hC m
  refine ⟨e.1, ?_, ?_⟩
  · rw [q.1 29 rfl, q.1 30 rfl]; exact e.2
  · rw [q.1 93 rfl, q.1 94 rfl, q.1 97 rfl]; exact h2
theorem tr_t3 {a b r' : Int} (h : tr_BE a b I) (q : lf_fq [96, 1000] w bb I P I' P') (m : tr_M a b r' (I 96) (I' 96)) : tr_A I' := by
  obtain ⟨r, h⟩ := h
  exact (tr_t2 h q m).2
theorem tr_i1 (h : tr_A I) (q : lf_fq [78, 79, 80, 81, 82, 83, 84, 85, 86, 87, 88, 89, 90, 91, 92, 93, 94] w bb I P I' P') (m : ∀ j : Int, 0 ≤ j → j < 4 → I' 93 j = I 29 j ∧ I' 94 j = I 30 j) : tr_IM I' := by
  refine ⟨by rw [q.1 29 rfl, q.1 30 rfl, q.1 96 rfl]; exact h.1, fun j a b => ?_⟩
  rw [q.1 29 rfl, q.1 30 rfl]
  exact m j a b
theorem tr_i2 (h : tr_IM I) (q : lf_fq [97] w bb I P I' P') (m : ∀ j : Int, 0 ≤ j → j < 1538 → I' 97 j = I 96 j) : tr_A I' := by
  refine ⟨by rw [q.1 29 rfl, q.1 30 rfl, q.1 96 rfl]; exact h.1, ?_⟩
  rw [q.1 93 rfl, q.1 94 rfl]
  exact tr_Ti h.1 h.2 m
theorem tr_k1 (h : tr_A I) (q : lf_fq l w bb I P I' P') (hl : (l.contains 93 || l.contains 94 || l.contains 97) = false) (m : ∀ j : Int, 0 ≤ j → j < 4 → I' 29 j = I 93 j ∧ I' 30 j = I 94 j) : tr_KM I' := by
  simp only [Bool.or_eq_false_iff] at hl
  obtain ⟨⟨a3, a4⟩, a5⟩ := hl
  refine ⟨by rw [q.1 93 a3, q.1 94 a4, q.1 97 a5]; exact h.2, fun j a b => ?_⟩
  rw [q.1 93 a3, q.1 94 a4]
  exact m j a b
theorem tr_k2 (h : tr_KM I) (q : lf_fq l w bb I P I' P') (hl : (l.contains 29 || l.contains 30 || l.contains 93 || l.contains 94 || l.contains 97) = false) (m : ∀ j : Int, 0 ≤ j → j < 1538 → I' 96 j = I 97 j) : tr_A I' := by
  simp only [Bool.or_eq_false_iff] at hl
  obtain ⟨⟨⟨⟨a1, a2⟩, a3⟩, a4⟩, a5⟩ := hl
  refine ⟨?_, by rw [q.1 93 a3, q.1 94 a4, q.1 97 a5]; exact h.1⟩
  rw [q.1 29 a1, q.1 30 a2]
  exact tr_Ti h.1 h.2 m
theorem tr_ac {f : Int → Int} {a b r a' b' : Int} (h : r = tr_a f a b) (ha : a' = a) (hb : b' = b) : r = tr_a f a' b' := by
  subst ha hb
  exact h
end TRL
end TR
def fw_15 (a0 : Int) (a1 : Int) (a2 : Int) (Q : Bool → lf_Z → Prop) (s : lf_Z) : Prop := lf_R a0 → (lf_R a1 → ((a0 < a1 → (Q false s)) ∧ (¬ (a0 < a1) → (lf_R a2 → ((a2 < a0 → (Q false s)) ∧ (¬ (a2 < a0) → (Q true s)))))))
theorem cj_15 {Q1 Q2 Q3 : Bool → lf_Z → Prop} {a0 : Int} {a1 : Int} {a2 : Int} {s : lf_Z} (hQ : ∀ (r : Bool) (s : lf_Z), Q1 r s → Q2 r s → Q3 r s) (h1 : fm_15 a0 a1 a2 Q1 s) (h2 : fw_15 a0 a1 a2 Q2 s) : fm_15 a0 a1 a2 Q3 s := by
  unfold fm_15 at h1 ⊢
  unfold fw_15 at h2
  exact ⟨h1.1, ⟨h1.2.1, ⟨(fun c3 => hQ _ _  (h1.2.2.1 c3) (((h2 h1.1) h1.2.1).1 c3)), (fun c3 => ⟨(h1.2.2.2 c3).1, ⟨(fun c6 => hQ _ _  ((h1.2.2.2 c3).2.1 c6) (((((h2 h1.1) h1.2.1).2 c3) (h1.2.2.2 c3).1).1 c6)), (fun c6 => hQ _ _  ((h1.2.2.2 c3).2.2 c6) (((((h2 h1.1) h1.2.1).2 c3) (h1.2.2.2 c3).1).2 c6))⟩⟩)⟩⟩⟩
def fw_183 (a0 : Int) (a1 : Int) (a2 : Int) (Q : Bool → lf_Z → Prop) (s : lf_Z) : Prop := lf_R a0 → (lf_R a1 → ((a0 < a1 → (Q false s)) ∧ (¬ (a0 < a1) → (lf_R a2 → ((a2 < a0 → (Q false s)) ∧ (¬ (a2 < a0) → (Q true s)))))))
theorem cj_183 {Q1 Q2 Q3 : Bool → lf_Z → Prop} {a0 : Int} {a1 : Int} {a2 : Int} {s : lf_Z} (hQ : ∀ (r : Bool) (s : lf_Z), Q1 r s → Q2 r s → Q3 r s) (h1 : fm_183 a0 a1 a2 Q1 s) (h2 : fw_183 a0 a1 a2 Q2 s) : fm_183 a0 a1 a2 Q3 s := by
  unfold fm_183 at h1 ⊢
  unfold fw_183 at h2
  exact ⟨h1.1, ⟨h1.2.1, ⟨(fun c3 => hQ _ _  (h1.2.2.1 c3) (((h2 h1.1) h1.2.1).1 c3)), (fun c3 => ⟨(h1.2.2.2 c3).1, ⟨(fun c6 => hQ _ _  ((h1.2.2.2 c3).2.1 c6) (((((h2 h1.1) h1.2.1).2 c3) (h1.2.2.2 c3).1).1 c6)), (fun c6 => hQ _ _  ((h1.2.2.2 c3).2.2 c6) (((((h2 h1.1) h1.2.1).2 c3) (h1.2.2.2 c3).1).2 c6))⟩⟩)⟩⟩⟩
def fw_26_p3 (Q : lf_Z → Prop) (x1 : Int) (X3 : Int → lf_Z → Prop) (x2 : Int) (s : lf_Z) : Prop := lf_R x2 → ((x2 < 0 → (Q s)) ∧ (¬ (x2 < 0) → (lf_R (s.1 31 1) → ((300 ≤ s.1 31 1 → (Q s)) ∧ (¬ (300 ≤ s.1 31 1) → ((0 ≤ s.1 31 1 ∧ s.1 31 1 < 300) → (X3 (x2 + (-8)) (lf_up (lf_up s.1 32 (s.1 31 1) (lf_and (lf_ushr x1 x2) 255)) 31 1 ((s.1 31 1) + 1), s.2.1, s.2.2))))))))
theorem cj_26_p3 {X31 X32 X33 : Int → lf_Z → Prop} {Q1 Q2 Q3 : lf_Z → Prop} {x1 : Int} {x2 : Int} {s : lf_Z} (hX3 : ∀ (v0 : Int) (v1 : lf_Z), X31 v0 v1 → X32 v0 v1 → X33 v0 v1) (hQ : ∀ (s : lf_Z), Q1 s → Q2 s → Q3 s) (h1 : fm_26_p3 Q1 x1 X31 x2 s) (h2 : fw_26_p3 Q2 x1 X32 x2 s) : fm_26_p3 Q3 x1 X33 x2 s := by
  unfold fm_26_p3 at h1 ⊢
  unfold fw_26_p3 at h2
  exact ⟨h1.1, ⟨(fun c2 => hQ _  (h1.2.1 c2) ((h2 h1.1).1 c2)), (fun c2 => ⟨(h1.2.2 c2).1, ⟨(fun c5 => hQ _  ((h1.2.2 c2).2.1 c5) ((((h2 h1.1).2 c2) (h1.2.2 c2).1).1 c5)), (fun c5 => ⟨((h1.2.2 c2).2.2 c5).1, hX3 _ _  ((h1.2.2 c2).2.2 c5).2 (((((h2 h1.1).2 c2) (h1.2.2 c2).1).2 c5) ((h1.2.2 c2).2.2 c5).1)⟩)⟩⟩)⟩⟩
def fw_26_p3L (Q : lf_Z → Prop) (x1 : Int) (x2 : Int) (s : lf_Z) : Prop := ∃ X3 : Int → lf_Z → Prop, (∀ (x2 : Int) (s : lf_Z), X3 x2 s → fw_26_p3 Q x1 X3 x2 s) ∧ X3 x2 s
theorem cj_26_p3L {Q1 Q2 Q3 : lf_Z → Prop} {x1 : Int} {x2 : Int} {s : lf_Z} (hQ : ∀ (s : lf_Z), Q1 s → Q2 s → Q3 s) (h1 : fm_26_p3L Q1 x1 x2 s) (h2 : fw_26_p3L Q2 x1 x2 s) : fm_26_p3L Q3 x1 x2 s := by
  intro X0 hX0
  obtain ⟨Y, hY, hY0⟩ := h2
  exact h1 (fun v0 s => Y v0 s → X0 v0 s) (fun v0 s hb hy => hX0 v0 s (cj_26_p3 (X31 := fun v0 s => Y v0 s → X0 v0 s) (X32 := Y) (X33 := X0) (hX3 := fun v0 s a b => a b) hQ hb (hY v0 s hy))) hY0
def fw_26 (a1 : Int) (Q : lf_Z → Prop) (s : lf_Z) : Prop := fw_26_p3L Q a1 24 s
theorem cj_26 {Q1 Q2 Q3 : lf_Z → Prop} {a1 : Int} {s : lf_Z} (hQ : ∀ (s : lf_Z), Q1 s → Q2 s → Q3 s) (h1 : fm_26 a1 Q1 s) (h2 : fw_26 a1 Q2 s) : fm_26 a1 Q3 s := by
  unfold fm_26 at h1 ⊢
  unfold fw_26 at h2
  exact cj_26_p3L hQ h1 h2
def fw_25 (a1 : Int) (a2 : Int) (a3 : Int) (a4 : Int) (a5 : Int) (Q : Int → lf_Z → Prop) (s : lf_Z) : Prop := lf_R ((s.1 31 1) + 20) → (((s.1 31 1) + 20 ≤ 300 → (fw_26 a1 (fun s22 => (fw_26 a2 (fun s23 => (fw_26 a3 (fun s24 => (fw_26 a4 (fun s25 => (fw_26 a5 (fun s26 => (Q (s26.1 31 1) s26)) s25)) s24)) s23)) s22)) s)) ∧ (¬ ((s.1 31 1) + 20 ≤ 300) → (Q (-1) s)))
theorem cj_25 {Q1 Q2 Q3 : Int → lf_Z → Prop} {a1 : Int} {a2 : Int} {a3 : Int} {a4 : Int} {a5 : Int} {s : lf_Z} (hQ : ∀ (r : Int) (s : lf_Z), Q1 r s → Q2 r s → Q3 r s) (h1 : fm_25 a1 a2 a3 a4 a5 Q1 s) (h2 : fw_25 a1 a2 a3 a4 a5 Q2 s) : fm_25 a1 a2 a3 a4 a5 Q3 s := by
  unfold fm_25 at h1 ⊢
  unfold fw_25 at h2
  exact ⟨h1.1, ⟨(fun c2 => cj_26 (fun s22 k3 l3 => cj_26 (fun s23 k4 l4 => cj_26 (fun s24 k5 l5 => cj_26 (fun s25 k6 l6 => cj_26 (fun s26 k7 l7 => hQ _ _  k7 l7) k6 l6) k5 l5) k4 l4) k3 l3) (h1.2.1 c2) ((h2 h1.1).1 c2)), (fun c2 => hQ _ _  (h1.2.2 c2) ((h2 h1.1).2 c2))⟩⟩
def fw_193_p3 (Q : lf_Z → Prop) (x1 : Int) (X3 : Int → lf_Z → Prop) (x2 : Int) (s : lf_Z) : Prop := lf_R x2 → ((x2 < 0 → (Q s)) ∧ (¬ (x2 < 0) → ((0 ≤ s.1 95 4 ∧ s.1 95 4 < 300) → (X3 (x2 + (-8)) (lf_up (lf_up s.1 99 (s.1 95 4) (lf_and (lf_shr x1 x2) 255)) 95 4 ((s.1 95 4) + 1), s.2.1, s.2.2)))))
theorem cj_193_p3 {X31 X32 X33 : Int → lf_Z → Prop} {Q1 Q2 Q3 : lf_Z → Prop} {x1 : Int} {x2 : Int} {s : lf_Z} (hX3 : ∀ (v0 : Int) (v1 : lf_Z), X31 v0 v1 → X32 v0 v1 → X33 v0 v1) (hQ : ∀ (s : lf_Z), Q1 s → Q2 s → Q3 s) (h1 : fm_193_p3 Q1 x1 X31 x2 s) (h2 : fw_193_p3 Q2 x1 X32 x2 s) : fm_193_p3 Q3 x1 X33 x2 s := by
  unfold fm_193_p3 at h1 ⊢
  unfold fw_193_p3 at h2
  exact ⟨h1.1, ⟨(fun c2 => hQ _  (h1.2.1 c2) ((h2 h1.1).1 c2)), (fun c2 => ⟨(h1.2.2 c2).1, hX3 _ _  (h1.2.2 c2).2 (((h2 h1.1).2 c2) (h1.2.2 c2).1)⟩)⟩⟩
def fw_193_p3L (Q : lf_Z → Prop) (x1 : Int) (x2 : Int) (s : lf_Z) : Prop := ∃ X3 : Int → lf_Z → Prop, (∀ (x2 : Int) (s : lf_Z), X3 x2 s → fw_193_p3 Q x1 X3 x2 s) ∧ X3 x2 s
theorem cj_193_p3L {Q1 Q2 Q3 : lf_Z → Prop} {x1 : Int} {x2 : Int} {s : lf_Z} (hQ : ∀ (s : lf_Z), Q1 s → Q2 s → Q3 s) (h1 : fm_193_p3L Q1 x1 x2 s) (h2 : fw_193_p3L Q2 x1 x2 s) : fm_193_p3L Q3 x1 x2 s := by
  intro X0 hX0
  obtain ⟨Y, hY, hY0⟩ := h2
  exact h1 (fun v0 s => Y v0 s → X0 v0 s) (fun v0 s hb hy => hX0 v0 s (cj_193_p3 (X31 := fun v0 s => Y v0 s → X0 v0 s) (X32 := Y) (X33 := X0) (hX3 := fun v0 s a b => a b) hQ hb (hY v0 s hy))) hY0
def fw_193 (a1 : Int) (Q : lf_Z → Prop) (s : lf_Z) : Prop := fw_193_p3L Q a1 24 s
theorem cj_193 {Q1 Q2 Q3 : lf_Z → Prop} {a1 : Int} {s : lf_Z} (hQ : ∀ (s : lf_Z), Q1 s → Q2 s → Q3 s) (h1 : fm_193 a1 Q1 s) (h2 : fw_193 a1 Q2 s) : fm_193 a1 Q3 s := by
  unfold fm_193 at h1 ⊢
  unfold fw_193 at h2
  exact cj_193_p3L hQ h1 h2
def fw_192 (a1 : Int) (a2 : Int) (a3 : Int) (a4 : Int) (a5 : Int) (Q : Int → lf_Z → Prop) (s : lf_Z) : Prop := lf_R ((s.1 95 4) + 20) → (((s.1 95 4) + 20 ≤ 300 → (fw_193 a1 (fun s22 => (fw_193 a2 (fun s23 => (fw_193 a3 (fun s24 => (fw_193 a4 (fun s25 => (fw_193 a5 (fun s26 => (Q (s26.1 95 4) s26)) s25)) s24)) s23)) s22)) s)) ∧ (¬ ((s.1 95 4) + 20 ≤ 300) → (Q (-1) s)))
theorem cj_192 {Q1 Q2 Q3 : Int → lf_Z → Prop} {a1 : Int} {a2 : Int} {a3 : Int} {a4 : Int} {a5 : Int} {s : lf_Z} (hQ : ∀ (r : Int) (s : lf_Z), Q1 r s → Q2 r s → Q3 r s) (h1 : fm_192 a1 a2 a3 a4 a5 Q1 s) (h2 : fw_192 a1 a2 a3 a4 a5 Q2 s) : fm_192 a1 a2 a3 a4 a5 Q3 s := by
  unfold fm_192 at h1 ⊢
  unfold fw_192 at h2
  exact ⟨h1.1, ⟨(fun c2 => cj_193 (fun s22 k3 l3 => cj_193 (fun s23 k4 l4 => cj_193 (fun s24 k5 l5 => cj_193 (fun s25 k6 l6 => cj_193 (fun s26 k7 l7 => hQ _ _  k7 l7) k6 l6) k5 l5) k4 l4) k3 l3) (h1.2.1 c2) ((h2 h1.1).1 c2)), (fun c2 => hQ _ _  (h1.2.2 c2) ((h2 h1.1).2 c2))⟩⟩
def fw_27 (a1 : Int) (Q : Int → lf_Z → Prop) (s : lf_Z) : Prop := fw_15 a1 0 (s.1 31 1) (fun z22 s21 => ((z22 = true → (Q a1 (lf_up s21.1 31 1 a1, s21.2.1, s21.2.2))) ∧ (z22 = false → (Q (-1) s21)))) s
theorem cj_27 {Q1 Q2 Q3 : Int → lf_Z → Prop} {a1 : Int} {s : lf_Z} (hQ : ∀ (r : Int) (s : lf_Z), Q1 r s → Q2 r s → Q3 r s) (h1 : fm_27 a1 Q1 s) (h2 : fw_27 a1 Q2 s) : fm_27 a1 Q3 s := by
  unfold fm_27 at h1 ⊢
  unfold fw_27 at h2
  exact cj_15 (fun z22 s21 k1 l1 => ⟨(fun c2 => hQ _ _  (k1.1 c2) (l1.1 c2)), (fun c2 => hQ _ _  (k1.2 c2) (l1.2 c2))⟩) h1 h2
def fw_194 (a1 : Int) (Q : Int → lf_Z → Prop) (s : lf_Z) : Prop := fw_183 a1 0 (s.1 95 4) (fun z22 s21 => ((z22 = true → (Q a1 (lf_up s21.1 95 4 a1, s21.2.1, s21.2.2))) ∧ (z22 = false → (Q (-1) s21)))) s
theorem cj_194 {Q1 Q2 Q3 : Int → lf_Z → Prop} {a1 : Int} {s : lf_Z} (hQ : ∀ (r : Int) (s : lf_Z), Q1 r s → Q2 r s → Q3 r s) (h1 : fm_194 a1 Q1 s) (h2 : fw_194 a1 Q2 s) : fm_194 a1 Q3 s := by
  unfold fm_194 at h1 ⊢
  unfold fw_194 at h2
  exact cj_183 (fun z22 s21 k1 l1 => ⟨(fun c2 => hQ _ _  (k1.1 c2) (l1.1 c2)), (fun c2 => hQ _ _  (k1.2 c2) (l1.2 c2))⟩) h1 h2
def fw_30 (t0 : Nat) (Q : lf_Z → Prop) (s : lf_Z) : Prop := Q (lf_fl (lf_up (lf_up s.1 (35 + 7 * t0) 1 0) (35 + 7 * t0) 7 0) (37 + 7 * t0) 3 (-1), s.2.1, s.2.2)
theorem cj_30 {Q1 Q2 Q3 : lf_Z → Prop} {t0 : Nat} {s : lf_Z} (hQ : ∀ (s : lf_Z), Q1 s → Q2 s → Q3 s) (h1 : fm_30 t0 Q1 s) (h2 : fw_30 t0 Q2 s) : fm_30 t0 Q3 s := by
  unfold fm_30 at h1 ⊢
  unfold fw_30 at h2
  exact hQ _  h1 h2
def fw_32 (a0 : Int) (Q : Bool → lf_Z → Prop) (s : lf_Z) : Prop := lf_R a0 → ((a0 < 48 → (Q false s)) ∧ (¬ (a0 < 48) → ((57 < a0 → (Q false s)) ∧ (¬ (57 < a0) → (Q true s)))))
theorem cj_32 {Q1 Q2 Q3 : Bool → lf_Z → Prop} {a0 : Int} {s : lf_Z} (hQ : ∀ (r : Bool) (s : lf_Z), Q1 r s → Q2 r s → Q3 r s) (h1 : fm_32 a0 Q1 s) (h2 : fw_32 a0 Q2 s) : fm_32 a0 Q3 s := by
  unfold fm_32 at h1 ⊢
  unfold fw_32 at h2
  exact ⟨h1.1, ⟨(fun c2 => hQ _ _  (h1.2.1 c2) ((h2 h1.1).1 c2)), (fun c2 => ⟨(fun c4 => hQ _ _  ((h1.2.2 c2).1 c4) (((h2 h1.1).2 c2).1 c4)), (fun c4 => hQ _ _  ((h1.2.2 c2).2 c4) (((h2 h1.1).2 c2).2 c4))⟩)⟩⟩
def fw_34_p12 (Q : Bool → lf_Z → Prop) (x0 : Int) (s : lf_Z) : Prop := lf_R x0 → ((x0 < 65 → (Q false s)) ∧ (¬ (x0 < 65) → ((90 < x0 → (Q false s)) ∧ (¬ (90 < x0) → (Q true s)))))
theorem cj_34_p12 {Q1 Q2 Q3 : Bool → lf_Z → Prop} {x0 : Int} {s : lf_Z} (hQ : ∀ (r : Bool) (s : lf_Z), Q1 r s → Q2 r s → Q3 r s) (h1 : fm_34_p12 Q1 x0 s) (h2 : fw_34_p12 Q2 x0 s) : fm_34_p12 Q3 x0 s := by
  unfold fm_34_p12 at h1 ⊢
  unfold fw_34_p12 at h2
  exact ⟨h1.1, ⟨(fun c2 => hQ _ _  (h1.2.1 c2) ((h2 h1.1).1 c2)), (fun c2 => ⟨(fun c4 => hQ _ _  ((h1.2.2 c2).1 c4) (((h2 h1.1).2 c2).1 c4)), (fun c4 => hQ _ _  ((h1.2.2 c2).2 c4) (((h2 h1.1).2 c2).2 c4))⟩)⟩⟩
def fw_34 (a0 : Int) (Q : Bool → lf_Z → Prop) (s : lf_Z) : Prop := lf_R a0 → ((a0 < 97 → (fw_34_p12 Q a0 s)) ∧ (¬ (a0 < 97) → ((a0 ≤ 122 → (Q true s)) ∧ (¬ (a0 ≤ 122) → (fw_34_p12 Q a0 s)))))
theorem cj_34 {Q1 Q2 Q3 : Bool → lf_Z → Prop} {a0 : Int} {s : lf_Z} (hQ : ∀ (r : Bool) (s : lf_Z), Q1 r s → Q2 r s → Q3 r s) (h1 : fm_34 a0 Q1 s) (h2 : fw_34 a0 Q2 s) : fm_34 a0 Q3 s := by
  unfold fm_34 at h1 ⊢
  unfold fw_34 at h2
  exact ⟨h1.1, ⟨(fun c2 => cj_34_p12 hQ (h1.2.1 c2) ((h2 h1.1).1 c2)), (fun c2 => ⟨(fun c4 => hQ _ _  ((h1.2.2 c2).1 c4) (((h2 h1.1).2 c2).1 c4)), (fun c4 => cj_34_p12 hQ ((h1.2.2 c2).2 c4) (((h2 h1.1).2 c2).2 c4))⟩)⟩⟩
def fw_37_p311 (Q : lf_Z → Prop) (s : lf_Z) : Prop := Q (lf_up s.1 31 8 1, s.2.1, s.2.2)
theorem cj_37_p311 {Q1 Q2 Q3 : lf_Z → Prop} {s : lf_Z} (hQ : ∀ (s : lf_Z), Q1 s → Q2 s → Q3 s) (h1 : fm_37_p311 Q1 s) (h2 : fw_37_p311 Q2 s) : fm_37_p311 Q3 s := by
  unfold fm_37_p311 at h1 ⊢
  unfold fw_37_p311 at h2
  exact hQ _  h1 h2
def fw_37_p206 (Q : lf_Z → Prop) (y1 : Int) (s : lf_Z) : Prop := Q (lf_up s.1 31 8 y1, s.2.1, s.2.2)
theorem cj_37_p206 {Q1 Q2 Q3 : lf_Z → Prop} {y1 : Int} {s : lf_Z} (hQ : ∀ (s : lf_Z), Q1 s → Q2 s → Q3 s) (h1 : fm_37_p206 Q1 y1 s) (h2 : fw_37_p206 Q2 y1 s) : fm_37_p206 Q3 y1 s := by
  unfold fm_37_p206 at h1 ⊢
  unfold fw_37_p206 at h2
  exact hQ _  h1 h2
def fw_37_p224 (Q : lf_Z → Prop) (y1 : Int) (s : lf_Z) : Prop := Q (lf_up s.1 31 8 y1, s.2.1, s.2.2)
theorem cj_37_p224 {Q1 Q2 Q3 : lf_Z → Prop} {y1 : Int} {s : lf_Z} (hQ : ∀ (s : lf_Z), Q1 s → Q2 s → Q3 s) (h1 : fm_37_p224 Q1 y1 s) (h2 : fw_37_p224 Q2 y1 s) : fm_37_p224 Q3 y1 s := by
  unfold fm_37_p224 at h1 ⊢
  unfold fw_37_p224 at h2
  exact hQ _  h1 h2
def fw_37_p67 (Q : lf_Z → Prop) (x1 : Int) (x2 : Int) (s : lf_Z) : Prop := lf_R x1 → ((x1 < 35 ∨ 62 < x1 → (fw_37_p311 Q s)) ∧ (x1 = 35 → (Q (lf_up s.1 31 8 9, s.2.1, s.2.2))) ∧ (x1 = 36 → (fw_37_p311 Q s)) ∧ (x1 = 37 → (fw_37_p311 Q s)) ∧ (x1 = 38 → (fw_37_p311 Q s)) ∧ (x1 = 39 → (fw_37_p311 Q s)) ∧ (x1 = 40 → (Q (lf_up s.1 31 8 14, s.2.1, s.2.2))) ∧ (x1 = 41 → (Q (lf_up s.1 31 8 15, s.2.1, s.2.2))) ∧ (x1 = 42 → (Q (lf_up s.1 31 8 12, s.2.1, s.2.2))) ∧ (x1 = 43 → (Q (lf_up s.1 31 8 10, s.2.1, s.2.2))) ∧ (x1 = 44 → (fw_37_p311 Q s)) ∧ (x1 = 45 → (Q (lf_up s.1 31 8 11, s.2.1, s.2.2))) ∧ (x1 = 46 → (fw_37_p311 Q s)) ∧ (x1 = 47 → (Q (lf_up s.1 31 8 13, s.2.1, s.2.2))) ∧ (x1 = 48 → (fw_37_p311 Q s)) ∧ (x1 = 49 → (fw_37_p311 Q s)) ∧ (x1 = 50 → (fw_37_p311 Q s)) ∧ (x1 = 51 → (fw_37_p311 Q s)) ∧ (x1 = 52 → (fw_37_p311 Q s)) ∧ (x1 = 53 → (fw_37_p311 Q s)) ∧ (x1 = 54 → (fw_37_p311 Q s)) ∧ (x1 = 55 → (fw_37_p311 Q s)) ∧ (x1 = 56 → (fw_37_p311 Q s)) ∧ (x1 = 57 → (fw_37_p311 Q s)) ∧ (x1 = 58 → (fw_37_p311 Q s)) ∧ (x1 = 59 → (Q (lf_up s.1 31 8 16, s.2.1, s.2.2))) ∧ (x1 = 60 → (lf_R x2 → ((x2 = 0 → (fw_37_p206 Q 4 s)) ∧ (¬ (x2 = 0) → (fw_37_p206 Q 5 s))))) ∧ (x1 = 61 → (Q (lf_up s.1 31 8 8, s.2.1, s.2.2))) ∧ (x1 = 62 → (lf_R x2 → ((x2 = 0 → (fw_37_p224 Q 6 s)) ∧ (¬ (x2 = 0) → (fw_37_p224 Q 7 s))))))
theorem cj_37_p67 {Q1 Q2 Q3 : lf_Z → Prop} {x1 : Int} {x2 : Int} {s : lf_Z} (hQ : ∀ (s : lf_Z), Q1 s → Q2 s → Q3 s) (h1 : fm_37_p67 Q1 x1 x2 s) (h2 : fw_37_p67 Q2 x1 x2 s) : fm_37_p67 Q3 x1 x2 s := by
  unfold fm_37_p67 at h1 ⊢
  unfold fw_37_p67 at h2
  exact ⟨h1.1, ⟨(fun c2 => cj_37_p311 hQ (h1.2.1 c2) ((h2 h1.1).1 c2)), (fun c2 => hQ _  (h1.2.2.1 c2) ((h2 h1.1).2.1 c2)), (fun c2 => cj_37_p311 hQ (h1.2.2.2.1 c2) ((h2 h1.1).2.2.1 c2)), (fun c2 => cj_37_p311 hQ (h1.2.2.2.2.1 c2) ((h2 h1.1).2.2.2.1 c2)), (fun c2 => cj_37_p311 hQ (h1.2.2.2.2.2.1 c2) ((h2 h1.1).2.2.2.2.1 c2)), (fun c2 => cj_37_p311 hQ (h1.2.2.2.2.2.2.1 c2) ((h2 h1.1).2.2.2.2.2.1 c2)), (fun c2 => hQ _  (h1.2.2.2.2.2.2.2.1 c2) ((h2 h1.1).2.2.2.2.2.2.1 c2)), (fun c2 => hQ _  (h1.2.2.2.2.2.2.2.2.1 c2) ((h2 h1.1).2.2.2.2.2.2.2.1 c2)), (fun c2 => hQ _  (h1.2.2.2.2.2.2.2.2.2.1 c2) ((h2 h1.1).2.2.2.2.2.2.2.2.1 c2)), (fun c2 => hQ _  (h1.2.2.2.2.2.2.2.2.2.2.1 c2) ((h2 h1.1).2.2.2.2.2.2.2.2.2.1 c2)), (fun c2 => cj_37_p311 hQ (h1.2.2.2.2.2.2.2.2.2.2.2.1 c2) ((h2 h1.1).2.2.2.2.2.2.2.2.2.2.1 c2)), (fun c2 => hQ _  (h1.2.2.2.2.2.2.2.2.2.2.2.2.1 c2) ((h2 h1.1).2.2.2.2.2.2.2.2.2.2.2.1 c2)), (fun c2 => cj_37_p311 hQ (h1.2.2.2.2.2.2.2.2.2.2.2.2.2.1 c2) ((h2 h1.1).2.2.2.2.2.2.2.2.2.2.2.2.1 c2)), (fun c2 => hQ _  (h1.2.2.2.2.2.2.2.2.2.2.2.2.2.2.1 c2) ((h2 h1.1).2.2.2.2.2.2.2.2.2.2.2.2.2.1 c2)), (fun c2 => cj_37_p311 hQ (h1.2.2.2.2.2.2.2.2.2.2.2.2.2.2.2.1 c2) ((h2 h1.1).2.2.2.2.2.2.2.2.2.2.2.2.2.2.1 c2)), (fun c2 => cj_37_p311 hQ (h1.2.2.2.2.2.2.2.2.2.2.2.2.2.2.2.2.1 c2) ((h2 h1.1).2.2.2.2.2.2.2.2.2.2.2.2.2.2.2.1 c2)), (fun c2 => cj_37_p311 hQ (h1.2.2.2.2.2.2.2.2.2.2.2.2.2.2.2.2.2.1 c2) ((h2 h1.1).2.2.2.2.2.2.2.2.2.2.2.2.2.2.2.2.1 c2)), (fun c2 => cj_37_p311 hQ (h1.2.2.2.2.2.2.2.2.2.2.2.2.2.2.2.2.2.2.1 c2) ((h2 h1.1).2.2.2.2.2.2.2.2.2.2.2.2.2.2.2.2.2.1 c2)), (fun c2 => cj_37_p311 hQ (h1.2.2.2.2.2.2.2.2.2.2.2.2.2.2.2.2.2.2.2.1 c2) ((h2 h1.1).2.2.2.2.2.2.2.2.2.2.2.2.2.2.2.2.2.2.1 c2)), (fun c2 => cj_37_p311 hQ (h1.2.2.2.2.2.2.2.2.2.2.2.2.2.2.2.2.2.2.2.2.1 c2) ((h2 h1.1).2.2.2.2.2.2.2.2.2.2.2.2.2.2.2.2.2.2.2.1 c2)), (fun c2 => cj_37_p311 hQ (h1.2.2.2.2.2.2.2.2.2.2.2.2.2.2.2.2.2.2.2.2.2.1 c2) ((h2 h1.1).2.2.2.2.2.2.2.2.2.2.2.2.2.2.2.2.2.2.2.2.1 c2)), (fun c2 => cj_37_p311 hQ (h1.2.2.2.2.2.2.2.2.2.2.2.2.2.2.2.2.2.2.2.2.2.2.1 c2) ((h2 h1.1).2.2.2.2.2.2.2.2.2.2.2.2.2.2.2.2.2.2.2.2.2.1 c2)), (fun c2 => cj_37_p311 hQ (h1.2.2.2.2.2.2.2.2.2.2.2.2.2.2.2.2.2.2.2.2.2.2.2.1 c2) ((h2 h1.1).2.2.2.2.2.2.2.2.2.2.2.2.2.2.2.2.2.2.2.2.2.2.1 c2)), (fun c2 => cj_37_p311 hQ (h1.2.2.2.2.2.2.2.2.2.2.2.2.2.2.2.2.2.2.2.2.2.2.2.2.1 c2) ((h2 h1.1).2.2.2.2.2.2.2.2.2.2.2.2.2.2.2.2.2.2.2.2.2.2.2.1 c2)), (fun c2 => cj_37_p311 hQ (h1.2.2.2.2.2.2.2.2.2.2.2.2.2.2.2.2.2.2.2.2.2.2.2.2.2.1 c2) ((h2 h1.1).2.2.2.2.2.2.2.2.2.2.2.2.2.2.2.2.2.2.2.2.2.2.2.2.1 c2)), (fun c2 => hQ _  (h1.2.2.2.2.2.2.2.2.2.2.2.2.2.2.2.2.2.2.2.2.2.2.2.2.2.2.1 c2) ((h2 h1.1).2.2.2.2.2.2.2.2.2.2.2.2.2.2.2.2.2.2.2.2.2.2.2.2.2.1 c2)), (fun c2 => ⟨(h1.2.2.2.2.2.2.2.2.2.2.2.2.2.2.2.2.2.2.2.2.2.2.2.2.2.2.2.1 c2).1, ⟨(fun c30 => cj_37_p206 hQ ((h1.2.2.2.2.2.2.2.2.2.2.2.2.2.2.2.2.2.2.2.2.2.2.2.2.2.2.2.1 c2).2.1 c30) ((((h2 h1.1).2.2.2.2.2.2.2.2.2.2.2.2.2.2.2.2.2.2.2.2.2.2.2.2.2.2.1 c2) (h1.2.2.2.2.2.2.2.2.2.2.2.2.2.2.2.2.2.2.2.2.2.2.2.2.2.2.2.1 c2).1).1 c30)), (fun c30 => cj_37_p206 hQ ((h1.2.2.2.2.2.2.2.2.2.2.2.2.2.2.2.2.2.2.2.2.2.2.2.2.2.2.2.1 c2).2.2 c30) ((((h2 h1.1).2.2.2.2.2.2.2.2.2.2.2.2.2.2.2.2.2.2.2.2.2.2.2.2.2.2.1 c2) (h1.2.2.2.2.2.2.2.2.2.2.2.2.2.2.2.2.2.2.2.2.2.2.2.2.2.2.2.1 c2).1).2 c30))⟩⟩), (fun c2 => hQ _  (h1.2.2.2.2.2.2.2.2.2.2.2.2.2.2.2.2.2.2.2.2.2.2.2.2.2.2.2.2.1 c2) ((h2 h1.1).2.2.2.2.2.2.2.2.2.2.2.2.2.2.2.2.2.2.2.2.2.2.2.2.2.2.2.1 c2)), (fun c2 => ⟨(h1.2.2.2.2.2.2.2.2.2.2.2.2.2.2.2.2.2.2.2.2.2.2.2.2.2.2.2.2.2 c2).1, ⟨(fun c35 => cj_37_p224 hQ ((h1.2.2.2.2.2.2.2.2.2.2.2.2.2.2.2.2.2.2.2.2.2.2.2.2.2.2.2.2.2 c2).2.1 c35) ((((h2 h1.1).2.2.2.2.2.2.2.2.2.2.2.2.2.2.2.2.2.2.2.2.2.2.2.2.2.2.2.2 c2) (h1.2.2.2.2.2.2.2.2.2.2.2.2.2.2.2.2.2.2.2.2.2.2.2.2.2.2.2.2.2 c2).1).1 c35)), (fun c35 => cj_37_p224 hQ ((h1.2.2.2.2.2.2.2.2.2.2.2.2.2.2.2.2.2.2.2.2.2.2.2.2.2.2.2.2.2 c2).2.2 c35) ((((h2 h1.1).2.2.2.2.2.2.2.2.2.2.2.2.2.2.2.2.2.2.2.2.2.2.2.2.2.2.2.2 c2) (h1.2.2.2.2.2.2.2.2.2.2.2.2.2.2.2.2.2.2.2.2.2.2.2.2.2.2.2.2.2 c2).1).2 c35))⟩⟩)⟩⟩
def fw_37_p52 (Q : lf_Z → Prop) (x1 : Int) (y0 : Int) (s : lf_Z) : Prop := lf_R y0 → ((y0 = 0 → (fw_37_p67 Q x1 y0 s)) ∧ (¬ (y0 = 0) → (fw_37_p67 Q x1 y0 (lf_up s.1 31 7 ((s.1 31 7) + 1), s.2.1, s.2.2))))
theorem cj_37_p52 {Q1 Q2 Q3 : lf_Z → Prop} {x1 : Int} {y0 : Int} {s : lf_Z} (hQ : ∀ (s : lf_Z), Q1 s → Q2 s → Q3 s) (h1 : fm_37_p52 Q1 x1 y0 s) (h2 : fw_37_p52 Q2 x1 y0 s) : fm_37_p52 Q3 x1 y0 s := by
  unfold fm_37_p52 at h1 ⊢
  unfold fw_37_p52 at h2
  exact ⟨h1.1, ⟨(fun c2 => cj_37_p67 hQ (h1.2.1 c2) ((h2 h1.1).1 c2)), (fun c2 => cj_37_p67 hQ (h1.2.2 c2) ((h2 h1.1).2 c2))⟩⟩
def fw_37_p51 (Q : lf_Z → Prop) (x1 : Int) (s : lf_Z) : Prop := fw_37_p52 Q x1 0 s
theorem cj_37_p51 {Q1 Q2 Q3 : lf_Z → Prop} {x1 : Int} {s : lf_Z} (hQ : ∀ (s : lf_Z), Q1 s → Q2 s → Q3 s) (h1 : fm_37_p51 Q1 x1 s) (h2 : fw_37_p51 Q2 x1 s) : fm_37_p51 Q3 x1 s := by
  unfold fm_37_p51 at h1 ⊢
  unfold fw_37_p51 at h2
  exact cj_37_p52 hQ h1 h2
def fw_37_p47 (Q : lf_Z → Prop) (x1 : Int) (s : lf_Z) : Prop := fw_37_p52 Q x1 1 s
theorem cj_37_p47 {Q1 Q2 Q3 : lf_Z → Prop} {x1 : Int} {s : lf_Z} (hQ : ∀ (s : lf_Z), Q1 s → Q2 s → Q3 s) (h1 : fm_37_p47 Q1 x1 s) (h2 : fw_37_p47 Q2 x1 s) : fm_37_p47 Q3 x1 s := by
  unfold fm_37_p47 at h1 ⊢
  unfold fw_37_p47 at h2
  exact cj_37_p52 hQ h1 h2
def fw_37 (a1 : Int) (Q : lf_Z → Prop) (s : lf_Z) : Prop := lf_R ((s.1 31 7) + 1) → (lf_R (s.1 31 1) → ((s.1 31 1 ≤ (s.1 31 7) + 1 → (fw_37_p51 Q a1 (lf_up s.1 31 7 ((s.1 31 7) + 1), s.2.1, s.2.2))) ∧ (¬ (s.1 31 1 ≤ (s.1 31 7) + 1) → ((0 ≤ (s.1 31 7) + 1 ∧ (s.1 31 7) + 1 < 300) → (lf_R (s.1 32 ((s.1 31 7) + 1)) → ((s.1 32 ((s.1 31 7) + 1) ≠ 61 → (fw_37_p51 Q a1 (lf_up s.1 31 7 ((s.1 31 7) + 1), s.2.1, s.2.2))) ∧ (¬ (s.1 32 ((s.1 31 7) + 1) ≠ 61) → (lf_R a1 → ((a1 = 60 → (fw_37_p47 Q a1 (lf_up s.1 31 7 ((s.1 31 7) + 1), s.2.1, s.2.2))) ∧ (¬ (a1 = 60) → ((a1 ≠ 62 → (fw_37_p51 Q a1 (lf_up s.1 31 7 ((s.1 31 7) + 1), s.2.1, s.2.2))) ∧ (¬ (a1 ≠ 62) → (fw_37_p47 Q a1 (lf_up s.1 31 7 ((s.1 31 7) + 1), s.2.1, s.2.2))))))))))))))
theorem cj_37 {Q1 Q2 Q3 : lf_Z → Prop} {a1 : Int} {s : lf_Z} (hQ : ∀ (s : lf_Z), Q1 s → Q2 s → Q3 s) (h1 : fm_37 a1 Q1 s) (h2 : fw_37 a1 Q2 s) : fm_37 a1 Q3 s := by
  unfold fm_37 at h1 ⊢
  unfold fw_37 at h2
  exact ⟨h1.1, ⟨h1.2.1, ⟨(fun c3 => cj_37_p51 hQ (h1.2.2.1 c3) (((h2 h1.1) h1.2.1).1 c3)), (fun c3 => ⟨(h1.2.2.2 c3).1, ⟨(h1.2.2.2 c3).2.1, ⟨(fun c7 => cj_37_p51 hQ ((h1.2.2.2 c3).2.2.1 c7) ((((((h2 h1.1) h1.2.1).2 c3) (h1.2.2.2 c3).1) (h1.2.2.2 c3).2.1).1 c7)), (fun c7 => ⟨((h1.2.2.2 c3).2.2.2 c7).1, ⟨(fun c10 => cj_37_p47 hQ (((h1.2.2.2 c3).2.2.2 c7).2.1 c10) ((((((((h2 h1.1) h1.2.1).2 c3) (h1.2.2.2 c3).1) (h1.2.2.2 c3).2.1).2 c7) ((h1.2.2.2 c3).2.2.2 c7).1).1 c10)), (fun c10 => ⟨(fun c12 => cj_37_p51 hQ ((((h1.2.2.2 c3).2.2.2 c7).2.2 c10).1 c12) (((((((((h2 h1.1) h1.2.1).2 c3) (h1.2.2.2 c3).1) (h1.2.2.2 c3).2.1).2 c7) ((h1.2.2.2 c3).2.2.2 c7).1).2 c10).1 c12)), (fun c12 => cj_37_p47 hQ ((((h1.2.2.2 c3).2.2.2 c7).2.2 c10).2 c12) (((((((((h2 h1.1) h1.2.1).2 c3) (h1.2.2.2 c3).1) (h1.2.2.2 c3).2.1).2 c7) ((h1.2.2.2 c3).2.2.2 c7).1).2 c10).2 c12))⟩)⟩⟩)⟩⟩⟩)⟩⟩⟩
def fw_36_p98 (X13 : Int → Int → Int → Int → lf_Z → Prop) (Q : Int → lf_Z → Prop) (x1 : Int) (x2 : Int) (x3 : Int) (x4 : Int) (s : lf_Z) : Prop := X13 x1 x2 x3 (x4 + 1) s
theorem cj_36_p98 {X131 X132 X133 : Int → Int → Int → Int → lf_Z → Prop} {Q1 Q2 Q3 : Int → lf_Z → Prop} {x1 : Int} {x2 : Int} {x3 : Int} {x4 : Int} {s : lf_Z} (hX13 : ∀ (v0 : Int) (v1 : Int) (v2 : Int) (v3 : Int) (v4 : lf_Z), X131 v0 v1 v2 v3 v4 → X132 v0 v1 v2 v3 v4 → X133 v0 v1 v2 v3 v4) (hQ : ∀ (r : Int) (s : lf_Z), Q1 r s → Q2 r s → Q3 r s) (h1 : fm_36_p98 X131 Q1 x1 x2 x3 x4 s) (h2 : fw_36_p98 X132 Q2 x1 x2 x3 x4 s) : fm_36_p98 X133 Q3 x1 x2 x3 x4 s := by
  unfold fm_36_p98 at h1 ⊢
  unfold fw_36_p98 at h2
  exact hX13 _ _ _ _ _  h1 h2
def fw_36_p88 (X13 : Int → Int → Int → Int → lf_Z → Prop) (Q : Int → lf_Z → Prop) (x1 : Int) (x4 : Int) (s : lf_Z) : Prop := fw_36_p98 X13 Q (x1 + 1) (s.1 31 9) 1 x4 s
theorem cj_36_p88 {X131 X132 X133 : Int → Int → Int → Int → lf_Z → Prop} {Q1 Q2 Q3 : Int → lf_Z → Prop} {x1 : Int} {x4 : Int} {s : lf_Z} (hX13 : ∀ (v0 : Int) (v1 : Int) (v2 : Int) (v3 : Int) (v4 : lf_Z), X131 v0 v1 v2 v3 v4 → X132 v0 v1 v2 v3 v4 → X133 v0 v1 v2 v3 v4) (hQ : ∀ (r : Int) (s : lf_Z), Q1 r s → Q2 r s → Q3 r s) (h1 : fm_36_p88 X131 Q1 x1 x4 s) (h2 : fw_36_p88 X132 Q2 x1 x4 s) : fm_36_p88 X133 Q3 x1 x4 s := by
  unfold fm_36_p88 at h1 ⊢
  unfold fw_36_p88 at h2
  exact cj_36_p98 hX13 hQ h1 h2
def fw_36_p67 (X13 : Int → Int → Int → Int → lf_Z → Prop) (Q : Int → lf_Z → Prop) (x1 : Int) (x2 : Int) (x4 : Int) (y0 : Int) (s : lf_Z) : Prop := fw_36_p98 X13 Q x1 (x2 + 1) y0 x4 s
theorem cj_36_p67 {X131 X132 X133 : Int → Int → Int → Int → lf_Z → Prop} {Q1 Q2 Q3 : Int → lf_Z → Prop} {x1 : Int} {x2 : Int} {x4 : Int} {y0 : Int} {s : lf_Z} (hX13 : ∀ (v0 : Int) (v1 : Int) (v2 : Int) (v3 : Int) (v4 : lf_Z), X131 v0 v1 v2 v3 v4 → X132 v0 v1 v2 v3 v4 → X133 v0 v1 v2 v3 v4) (hQ : ∀ (r : Int) (s : lf_Z), Q1 r s → Q2 r s → Q3 r s) (h1 : fm_36_p67 X131 Q1 x1 x2 x4 y0 s) (h2 : fw_36_p67 X132 Q2 x1 x2 x4 y0 s) : fm_36_p67 X133 Q3 x1 x2 x4 y0 s := by
  unfold fm_36_p67 at h1 ⊢
  unfold fw_36_p67 at h2
  exact cj_36_p98 hX13 hQ h1 h2
def fw_36_p66 (X13 : Int → Int → Int → Int → lf_Z → Prop) (Q : Int → lf_Z → Prop) (x1 : Int) (x2 : Int) (x4 : Int) (s : lf_Z) : Prop := fw_36_p67 X13 Q x1 x2 x4 0 s
theorem cj_36_p66 {X131 X132 X133 : Int → Int → Int → Int → lf_Z → Prop} {Q1 Q2 Q3 : Int → lf_Z → Prop} {x1 : Int} {x2 : Int} {x4 : Int} {s : lf_Z} (hX13 : ∀ (v0 : Int) (v1 : Int) (v2 : Int) (v3 : Int) (v4 : lf_Z), X131 v0 v1 v2 v3 v4 → X132 v0 v1 v2 v3 v4 → X133 v0 v1 v2 v3 v4) (hQ : ∀ (r : Int) (s : lf_Z), Q1 r s → Q2 r s → Q3 r s) (h1 : fm_36_p66 X131 Q1 x1 x2 x4 s) (h2 : fw_36_p66 X132 Q2 x1 x2 x4 s) : fm_36_p66 X133 Q3 x1 x2 x4 s := by
  unfold fm_36_p66 at h1 ⊢
  unfold fw_36_p66 at h2
  exact cj_36_p67 hX13 hQ h1 h2
def fw_36_p13 (Q : Int → lf_Z → Prop) (X13 : Int → Int → Int → Int → lf_Z → Prop) (x1 : Int) (x2 : Int) (x3 : Int) (x4 : Int) (s : lf_Z) : Prop := lf_R x4 → ((180 ≤ x4 → (Q 1 s)) ∧ (¬ (180 ≤ x4) → ((0 ≤ x4 ∧ x4 < 180) → (((ps_byt.getD (x4).toNat 0).toInt = 32 → (lf_R x3 → ((x3 = 0 → (fw_36_p88 X13 Q x1 x4 s)) ∧ (¬ (x3 = 0) → (lf_R x2 → (lf_R (s.1 31 7) → ((x2 ≠ s.1 31 7 → (fw_36_p88 X13 Q x1 x4 s)) ∧ (¬ (x2 ≠ s.1 31 7) → (Q x1 s))))))))) ∧ (¬ ((ps_byt.getD (x4).toNat 0).toInt = 32) → (lf_R x3 → ((x3 = 0 → (fw_36_p66 X13 Q x1 x2 x4 s)) ∧ (¬ (x3 = 0) → (lf_R x2 → (lf_R (s.1 31 7) → ((s.1 31 7 ≤ x2 → (fw_36_p66 X13 Q x1 x2 x4 s)) ∧ (¬ (s.1 31 7 ≤ x2) → ((0 ≤ x2 ∧ x2 < 300) → (lf_R (s.1 32 x2) → ((s.1 32 x2 ≠ (ps_byt.getD (x4).toNat 0).toInt → (fw_36_p66 X13 Q x1 x2 x4 s)) ∧ (¬ (s.1 32 x2 ≠ (ps_byt.getD (x4).toNat 0).toInt) → (fw_36_p67 X13 Q x1 x2 x4 1 s)))))))))))))))))
theorem cj_36_p13 {X131 X132 X133 : Int → Int → Int → Int → lf_Z → Prop} {Q1 Q2 Q3 : Int → lf_Z → Prop} {x1 : Int} {x2 : Int} {x3 : Int} {x4 : Int} {s : lf_Z} (hX13 : ∀ (v0 : Int) (v1 : Int) (v2 : Int) (v3 : Int) (v4 : lf_Z), X131 v0 v1 v2 v3 v4 → X132 v0 v1 v2 v3 v4 → X133 v0 v1 v2 v3 v4) (hQ : ∀ (r : Int) (s : lf_Z), Q1 r s → Q2 r s → Q3 r s) (h1 : fm_36_p13 Q1 X131 x1 x2 x3 x4 s) (h2 : fw_36_p13 Q2 X132 x1 x2 x3 x4 s) : fm_36_p13 Q3 X133 x1 x2 x3 x4 s := by
  unfold fm_36_p13 at h1 ⊢
  unfold fw_36_p13 at h2
  exact ⟨h1.1, ⟨(fun c2 => hQ _ _  (h1.2.1 c2) ((h2 h1.1).1 c2)), (fun c2 => ⟨(h1.2.2 c2).1, ⟨(fun c5 => ⟨((h1.2.2 c2).2.1 c5).1, ⟨(fun c7 => cj_36_p88 hX13 hQ (((h1.2.2 c2).2.1 c5).2.1 c7) ((((((h2 h1.1).2 c2) (h1.2.2 c2).1).1 c5) ((h1.2.2 c2).2.1 c5).1).1 c7)), (fun c7 => ⟨(((h1.2.2 c2).2.1 c5).2.2 c7).1, ⟨(((h1.2.2 c2).2.1 c5).2.2 c7).2.1, ⟨(fun c11 => cj_36_p88 hX13 hQ ((((h1.2.2 c2).2.1 c5).2.2 c7).2.2.1 c11) (((((((((h2 h1.1).2 c2) (h1.2.2 c2).1).1 c5) ((h1.2.2 c2).2.1 c5).1).2 c7) (((h1.2.2 c2).2.1 c5).2.2 c7).1) (((h1.2.2 c2).2.1 c5).2.2 c7).2.1).1 c11)), (fun c11 => hQ _ _  ((((h1.2.2 c2).2.1 c5).2.2 c7).2.2.2 c11) (((((((((h2 h1.1).2 c2) (h1.2.2 c2).1).1 c5) ((h1.2.2 c2).2.1 c5).1).2 c7) (((h1.2.2 c2).2.1 c5).2.2 c7).1) (((h1.2.2 c2).2.1 c5).2.2 c7).2.1).2 c11))⟩⟩⟩)⟩⟩), (fun c5 => ⟨((h1.2.2 c2).2.2 c5).1, ⟨(fun c15 => cj_36_p66 hX13 hQ (((h1.2.2 c2).2.2 c5).2.1 c15) ((((((h2 h1.1).2 c2) (h1.2.2 c2).1).2 c5) ((h1.2.2 c2).2.2 c5).1).1 c15)), (fun c15 => ⟨(((h1.2.2 c2).2.2 c5).2.2 c15).1, ⟨(((h1.2.2 c2).2.2 c5).2.2 c15).2.1, ⟨(fun c19 => cj_36_p66 hX13 hQ ((((h1.2.2 c2).2.2 c5).2.2 c15).2.2.1 c19) (((((((((h2 h1.1).2 c2) (h1.2.2 c2).1).2 c5) ((h1.2.2 c2).2.2 c5).1).2 c15) (((h1.2.2 c2).2.2 c5).2.2 c15).1) (((h1.2.2 c2).2.2 c5).2.2 c15).2.1).1 c19)), (fun c19 => ⟨((((h1.2.2 c2).2.2 c5).2.2 c15).2.2.2 c19).1, ⟨((((h1.2.2 c2).2.2 c5).2.2 c15).2.2.2 c19).2.1, ⟨(fun c23 => cj_36_p66 hX13 hQ (((((h1.2.2 c2).2.2 c5).2.2 c15).2.2.2 c19).2.2.1 c23) ((((((((((((h2 h1.1).2 c2) (h1.2.2 c2).1).2 c5) ((h1.2.2 c2).2.2 c5).1).2 c15) (((h1.2.2 c2).2.2 c5).2.2 c15).1) (((h1.2.2 c2).2.2 c5).2.2 c15).2.1).2 c19) ((((h1.2.2 c2).2.2 c5).2.2 c15).2.2.2 c19).1) ((((h1.2.2 c2).2.2 c5).2.2 c15).2.2.2 c19).2.1).1 c23)), (fun c23 => cj_36_p67 hX13 hQ (((((h1.2.2 c2).2.2 c5).2.2 c15).2.2.2 c19).2.2.2 c23) ((((((((((((h2 h1.1).2 c2) (h1.2.2 c2).1).2 c5) ((h1.2.2 c2).2.2 c5).1).2 c15) (((h1.2.2 c2).2.2 c5).2.2 c15).1) (((h1.2.2 c2).2.2 c5).2.2 c15).2.1).2 c19) ((((h1.2.2 c2).2.2 c5).2.2 c15).2.2.2 c19).1) ((((h1.2.2 c2).2.2 c5).2.2 c15).2.2.2 c19).2.1).2 c23))⟩⟩⟩)⟩⟩⟩)⟩⟩)⟩⟩)⟩⟩
def fw_36_p13L (Q : Int → lf_Z → Prop) (x1 : Int) (x2 : Int) (x3 : Int) (x4 : Int) (s : lf_Z) : Prop := ∃ X13 : Int → Int → Int → Int → lf_Z → Prop, (∀ (x1 : Int) (x2 : Int) (x3 : Int) (x4 : Int) (s : lf_Z), X13 x1 x2 x3 x4 s → fw_36_p13 Q X13 x1 x2 x3 x4 s) ∧ X13 x1 x2 x3 x4 s
theorem cj_36_p13L {Q1 Q2 Q3 : Int → lf_Z → Prop} {x1 : Int} {x2 : Int} {x3 : Int} {x4 : Int} {s : lf_Z} (hQ : ∀ (r : Int) (s : lf_Z), Q1 r s → Q2 r s → Q3 r s) (h1 : fm_36_p13L Q1 x1 x2 x3 x4 s) (h2 : fw_36_p13L Q2 x1 x2 x3 x4 s) : fm_36_p13L Q3 x1 x2 x3 x4 s := by
  intro X0 hX0
  obtain ⟨Y, hY, hY0⟩ := h2
  exact h1 (fun v0 v1 v2 v3 s => Y v0 v1 v2 v3 s → X0 v0 v1 v2 v3 s) (fun v0 v1 v2 v3 s hb hy => hX0 v0 v1 v2 v3 s (cj_36_p13 (X131 := fun v0 v1 v2 v3 s => Y v0 v1 v2 v3 s → X0 v0 v1 v2 v3 s) (X132 := Y) (X133 := X0) (hX13 := fun v0 v1 v2 v3 s a b => a b) hQ hb (hY v0 v1 v2 v3 s hy))) hY0
def fw_36 (Q : Int → lf_Z → Prop) (s : lf_Z) : Prop := fw_36_p13L Q 20 (s.1 31 9) 1 0 s
theorem cj_36 {Q1 Q2 Q3 : Int → lf_Z → Prop} {s : lf_Z} (hQ : ∀ (r : Int) (s : lf_Z), Q1 r s → Q2 r s → Q3 r s) (h1 : fm_36 Q1 s) (h2 : fw_36 Q2 s) : fm_36 Q3 s := by
  unfold fm_36 at h1 ⊢
  unfold fw_36 at h2
  exact cj_36_p13L hQ h1 h2
def fw_35_p90 (Q : lf_Z → Prop) (s : lf_Z) : Prop := fw_36 (fun r26 s25 => (Q (lf_up s25.1 31 8 r26, s25.2.1, s25.2.2))) s
theorem cj_35_p90 {Q1 Q2 Q3 : lf_Z → Prop} {s : lf_Z} (hQ : ∀ (s : lf_Z), Q1 s → Q2 s → Q3 s) (h1 : fm_35_p90 Q1 s) (h2 : fw_35_p90 Q2 s) : fm_35_p90 Q3 s := by
  unfold fm_35_p90 at h1 ⊢
  unfold fw_35_p90 at h2
  exact cj_36 (fun r26 s25 k1 l1 => hQ _  k1 l1) h1 h2
def fw_35_p39 (Q : lf_Z → Prop) (s : lf_Z) : Prop := lf_R (s.1 31 7) → (lf_R ((s.1 31 9) + 1) → ((s.1 31 7 ≠ (s.1 31 9) + 1 → (fw_35_p90 Q s)) ∧ (¬ (s.1 31 7 ≠ (s.1 31 9) + 1) → ((0 ≤ s.1 31 9 ∧ s.1 31 9 < 300) → (lf_R (s.1 32 (s.1 31 9)) → ((s.1 32 (s.1 31 9) < 97 → (fw_35_p90 Q s)) ∧ (¬ (s.1 32 (s.1 31 9) < 97) → (Q (lf_up (lf_up s.1 31 8 3) 31 10 ((s.1 32 (s.1 31 9)) - 97), s.2.1, s.2.2)))))))))
theorem cj_35_p39 {Q1 Q2 Q3 : lf_Z → Prop} {s : lf_Z} (hQ : ∀ (s : lf_Z), Q1 s → Q2 s → Q3 s) (h1 : fm_35_p39 Q1 s) (h2 : fw_35_p39 Q2 s) : fm_35_p39 Q3 s := by
  unfold fm_35_p39 at h1 ⊢
  unfold fw_35_p39 at h2
  exact ⟨h1.1, ⟨h1.2.1, ⟨(fun c3 => cj_35_p90 hQ (h1.2.2.1 c3) (((h2 h1.1) h1.2.1).1 c3)), (fun c3 => ⟨(h1.2.2.2 c3).1, ⟨(h1.2.2.2 c3).2.1, ⟨(fun c7 => cj_35_p90 hQ ((h1.2.2.2 c3).2.2.1 c7) ((((((h2 h1.1) h1.2.1).2 c3) (h1.2.2.2 c3).1) (h1.2.2.2 c3).2.1).1 c7)), (fun c7 => hQ _  ((h1.2.2.2 c3).2.2.2 c7) ((((((h2 h1.1) h1.2.1).2 c3) (h1.2.2.2 c3).1) (h1.2.2.2 c3).2.1).2 c7))⟩⟩⟩)⟩⟩⟩
def fw_35_p0 (Q : lf_Z → Prop) (X0 : lf_Z → Prop) (s : lf_Z) : Prop := lf_R (s.1 31 7) → (lf_R (s.1 31 1) → ((s.1 31 1 ≤ s.1 31 7 → (fw_35_p39 Q s)) ∧ (¬ (s.1 31 1 ≤ s.1 31 7) → ((0 ≤ s.1 31 7 ∧ s.1 31 7 < 300) → (fw_34 (s.1 32 (s.1 31 7)) (fun z31 s30 => ((z31 = false → (fw_35_p39 Q s30)) ∧ (z31 = true → (X0 (lf_up s30.1 31 7 ((s30.1 31 7) + 1), s30.2.1, s30.2.2))))) s)))))
theorem cj_35_p0 {X01 X02 X03 : lf_Z → Prop} {Q1 Q2 Q3 : lf_Z → Prop} {s : lf_Z} (hX0 : ∀ (v0 : lf_Z), X01 v0 → X02 v0 → X03 v0) (hQ : ∀ (s : lf_Z), Q1 s → Q2 s → Q3 s) (h1 : fm_35_p0 Q1 X01 s) (h2 : fw_35_p0 Q2 X02 s) : fm_35_p0 Q3 X03 s := by
  unfold fm_35_p0 at h1 ⊢
  unfold fw_35_p0 at h2
  exact ⟨h1.1, ⟨h1.2.1, ⟨(fun c3 => cj_35_p39 hQ (h1.2.2.1 c3) (((h2 h1.1) h1.2.1).1 c3)), (fun c3 => ⟨(h1.2.2.2 c3).1, cj_34 (fun z31 s30 k6 l6 => ⟨(fun c7 => cj_35_p39 hQ (k6.1 c7) (l6.1 c7)), (fun c7 => hX0 _  (k6.2 c7) (l6.2 c7))⟩) (h1.2.2.2 c3).2 ((((h2 h1.1) h1.2.1).2 c3) (h1.2.2.2 c3).1)⟩)⟩⟩⟩
def fw_35_p0L (Q : lf_Z → Prop) (s : lf_Z) : Prop := ∃ X0 : lf_Z → Prop, (∀ (s : lf_Z), X0 s → fw_35_p0 Q X0 s) ∧ X0 s
theorem cj_35_p0L {Q1 Q2 Q3 : lf_Z → Prop} {s : lf_Z} (hQ : ∀ (s : lf_Z), Q1 s → Q2 s → Q3 s) (h1 : fm_35_p0L Q1 s) (h2 : fw_35_p0L Q2 s) : fm_35_p0L Q3 s := by
  intro X0 hX0
  obtain ⟨Y, hY, hY0⟩ := h2
  exact h1 (fun  s => Y  s → X0  s) (fun  s hb hy => hX0  s (cj_35_p0 (X01 := fun  s => Y  s → X0  s) (X02 := Y) (X03 := X0) (hX0 := fun  s a b => a b) hQ hb (hY  s hy))) hY0
def fw_35 (Q : lf_Z → Prop) (s : lf_Z) : Prop := fw_35_p0L Q s
theorem cj_35 {Q1 Q2 Q3 : lf_Z → Prop} {s : lf_Z} (hQ : ∀ (s : lf_Z), Q1 s → Q2 s → Q3 s) (h1 : fm_35 Q1 s) (h2 : fw_35 Q2 s) : fm_35 Q3 s := by
  unfold fm_35 at h1 ⊢
  unfold fw_35 at h2
  exact cj_35_p0L hQ h1 h2
def fw_33_p10 (Q : lf_Z → Prop) (X10 : lf_Z → Prop) (s : lf_Z) : Prop := lf_R (s.1 31 7) → (lf_R (s.1 31 1) → ((s.1 31 1 ≤ s.1 31 7 → (Q s)) ∧ (¬ (s.1 31 1 ≤ s.1 31 7) → ((0 ≤ s.1 31 7 ∧ s.1 31 7 < 300) → (fw_32 (s.1 32 (s.1 31 7)) (fun z25 s24 => ((z25 = false → (Q s24)) ∧ (z25 = true → ((0 ≤ s24.1 31 7 ∧ s24.1 31 7 < 300) → (X10 (lf_up (lf_up s24.1 31 10 (min 10000 (lf_w ((lf_w ((lf_w ((s24.1 31 10) * 10)) + (s24.1 32 (s24.1 31 7)))) - 48)))) 31 7 ((s24.1 31 7) + 1), s24.2.1, s24.2.2)))))) s)))))
theorem cj_33_p10 {X101 X102 X103 : lf_Z → Prop} {Q1 Q2 Q3 : lf_Z → Prop} {s : lf_Z} (hX10 : ∀ (v0 : lf_Z), X101 v0 → X102 v0 → X103 v0) (hQ : ∀ (s : lf_Z), Q1 s → Q2 s → Q3 s) (h1 : fm_33_p10 Q1 X101 s) (h2 : fw_33_p10 Q2 X102 s) : fm_33_p10 Q3 X103 s := by
  unfold fm_33_p10 at h1 ⊢
  unfold fw_33_p10 at h2
  exact ⟨h1.1, ⟨h1.2.1, ⟨(fun c3 => hQ _  (h1.2.2.1 c3) (((h2 h1.1) h1.2.1).1 c3)), (fun c3 => ⟨(h1.2.2.2 c3).1, cj_32 (fun z25 s24 k6 l6 => ⟨(fun c7 => hQ _  (k6.1 c7) (l6.1 c7)), (fun c7 => ⟨(k6.2 c7).1, hX10 _  (k6.2 c7).2 ((l6.2 c7) (k6.2 c7).1)⟩)⟩) (h1.2.2.2 c3).2 ((((h2 h1.1) h1.2.1).2 c3) (h1.2.2.2 c3).1)⟩)⟩⟩⟩
def fw_33_p10L (Q : lf_Z → Prop) (s : lf_Z) : Prop := ∃ X10 : lf_Z → Prop, (∀ (s : lf_Z), X10 s → fw_33_p10 Q X10 s) ∧ X10 s
theorem cj_33_p10L {Q1 Q2 Q3 : lf_Z → Prop} {s : lf_Z} (hQ : ∀ (s : lf_Z), Q1 s → Q2 s → Q3 s) (h1 : fm_33_p10L Q1 s) (h2 : fw_33_p10L Q2 s) : fm_33_p10L Q3 s := by
  intro X0 hX0
  obtain ⟨Y, hY, hY0⟩ := h2
  exact h1 (fun  s => Y  s → X0  s) (fun  s hb hy => hX0  s (cj_33_p10 (X101 := fun  s => Y  s → X0  s) (X102 := Y) (X103 := X0) (hX10 := fun  s a b => a b) hQ hb (hY  s hy))) hY0
def fw_33 (Q : lf_Z → Prop) (s : lf_Z) : Prop := fw_33_p10L Q (lf_up (lf_up s.1 31 8 2) 31 10 0, s.2.1, s.2.2)
theorem cj_33 {Q1 Q2 Q3 : lf_Z → Prop} {s : lf_Z} (hQ : ∀ (s : lf_Z), Q1 s → Q2 s → Q3 s) (h1 : fm_33 Q1 s) (h2 : fw_33 Q2 s) : fm_33 Q3 s := by
  unfold fm_33 at h1 ⊢
  unfold fw_33 at h2
  exact cj_33_p10L hQ h1 h2
def fw_31_p60 (Q : lf_Z → Prop) (s : lf_Z) : Prop := lf_R (s.1 31 7) → (lf_R (s.1 31 1) → ((s.1 31 7 < s.1 31 1 → ((0 ≤ s.1 31 7 ∧ s.1 31 7 < 300) → (fw_32 (s.1 32 (s.1 31 7)) (fun z28 s27 => ((z28 = false → ((0 ≤ s27.1 31 7 ∧ s27.1 31 7 < 300) → (fw_34 (s27.1 32 (s27.1 31 7)) (fun z31 s30 => ((z31 = false → ((0 ≤ s30.1 31 7 ∧ s30.1 31 7 < 300) → (fw_37 (s30.1 32 (s30.1 31 7)) (fun s33 => (Q s33)) s30))) ∧ (z31 = true → (fw_35 (fun s34 => (Q s34)) s30)))) s27))) ∧ (z28 = true → (fw_33 (fun s35 => (Q s35)) s27)))) (lf_up s.1 31 9 (s.1 31 7), s.2.1, s.2.2)))) ∧ (¬ (s.1 31 7 < s.1 31 1) → (Q (lf_up (lf_up s.1 31 9 (s.1 31 7)) 31 8 0, s.2.1, s.2.2)))))
theorem cj_31_p60 {Q1 Q2 Q3 : lf_Z → Prop} {s : lf_Z} (hQ : ∀ (s : lf_Z), Q1 s → Q2 s → Q3 s) (h1 : fm_31_p60 Q1 s) (h2 : fw_31_p60 Q2 s) : fm_31_p60 Q3 s := by
  unfold fm_31_p60 at h1 ⊢
  unfold fw_31_p60 at h2
  exact ⟨h1.1, ⟨h1.2.1, ⟨(fun c3 => ⟨(h1.2.2.1 c3).1, cj_32 (fun z28 s27 k5 l5 => ⟨(fun c6 => ⟨(k5.1 c6).1, cj_34 (fun z31 s30 k8 l8 => ⟨(fun c9 => ⟨(k8.1 c9).1, cj_37 (fun s33 k11 l11 => hQ _  k11 l11) (k8.1 c9).2 ((l8.1 c9) (k8.1 c9).1)⟩), (fun c9 => cj_35 (fun s34 k13 l13 => hQ _  k13 l13) (k8.2 c9) (l8.2 c9))⟩) (k5.1 c6).2 ((l5.1 c6) (k5.1 c6).1)⟩), (fun c6 => cj_33 (fun s35 k15 l15 => hQ _  k15 l15) (k5.2 c6) (l5.2 c6))⟩) (h1.2.2.1 c3).2 ((((h2 h1.1) h1.2.1).1 c3) (h1.2.2.1 c3).1)⟩), (fun c3 => hQ _  (h1.2.2.2 c3) (((h2 h1.1) h1.2.1).2 c3))⟩⟩⟩
def fw_31_p47 (X8 : lf_Z → Prop) (Q : lf_Z → Prop) (s : lf_Z) : Prop := X8 (lf_up s.1 31 7 ((s.1 31 7) + 1), s.2.1, s.2.2)
theorem cj_31_p47 {X81 X82 X83 : lf_Z → Prop} {Q1 Q2 Q3 : lf_Z → Prop} {s : lf_Z} (hX8 : ∀ (v0 : lf_Z), X81 v0 → X82 v0 → X83 v0) (hQ : ∀ (s : lf_Z), Q1 s → Q2 s → Q3 s) (h1 : fm_31_p47 X81 Q1 s) (h2 : fw_31_p47 X82 Q2 s) : fm_31_p47 X83 Q3 s := by
  unfold fm_31_p47 at h1 ⊢
  unfold fw_31_p47 at h2
  exact hX8 _  h1 h2
def fw_31_p8 (Q : lf_Z → Prop) (X8 : lf_Z → Prop) (s : lf_Z) : Prop := lf_R (s.1 31 7) → (lf_R (s.1 31 1) → ((s.1 31 1 ≤ s.1 31 7 → (fw_31_p60 Q s)) ∧ (¬ (s.1 31 1 ≤ s.1 31 7) → ((0 ≤ s.1 31 7 ∧ s.1 31 7 < 300) → (lf_R (s.1 32 (s.1 31 7)) → ((s.1 32 (s.1 31 7) = 32 → (fw_31_p47 X8 Q s)) ∧ (¬ (s.1 32 (s.1 31 7) = 32) → ((s.1 32 (s.1 31 7) ≠ 10 → (fw_31_p60 Q s)) ∧ (¬ (s.1 32 (s.1 31 7) ≠ 10) → (fw_31_p47 X8 Q s))))))))))
theorem cj_31_p8 {X81 X82 X83 : lf_Z → Prop} {Q1 Q2 Q3 : lf_Z → Prop} {s : lf_Z} (hX8 : ∀ (v0 : lf_Z), X81 v0 → X82 v0 → X83 v0) (hQ : ∀ (s : lf_Z), Q1 s → Q2 s → Q3 s) (h1 : fm_31_p8 Q1 X81 s) (h2 : fw_31_p8 Q2 X82 s) : fm_31_p8 Q3 X83 s := by
  unfold fm_31_p8 at h1 ⊢
  unfold fw_31_p8 at h2
  exact ⟨h1.1, ⟨h1.2.1, ⟨(fun c3 => cj_31_p60 hQ (h1.2.2.1 c3) (((h2 h1.1) h1.2.1).1 c3)), (fun c3 => ⟨(h1.2.2.2 c3).1, ⟨(h1.2.2.2 c3).2.1, ⟨(fun c7 => cj_31_p47 hX8 hQ ((h1.2.2.2 c3).2.2.1 c7) ((((((h2 h1.1) h1.2.1).2 c3) (h1.2.2.2 c3).1) (h1.2.2.2 c3).2.1).1 c7)), (fun c7 => ⟨(fun c9 => cj_31_p60 hQ (((h1.2.2.2 c3).2.2.2 c7).1 c9) (((((((h2 h1.1) h1.2.1).2 c3) (h1.2.2.2 c3).1) (h1.2.2.2 c3).2.1).2 c7).1 c9)), (fun c9 => cj_31_p47 hX8 hQ (((h1.2.2.2 c3).2.2.2 c7).2 c9) (((((((h2 h1.1) h1.2.1).2 c3) (h1.2.2.2 c3).1) (h1.2.2.2 c3).2.1).2 c7).2 c9))⟩)⟩⟩⟩)⟩⟩⟩
def fw_31_p8L (Q : lf_Z → Prop) (s : lf_Z) : Prop := ∃ X8 : lf_Z → Prop, (∀ (s : lf_Z), X8 s → fw_31_p8 Q X8 s) ∧ X8 s
theorem cj_31_p8L {Q1 Q2 Q3 : lf_Z → Prop} {s : lf_Z} (hQ : ∀ (s : lf_Z), Q1 s → Q2 s → Q3 s) (h1 : fm_31_p8L Q1 s) (h2 : fw_31_p8L Q2 s) : fm_31_p8L Q3 s := by
  intro X0 hX0
  obtain ⟨Y, hY, hY0⟩ := h2
  exact h1 (fun  s => Y  s → X0  s) (fun  s hb hy => hX0  s (cj_31_p8 (X81 := fun  s => Y  s → X0  s) (X82 := Y) (X83 := X0) (hX8 := fun  s a b => a b) hQ hb (hY  s hy))) hY0
def fw_31 (Q : lf_Z → Prop) (s : lf_Z) : Prop := lf_R (s.1 31 2) → ((s.1 31 2 = 0 → (fw_31_p8L Q s)) ∧ (¬ (s.1 31 2 = 0) → (Q s)))
theorem cj_31 {Q1 Q2 Q3 : lf_Z → Prop} {s : lf_Z} (hQ : ∀ (s : lf_Z), Q1 s → Q2 s → Q3 s) (h1 : fm_31 Q1 s) (h2 : fw_31 Q2 s) : fm_31 Q3 s := by
  unfold fm_31 at h1 ⊢
  unfold fw_31 at h2
  exact ⟨h1.1, ⟨(fun c2 => cj_31_p8L hQ (h1.2.1 c2) ((h2 h1.1).1 c2)), (fun c2 => hQ _  (h1.2.2 c2) ((h2 h1.1).2 c2))⟩⟩
def fw_40 (t0 : Nat) (a1 : Int) (Q : Bool → lf_Z → Prop) (s : lf_Z) : Prop := lf_R a1 → ((a1 < 0 → (Q false s)) ∧ (¬ (a1 < 0) → ((3 ≤ a1 → (Q false s)) ∧ (¬ (3 ≤ a1) → ((0 ≤ a1 ∧ a1 < 3) → (lf_R (s.1 (37 + 7 * t0) a1) → ((s.1 (37 + 7 * t0) a1 = (-1) → (Q false s)) ∧ (¬ (s.1 (37 + 7 * t0) a1 = (-1)) → (Q true s)))))))))
theorem cj_40 {Q1 Q2 Q3 : Bool → lf_Z → Prop} {t0 : Nat} {a1 : Int} {s : lf_Z} (hQ : ∀ (r : Bool) (s : lf_Z), Q1 r s → Q2 r s → Q3 r s) (h1 : fm_40 t0 a1 Q1 s) (h2 : fw_40 t0 a1 Q2 s) : fm_40 t0 a1 Q3 s := by
  unfold fm_40 at h1 ⊢
  unfold fw_40 at h2
  exact ⟨h1.1, ⟨(fun c2 => hQ _ _  (h1.2.1 c2) ((h2 h1.1).1 c2)), (fun c2 => ⟨(fun c4 => hQ _ _  ((h1.2.2 c2).1 c4) (((h2 h1.1).2 c2).1 c4)), (fun c4 => ⟨((h1.2.2 c2).2 c4).1, ⟨((h1.2.2 c2).2 c4).2.1, ⟨(fun c8 => hQ _ _  (((h1.2.2 c2).2 c4).2.2.1 c8) ((((((h2 h1.1).2 c2).2 c4) ((h1.2.2 c2).2 c4).1) ((h1.2.2 c2).2 c4).2.1).1 c8)), (fun c8 => hQ _ _  (((h1.2.2 c2).2 c4).2.2.2 c8) ((((((h2 h1.1).2 c2).2 c4) ((h1.2.2 c2).2 c4).1) ((h1.2.2 c2).2 c4).2.1).2 c8))⟩⟩⟩)⟩)⟩⟩
def fw_39_p20 (Q : lf_Z → Prop) (s : lf_Z) : Prop := Q (lf_up s.1 31 8 1, s.2.1, s.2.2)
theorem cj_39_p20 {Q1 Q2 Q3 : lf_Z → Prop} {s : lf_Z} (hQ : ∀ (s : lf_Z), Q1 s → Q2 s → Q3 s) (h1 : fm_39_p20 Q1 s) (h2 : fw_39_p20 Q2 s) : fm_39_p20 Q3 s := by
  unfold fm_39_p20 at h1 ⊢
  unfold fw_39_p20 at h2
  exact hQ _  h1 h2
def fw_39 (a1 : Int) (Q : lf_Z → Prop) (s : lf_Z) : Prop := lf_R (s.1 31 2) → ((s.1 31 2 ≠ 0 → (fw_39_p20 Q s)) ∧ (¬ (s.1 31 2 ≠ 0) → (fw_39_p20 Q (lf_up (lf_up s.1 31 2 a1) 31 3 (s.1 31 9), s.2.1, s.2.2))))
theorem cj_39 {Q1 Q2 Q3 : lf_Z → Prop} {a1 : Int} {s : lf_Z} (hQ : ∀ (s : lf_Z), Q1 s → Q2 s → Q3 s) (h1 : fm_39 a1 Q1 s) (h2 : fw_39 a1 Q2 s) : fm_39 a1 Q3 s := by
  unfold fm_39 at h1 ⊢
  unfold fw_39 at h2
  exact ⟨h1.1, ⟨(fun c2 => cj_39_p20 hQ (h1.2.1 c2) ((h2 h1.1).1 c2)), (fun c2 => cj_39_p20 hQ (h1.2.2 c2) ((h2 h1.1).2 c2))⟩⟩
def fw_44 (a1 : Int) (a2 : Int) (Q : Int → lf_Z → Prop) (s : lf_Z) : Prop := lf_R (s.1 31 8) → ((s.1 31 8 = 2 → (fw_15 (s.1 31 10) a1 a2 (fun z23 s22 => ((z23 = true → (fw_31 (fun s24 => (Q (s22.1 31 10) s24)) s22)) ∧ (z23 = false → (fw_39 2 (fun s25 => (Q a1 s25)) s22)))) s)) ∧ (¬ (s.1 31 8 = 2) → (fw_39 1 (fun s26 => (Q a1 s26)) s)))
theorem cj_44 {Q1 Q2 Q3 : Int → lf_Z → Prop} {a1 : Int} {a2 : Int} {s : lf_Z} (hQ : ∀ (r : Int) (s : lf_Z), Q1 r s → Q2 r s → Q3 r s) (h1 : fm_44 a1 a2 Q1 s) (h2 : fw_44 a1 a2 Q2 s) : fm_44 a1 a2 Q3 s := by
  unfold fm_44 at h1 ⊢
  unfold fw_44 at h2
  exact ⟨h1.1, ⟨(fun c2 => cj_15 (fun z23 s22 k3 l3 => ⟨(fun c4 => cj_31 (fun s24 k5 l5 => hQ _ _  k5 l5) (k3.1 c4) (l3.1 c4)), (fun c4 => cj_39 (fun s25 k7 l7 => hQ _ _  k7 l7) (k3.2 c4) (l3.2 c4))⟩) (h1.2.1 c2) ((h2 h1.1).1 c2)), (fun c2 => cj_39 (fun s26 k9 l9 => hQ _ _  k9 l9) (h1.2.2 c2) ((h2 h1.1).2 c2))⟩⟩
def fw_57 (t0 : Nat) (a1 : Int) (a2 : Int) (a3 : Int) (Q : lf_Z → Prop) (s : lf_Z) : Prop := lf_R (s.1 (35 + 7 * t0) 7) → ((24 ≤ s.1 (35 + 7 * t0) 7 → (Q s)) ∧ (¬ (24 ≤ s.1 (35 + 7 * t0) 7) → ((0 ≤ s.1 (35 + 7 * t0) 7 ∧ s.1 (35 + 7 * t0) 7 < 24) → ((0 ≤ (lf_up s.1 (39 + 7 * t0) (s.1 (35 + 7 * t0) 7) a1) (35 + 7 * t0) 7 ∧ (lf_up s.1 (39 + 7 * t0) (s.1 (35 + 7 * t0) 7) a1) (35 + 7 * t0) 7 < 24) → ((0 ≤ (lf_up (lf_up s.1 (39 + 7 * t0) (s.1 (35 + 7 * t0) 7) a1) (40 + 7 * t0) ((lf_up s.1 (39 + 7 * t0) (s.1 (35 + 7 * t0) 7) a1) (35 + 7 * t0) 7) a2) (35 + 7 * t0) 7 ∧ (lf_up (lf_up s.1 (39 + 7 * t0) (s.1 (35 + 7 * t0) 7) a1) (40 + 7 * t0) ((lf_up s.1 (39 + 7 * t0) (s.1 (35 + 7 * t0) 7) a1) (35 + 7 * t0) 7) a2) (35 + 7 * t0) 7 < 24) → (Q (lf_up (lf_up (lf_up (lf_up s.1 (39 + 7 * t0) (s.1 (35 + 7 * t0) 7) a1) (40 + 7 * t0) ((lf_up s.1 (39 + 7 * t0) (s.1 (35 + 7 * t0) 7) a1) (35 + 7 * t0) 7) a2) (41 + 7 * t0) ((lf_up (lf_up s.1 (39 + 7 * t0) (s.1 (35 + 7 * t0) 7) a1) (40 + 7 * t0) ((lf_up s.1 (39 + 7 * t0) (s.1 (35 + 7 * t0) 7) a1) (35 + 7 * t0) 7) a2) (35 + 7 * t0) 7) a3) (35 + 7 * t0) 7 (((lf_up (lf_up (lf_up s.1 (39 + 7 * t0) (s.1 (35 + 7 * t0) 7) a1) (40 + 7 * t0) ((lf_up s.1 (39 + 7 * t0) (s.1 (35 + 7 * t0) 7) a1) (35 + 7 * t0) 7) a2) (41 + 7 * t0) ((lf_up (lf_up s.1 (39 + 7 * t0) (s.1 (35 + 7 * t0) 7) a1) (40 + 7 * t0) ((lf_up s.1 (39 + 7 * t0) (s.1 (35 + 7 * t0) 7) a1) (35 + 7 * t0) 7) a2) (35 + 7 * t0) 7) a3) (35 + 7 * t0) 7) + 1), s.2.1, s.2.2)))))))
theorem cj_57 {Q1 Q2 Q3 : lf_Z → Prop} {t0 : Nat} {a1 : Int} {a2 : Int} {a3 : Int} {s : lf_Z} (hQ : ∀ (s : lf_Z), Q1 s → Q2 s → Q3 s) (h1 : fm_57 t0 a1 a2 a3 Q1 s) (h2 : fw_57 t0 a1 a2 a3 Q2 s) : fm_57 t0 a1 a2 a3 Q3 s := by
  unfold fm_57 at h1 ⊢
  unfold fw_57 at h2
  exact ⟨h1.1, ⟨(fun c2 => hQ _  (h1.2.1 c2) ((h2 h1.1).1 c2)), (fun c2 => ⟨(h1.2.2 c2).1, ⟨(h1.2.2 c2).2.1, ⟨(h1.2.2 c2).2.2.1, hQ _  (h1.2.2 c2).2.2.2 (((((h2 h1.1).2 c2) (h1.2.2 c2).1) (h1.2.2 c2).2.1) (h1.2.2 c2).2.2.1)⟩⟩⟩)⟩⟩
def fw_48 (a1 : Int) (Q : lf_Z → Prop) (s : lf_Z) : Prop := lf_R (s.1 31 8) → (lf_R a1 → ((s.1 31 8 ≠ a1 → (fw_39 1 (fun s23 => (Q s23)) s)) ∧ (¬ (s.1 31 8 ≠ a1) → (fw_31 (fun s24 => (Q s24)) s))))
theorem cj_48 {Q1 Q2 Q3 : lf_Z → Prop} {a1 : Int} {s : lf_Z} (hQ : ∀ (s : lf_Z), Q1 s → Q2 s → Q3 s) (h1 : fm_48 a1 Q1 s) (h2 : fw_48 a1 Q2 s) : fm_48 a1 Q3 s := by
  unfold fm_48 at h1 ⊢
  unfold fw_48 at h2
  exact ⟨h1.1, ⟨h1.2.1, ⟨(fun c3 => cj_39 (fun s23 k4 l4 => hQ _  k4 l4) (h1.2.2.1 c3) (((h2 h1.1) h1.2.1).1 c3)), (fun c3 => cj_31 (fun s24 k6 l6 => hQ _  k6 l6) (h1.2.2.2 c3) (((h2 h1.1) h1.2.1).2 c3))⟩⟩⟩
def fw_58_p68 (Q : lf_Z → Prop) (x1 : Int) (x3 : Int) (x4 : Int) (s : lf_Z) : Prop := (s.2.2 2 = none → (True)) ∧ (∀ t26 : Nat, s.2.2 2 = some t26 → t26 < 4 → (fw_57 t26 x1 x3 x4 (fun s27 => (Q s27)) s))
theorem cj_58_p68 {Q1 Q2 Q3 : lf_Z → Prop} {x1 : Int} {x3 : Int} {x4 : Int} {s : lf_Z} (hQ : ∀ (s : lf_Z), Q1 s → Q2 s → Q3 s) (h1 : fm_58_p68 Q1 x1 x3 x4 s) (h2 : fw_58_p68 Q2 x1 x3 x4 s) : fm_58_p68 Q3 x1 x3 x4 s := by
  unfold fm_58_p68 at h1 ⊢
  unfold fw_58_p68 at h2
  exact ⟨(fun c1 => (h1.1 c1).elim), (fun t26 et26 => ⟨(h1.2 t26 et26).1, cj_57 (fun s27 k4 l4 => hQ _  k4 l4) (h1.2 t26 et26).2 (h2.2 t26 et26 (h1.2 t26 et26).1)⟩)⟩
def fw_58 (a1 : Int) (Q : lf_Z → Prop) (s : lf_Z) : Prop := (0 ≤ (a1 - 23) * 5 ∧ (a1 - 23) * 5 < 50) → ((0 ≤ ((a1 - 23) * 5) + 1 ∧ ((a1 - 23) * 5) + 1 < 50) → (fw_44 ((px_sh ((a1 - 23) * 5).toNat).toInt) ((px_sh (((a1 - 23) * 5) + 1).toNat).toInt) (fun r24 s23 => ((0 ≤ ((a1 - 23) * 5) + 2 ∧ ((a1 - 23) * 5) + 2 < 50) → (((px_sh (((a1 - 23) * 5) + 2).toNat).toInt = 0 → (fw_58_p68 Q a1 r24 0 s23)) ∧ (¬ ((px_sh (((a1 - 23) * 5) + 2).toNat).toInt = 0) → (fw_48 ((px_sh (((a1 - 23) * 5) + 2).toNat).toInt) (fun s28 => ((0 ≤ ((a1 - 23) * 5) + 3 ∧ ((a1 - 23) * 5) + 3 < 50) → ((0 ≤ ((a1 - 23) * 5) + 4 ∧ ((a1 - 23) * 5) + 4 < 50) → (fw_44 ((px_sh (((a1 - 23) * 5) + 3).toNat).toInt) ((px_sh (((a1 - 23) * 5) + 4).toNat).toInt) (fun r32 s31 => (fw_58_p68 Q a1 r24 r32 s31)) s28)))) s23))))) s))
theorem cj_58 {Q1 Q2 Q3 : lf_Z → Prop} {a1 : Int} {s : lf_Z} (hQ : ∀ (s : lf_Z), Q1 s → Q2 s → Q3 s) (h1 : fm_58 a1 Q1 s) (h2 : fw_58 a1 Q2 s) : fm_58 a1 Q3 s := by
  unfold fm_58 at h1 ⊢
  unfold fw_58 at h2
  exact ⟨h1.1, ⟨h1.2.1, cj_44 (fun r24 s23 k3 l3 => ⟨k3.1, ⟨(fun c5 => cj_58_p68 hQ (k3.2.1 c5) ((l3 k3.1).1 c5)), (fun c5 => cj_48 (fun s28 k7 l7 => ⟨k7.1, ⟨k7.2.1, cj_44 (fun r32 s31 k10 l10 => cj_58_p68 hQ k10 l10) k7.2.2 ((l7 k7.1) k7.2.1)⟩⟩) (k3.2.2 c5) ((l3 k3.1).2 c5))⟩⟩) h1.2.2 ((h2 h1.1) h1.2.1)⟩⟩
def fw_45 (t0 : Nat) (a1 : Int) (a2 : Int) (Q : Int → lf_Z → Prop) (s : lf_Z) : Prop := lf_R (s.1 (35 + 7 * t0) 1) → ((s.1 (35 + 7 * t0) 1 < 300 → ((0 ≤ s.1 (35 + 7 * t0) 1 ∧ s.1 (35 + 7 * t0) 1 < 300) → (Q (((lf_up (lf_up s.1 (36 + 7 * t0) (s.1 (35 + 7 * t0) 1) ((a1 * 10000) + a2)) (35 + 7 * t0) 1 (((lf_up s.1 (36 + 7 * t0) (s.1 (35 + 7 * t0) 1) ((a1 * 10000) + a2)) (35 + 7 * t0) 1) + 1)) (35 + 7 * t0) 1) - 1) (lf_up (lf_up s.1 (36 + 7 * t0) (s.1 (35 + 7 * t0) 1) ((a1 * 10000) + a2)) (35 + 7 * t0) 1 (((lf_up s.1 (36 + 7 * t0) (s.1 (35 + 7 * t0) 1) ((a1 * 10000) + a2)) (35 + 7 * t0) 1) + 1), s.2.1, s.2.2)))) ∧ (¬ (s.1 (35 + 7 * t0) 1 < 300) → (Q (-1) s)))
theorem cj_45 {Q1 Q2 Q3 : Int → lf_Z → Prop} {t0 : Nat} {a1 : Int} {a2 : Int} {s : lf_Z} (hQ : ∀ (r : Int) (s : lf_Z), Q1 r s → Q2 r s → Q3 r s) (h1 : fm_45 t0 a1 a2 Q1 s) (h2 : fw_45 t0 a1 a2 Q2 s) : fm_45 t0 a1 a2 Q3 s := by
  unfold fm_45 at h1 ⊢
  unfold fw_45 at h2
  exact ⟨h1.1, ⟨(fun c2 => ⟨(h1.2.1 c2).1, hQ _ _  (h1.2.1 c2).2 (((h2 h1.1).1 c2) (h1.2.1 c2).1)⟩), (fun c2 => hQ _ _  (h1.2.2 c2) ((h2 h1.1).2 c2))⟩⟩
def fw_56_p53 (Q : lf_Z → Prop) (x1 : Int) (s : lf_Z) : Prop := (0 ≤ x1 ∧ x1 < 11) → ((lf_and (lf_shr ((px_lw (x1).toNat).toInt) (s.1 31 6)) 1 ≠ 0 → ((s.2.2 2 = none → (True)) ∧ (∀ t24 : Nat, s.2.2 2 = some t24 → t24 < 4 → (fw_45 t24 17 x1 (fun r26 s25 => (fw_31 (fun s27 => (Q s27)) s25)) s)))) ∧ (¬ (lf_and (lf_shr ((px_lw (x1).toNat).toInt) (s.1 31 6)) 1 ≠ 0) → (fw_39 5 (fun s28 => (Q s28)) s)))
theorem cj_56_p53 {Q1 Q2 Q3 : lf_Z → Prop} {x1 : Int} {s : lf_Z} (hQ : ∀ (s : lf_Z), Q1 s → Q2 s → Q3 s) (h1 : fm_56_p53 Q1 x1 s) (h2 : fw_56_p53 Q2 x1 s) : fm_56_p53 Q3 x1 s := by
  unfold fm_56_p53 at h1 ⊢
  unfold fw_56_p53 at h2
  exact ⟨h1.1, ⟨(fun c2 => ⟨(fun c3 => ((h1.2.1 c2).1 c3).elim), (fun t24 et24 => ⟨((h1.2.1 c2).2 t24 et24).1, cj_45 (fun r26 s25 k6 l6 => cj_31 (fun s27 k7 l7 => hQ _  k7 l7) k6 l6) ((h1.2.1 c2).2 t24 et24).2 (((h2 h1.1).1 c2).2 t24 et24 ((h1.2.1 c2).2 t24 et24).1)⟩)⟩), (fun c2 => cj_39 (fun s28 k9 l9 => hQ _  k9 l9) (h1.2.2 c2) ((h2 h1.1).2 c2))⟩⟩
def fw_56_p21 (Q : lf_Z → Prop) (y0 : Int) (s : lf_Z) : Prop := lf_R (s.1 31 8) → ((s.1 31 8 = 24 → (fw_56_p53 Q y0 s)) ∧ (¬ (s.1 31 8 = 24) → (fw_15 (s.1 31 8) 47 56 (fun z30 s29 => ((z30 = true → (fw_56_p53 Q y0 s29)) ∧ (z30 = false → (fw_39 1 (fun s31 => (Q s31)) s29)))) s)))
theorem cj_56_p21 {Q1 Q2 Q3 : lf_Z → Prop} {y0 : Int} {s : lf_Z} (hQ : ∀ (s : lf_Z), Q1 s → Q2 s → Q3 s) (h1 : fm_56_p21 Q1 y0 s) (h2 : fw_56_p21 Q2 y0 s) : fm_56_p21 Q3 y0 s := by
  unfold fm_56_p21 at h1 ⊢
  unfold fw_56_p21 at h2
  exact ⟨h1.1, ⟨(fun c2 => cj_56_p53 hQ (h1.2.1 c2) ((h2 h1.1).1 c2)), (fun c2 => cj_15 (fun z30 s29 k4 l4 => ⟨(fun c5 => cj_56_p53 hQ (k4.1 c5) (l4.1 c5)), (fun c5 => cj_39 (fun s31 k7 l7 => hQ _  k7 l7) (k4.2 c5) (l4.2 c5))⟩) (h1.2.2 c2) ((h2 h1.1).2 c2))⟩⟩
def fw_56 (Q : lf_Z → Prop) (s : lf_Z) : Prop := lf_R (s.1 31 8) → ((s.1 31 8 ≠ 24 → (fw_56_p21 Q ((s.1 31 8) - 47) s)) ∧ (¬ (s.1 31 8 ≠ 24) → (fw_56_p21 Q 10 s)))
theorem cj_56 {Q1 Q2 Q3 : lf_Z → Prop} {s : lf_Z} (hQ : ∀ (s : lf_Z), Q1 s → Q2 s → Q3 s) (h1 : fm_56 Q1 s) (h2 : fw_56 Q2 s) : fm_56 Q3 s := by
  unfold fm_56 at h1 ⊢
  unfold fw_56 at h2
  exact ⟨h1.1, ⟨(fun c2 => cj_56_p21 hQ (h1.2.1 c2) ((h2 h1.1).1 c2)), (fun c2 => cj_56_p21 hQ (h1.2.2 c2) ((h2 h1.1).2 c2))⟩⟩
def fw_46_p26 (Q : lf_Z → Prop) (y0 : Int) (s : lf_Z) : Prop := lf_R y0 → ((y0 ≠ (-1) → ((s.2.2 2 = none → (True)) ∧ (∀ t24 : Nat, s.2.2 2 = some t24 → t24 < 4 → (fw_45 t24 3 y0 (fun r26 s25 => (fw_31 (fun s27 => (Q s27)) s25)) s)))) ∧ (¬ (y0 ≠ (-1)) → (fw_39 5 (fun s28 => (Q s28)) s)))
theorem cj_46_p26 {Q1 Q2 Q3 : lf_Z → Prop} {y0 : Int} {s : lf_Z} (hQ : ∀ (s : lf_Z), Q1 s → Q2 s → Q3 s) (h1 : fm_46_p26 Q1 y0 s) (h2 : fw_46_p26 Q2 y0 s) : fm_46_p26 Q3 y0 s := by
  unfold fm_46_p26 at h1 ⊢
  unfold fw_46_p26 at h2
  exact ⟨h1.1, ⟨(fun c2 => ⟨(fun c3 => ((h1.2.1 c2).1 c3).elim), (fun t24 et24 => ⟨((h1.2.1 c2).2 t24 et24).1, cj_45 (fun r26 s25 k6 l6 => cj_31 (fun s27 k7 l7 => hQ _  k7 l7) k6 l6) ((h1.2.1 c2).2 t24 et24).2 (((h2 h1.1).1 c2).2 t24 et24 ((h1.2.1 c2).2 t24 et24).1)⟩)⟩), (fun c2 => cj_39 (fun s28 k9 l9 => hQ _  k9 l9) (h1.2.2 c2) ((h2 h1.1).2 c2))⟩⟩
def fw_46 (Q : lf_Z → Prop) (s : lf_Z) : Prop := fw_15 (s.1 31 10) 0 25 (fun z22 s21 => ((z22 = false → (fw_46_p26 Q (-1) s21)) ∧ (z22 = true → ((0 ≤ s21.1 31 10 ∧ s21.1 31 10 < 26) → (fw_46_p26 Q (s21.1 33 (s21.1 31 10)) s21))))) s
theorem cj_46 {Q1 Q2 Q3 : lf_Z → Prop} {s : lf_Z} (hQ : ∀ (s : lf_Z), Q1 s → Q2 s → Q3 s) (h1 : fm_46 Q1 s) (h2 : fw_46 Q2 s) : fm_46 Q3 s := by
  unfold fm_46 at h1 ⊢
  unfold fw_46 at h2
  exact cj_15 (fun z22 s21 k1 l1 => ⟨(fun c2 => cj_46_p26 hQ (k1.1 c2) (l1.1 c2)), (fun c2 => ⟨(k1.2 c2).1, cj_46_p26 hQ (k1.2 c2).2 ((l1.2 c2) (k1.2 c2).1)⟩)⟩) h1 h2
def fw_47 (a1 : Int) (Q : Bool → lf_Z → Prop) (s : lf_Z) : Prop := lf_R a1 → ((a1 < 8 → (fw_31 (fun s22 => (Q true s22)) s)) ∧ (¬ (a1 < 8) → (fw_39 3 (fun s23 => (Q false s23)) s)))
theorem cj_47 {Q1 Q2 Q3 : Bool → lf_Z → Prop} {a1 : Int} {s : lf_Z} (hQ : ∀ (r : Bool) (s : lf_Z), Q1 r s → Q2 r s → Q3 r s) (h1 : fm_47 a1 Q1 s) (h2 : fw_47 a1 Q2 s) : fm_47 a1 Q3 s := by
  unfold fm_47 at h1 ⊢
  unfold fw_47 at h2
  exact ⟨h1.1, ⟨(fun c2 => cj_31 (fun s22 k3 l3 => hQ _ _  k3 l3) (h1.2.1 c2) ((h2 h1.1).1 c2)), (fun c2 => cj_39 (fun s23 k5 l5 => hQ _ _  k5 l5) (h1.2.2 c2) ((h2 h1.1).2 c2))⟩⟩
def fw_53 (t0 : Nat) (a1 : Int) (Q : lf_Z → Prop) (s : lf_Z) : Prop := lf_R a1 → ((a1 < 0 → (Q s)) ∧ (¬ (a1 < 0) → (lf_R (s.1 (35 + 7 * t0) 1) → ((s.1 (35 + 7 * t0) 1 ≤ a1 → (Q s)) ∧ (¬ (s.1 (35 + 7 * t0) 1 ≤ a1) → ((0 ≤ a1 ∧ a1 < 300) → (Q (lf_up s.1 (36 + 7 * t0) a1 (lf_w ((s.1 (36 + 7 * t0) a1) + (s.1 (35 + 7 * t0) 1))), s.2.1, s.2.2))))))))
theorem cj_53 {Q1 Q2 Q3 : lf_Z → Prop} {t0 : Nat} {a1 : Int} {s : lf_Z} (hQ : ∀ (s : lf_Z), Q1 s → Q2 s → Q3 s) (h1 : fm_53 t0 a1 Q1 s) (h2 : fw_53 t0 a1 Q2 s) : fm_53 t0 a1 Q3 s := by
  unfold fm_53 at h1 ⊢
  unfold fw_53 at h2
  exact ⟨h1.1, ⟨(fun c2 => hQ _  (h1.2.1 c2) ((h2 h1.1).1 c2)), (fun c2 => ⟨(h1.2.2 c2).1, ⟨(fun c5 => hQ _  ((h1.2.2 c2).2.1 c5) ((((h2 h1.1).2 c2) (h1.2.2 c2).1).1 c5)), (fun c5 => ⟨((h1.2.2 c2).2.2 c5).1, hQ _  ((h1.2.2 c2).2.2 c5).2 (((((h2 h1.1).2 c2) (h1.2.2 c2).1).2 c5) ((h1.2.2 c2).2.2 c5).1)⟩)⟩⟩)⟩⟩
def fw_55 (a0 : Int) (a1 : Int) (a2 : Int) (Q : Int → lf_Z → Prop) (s : lf_Z) : Prop := lf_R a2 → (lf_R a0 → (lf_R a1 → (lf_R (min a2 a0) → (Q (max a1 (min a2 a0)) s))))
theorem cj_55 {Q1 Q2 Q3 : Int → lf_Z → Prop} {a0 : Int} {a1 : Int} {a2 : Int} {s : lf_Z} (hQ : ∀ (r : Int) (s : lf_Z), Q1 r s → Q2 r s → Q3 r s) (h1 : fm_55 a0 a1 a2 Q1 s) (h2 : fw_55 a0 a1 a2 Q2 s) : fm_55 a0 a1 a2 Q3 s := by
  unfold fm_55 at h1 ⊢
  unfold fw_55 at h2
  exact ⟨h1.1, ⟨h1.2.1, ⟨h1.2.2.1, ⟨h1.2.2.2.1, hQ _ _  h1.2.2.2.2 ((((h2 h1.1) h1.2.1) h1.2.2.1) h1.2.2.2.1)⟩⟩⟩⟩
def fw_41_p32 (R42 : Int → (lf_Z → Prop) → lf_Z → Prop) (X7 : Int → lf_Z → Prop) (Q : lf_Z → Prop) (x1 : Int) (x2 : Int) (s : lf_Z) : Prop := fw_31 (fun s24 => (R42 x1 (fun s25 => ((s25.2.2 2 = none → (True)) ∧ (∀ t26 : Nat, s25.2.2 2 = some t26 → t26 < 4 → (fw_45 t26 (s.1 31 8) 0 (fun r28 s27 => (X7 (x2 + 1) s27)) s25)))) s24)) s
theorem cj_41_p32 {R421 R422 R423 : Int → (lf_Z → Prop) → lf_Z → Prop} {X71 X72 X73 : Int → lf_Z → Prop} {Q1 Q2 Q3 : lf_Z → Prop} {x1 : Int} {x2 : Int} {s : lf_Z} (hR42 : ∀ (v0 : Int) (Q1 Q2 Q3 : lf_Z → Prop) (s : lf_Z), (∀ (s : lf_Z), Q1 s → Q2 s → Q3 s) → R421 v0 Q1 s → R422 v0 Q2 s → R423 v0 Q3 s) (hX7 : ∀ (v0 : Int) (v1 : lf_Z), X71 v0 v1 → X72 v0 v1 → X73 v0 v1) (hQ : ∀ (s : lf_Z), Q1 s → Q2 s → Q3 s) (h1 : fm_41_p32 R421 X71 Q1 x1 x2 s) (h2 : fw_41_p32 R422 X72 Q2 x1 x2 s) : fm_41_p32 R423 X73 Q3 x1 x2 s := by
  unfold fm_41_p32 at h1 ⊢
  unfold fw_41_p32 at h2
  exact cj_31 (fun s24 k1 l1 => hR42 _ _ _ _ _ (fun s25 k2 l2 => ⟨(fun c3 => (k2.1 c3).elim), (fun t26 et26 => ⟨(k2.2 t26 et26).1, cj_45 (fun r28 s27 k6 l6 => hX7 _ _  k6 l6) (k2.2 t26 et26).2 (l2.2 t26 et26 (k2.2 t26 et26).1)⟩)⟩) k1 l1) h1 h2
def fw_41_p7 (R42 : Int → (lf_Z → Prop) → lf_Z → Prop) (Q : lf_Z → Prop) (x1 : Int) (X7 : Int → lf_Z → Prop) (x2 : Int) (s : lf_Z) : Prop := lf_R x2 → ((300 ≤ x2 → (Q s)) ∧ (¬ (300 ≤ x2) → (lf_R (s.1 31 8) → ((s.1 31 8 = 10 → (fw_41_p32 R42 X7 Q x1 x2 s)) ∧ (¬ (s.1 31 8 = 10) → ((s.1 31 8 ≠ 11 → (Q s)) ∧ (¬ (s.1 31 8 ≠ 11) → (fw_41_p32 R42 X7 Q x1 x2 s))))))))
theorem cj_41_p7 {R421 R422 R423 : Int → (lf_Z → Prop) → lf_Z → Prop} {X71 X72 X73 : Int → lf_Z → Prop} {Q1 Q2 Q3 : lf_Z → Prop} {x1 : Int} {x2 : Int} {s : lf_Z} (hR42 : ∀ (v0 : Int) (Q1 Q2 Q3 : lf_Z → Prop) (s : lf_Z), (∀ (s : lf_Z), Q1 s → Q2 s → Q3 s) → R421 v0 Q1 s → R422 v0 Q2 s → R423 v0 Q3 s) (hX7 : ∀ (v0 : Int) (v1 : lf_Z), X71 v0 v1 → X72 v0 v1 → X73 v0 v1) (hQ : ∀ (s : lf_Z), Q1 s → Q2 s → Q3 s) (h1 : fm_41_p7 R421 Q1 x1 X71 x2 s) (h2 : fw_41_p7 R422 Q2 x1 X72 x2 s) : fm_41_p7 R423 Q3 x1 X73 x2 s := by
  unfold fm_41_p7 at h1 ⊢
  unfold fw_41_p7 at h2
  exact ⟨h1.1, ⟨(fun c2 => hQ _  (h1.2.1 c2) ((h2 h1.1).1 c2)), (fun c2 => ⟨(h1.2.2 c2).1, ⟨(fun c5 => cj_41_p32 hR42 hX7 hQ ((h1.2.2 c2).2.1 c5) ((((h2 h1.1).2 c2) (h1.2.2 c2).1).1 c5)), (fun c5 => ⟨(fun c7 => hQ _  (((h1.2.2 c2).2.2 c5).1 c7) (((((h2 h1.1).2 c2) (h1.2.2 c2).1).2 c5).1 c7)), (fun c7 => cj_41_p32 hR42 hX7 hQ (((h1.2.2 c2).2.2 c5).2 c7) (((((h2 h1.1).2 c2) (h1.2.2 c2).1).2 c5).2 c7))⟩)⟩⟩)⟩⟩
def fw_41_p7L (R42 : Int → (lf_Z → Prop) → lf_Z → Prop) (Q : lf_Z → Prop) (x1 : Int) (x2 : Int) (s : lf_Z) : Prop := ∃ X7 : Int → lf_Z → Prop, (∀ (x2 : Int) (s : lf_Z), X7 x2 s → fw_41_p7 R42 Q x1 X7 x2 s) ∧ X7 x2 s
theorem cj_41_p7L {R421 R422 R423 : Int → (lf_Z → Prop) → lf_Z → Prop} {Q1 Q2 Q3 : lf_Z → Prop} {x1 : Int} {x2 : Int} {s : lf_Z} (hR42 : ∀ (v0 : Int) (Q1 Q2 Q3 : lf_Z → Prop) (s : lf_Z), (∀ (s : lf_Z), Q1 s → Q2 s → Q3 s) → R421 v0 Q1 s → R422 v0 Q2 s → R423 v0 Q3 s) (hQ : ∀ (s : lf_Z), Q1 s → Q2 s → Q3 s) (h1 : fm_41_p7L R421 Q1 x1 x2 s) (h2 : fw_41_p7L R422 Q2 x1 x2 s) : fm_41_p7L R423 Q3 x1 x2 s := by
  intro X0 hX0
  obtain ⟨Y, hY, hY0⟩ := h2
  exact h1 (fun v0 s => Y v0 s → X0 v0 s) (fun v0 s hb hy => hX0 v0 s (cj_41_p7 (hR42 := hR42) (X71 := fun v0 s => Y v0 s → X0 v0 s) (X72 := Y) (X73 := X0) (hX7 := fun v0 s a b => a b) hQ hb (hY v0 s hy))) hY0
def fw_41 (R42 : Int → (lf_Z → Prop) → lf_Z → Prop) (a1 : Int) (Q : lf_Z → Prop) (s : lf_Z) : Prop := R42 a1 (fun s21 => (fw_41_p7L R42 Q a1 0 s21)) s
theorem cj_41 {R421 R422 R423 : Int → (lf_Z → Prop) → lf_Z → Prop} {Q1 Q2 Q3 : lf_Z → Prop} {a1 : Int} {s : lf_Z} (hR42 : ∀ (v0 : Int) (Q1 Q2 Q3 : lf_Z → Prop) (s : lf_Z), (∀ (s : lf_Z), Q1 s → Q2 s → Q3 s) → R421 v0 Q1 s → R422 v0 Q2 s → R423 v0 Q3 s) (hQ : ∀ (s : lf_Z), Q1 s → Q2 s → Q3 s) (h1 : fm_41 R421 a1 Q1 s) (h2 : fw_41 R422 a1 Q2 s) : fm_41 R423 a1 Q3 s := by
  unfold fm_41 at h1 ⊢
  unfold fw_41 at h2
  exact hR42 _ _ _ _ _ (fun s21 k1 l1 => cj_41_p7L hR42 hQ k1 l1) h1 h2
def fw_42_p32 (R43 : Int → (lf_Z → Prop) → lf_Z → Prop) (X7 : Int → lf_Z → Prop) (Q : lf_Z → Prop) (x1 : Int) (x2 : Int) (s : lf_Z) : Prop := fw_31 (fun s24 => (R43 x1 (fun s25 => ((s25.2.2 2 = none → (True)) ∧ (∀ t26 : Nat, s25.2.2 2 = some t26 → t26 < 4 → (fw_45 t26 (s.1 31 8) 0 (fun r28 s27 => (X7 (x2 + 1) s27)) s25)))) s24)) s
theorem cj_42_p32 {R431 R432 R433 : Int → (lf_Z → Prop) → lf_Z → Prop} {X71 X72 X73 : Int → lf_Z → Prop} {Q1 Q2 Q3 : lf_Z → Prop} {x1 : Int} {x2 : Int} {s : lf_Z} (hR43 : ∀ (v0 : Int) (Q1 Q2 Q3 : lf_Z → Prop) (s : lf_Z), (∀ (s : lf_Z), Q1 s → Q2 s → Q3 s) → R431 v0 Q1 s → R432 v0 Q2 s → R433 v0 Q3 s) (hX7 : ∀ (v0 : Int) (v1 : lf_Z), X71 v0 v1 → X72 v0 v1 → X73 v0 v1) (hQ : ∀ (s : lf_Z), Q1 s → Q2 s → Q3 s) (h1 : fm_42_p32 R431 X71 Q1 x1 x2 s) (h2 : fw_42_p32 R432 X72 Q2 x1 x2 s) : fm_42_p32 R433 X73 Q3 x1 x2 s := by
  unfold fm_42_p32 at h1 ⊢
  unfold fw_42_p32 at h2
  exact cj_31 (fun s24 k1 l1 => hR43 _ _ _ _ _ (fun s25 k2 l2 => ⟨(fun c3 => (k2.1 c3).elim), (fun t26 et26 => ⟨(k2.2 t26 et26).1, cj_45 (fun r28 s27 k6 l6 => hX7 _ _  k6 l6) (k2.2 t26 et26).2 (l2.2 t26 et26 (k2.2 t26 et26).1)⟩)⟩) k1 l1) h1 h2
def fw_42_p7 (R43 : Int → (lf_Z → Prop) → lf_Z → Prop) (Q : lf_Z → Prop) (x1 : Int) (X7 : Int → lf_Z → Prop) (x2 : Int) (s : lf_Z) : Prop := lf_R x2 → ((300 ≤ x2 → (Q s)) ∧ (¬ (300 ≤ x2) → (lf_R (s.1 31 8) → ((s.1 31 8 = 12 → (fw_42_p32 R43 X7 Q x1 x2 s)) ∧ (¬ (s.1 31 8 = 12) → ((s.1 31 8 ≠ 13 → (Q s)) ∧ (¬ (s.1 31 8 ≠ 13) → (fw_42_p32 R43 X7 Q x1 x2 s))))))))
theorem cj_42_p7 {R431 R432 R433 : Int → (lf_Z → Prop) → lf_Z → Prop} {X71 X72 X73 : Int → lf_Z → Prop} {Q1 Q2 Q3 : lf_Z → Prop} {x1 : Int} {x2 : Int} {s : lf_Z} (hR43 : ∀ (v0 : Int) (Q1 Q2 Q3 : lf_Z → Prop) (s : lf_Z), (∀ (s : lf_Z), Q1 s → Q2 s → Q3 s) → R431 v0 Q1 s → R432 v0 Q2 s → R433 v0 Q3 s) (hX7 : ∀ (v0 : Int) (v1 : lf_Z), X71 v0 v1 → X72 v0 v1 → X73 v0 v1) (hQ : ∀ (s : lf_Z), Q1 s → Q2 s → Q3 s) (h1 : fm_42_p7 R431 Q1 x1 X71 x2 s) (h2 : fw_42_p7 R432 Q2 x1 X72 x2 s) : fm_42_p7 R433 Q3 x1 X73 x2 s := by
  unfold fm_42_p7 at h1 ⊢
  unfold fw_42_p7 at h2
  exact ⟨h1.1, ⟨(fun c2 => hQ _  (h1.2.1 c2) ((h2 h1.1).1 c2)), (fun c2 => ⟨(h1.2.2 c2).1, ⟨(fun c5 => cj_42_p32 hR43 hX7 hQ ((h1.2.2 c2).2.1 c5) ((((h2 h1.1).2 c2) (h1.2.2 c2).1).1 c5)), (fun c5 => ⟨(fun c7 => hQ _  (((h1.2.2 c2).2.2 c5).1 c7) (((((h2 h1.1).2 c2) (h1.2.2 c2).1).2 c5).1 c7)), (fun c7 => cj_42_p32 hR43 hX7 hQ (((h1.2.2 c2).2.2 c5).2 c7) (((((h2 h1.1).2 c2) (h1.2.2 c2).1).2 c5).2 c7))⟩)⟩⟩)⟩⟩
def fw_42_p7L (R43 : Int → (lf_Z → Prop) → lf_Z → Prop) (Q : lf_Z → Prop) (x1 : Int) (x2 : Int) (s : lf_Z) : Prop := ∃ X7 : Int → lf_Z → Prop, (∀ (x2 : Int) (s : lf_Z), X7 x2 s → fw_42_p7 R43 Q x1 X7 x2 s) ∧ X7 x2 s
theorem cj_42_p7L {R431 R432 R433 : Int → (lf_Z → Prop) → lf_Z → Prop} {Q1 Q2 Q3 : lf_Z → Prop} {x1 : Int} {x2 : Int} {s : lf_Z} (hR43 : ∀ (v0 : Int) (Q1 Q2 Q3 : lf_Z → Prop) (s : lf_Z), (∀ (s : lf_Z), Q1 s → Q2 s → Q3 s) → R431 v0 Q1 s → R432 v0 Q2 s → R433 v0 Q3 s) (hQ : ∀ (s : lf_Z), Q1 s → Q2 s → Q3 s) (h1 : fm_42_p7L R431 Q1 x1 x2 s) (h2 : fw_42_p7L R432 Q2 x1 x2 s) : fm_42_p7L R433 Q3 x1 x2 s := by
  intro X0 hX0
  obtain ⟨Y, hY, hY0⟩ := h2
  exact h1 (fun v0 s => Y v0 s → X0 v0 s) (fun v0 s hb hy => hX0 v0 s (cj_42_p7 (hR43 := hR43) (X71 := fun v0 s => Y v0 s → X0 v0 s) (X72 := Y) (X73 := X0) (hX7 := fun v0 s a b => a b) hQ hb (hY v0 s hy))) hY0
def fw_42 (R43 : Int → (lf_Z → Prop) → lf_Z → Prop) (a1 : Int) (Q : lf_Z → Prop) (s : lf_Z) : Prop := R43 a1 (fun s21 => (fw_42_p7L R43 Q a1 0 s21)) s
theorem cj_42 {R431 R432 R433 : Int → (lf_Z → Prop) → lf_Z → Prop} {Q1 Q2 Q3 : lf_Z → Prop} {a1 : Int} {s : lf_Z} (hR43 : ∀ (v0 : Int) (Q1 Q2 Q3 : lf_Z → Prop) (s : lf_Z), (∀ (s : lf_Z), Q1 s → Q2 s → Q3 s) → R431 v0 Q1 s → R432 v0 Q2 s → R433 v0 Q3 s) (hQ : ∀ (s : lf_Z), Q1 s → Q2 s → Q3 s) (h1 : fm_42 R431 a1 Q1 s) (h2 : fw_42 R432 a1 Q2 s) : fm_42 R433 a1 Q3 s := by
  unfold fm_42 at h1 ⊢
  unfold fw_42 at h2
  exact hR43 _ _ _ _ _ (fun s21 k1 l1 => cj_42_p7L hR43 hQ k1 l1) h1 h2
def fw_43 (R41 : Int → (lf_Z → Prop) → lf_Z → Prop) (R43 : Int → (lf_Z → Prop) → lf_Z → Prop) (R49 : Int → (lf_Z → Prop) → lf_Z → Prop) (R54 : Int → (lf_Z → Prop) → lf_Z → Prop) (a1 : Int) (Q : lf_Z → Prop) (s : lf_Z) : Prop := lf_R (s.1 31 8) → ((s.1 31 8 ≠ 2 ∧ s.1 31 8 ≠ 3 ∧ s.1 31 8 ≠ 11 ∧ s.1 31 8 ≠ 14 ∧ s.1 31 8 ≠ 37 ∧ s.1 31 8 ≠ 41 → (fw_56 (fun s22 => (Q s22)) s)) ∧ (s.1 31 8 = 2 → ((s.2.2 2 = none → (fw_44 0 9999 (fun r25 s24 => (True)) s)) ∧ (∀ t23 : Nat, s.2.2 2 = some t23 → t23 < 4 → (fw_44 0 9999 (fun r27 s26 => (fw_45 t23 2 r27 (fun r29 s28 => (Q s28)) s26)) s)))) ∧ (s.1 31 8 = 3 → (fw_46 (fun s30 => (Q s30)) s)) ∧ (s.1 31 8 = 11 → (fw_47 a1 (fun z32 s31 => ((z32 = false → (Q s31)) ∧ (z32 = true → (R43 (a1 + 1) (fun s33 => ((s33.2.2 2 = none → (True)) ∧ (∀ t34 : Nat, s33.2.2 2 = some t34 → t34 < 4 → (fw_45 t34 18 0 (fun r36 s35 => (Q s35)) s33)))) s31)))) s)) ∧ (s.1 31 8 = 14 → (fw_47 a1 (fun z38 s37 => ((z38 = false → (Q s37)) ∧ (z38 = true → (R41 (a1 + 1) (fun s39 => (fw_48 15 (fun s40 => (Q s40)) s39)) s37)))) s)) ∧ (s.1 31 8 = 37 → (fw_47 a1 (fun z42 s41 => ((z42 = false → (Q s41)) ∧ (z42 = true → (R49 (a1 + 1) (fun s43 => (Q s43)) s41)))) s)) ∧ (s.1 31 8 = 41 → (fw_47 a1 (fun z45 s44 => ((z45 = false → (Q s44)) ∧ (z45 = true → (R54 (a1 + 1) (fun s46 => (Q s46)) s44)))) s)))
theorem cj_43 {R411 R412 R413 : Int → (lf_Z → Prop) → lf_Z → Prop} {R431 R432 R433 : Int → (lf_Z → Prop) → lf_Z → Prop} {R491 R492 R493 : Int → (lf_Z → Prop) → lf_Z → Prop} {R541 R542 R543 : Int → (lf_Z → Prop) → lf_Z → Prop} {Q1 Q2 Q3 : lf_Z → Prop} {a1 : Int} {s : lf_Z} (hR41 : ∀ (v0 : Int) (Q1 Q2 Q3 : lf_Z → Prop) (s : lf_Z), (∀ (s : lf_Z), Q1 s → Q2 s → Q3 s) → R411 v0 Q1 s → R412 v0 Q2 s → R413 v0 Q3 s) (hR43 : ∀ (v0 : Int) (Q1 Q2 Q3 : lf_Z → Prop) (s : lf_Z), (∀ (s : lf_Z), Q1 s → Q2 s → Q3 s) → R431 v0 Q1 s → R432 v0 Q2 s → R433 v0 Q3 s) (hR49 : ∀ (v0 : Int) (Q1 Q2 Q3 : lf_Z → Prop) (s : lf_Z), (∀ (s : lf_Z), Q1 s → Q2 s → Q3 s) → R491 v0 Q1 s → R492 v0 Q2 s → R493 v0 Q3 s) (hR54 : ∀ (v0 : Int) (Q1 Q2 Q3 : lf_Z → Prop) (s : lf_Z), (∀ (s : lf_Z), Q1 s → Q2 s → Q3 s) → R541 v0 Q1 s → R542 v0 Q2 s → R543 v0 Q3 s) (hQ : ∀ (s : lf_Z), Q1 s → Q2 s → Q3 s) (h1 : fm_43 R411 R431 R491 R541 a1 Q1 s) (h2 : fw_43 R412 R432 R492 R542 a1 Q2 s) : fm_43 R413 R433 R493 R543 a1 Q3 s := by
  unfold fm_43 at h1 ⊢
  unfold fw_43 at h2
  exact ⟨h1.1, ⟨(fun c2 => cj_56 (fun s22 k3 l3 => hQ _  k3 l3) (h1.2.1 c2) ((h2 h1.1).1 c2)), (fun c2 => ⟨(fun c5 => cj_44 (fun r25 s24 k6 l6 => k6.elim) ((h1.2.2.1 c2).1 c5) (((h2 h1.1).2.1 c2).1 c5)), (fun t23 et23 => ⟨((h1.2.2.1 c2).2 t23 et23).1, cj_44 (fun r27 s26 k9 l9 => cj_45 (fun r29 s28 k10 l10 => hQ _  k10 l10) k9 l9) ((h1.2.2.1 c2).2 t23 et23).2 (((h2 h1.1).2.1 c2).2 t23 et23 ((h1.2.2.1 c2).2 t23 et23).1)⟩)⟩), (fun c2 => cj_46 (fun s30 k12 l12 => hQ _  k12 l12) (h1.2.2.2.1 c2) ((h2 h1.1).2.2.1 c2)), (fun c2 => cj_47 (fun z32 s31 k14 l14 => ⟨(fun c15 => hQ _  (k14.1 c15) (l14.1 c15)), (fun c15 => hR43 _ _ _ _ _ (fun s33 k17 l17 => ⟨(fun c18 => (k17.1 c18).elim), (fun t34 et34 => ⟨(k17.2 t34 et34).1, cj_45 (fun r36 s35 k21 l21 => hQ _  k21 l21) (k17.2 t34 et34).2 (l17.2 t34 et34 (k17.2 t34 et34).1)⟩)⟩) (k14.2 c15) (l14.2 c15))⟩) (h1.2.2.2.2.1 c2) ((h2 h1.1).2.2.2.1 c2)), (fun c2 => cj_47 (fun z38 s37 k23 l23 => ⟨(fun c24 => hQ _  (k23.1 c24) (l23.1 c24)), (fun c24 => hR41 _ _ _ _ _ (fun s39 k26 l26 => cj_48 (fun s40 k27 l27 => hQ _  k27 l27) k26 l26) (k23.2 c24) (l23.2 c24))⟩) (h1.2.2.2.2.2.1 c2) ((h2 h1.1).2.2.2.2.1 c2)), (fun c2 => cj_47 (fun z42 s41 k29 l29 => ⟨(fun c30 => hQ _  (k29.1 c30) (l29.1 c30)), (fun c30 => hR49 _ _ _ _ _ (fun s43 k32 l32 => hQ _  k32 l32) (k29.2 c30) (l29.2 c30))⟩) (h1.2.2.2.2.2.2.1 c2) ((h2 h1.1).2.2.2.2.2.1 c2)), (fun c2 => cj_47 (fun z45 s44 k34 l34 => ⟨(fun c35 => hQ _  (k34.1 c35) (l34.1 c35)), (fun c35 => hR54 _ _ _ _ _ (fun s46 k37 l37 => hQ _  k37 l37) (k34.2 c35) (l34.2 c35))⟩) (h1.2.2.2.2.2.2.2 c2) ((h2 h1.1).2.2.2.2.2.2 c2))⟩⟩
def fw_49 (R41 : Int → (lf_Z → Prop) → lf_Z → Prop) (R50 : Int → (lf_Z → Prop) → lf_Z → Prop) (a1 : Int) (Q : lf_Z → Prop) (s : lf_Z) : Prop := R50 a1 (fun s21 => (fw_48 38 (fun s22 => ((s22.2.2 2 = none → (True)) ∧ (∀ t23 : Nat, s22.2.2 2 = some t23 → t23 < 4 → (fw_45 t23 38 0 (fun r25 s24 => (R41 a1 (fun s26 => (fw_48 39 (fun s27 => ((s27.2.2 2 = none → (True)) ∧ (∀ t28 : Nat, s27.2.2 2 = some t28 → t28 < 4 → (fw_45 t28 39 0 (fun r30 s29 => ((s29.2.2 2 = none → (True)) ∧ (∀ t31 : Nat, s29.2.2 2 = some t31 → t31 < 4 → (fw_53 t31 r25 (fun s32 => (R41 a1 (fun s33 => ((s33.2.2 2 = none → (True)) ∧ (∀ t34 : Nat, s33.2.2 2 = some t34 → t34 < 4 → (fw_53 t34 r30 (fun s35 => (fw_48 40 (fun s36 => (Q s36)) s35)) s33)))) s32)) s29)))) s27)))) s26)) s24)) s22)))) s21)) s
theorem cj_49 {R411 R412 R413 : Int → (lf_Z → Prop) → lf_Z → Prop} {R501 R502 R503 : Int → (lf_Z → Prop) → lf_Z → Prop} {Q1 Q2 Q3 : lf_Z → Prop} {a1 : Int} {s : lf_Z} (hR41 : ∀ (v0 : Int) (Q1 Q2 Q3 : lf_Z → Prop) (s : lf_Z), (∀ (s : lf_Z), Q1 s → Q2 s → Q3 s) → R411 v0 Q1 s → R412 v0 Q2 s → R413 v0 Q3 s) (hR50 : ∀ (v0 : Int) (Q1 Q2 Q3 : lf_Z → Prop) (s : lf_Z), (∀ (s : lf_Z), Q1 s → Q2 s → Q3 s) → R501 v0 Q1 s → R502 v0 Q2 s → R503 v0 Q3 s) (hQ : ∀ (s : lf_Z), Q1 s → Q2 s → Q3 s) (h1 : fm_49 R411 R501 a1 Q1 s) (h2 : fw_49 R412 R502 a1 Q2 s) : fm_49 R413 R503 a1 Q3 s := by
  unfold fm_49 at h1 ⊢
  unfold fw_49 at h2
  exact hR50 _ _ _ _ _ (fun s21 k1 l1 => cj_48 (fun s22 k2 l2 => ⟨(fun c3 => (k2.1 c3).elim), (fun t23 et23 => ⟨(k2.2 t23 et23).1, cj_45 (fun r25 s24 k6 l6 => hR41 _ _ _ _ _ (fun s26 k7 l7 => cj_48 (fun s27 k8 l8 => ⟨(fun c9 => (k8.1 c9).elim), (fun t28 et28 => ⟨(k8.2 t28 et28).1, cj_45 (fun r30 s29 k12 l12 => ⟨(fun c13 => (k12.1 c13).elim), (fun t31 et31 => ⟨(k12.2 t31 et31).1, cj_53 (fun s32 k16 l16 => hR41 _ _ _ _ _ (fun s33 k17 l17 => ⟨(fun c18 => (k17.1 c18).elim), (fun t34 et34 => ⟨(k17.2 t34 et34).1, cj_53 (fun s35 k21 l21 => cj_48 (fun s36 k22 l22 => hQ _  k22 l22) k21 l21) (k17.2 t34 et34).2 (l17.2 t34 et34 (k17.2 t34 et34).1)⟩)⟩) k16 l16) (k12.2 t31 et31).2 (l12.2 t31 et31 (k12.2 t31 et31).1)⟩)⟩) (k8.2 t28 et28).2 (l8.2 t28 et28 (k8.2 t28 et28).1)⟩)⟩) k7 l7) k6 l6) (k2.2 t23 et23).2 (l2.2 t23 et23 (k2.2 t23 et23).1)⟩)⟩) k1 l1) h1 h2
def fw_54_p29 (R41 : Int → (lf_Z → Prop) → lf_Z → Prop) (Q : lf_Z → Prop) (x1 : Int) (y0 : Int) (s : lf_Z) : Prop := fw_55 (x1 - 1) 0 7 (fun r23 s22 => (fw_48 3 (fun s24 => (fw_48 42 (fun s25 => (R41 x1 (fun s26 => (fw_48 43 (fun s27 => ((s27.2.2 2 = none → (True)) ∧ (∀ t28 : Nat, s27.2.2 2 = some t28 → t28 < 4 → (fw_45 t28 43 r23 (fun r30 s29 => ((0 ≤ y0 ∧ y0 < 26) → (R41 x1 (fun s32 => (fw_48 40 (fun s33 => (Q s33)) (lf_up s32.1 33 y0 (s29.1 33 y0), s32.2.1, s32.2.2))) (lf_up s29.1 33 y0 r23, s29.2.1, s29.2.2)))) s27)))) s26)) s25)) s24)) s22)) s
theorem cj_54_p29 {R411 R412 R413 : Int → (lf_Z → Prop) → lf_Z → Prop} {Q1 Q2 Q3 : lf_Z → Prop} {x1 : Int} {y0 : Int} {s : lf_Z} (hR41 : ∀ (v0 : Int) (Q1 Q2 Q3 : lf_Z → Prop) (s : lf_Z), (∀ (s : lf_Z), Q1 s → Q2 s → Q3 s) → R411 v0 Q1 s → R412 v0 Q2 s → R413 v0 Q3 s) (hQ : ∀ (s : lf_Z), Q1 s → Q2 s → Q3 s) (h1 : fm_54_p29 R411 Q1 x1 y0 s) (h2 : fw_54_p29 R412 Q2 x1 y0 s) : fm_54_p29 R413 Q3 x1 y0 s := by
  unfold fm_54_p29 at h1 ⊢
  unfold fw_54_p29 at h2
  exact cj_55 (fun r23 s22 k1 l1 => cj_48 (fun s24 k2 l2 => cj_48 (fun s25 k3 l3 => hR41 _ _ _ _ _ (fun s26 k4 l4 => cj_48 (fun s27 k5 l5 => ⟨(fun c6 => (k5.1 c6).elim), (fun t28 et28 => ⟨(k5.2 t28 et28).1, cj_45 (fun r30 s29 k9 l9 => ⟨k9.1, hR41 _ _ _ _ _ (fun s32 k11 l11 => cj_48 (fun s33 k12 l12 => hQ _  k12 l12) k11 l11) k9.2 (l9 k9.1)⟩) (k5.2 t28 et28).2 (l5.2 t28 et28 (k5.2 t28 et28).1)⟩)⟩) k4 l4) k3 l3) k2 l2) k1 l1) h1 h2
def fw_54_p28 (R41 : Int → (lf_Z → Prop) → lf_Z → Prop) (Q : lf_Z → Prop) (x1 : Int) (s : lf_Z) : Prop := fw_54_p29 R41 Q x1 0 s
theorem cj_54_p28 {R411 R412 R413 : Int → (lf_Z → Prop) → lf_Z → Prop} {Q1 Q2 Q3 : lf_Z → Prop} {x1 : Int} {s : lf_Z} (hR41 : ∀ (v0 : Int) (Q1 Q2 Q3 : lf_Z → Prop) (s : lf_Z), (∀ (s : lf_Z), Q1 s → Q2 s → Q3 s) → R411 v0 Q1 s → R412 v0 Q2 s → R413 v0 Q3 s) (hQ : ∀ (s : lf_Z), Q1 s → Q2 s → Q3 s) (h1 : fm_54_p28 R411 Q1 x1 s) (h2 : fw_54_p28 R412 Q2 x1 s) : fm_54_p28 R413 Q3 x1 s := by
  unfold fm_54_p28 at h1 ⊢
  unfold fw_54_p28 at h2
  exact cj_54_p29 hR41 hQ h1 h2
def fw_54 (R41 : Int → (lf_Z → Prop) → lf_Z → Prop) (a1 : Int) (Q : lf_Z → Prop) (s : lf_Z) : Prop := lf_R (s.1 31 8) → ((s.1 31 8 ≠ 3 → (fw_54_p28 R41 Q a1 s)) ∧ (¬ (s.1 31 8 ≠ 3) → (fw_15 (s.1 31 10) 0 25 (fun z35 s34 => ((z35 = false → (fw_54_p28 R41 Q a1 s34)) ∧ (z35 = true → (fw_54_p29 R41 Q a1 (s34.1 31 10) s34)))) s)))
theorem cj_54 {R411 R412 R413 : Int → (lf_Z → Prop) → lf_Z → Prop} {Q1 Q2 Q3 : lf_Z → Prop} {a1 : Int} {s : lf_Z} (hR41 : ∀ (v0 : Int) (Q1 Q2 Q3 : lf_Z → Prop) (s : lf_Z), (∀ (s : lf_Z), Q1 s → Q2 s → Q3 s) → R411 v0 Q1 s → R412 v0 Q2 s → R413 v0 Q3 s) (hQ : ∀ (s : lf_Z), Q1 s → Q2 s → Q3 s) (h1 : fm_54 R411 a1 Q1 s) (h2 : fw_54 R412 a1 Q2 s) : fm_54 R413 a1 Q3 s := by
  unfold fm_54 at h1 ⊢
  unfold fw_54 at h2
  exact ⟨h1.1, ⟨(fun c2 => cj_54_p28 hR41 hQ (h1.2.1 c2) ((h2 h1.1).1 c2)), (fun c2 => cj_15 (fun z35 s34 k4 l4 => ⟨(fun c5 => cj_54_p28 hR41 hQ (k4.1 c5) (l4.1 c5)), (fun c5 => cj_54_p29 hR41 hQ (k4.2 c5) (l4.2 c5))⟩) (h1.2.2 c2) ((h2 h1.1).2 c2))⟩⟩
def fw_50_p7 (R51 : Int → (lf_Z → Prop) → lf_Z → Prop) (Q : lf_Z → Prop) (x1 : Int) (X7 : Int → lf_Z → Prop) (x2 : Int) (s : lf_Z) : Prop := lf_R x2 → ((300 ≤ x2 → (Q s)) ∧ (¬ (300 ≤ x2) → (lf_R (s.1 31 8) → ((s.1 31 8 ≠ 46 → (Q s)) ∧ (¬ (s.1 31 8 ≠ 46) → (fw_31 (fun s24 => (R51 x1 (fun s25 => ((s25.2.2 2 = none → (True)) ∧ (∀ t26 : Nat, s25.2.2 2 = some t26 → t26 < 4 → (fw_45 t26 46 0 (fun r28 s27 => (X7 (x2 + 1) s27)) s25)))) s24)) s))))))
theorem cj_50_p7 {R511 R512 R513 : Int → (lf_Z → Prop) → lf_Z → Prop} {X71 X72 X73 : Int → lf_Z → Prop} {Q1 Q2 Q3 : lf_Z → Prop} {x1 : Int} {x2 : Int} {s : lf_Z} (hR51 : ∀ (v0 : Int) (Q1 Q2 Q3 : lf_Z → Prop) (s : lf_Z), (∀ (s : lf_Z), Q1 s → Q2 s → Q3 s) → R511 v0 Q1 s → R512 v0 Q2 s → R513 v0 Q3 s) (hX7 : ∀ (v0 : Int) (v1 : lf_Z), X71 v0 v1 → X72 v0 v1 → X73 v0 v1) (hQ : ∀ (s : lf_Z), Q1 s → Q2 s → Q3 s) (h1 : fm_50_p7 R511 Q1 x1 X71 x2 s) (h2 : fw_50_p7 R512 Q2 x1 X72 x2 s) : fm_50_p7 R513 Q3 x1 X73 x2 s := by
  unfold fm_50_p7 at h1 ⊢
  unfold fw_50_p7 at h2
  exact ⟨h1.1, ⟨(fun c2 => hQ _  (h1.2.1 c2) ((h2 h1.1).1 c2)), (fun c2 => ⟨(h1.2.2 c2).1, ⟨(fun c5 => hQ _  ((h1.2.2 c2).2.1 c5) ((((h2 h1.1).2 c2) (h1.2.2 c2).1).1 c5)), (fun c5 => cj_31 (fun s24 k7 l7 => hR51 _ _ _ _ _ (fun s25 k8 l8 => ⟨(fun c9 => (k8.1 c9).elim), (fun t26 et26 => ⟨(k8.2 t26 et26).1, cj_45 (fun r28 s27 k12 l12 => hX7 _ _  k12 l12) (k8.2 t26 et26).2 (l8.2 t26 et26 (k8.2 t26 et26).1)⟩)⟩) k7 l7) ((h1.2.2 c2).2.2 c5) ((((h2 h1.1).2 c2) (h1.2.2 c2).1).2 c5))⟩⟩)⟩⟩
def fw_50_p7L (R51 : Int → (lf_Z → Prop) → lf_Z → Prop) (Q : lf_Z → Prop) (x1 : Int) (x2 : Int) (s : lf_Z) : Prop := ∃ X7 : Int → lf_Z → Prop, (∀ (x2 : Int) (s : lf_Z), X7 x2 s → fw_50_p7 R51 Q x1 X7 x2 s) ∧ X7 x2 s
theorem cj_50_p7L {R511 R512 R513 : Int → (lf_Z → Prop) → lf_Z → Prop} {Q1 Q2 Q3 : lf_Z → Prop} {x1 : Int} {x2 : Int} {s : lf_Z} (hR51 : ∀ (v0 : Int) (Q1 Q2 Q3 : lf_Z → Prop) (s : lf_Z), (∀ (s : lf_Z), Q1 s → Q2 s → Q3 s) → R511 v0 Q1 s → R512 v0 Q2 s → R513 v0 Q3 s) (hQ : ∀ (s : lf_Z), Q1 s → Q2 s → Q3 s) (h1 : fm_50_p7L R511 Q1 x1 x2 s) (h2 : fw_50_p7L R512 Q2 x1 x2 s) : fm_50_p7L R513 Q3 x1 x2 s := by
  intro X0 hX0
  obtain ⟨Y, hY, hY0⟩ := h2
  exact h1 (fun v0 s => Y v0 s → X0 v0 s) (fun v0 s hb hy => hX0 v0 s (cj_50_p7 (hR51 := hR51) (X71 := fun v0 s => Y v0 s → X0 v0 s) (X72 := Y) (X73 := X0) (hX7 := fun v0 s a b => a b) hQ hb (hY v0 s hy))) hY0
def fw_50 (R51 : Int → (lf_Z → Prop) → lf_Z → Prop) (a1 : Int) (Q : lf_Z → Prop) (s : lf_Z) : Prop := R51 a1 (fun s21 => (fw_50_p7L R51 Q a1 0 s21)) s
theorem cj_50 {R511 R512 R513 : Int → (lf_Z → Prop) → lf_Z → Prop} {Q1 Q2 Q3 : lf_Z → Prop} {a1 : Int} {s : lf_Z} (hR51 : ∀ (v0 : Int) (Q1 Q2 Q3 : lf_Z → Prop) (s : lf_Z), (∀ (s : lf_Z), Q1 s → Q2 s → Q3 s) → R511 v0 Q1 s → R512 v0 Q2 s → R513 v0 Q3 s) (hQ : ∀ (s : lf_Z), Q1 s → Q2 s → Q3 s) (h1 : fm_50 R511 a1 Q1 s) (h2 : fw_50 R512 a1 Q2 s) : fm_50 R513 a1 Q3 s := by
  unfold fm_50 at h1 ⊢
  unfold fw_50 at h2
  exact hR51 _ _ _ _ _ (fun s21 k1 l1 => cj_50_p7L hR51 hQ k1 l1) h1 h2
def fw_51_p7 (R52 : Int → (lf_Z → Prop) → lf_Z → Prop) (Q : lf_Z → Prop) (x1 : Int) (X7 : Int → lf_Z → Prop) (x2 : Int) (s : lf_Z) : Prop := lf_R x2 → ((300 ≤ x2 → (Q s)) ∧ (¬ (300 ≤ x2) → (lf_R (s.1 31 8) → ((s.1 31 8 ≠ 45 → (Q s)) ∧ (¬ (s.1 31 8 ≠ 45) → (fw_31 (fun s24 => (R52 x1 (fun s25 => ((s25.2.2 2 = none → (True)) ∧ (∀ t26 : Nat, s25.2.2 2 = some t26 → t26 < 4 → (fw_45 t26 45 0 (fun r28 s27 => (X7 (x2 + 1) s27)) s25)))) s24)) s))))))
theorem cj_51_p7 {R521 R522 R523 : Int → (lf_Z → Prop) → lf_Z → Prop} {X71 X72 X73 : Int → lf_Z → Prop} {Q1 Q2 Q3 : lf_Z → Prop} {x1 : Int} {x2 : Int} {s : lf_Z} (hR52 : ∀ (v0 : Int) (Q1 Q2 Q3 : lf_Z → Prop) (s : lf_Z), (∀ (s : lf_Z), Q1 s → Q2 s → Q3 s) → R521 v0 Q1 s → R522 v0 Q2 s → R523 v0 Q3 s) (hX7 : ∀ (v0 : Int) (v1 : lf_Z), X71 v0 v1 → X72 v0 v1 → X73 v0 v1) (hQ : ∀ (s : lf_Z), Q1 s → Q2 s → Q3 s) (h1 : fm_51_p7 R521 Q1 x1 X71 x2 s) (h2 : fw_51_p7 R522 Q2 x1 X72 x2 s) : fm_51_p7 R523 Q3 x1 X73 x2 s := by
  unfold fm_51_p7 at h1 ⊢
  unfold fw_51_p7 at h2
  exact ⟨h1.1, ⟨(fun c2 => hQ _  (h1.2.1 c2) ((h2 h1.1).1 c2)), (fun c2 => ⟨(h1.2.2 c2).1, ⟨(fun c5 => hQ _  ((h1.2.2 c2).2.1 c5) ((((h2 h1.1).2 c2) (h1.2.2 c2).1).1 c5)), (fun c5 => cj_31 (fun s24 k7 l7 => hR52 _ _ _ _ _ (fun s25 k8 l8 => ⟨(fun c9 => (k8.1 c9).elim), (fun t26 et26 => ⟨(k8.2 t26 et26).1, cj_45 (fun r28 s27 k12 l12 => hX7 _ _  k12 l12) (k8.2 t26 et26).2 (l8.2 t26 et26 (k8.2 t26 et26).1)⟩)⟩) k7 l7) ((h1.2.2 c2).2.2 c5) ((((h2 h1.1).2 c2) (h1.2.2 c2).1).2 c5))⟩⟩)⟩⟩
def fw_51_p7L (R52 : Int → (lf_Z → Prop) → lf_Z → Prop) (Q : lf_Z → Prop) (x1 : Int) (x2 : Int) (s : lf_Z) : Prop := ∃ X7 : Int → lf_Z → Prop, (∀ (x2 : Int) (s : lf_Z), X7 x2 s → fw_51_p7 R52 Q x1 X7 x2 s) ∧ X7 x2 s
theorem cj_51_p7L {R521 R522 R523 : Int → (lf_Z → Prop) → lf_Z → Prop} {Q1 Q2 Q3 : lf_Z → Prop} {x1 : Int} {x2 : Int} {s : lf_Z} (hR52 : ∀ (v0 : Int) (Q1 Q2 Q3 : lf_Z → Prop) (s : lf_Z), (∀ (s : lf_Z), Q1 s → Q2 s → Q3 s) → R521 v0 Q1 s → R522 v0 Q2 s → R523 v0 Q3 s) (hQ : ∀ (s : lf_Z), Q1 s → Q2 s → Q3 s) (h1 : fm_51_p7L R521 Q1 x1 x2 s) (h2 : fw_51_p7L R522 Q2 x1 x2 s) : fm_51_p7L R523 Q3 x1 x2 s := by
  intro X0 hX0
  obtain ⟨Y, hY, hY0⟩ := h2
  exact h1 (fun v0 s => Y v0 s → X0 v0 s) (fun v0 s hb hy => hX0 v0 s (cj_51_p7 (hR52 := hR52) (X71 := fun v0 s => Y v0 s → X0 v0 s) (X72 := Y) (X73 := X0) (hX7 := fun v0 s a b => a b) hQ hb (hY v0 s hy))) hY0
def fw_51 (R52 : Int → (lf_Z → Prop) → lf_Z → Prop) (a1 : Int) (Q : lf_Z → Prop) (s : lf_Z) : Prop := R52 a1 (fun s21 => (fw_51_p7L R52 Q a1 0 s21)) s
theorem cj_51 {R521 R522 R523 : Int → (lf_Z → Prop) → lf_Z → Prop} {Q1 Q2 Q3 : lf_Z → Prop} {a1 : Int} {s : lf_Z} (hR52 : ∀ (v0 : Int) (Q1 Q2 Q3 : lf_Z → Prop) (s : lf_Z), (∀ (s : lf_Z), Q1 s → Q2 s → Q3 s) → R521 v0 Q1 s → R522 v0 Q2 s → R523 v0 Q3 s) (hQ : ∀ (s : lf_Z), Q1 s → Q2 s → Q3 s) (h1 : fm_51 R521 a1 Q1 s) (h2 : fw_51 R522 a1 Q2 s) : fm_51 R523 a1 Q3 s := by
  unfold fm_51 at h1 ⊢
  unfold fw_51 at h2
  exact hR52 _ _ _ _ _ (fun s21 k1 l1 => cj_51_p7L hR52 hQ k1 l1) h1 h2
def fw_52 (R41 : Int → (lf_Z → Prop) → lf_Z → Prop) (R52 : Int → (lf_Z → Prop) → lf_Z → Prop) (a1 : Int) (Q : lf_Z → Prop) (s : lf_Z) : Prop := lf_R (s.1 31 8) → ((s.1 31 8 ≠ 44 → (R41 a1 (fun s22 => (fw_15 (s22.1 31 8) 4 9 (fun z24 s23 => ((z24 = true → (fw_31 (fun s25 => (R41 a1 (fun s26 => ((s26.2.2 2 = none → (True)) ∧ (∀ t27 : Nat, s26.2.2 2 = some t27 → t27 < 4 → (fw_45 t27 (s22.1 31 8) 0 (fun r29 s28 => (Q s28)) s26)))) s25)) s23)) ∧ (z24 = false → (fw_39 1 (fun s30 => (Q s30)) s23)))) s22)) s)) ∧ (¬ (s.1 31 8 ≠ 44) → (fw_47 a1 (fun z32 s31 => ((z32 = false → (Q s31)) ∧ (z32 = true → (R52 (a1 + 1) (fun s33 => ((s33.2.2 2 = none → (True)) ∧ (∀ t34 : Nat, s33.2.2 2 = some t34 → t34 < 4 → (fw_45 t34 44 0 (fun r36 s35 => (Q s35)) s33)))) s31)))) s)))
theorem cj_52 {R411 R412 R413 : Int → (lf_Z → Prop) → lf_Z → Prop} {R521 R522 R523 : Int → (lf_Z → Prop) → lf_Z → Prop} {Q1 Q2 Q3 : lf_Z → Prop} {a1 : Int} {s : lf_Z} (hR41 : ∀ (v0 : Int) (Q1 Q2 Q3 : lf_Z → Prop) (s : lf_Z), (∀ (s : lf_Z), Q1 s → Q2 s → Q3 s) → R411 v0 Q1 s → R412 v0 Q2 s → R413 v0 Q3 s) (hR52 : ∀ (v0 : Int) (Q1 Q2 Q3 : lf_Z → Prop) (s : lf_Z), (∀ (s : lf_Z), Q1 s → Q2 s → Q3 s) → R521 v0 Q1 s → R522 v0 Q2 s → R523 v0 Q3 s) (hQ : ∀ (s : lf_Z), Q1 s → Q2 s → Q3 s) (h1 : fm_52 R411 R521 a1 Q1 s) (h2 : fw_52 R412 R522 a1 Q2 s) : fm_52 R413 R523 a1 Q3 s := by
  unfold fm_52 at h1 ⊢
  unfold fw_52 at h2
  exact ⟨h1.1, ⟨(fun c2 => hR41 _ _ _ _ _ (fun s22 k3 l3 => cj_15 (fun z24 s23 k4 l4 => ⟨(fun c5 => cj_31 (fun s25 k6 l6 => hR41 _ _ _ _ _ (fun s26 k7 l7 => ⟨(fun c8 => (k7.1 c8).elim), (fun t27 et27 => ⟨(k7.2 t27 et27).1, cj_45 (fun r29 s28 k11 l11 => hQ _  k11 l11) (k7.2 t27 et27).2 (l7.2 t27 et27 (k7.2 t27 et27).1)⟩)⟩) k6 l6) (k4.1 c5) (l4.1 c5)), (fun c5 => cj_39 (fun s30 k13 l13 => hQ _  k13 l13) (k4.2 c5) (l4.2 c5))⟩) k3 l3) (h1.2.1 c2) ((h2 h1.1).1 c2)), (fun c2 => cj_47 (fun z32 s31 k15 l15 => ⟨(fun c16 => hQ _  (k15.1 c16) (l15.1 c16)), (fun c16 => hR52 _ _ _ _ _ (fun s33 k18 l18 => ⟨(fun c19 => (k18.1 c19).elim), (fun t34 et34 => ⟨(k18.2 t34 et34).1, cj_45 (fun r36 s35 k22 l22 => hQ _  k22 l22) (k18.2 t34 et34).2 (l18.2 t34 et34 (k18.2 t34 et34).1)⟩)⟩) (k15.2 c16) (l15.2 c16))⟩) (h1.2.2 c2) ((h2 h1.1).2 c2))⟩⟩
def fv_41T : Nat → (Int → (lf_Z → Prop) → lf_Z → Prop) × (Int → (lf_Z → Prop) → lf_Z → Prop) × (Int → (lf_Z → Prop) → lf_Z → Prop) × (Int → (lf_Z → Prop) → lf_Z → Prop) × (Int → (lf_Z → Prop) → lf_Z → Prop) × (Int → (lf_Z → Prop) → lf_Z → Prop) × (Int → (lf_Z → Prop) → lf_Z → Prop) × (Int → (lf_Z → Prop) → lf_Z → Prop)
  | 0 => (fun _ _ _ => True, fun _ _ _ => True, fun _ _ _ => True, fun _ _ _ => True, fun _ _ _ => True, fun _ _ _ => True, fun _ _ _ => True, fun _ _ _ => True)
  | n + 1 => (fw_41 ((fv_41T n).2.1), fw_42 ((fv_41T n).2.2.1), fw_43 ((fv_41T n).1) ((fv_41T n).2.2.1) ((fv_41T n).2.2.2.1) ((fv_41T n).2.2.2.2.1), fw_49 ((fv_41T n).1) ((fv_41T n).2.2.2.2.2.1), fw_54 ((fv_41T n).1), fw_50 ((fv_41T n).2.2.2.2.2.2.1), fw_51 ((fv_41T n).2.2.2.2.2.2.2), fw_52 ((fv_41T n).1) ((fv_41T n).2.2.2.2.2.2.2))
theorem ck_41T : ∀ n : Nat, (∀ (v0 : Int) (Q1 Q2 Q3 : lf_Z → Prop) (s : lf_Z), (∀ (s : lf_Z), Q1 s → Q2 s → Q3 s) → (fc_41T n).1 v0 Q1 s → (fv_41T n).1 v0 Q2 s → (fc_41T n).1 v0 Q3 s) ∧ (∀ (v0 : Int) (Q1 Q2 Q3 : lf_Z → Prop) (s : lf_Z), (∀ (s : lf_Z), Q1 s → Q2 s → Q3 s) → (fc_41T n).2.1 v0 Q1 s → (fv_41T n).2.1 v0 Q2 s → (fc_41T n).2.1 v0 Q3 s) ∧ (∀ (v0 : Int) (Q1 Q2 Q3 : lf_Z → Prop) (s : lf_Z), (∀ (s : lf_Z), Q1 s → Q2 s → Q3 s) → (fc_41T n).2.2.1 v0 Q1 s → (fv_41T n).2.2.1 v0 Q2 s → (fc_41T n).2.2.1 v0 Q3 s) ∧ (∀ (v0 : Int) (Q1 Q2 Q3 : lf_Z → Prop) (s : lf_Z), (∀ (s : lf_Z), Q1 s → Q2 s → Q3 s) → (fc_41T n).2.2.2.1 v0 Q1 s → (fv_41T n).2.2.2.1 v0 Q2 s → (fc_41T n).2.2.2.1 v0 Q3 s) ∧ (∀ (v0 : Int) (Q1 Q2 Q3 : lf_Z → Prop) (s : lf_Z), (∀ (s : lf_Z), Q1 s → Q2 s → Q3 s) → (fc_41T n).2.2.2.2.1 v0 Q1 s → (fv_41T n).2.2.2.2.1 v0 Q2 s → (fc_41T n).2.2.2.2.1 v0 Q3 s) ∧ (∀ (v0 : Int) (Q1 Q2 Q3 : lf_Z → Prop) (s : lf_Z), (∀ (s : lf_Z), Q1 s → Q2 s → Q3 s) → (fc_41T n).2.2.2.2.2.1 v0 Q1 s → (fv_41T n).2.2.2.2.2.1 v0 Q2 s → (fc_41T n).2.2.2.2.2.1 v0 Q3 s) ∧ (∀ (v0 : Int) (Q1 Q2 Q3 : lf_Z → Prop) (s : lf_Z), (∀ (s : lf_Z), Q1 s → Q2 s → Q3 s) → (fc_41T n).2.2.2.2.2.2.1 v0 Q1 s → (fv_41T n).2.2.2.2.2.2.1 v0 Q2 s → (fc_41T n).2.2.2.2.2.2.1 v0 Q3 s) ∧ (∀ (v0 : Int) (Q1 Q2 Q3 : lf_Z → Prop) (s : lf_Z), (∀ (s : lf_Z), Q1 s → Q2 s → Q3 s) → (fc_41T n).2.2.2.2.2.2.2 v0 Q1 s → (fv_41T n).2.2.2.2.2.2.2 v0 Q2 s → (fc_41T n).2.2.2.2.2.2.2 v0 Q3 s)
  | 0 => ⟨fun _ _ _ _ _ _ h1 _ => h1.elim, fun _ _ _ _ _ _ h1 _ => h1.elim, fun _ _ _ _ _ _ h1 _ => h1.elim, fun _ _ _ _ _ _ h1 _ => h1.elim, fun _ _ _ _ _ _ h1 _ => h1.elim, fun _ _ _ _ _ _ h1 _ => h1.elim, fun _ _ _ _ _ _ h1 _ => h1.elim, fun _ _ _ _ _ _ h1 _ => h1.elim⟩
  | n + 1 => ⟨fun _ _ _ _ _ hq h1 h2 => cj_41 (hR42 := (ck_41T n).2.1) hq h1 h2, fun _ _ _ _ _ hq h1 h2 => cj_42 (hR43 := (ck_41T n).2.2.1) hq h1 h2, fun _ _ _ _ _ hq h1 h2 => cj_43 (hR41 := (ck_41T n).1) (hR43 := (ck_41T n).2.2.1) (hR49 := (ck_41T n).2.2.2.1) (hR54 := (ck_41T n).2.2.2.2.1) hq h1 h2, fun _ _ _ _ _ hq h1 h2 => cj_49 (hR41 := (ck_41T n).1) (hR50 := (ck_41T n).2.2.2.2.2.1) hq h1 h2, fun _ _ _ _ _ hq h1 h2 => cj_54 (hR41 := (ck_41T n).1) hq h1 h2, fun _ _ _ _ _ hq h1 h2 => cj_50 (hR51 := (ck_41T n).2.2.2.2.2.2.1) hq h1 h2, fun _ _ _ _ _ hq h1 h2 => cj_51 (hR52 := (ck_41T n).2.2.2.2.2.2.2) hq h1 h2, fun _ _ _ _ _ hq h1 h2 => cj_52 (hR41 := (ck_41T n).1) (hR52 := (ck_41T n).2.2.2.2.2.2.2) hq h1 h2⟩
def fv_41 (a1 : Int) (Q : lf_Z → Prop) (s : lf_Z) : Prop := (fv_41T 200).1 a1 Q s
theorem ck_41 {a1 : Int} {Q1 Q2 Q3 : lf_Z → Prop} {s : lf_Z} (hQ : ∀ (s : lf_Z), Q1 s → Q2 s → Q3 s) (h1 : fc_41 a1 Q1 s) (h2 : fv_41 a1 Q2 s) : fc_41 a1 Q3 s := (ck_41T 200).1 _ _ _ _ _ hQ h1 h2
def fw_38_p146 (Q : lf_Z → Prop) (s : lf_Z) : Prop := fw_48 16 (fun s31 => (Q s31)) s
theorem cj_38_p146 {Q1 Q2 Q3 : lf_Z → Prop} {s : lf_Z} (hQ : ∀ (s : lf_Z), Q1 s → Q2 s → Q3 s) (h1 : fm_38_p146 Q1 s) (h2 : fw_38_p146 Q2 s) : fm_38_p146 Q3 s := by
  unfold fm_38_p146 at h1 ⊢
  unfold fw_38_p146 at h2
  exact cj_48 (fun s31 k1 l1 => hQ _  k1 l1) h1 h2
def fw_38 (Q : lf_Z → Prop) (s : lf_Z) : Prop := fw_15 (s.1 31 8) 20 32 (fun z22 s21 => ((z22 = true → ((s21.2.2 2 = none → (True)) ∧ (∀ t23 : Nat, s21.2.2 2 = some t23 → t23 < 4 → (fw_40 t23 ((s.1 31 8) - 20) (fun z25 s24 => ((z25 = false → ((s24.2.2 2 = none → (True)) ∧ (∀ t26 : Nat, s24.2.2 2 = some t26 → t26 < 4 → (lf_R (s24.1 (35 + 7 * t26) 7) → ((s24.1 (35 + 7 * t26) 7 < 24 → (fw_31 (fun s28 => (lf_R (s.1 31 8) → ((22 < s.1 31 8 → (fw_58 (s.1 31 8) (fun s30 => (fw_38_p146 Q s30)) s28)) ∧ (¬ (22 < s.1 31 8) → ((s28.2.2 2 = none → (True)) ∧ (∀ t32 : Nat, s28.2.2 2 = some t32 → t32 < 4 → ((s28.2.2 2 = none → (True)) ∧ (∀ t33 : Nat, s28.2.2 2 = some t33 → t33 < 4 → ((0 ≤ (s.1 31 8) - 20 ∧ (s.1 31 8) - 20 < 3) → (fv_41 0 (fun s35 => ((s35.2.2 2 = none → (True)) ∧ (∀ t36 : Nat, s35.2.2 2 = some t36 → t36 < 4 → ((s35.2.2 2 = none → (True)) ∧ (∀ t37 : Nat, s35.2.2 2 = some t37 → t37 < 4 → ((0 ≤ s35.1 31 6 ∧ s35.1 31 6 < 3) → ((s35.2.2 2 = none → (True)) ∧ (∀ t39 : Nat, s35.2.2 2 = some t39 → t39 < 4 → (fw_57 t39 (s.1 31 8) 0 0 (fun s40 => (fw_38_p146 Q s40)) (lf_up s35.1 (38 + 7 * t36) (s35.1 31 6) (s35.1 (35 + 7 * t37) 1), s35.2.1, s35.2.2)))))))))) (lf_up (lf_up s28.1 31 6 ((s.1 31 8) - 20)) (37 + 7 * t32) ((s.1 31 8) - 20) ((lf_up s28.1 31 6 ((s.1 31 8) - 20)) (35 + 7 * t33) 1), s28.2.1, s28.2.2))))))))))) s24)) ∧ (¬ (s24.1 (35 + 7 * t26) 7 < 24) → (fw_39 6 (fun s41 => (Q s41)) s24))))))) ∧ (z25 = true → (fw_39 4 (fun s42 => (Q s42)) s24)))) s21)))) ∧ (z22 = false → (fw_39 1 (fun s43 => (Q s43)) s21)))) s
theorem cj_38 {Q1 Q2 Q3 : lf_Z → Prop} {s : lf_Z} (hQ : ∀ (s : lf_Z), Q1 s → Q2 s → Q3 s) (h1 : fm_38 Q1 s) (h2 : fw_38 Q2 s) : fm_38 Q3 s := by
  unfold fm_38 at h1 ⊢
  unfold fw_38 at h2
  exact cj_15 (fun z22 s21 k1 l1 => ⟨(fun c2 => ⟨(fun c3 => ((k1.1 c2).1 c3).elim), (fun t23 et23 => ⟨((k1.1 c2).2 t23 et23).1, cj_40 (fun z25 s24 k6 l6 => ⟨(fun c7 => ⟨(fun c8 => ((k6.1 c7).1 c8).elim), (fun t26 et26 => ⟨((k6.1 c7).2 t26 et26).1, ⟨((k6.1 c7).2 t26 et26).2.1, ⟨(fun c12 => cj_31 (fun s28 k13 l13 => ⟨k13.1, ⟨(fun c15 => cj_58 (fun s30 k16 l16 => cj_38_p146 hQ k16 l16) (k13.2.1 c15) ((l13 k13.1).1 c15)), (fun c15 => ⟨(fun c18 => ((k13.2.2 c15).1 c18).elim), (fun t32 et32 => ⟨((k13.2.2 c15).2 t32 et32).1, ⟨(fun c21 => (((k13.2.2 c15).2 t32 et32).2.1 c21).elim), (fun t33 et33 => ⟨(((k13.2.2 c15).2 t32 et32).2.2 t33 et33).1, ⟨(((k13.2.2 c15).2 t32 et32).2.2 t33 et33).2.1, ck_41 (fun s35 k25 l25 => ⟨(fun c26 => (k25.1 c26).elim), (fun t36 et36 => ⟨(k25.2 t36 et36).1, ⟨(fun c29 => ((k25.2 t36 et36).2.1 c29).elim), (fun t37 et37 => ⟨((k25.2 t36 et36).2.2 t37 et37).1, ⟨((k25.2 t36 et36).2.2 t37 et37).2.1, ⟨(fun c33 => (((k25.2 t36 et36).2.2 t37 et37).2.2.1 c33).elim), (fun t39 et39 => ⟨(((k25.2 t36 et36).2.2 t37 et37).2.2.2 t39 et39).1, cj_57 (fun s40 k36 l36 => cj_38_p146 hQ k36 l36) (((k25.2 t36 et36).2.2 t37 et37).2.2.2 t39 et39).2 ((((l25.2 t36 et36 (k25.2 t36 et36).1).2 t37 et37 ((k25.2 t36 et36).2.2 t37 et37).1) ((k25.2 t36 et36).2.2 t37 et37).2.1).2 t39 et39 (((k25.2 t36 et36).2.2 t37 et37).2.2.2 t39 et39).1)⟩)⟩⟩⟩)⟩⟩)⟩) (((k13.2.2 c15).2 t32 et32).2.2 t33 et33).2.2 (((((l13 k13.1).2 c15).2 t32 et32 ((k13.2.2 c15).2 t32 et32).1).2 t33 et33 (((k13.2.2 c15).2 t32 et32).2.2 t33 et33).1) (((k13.2.2 c15).2 t32 et32).2.2 t33 et33).2.1)⟩⟩)⟩⟩)⟩)⟩⟩) (((k6.1 c7).2 t26 et26).2.2.1 c12) ((((l6.1 c7).2 t26 et26 ((k6.1 c7).2 t26 et26).1) ((k6.1 c7).2 t26 et26).2.1).1 c12)), (fun c12 => cj_39 (fun s41 k38 l38 => hQ _  k38 l38) (((k6.1 c7).2 t26 et26).2.2.2 c12) ((((l6.1 c7).2 t26 et26 ((k6.1 c7).2 t26 et26).1) ((k6.1 c7).2 t26 et26).2.1).2 c12))⟩⟩⟩)⟩), (fun c7 => cj_39 (fun s42 k40 l40 => hQ _  k40 l40) (k6.2 c7) (l6.2 c7))⟩) ((k1.1 c2).2 t23 et23).2 ((l1.1 c2).2 t23 et23 ((k1.1 c2).2 t23 et23).1)⟩)⟩), (fun c2 => cj_39 (fun s43 k42 l42 => hQ _  k42 l42) (k1.2 c2) (l1.2 c2))⟩) h1 h2
def fw_29_p72 (Q : Bool → lf_Z → Prop) (s : lf_Z) : Prop := lf_R (s.1 31 2) → ((s.1 31 2 ≠ 0 → (Q false (lf_up s.1 31 1 0, s.2.1, s.2.2))) ∧ (¬ (s.1 31 2 ≠ 0) → (Q true (lf_up s.1 31 1 0, s.2.1, s.2.2))))
theorem cj_29_p72 {Q1 Q2 Q3 : Bool → lf_Z → Prop} {s : lf_Z} (hQ : ∀ (r : Bool) (s : lf_Z), Q1 r s → Q2 r s → Q3 r s) (h1 : fm_29_p72 Q1 s) (h2 : fw_29_p72 Q2 s) : fm_29_p72 Q3 s := by
  unfold fm_29_p72 at h1 ⊢
  unfold fw_29_p72 at h2
  exact ⟨h1.1, ⟨(fun c2 => hQ _ _  (h1.2.1 c2) ((h2 h1.1).1 c2)), (fun c2 => hQ _ _  (h1.2.2 c2) ((h2 h1.1).2 c2))⟩⟩
def fw_29_p41 (Q : Bool → lf_Z → Prop) (X41 : Int → lf_Z → Prop) (x2 : Int) (s : lf_Z) : Prop := lf_R x2 → ((300 < x2 → (fw_29_p72 Q s)) ∧ (¬ (300 < x2) → (lf_R (s.1 31 8) → ((s.1 31 8 = 0 → (fw_29_p72 Q s)) ∧ (¬ (s.1 31 8 = 0) → (lf_R (s.1 31 2) → ((s.1 31 2 ≠ 0 → (fw_29_p72 Q s)) ∧ (¬ (s.1 31 2 ≠ 0) → (fw_38 (fun s28 => (X41 (x2 + 1) s28)) s)))))))))
theorem cj_29_p41 {X411 X412 X413 : Int → lf_Z → Prop} {Q1 Q2 Q3 : Bool → lf_Z → Prop} {x2 : Int} {s : lf_Z} (hX41 : ∀ (v0 : Int) (v1 : lf_Z), X411 v0 v1 → X412 v0 v1 → X413 v0 v1) (hQ : ∀ (r : Bool) (s : lf_Z), Q1 r s → Q2 r s → Q3 r s) (h1 : fm_29_p41 Q1 X411 x2 s) (h2 : fw_29_p41 Q2 X412 x2 s) : fm_29_p41 Q3 X413 x2 s := by
  unfold fm_29_p41 at h1 ⊢
  unfold fw_29_p41 at h2
  exact ⟨h1.1, ⟨(fun c2 => cj_29_p72 hQ (h1.2.1 c2) ((h2 h1.1).1 c2)), (fun c2 => ⟨(h1.2.2 c2).1, ⟨(fun c5 => cj_29_p72 hQ ((h1.2.2 c2).2.1 c5) ((((h2 h1.1).2 c2) (h1.2.2 c2).1).1 c5)), (fun c5 => ⟨((h1.2.2 c2).2.2 c5).1, ⟨(fun c8 => cj_29_p72 hQ (((h1.2.2 c2).2.2 c5).2.1 c8) ((((((h2 h1.1).2 c2) (h1.2.2 c2).1).2 c5) ((h1.2.2 c2).2.2 c5).1).1 c8)), (fun c8 => cj_38 (fun s28 k10 l10 => hX41 _ _  k10 l10) (((h1.2.2 c2).2.2 c5).2.2 c8) ((((((h2 h1.1).2 c2) (h1.2.2 c2).1).2 c5) ((h1.2.2 c2).2.2 c5).1).2 c8))⟩⟩)⟩⟩)⟩⟩
def fw_29_p41L (Q : Bool → lf_Z → Prop) (x2 : Int) (s : lf_Z) : Prop := ∃ X41 : Int → lf_Z → Prop, (∀ (x2 : Int) (s : lf_Z), X41 x2 s → fw_29_p41 Q X41 x2 s) ∧ X41 x2 s
theorem cj_29_p41L {Q1 Q2 Q3 : Bool → lf_Z → Prop} {x2 : Int} {s : lf_Z} (hQ : ∀ (r : Bool) (s : lf_Z), Q1 r s → Q2 r s → Q3 r s) (h1 : fm_29_p41L Q1 x2 s) (h2 : fw_29_p41L Q2 x2 s) : fm_29_p41L Q3 x2 s := by
  intro X0 hX0
  obtain ⟨Y, hY, hY0⟩ := h2
  exact h1 (fun v0 s => Y v0 s → X0 v0 s) (fun v0 s hb hy => hX0 v0 s (cj_29_p41 (X411 := fun v0 s => Y v0 s → X0 v0 s) (X412 := Y) (X413 := X0) (hX41 := fun v0 s a b => a b) hQ hb (hY v0 s hy))) hY0
def fw_29 (t1 : Nat) (Q : Bool → lf_Z → Prop) (s : lf_Z) : Prop := ((lf_ur s.2.2 2 (some t1)) 2 = none → (True)) ∧ (∀ t21 : Nat, (lf_ur s.2.2 2 (some t1)) 2 = some t21 → t21 < 4 → (fw_30 t21 (fun s22 => (fw_31 (fun s23 => (fw_29_p41L Q 0 s23)) (lf_up (lf_fl (lf_up (lf_up s22.1 31 2 0) 31 3 (-1)) 33 26 (-1)) 31 7 0, s22.2.1, s22.2.2))) (s.1, s.2.1, lf_ur s.2.2 2 (some t1))))
theorem cj_29 {Q1 Q2 Q3 : Bool → lf_Z → Prop} {t1 : Nat} {s : lf_Z} (hQ : ∀ (r : Bool) (s : lf_Z), Q1 r s → Q2 r s → Q3 r s) (h1 : fm_29 t1 Q1 s) (h2 : fw_29 t1 Q2 s) : fm_29 t1 Q3 s := by
  unfold fm_29 at h1 ⊢
  unfold fw_29 at h2
  exact ⟨(fun c1 => (h1.1 c1).elim), (fun t21 et21 => ⟨(h1.2 t21 et21).1, cj_30 (fun s22 k4 l4 => cj_31 (fun s23 k5 l5 => cj_29_p41L hQ k5 l5) k4 l4) (h1.2 t21 et21).2 (h2.2 t21 et21 (h1.2 t21 et21).1)⟩)⟩
def fw_28 (Q : Int → lf_Z → Prop) (s : lf_Z) : Prop := lf_R (s.1 0 11) → ((s.1 0 11 < 4 → ((0 ≤ s.1 0 11 ∧ s.1 0 11 < 4) → (∀ t23 : Nat, t23 = (s.1 0 11).toNat → (fw_29 t23 (fun z25 s24 => ((z25 = true → (Q (((s24.1 0 11) + 1) - 1) (lf_up s24.1 0 11 ((s24.1 0 11) + 1), s24.2.1, s24.2.2))) ∧ (z25 = false → (Q (-1) s24)))) s)))) ∧ (¬ (s.1 0 11 < 4) → (Q (-1) s)))
theorem cj_28 {Q1 Q2 Q3 : Int → lf_Z → Prop} {s : lf_Z} (hQ : ∀ (r : Int) (s : lf_Z), Q1 r s → Q2 r s → Q3 r s) (h1 : fm_28 Q1 s) (h2 : fw_28 Q2 s) : fm_28 Q3 s := by
  unfold fm_28 at h1 ⊢
  unfold fw_28 at h2
  exact ⟨h1.1, ⟨(fun c2 => ⟨(h1.2.1 c2).1, fun t23 et23 => cj_29 (fun z25 s24 k5 l5 => ⟨(fun c6 => hQ _ _  (k5.1 c6) (l5.1 c6)), (fun c6 => hQ _ _  (k5.2 c6) (l5.2 c6))⟩) ((h1.2.1 c2).2 t23 et23) ((((h2 h1.1).1 c2) (h1.2.1 c2).1) t23 et23)⟩), (fun c2 => hQ _ _  (h1.2.2 c2) ((h2 h1.1).2 c2))⟩⟩
def fw_198 (a1 : Int) (Q : Int → lf_Z → Prop) (s : lf_Z) : Prop := lf_R a1 → (lf_R (s.1 95 4) → ((s.1 95 4 ≤ a1 → (Q (-1) s)) ∧ (¬ (s.1 95 4 ≤ a1) → ((0 ≤ a1 ∧ a1 < 300) → (Q (s.1 99 a1) s)))))
theorem cj_198 {Q1 Q2 Q3 : Int → lf_Z → Prop} {a1 : Int} {s : lf_Z} (hQ : ∀ (r : Int) (s : lf_Z), Q1 r s → Q2 r s → Q3 r s) (h1 : fm_198 a1 Q1 s) (h2 : fw_198 a1 Q2 s) : fm_198 a1 Q3 s := by
  unfold fm_198 at h1 ⊢
  unfold fw_198 at h2
  exact ⟨h1.1, ⟨h1.2.1, ⟨(fun c3 => hQ _ _  (h1.2.2.1 c3) (((h2 h1.1) h1.2.1).1 c3)), (fun c3 => ⟨(h1.2.2.2 c3).1, hQ _ _  (h1.2.2.2 c3).2 ((((h2 h1.1) h1.2.1).2 c3) (h1.2.2.2 c3).1)⟩)⟩⟩⟩
def fw_199 (a0 : Int) (Q : Bool → lf_Z → Prop) (s : lf_Z) : Prop := lf_R a0 → ((a0 < 48 → (Q false s)) ∧ (¬ (a0 < 48) → ((57 < a0 → (Q false s)) ∧ (¬ (57 < a0) → (Q true s)))))
theorem cj_199 {Q1 Q2 Q3 : Bool → lf_Z → Prop} {a0 : Int} {s : lf_Z} (hQ : ∀ (r : Bool) (s : lf_Z), Q1 r s → Q2 r s → Q3 r s) (h1 : fm_199 a0 Q1 s) (h2 : fw_199 a0 Q2 s) : fm_199 a0 Q3 s := by
  unfold fm_199 at h1 ⊢
  unfold fw_199 at h2
  exact ⟨h1.1, ⟨(fun c2 => hQ _ _  (h1.2.1 c2) ((h2 h1.1).1 c2)), (fun c2 => ⟨(fun c4 => hQ _ _  ((h1.2.2 c2).1 c4) (((h2 h1.1).2 c2).1 c4)), (fun c4 => hQ _ _  ((h1.2.2 c2).2 c4) (((h2 h1.1).2 c2).2 c4))⟩)⟩⟩
def fw_200_p12 (Q : Bool → lf_Z → Prop) (x0 : Int) (s : lf_Z) : Prop := lf_R x0 → ((x0 < 65 → (Q false s)) ∧ (¬ (x0 < 65) → ((90 < x0 → (Q false s)) ∧ (¬ (90 < x0) → (Q true s)))))
