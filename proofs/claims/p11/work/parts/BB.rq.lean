/-! where of the class keeps the law that rules -/
section RQ
variable {l l' : List Nat} {w w' i v : Int} {b b' : Bool} {c k : Nat} {I I' I2 : Nat → Int → Int} {P P' P2 : Nat → Option Nat} {x : Option Nat}
def rq_fq (l : List Nat) (w : Int) (b : Bool) (I : Nat → Int → Int) (P : Nat → Option Nat) (I' : Nat → Int → Int) (P' : Nat → Option Nat) : Prop := lf_fq l w b I P I' P' ∧ P' 3 = P 3
theorem rq_fq_rf : rq_fq l w b I P I P := ⟨lf_fq_rf, rfl⟩
theorem rq_fq_tr (h1 : rq_fq l w b I P I' P') (h2 : rq_fq l w b I' P' I2 P2) : rq_fq l w b I P I2 P2 := ⟨lf_fq_tr h1.1 h2.1, h2.2.trans h1.2⟩
theorem rq_fq_wk (h : lf_fq l' w' true I P I' P') (hl : l'.all (fun c => l.contains c) = true) (hw : w ≤ w') (hb : (b && !true) = false) : rq_fq l w b I P I' P' := ⟨lf_fq_wk h hl hw hb, by rw [h.2.2.1 rfl]⟩
theorem rq_wq (h : rq_fq l' w' b' I P I' P') (hl : l'.all (fun c => l.contains c) = true) (hw : w ≤ w') (hb : (b && !b') = false) : rq_fq l w b I P I' P' := ⟨lf_fq_wk h.1 hl hw hb, h.2⟩
theorem rq_fq_pp (h : rq_fq l w false I P I' P') (hk : (3 : Nat) ≠ k) : rq_fq l w false I P I' (lf_ur P' k x) := ⟨lf_fq_pp h.1, (show lf_ur P' k x 3 = P' 3 from if_neg hk).trans h.2⟩
theorem rq_121_p33 {X10 : Int → lf_Z → Prop} {Q : lf_Z → Prop} {x1 : Int} {s : lf_Z} (hQ : ∀  (s' : lf_Z), iv_A s'.1 s'.2.2 → rq_fq [63, 64, 65, 66, 69] 1000000 false s.1 s.2.2 s'.1 s'.2.2 → Q  s') {M10 : Nat} (hX10 : ∀ (x1 : Int) (s' : lf_Z), iv_A s'.1 s'.2.2 → rq_fq [63, 64, 65, 66, 69] 1000000 false s.1 s.2.2 s'.1 s'.2.2 → 0 ≤ x1 ∧ x1 ≤ 156 → (156 - x1).toNat < M10 → X10 x1 s') (hM10 : (156 - x1).toNat ≤ M10) (hI : iv_A s.1 s.2.2) (bx1 : 0 ≤ x1 ∧ x1 ≤ 155) : fm_121_p33 X10 Q x1 s := by
  unfold fm_121_p33
  exact hX10 (x1 + 1) s hI (rq_fq_rf) (show (0 : Int) ≤ x1 + 1 ∧ x1 + 1 ≤ (156 : Int) from by omega) (show (156 - (x1 + 1)).toNat < M10 from by omega)
theorem rq_121_p10 {X10 : Int → lf_Z → Prop} {Q : lf_Z → Prop} {x1 : Int} {s : lf_Z} (hQ : ∀  (s' : lf_Z), iv_A s'.1 s'.2.2 → rq_fq [63, 64, 65, 66, 69] 1000000 false s.1 s.2.2 s'.1 s'.2.2 → Q  s') {M10 : Nat} (hX10 : ∀ (x1 : Int) (s' : lf_Z), iv_A s'.1 s'.2.2 → rq_fq [63, 64, 65, 66, 69] 1000000 false s.1 s.2.2 s'.1 s'.2.2 → 0 ≤ x1 ∧ x1 ≤ 156 → (156 - x1).toNat < M10 → X10 x1 s') (hM10 : (156 - x1).toNat ≤ M10) (hI : iv_A s.1 s.2.2) (bx1 : 0 ≤ x1 ∧ x1 ≤ 156) : fm_121_p10 Q X10 x1 s := by
  unfold fm_121_p10
  refine ⟨(show lf_R x1 from lf_Rof (by omega)), ?_⟩
  refine ⟨fun c5 => ?_, fun c5 => ?_⟩
  · skip
    replace c5 : 156 ≤ x1 := c5
    obtain ⟨w24, ew24, hww24⟩ := iv_ref0 hI
    refine ⟨w24, ew24, hww24, ?_⟩
    obtain ⟨w25, ew25, hww25⟩ := iv_ref1 hI
    refine ⟨w25, ew25, hww25, ?_⟩
    have hI6 : iv_A s.1 (lf_ur s.2.2 0 (some w25)) := iv_uw0 hI hww25
    have fr7 : rq_fq [63, 64, 65, 66, 69] 1000000 false s.1 s.2.2 s.1 (lf_ur s.2.2 0 (some w25)) := rq_fq_pp (rq_fq_rf) (by decide)
    have hI8 : iv_A s.1 (lf_ur (lf_ur s.2.2 0 (some w25)) 1 (some w24)) := iv_uw1 hI6 hww24
    have fr9 : rq_fq [63, 64, 65, 66, 69] 1000000 false s.1 s.2.2 s.1 (lf_ur (lf_ur s.2.2 0 (some w25)) 1 (some w24)) := rq_fq_pp fr7 (by decide)
    exact hQ (s.1, s.2.1, lf_ur (lf_ur s.2.2 0 (some w25)) 1 (some w24)) hI8 fr9
  · skip
    replace c5 : ¬ (156 ≤ x1) := c5
    obtain ⟨w26, ew26, hww26⟩ := iv_ref0 hI
    refine ⟨w26, ew26, hww26, ?_⟩
    refine ⟨(show (0 : Int) ≤ x1 ∧ x1 < (156 : Int) from by omega), ?_⟩
    refine ⟨fun c10 => ?_, fun c10 => ?_⟩
    · replace c10 : lf_wl (s.2.1 w26 x1) ≤ 0 := c10
      exact rq_121_p33 hQ hX10 (show (156 - x1).toNat ≤ M10 from by omega) hI (show (0 : Int) ≤ x1 ∧ x1 ≤ (155 : Int) from by omega)
    · replace c10 : ¬ (lf_wl (s.2.1 w26 x1) ≤ 0) := c10
      refine sm_122 hI (show (0 : Int) ≤ x1 ∧ x1 ≤ (155 : Int) from by omega) (fun s28 hI12 fr11 => ?_)
      have fr14 : rq_fq [63, 64, 65, 66, 69] 1000000 false s.1 s.2.2 s28.1 s28.2.2 := rq_fq_tr (rq_fq_rf) (rq_fq_wk fr11 rfl (by decide) (by decide))
      exact rq_121_p33 (fun t9 i9 f9 => hQ t9 i9 (rq_fq_tr fr14 f9)) (fun p0 t9 i9 f9 => hX10 p0 t9 i9 (rq_fq_tr fr14 f9)) (show (156 - x1).toNat ≤ M10 from by omega) hI12 (show (0 : Int) ≤ x1 ∧ x1 ≤ (155 : Int) from by omega)
theorem rq_121_p10L {Q : lf_Z → Prop} {x1 : Int} {s : lf_Z} (hQ : ∀  (s' : lf_Z), iv_A s'.1 s'.2.2 → rq_fq [63, 64, 65, 66, 69] 1000000 false s.1 s.2.2 s'.1 s'.2.2 → Q  s') (hI : iv_A s.1 s.2.2) (bx1 : 0 ≤ x1 ∧ x1 ≤ 156) : fm_121_p10L Q x1 s := by
  intro X10 hX
  have key : ∀ (m9 : Nat) (x1 : Int) (s' : lf_Z), iv_A s'.1 s'.2.2 → rq_fq [63, 64, 65, 66, 69] 1000000 false s.1 s.2.2 s'.1 s'.2.2 → 0 ≤ x1 ∧ x1 ≤ 156 → (156 - x1).toNat < m9 → X10 x1 s' := by
    intro m9
    induction m9 with
    | zero => intro x1 s' _ _ bx1 h9; exact absurd h9 (Nat.not_lt_zero _)
    | succ m9 ih => intro x1 s' i7 f7 bx1 h9; exact hX _ _ (rq_121_p10 (fun t9 i9 f9 => hQ t9 i9 (rq_fq_tr f7 f9))   (fun x1' t8 i8 f8 bx1' h8 => ih x1' t8 i8 (rq_fq_tr f7 f8) bx1' (by omega)) (Nat.le_refl _)  i7  bx1  )
  exact key _ _ s hI rq_fq_rf bx1 (Nat.lt_succ_self _)
theorem rq_121 {Q : lf_Z → Prop} {s : lf_Z} (hI : iv_A s.1 s.2.2) (hQ : ∀  (s' : lf_Z), iv_A s'.1 s'.2.2 → rq_fq [63, 64, 65, 66, 69] 1000000 false s.1 s.2.2 s'.1 s'.2.2 → Q  s') : fm_121 Q s := by
  unfold fm_121
  obtain ⟨w21, ew21, hww21⟩ := iv_ref1 hI
  refine ⟨w21, ew21, hww21, ?_⟩
  refine sm_119 hww21 hI (fun s22 hI2 fr1 => ?_)
  have fr4 : rq_fq [63, 64, 65, 66, 69] 1000000 false s.1 s.2.2 s22.1 s22.2.2 := rq_fq_tr (rq_fq_rf) (rq_fq_wk fr1 rfl (by decide) (by decide))
  exact rq_121_p10L (fun t9 i9 f9 => hQ t9 i9 (rq_fq_tr fr4 f9)) hI2 (show (0 : Int) ≤ 0 ∧ 0 ≤ (156 : Int) from by omega)
theorem rq_117_p50 {X50 : Int → Int → lf_Z → Prop} {Q : Int → lf_Z → Prop} {x3 : Int} {x4 : Int} {x6 : Int} {s : lf_Z} (hQ : ∀ (r : Int) (s' : lf_Z), iv_A s'.1 s'.2.2 → rq_fq [63, 64, 65, 66, 68, 69] 1000000 false s.1 s.2.2 s'.1 s'.2.2 → Q r s') {M50 : Nat} (hX50 : ∀ (x4 : Int) (x6 : Int) (s' : lf_Z), iv_A s'.1 s'.2.2 → rq_fq [63, 64, 65, 66, 68, 69] 1000000 false s.1 s.2.2 s'.1 s'.2.2 → 0 ≤ x6 ∧ x6 ≤ 13 → (13 - x6).toNat < M50 → X50 x4 x6 s') (hM50 : (13 - x6).toNat ≤ M50) (hI : iv_A s.1 s.2.2) (bx3 : 0 ≤ x3 ∧ x3 ≤ 11) (bx6 : 0 ≤ x6 ∧ x6 ≤ 13) : fm_117_p50 Q x3 X50 x4 x6 s := by
  unfold fm_117_p50
  refine ⟨(show lf_R x6 from lf_Rof (by omega)), ?_⟩
  refine ⟨fun c14 => ?_, fun c14 => ?_⟩
  · skip
    replace c14 : 13 ≤ x6 := c14
    exact hQ (lf_wl x4) s hI (rq_fq_rf)
  · skip
    replace c14 : ¬ (13 ≤ x6) := c14
    obtain ⟨w31, ew31, hww31⟩ := iv_ref0 hI
    refine ⟨w31, ew31, hww31, ?_⟩
    refine ⟨(show (0 : Int) ≤ (x3 * 13) + x6 ∧ (x3 * 13) + x6 < (156 : Int) from by omega), ?_⟩
    exact hX50 (lf_wl ((lf_wl x4) + (lf_wl (s.2.1 w31 ((x3 * 13) + x6))))) (x6 + 1) s hI (rq_fq_rf) (show (0 : Int) ≤ x6 + 1 ∧ x6 + 1 ≤ (13 : Int) from by omega) (show (13 - (x6 + 1)).toNat < M50 from by omega)
theorem rq_117_p50L {Q : Int → lf_Z → Prop} {x3 : Int} {x4 : Int} {x6 : Int} {s : lf_Z} (hQ : ∀ (r : Int) (s' : lf_Z), iv_A s'.1 s'.2.2 → rq_fq [63, 64, 65, 66, 68, 69] 1000000 false s.1 s.2.2 s'.1 s'.2.2 → Q r s') (hI : iv_A s.1 s.2.2) (bx3 : 0 ≤ x3 ∧ x3 ≤ 11) (bx6 : 0 ≤ x6 ∧ x6 ≤ 13) : fm_117_p50L Q x3 x4 x6 s := by
  intro X50 hX
  have key : ∀ (m9 : Nat) (x4 : Int) (x6 : Int) (s' : lf_Z), iv_A s'.1 s'.2.2 → rq_fq [63, 64, 65, 66, 68, 69] 1000000 false s.1 s.2.2 s'.1 s'.2.2 → 0 ≤ x6 ∧ x6 ≤ 13 → (13 - x6).toNat < m9 → X50 x4 x6 s' := by
    intro m9
    induction m9 with
    | zero => intro x4 x6 s' _ _ bx6 h9; exact absurd h9 (Nat.not_lt_zero _)
    | succ m9 ih => intro x4 x6 s' i7 f7 bx6 h9; exact hX _ _ _ (rq_117_p50 (fun r9 t9 i9 f9 => hQ r9 t9 i9 (rq_fq_tr f7 f9))   (fun x4' x6' t8 i8 f8 bx6' h8 => ih x4' x6' t8 i8 (rq_fq_tr f7 f8) bx6' (by omega)) (Nat.le_refl _)  i7  bx3 bx6  )
  exact key _ _ _ s hI rq_fq_rf bx6 (Nat.lt_succ_self _)
theorem rq_117_p28 {X28 : Int → lf_Z → Prop} {Q : Int → lf_Z → Prop} {x2 : Int} {x3 : Int} {x4 : Int} {s : lf_Z} (hQ : ∀ (r : Int) (s' : lf_Z), iv_A s'.1 s'.2.2 → rq_fq [63, 64, 65, 66, 68, 69] 1000000 false s.1 s.2.2 s'.1 s'.2.2 → Q r s') {M28 : Nat} (hX28 : ∀ (x4 : Int) (s' : lf_Z), iv_A s'.1 s'.2.2 → rq_fq [63, 64, 65, 66, 68, 69] 1000000 false s.1 s.2.2 s'.1 s'.2.2 → 0 ≤ x4 ∧ x4 ≤ 4 → (4 - x4).toNat < M28 → X28 x4 s') (hM28 : (4 - x4).toNat ≤ M28) (hI : iv_A s.1 s.2.2) (bx2 : 0 ≤ x2 ∧ x2 ≤ 4) (bx3 : 0 ≤ x3 ∧ x3 ≤ 11) (bx4 : 0 ≤ x4 ∧ x4 ≤ 4) : fm_117_p28 Q x2 x3 X28 x4 s := by
  unfold fm_117_p28
  refine ⟨(show lf_R x4 from lf_Rof (by omega)), ?_⟩
  refine ⟨(show lf_R x2 from lf_Rof (by omega)), ?_⟩
  refine ⟨fun c13 => ?_, fun c13 => ?_⟩
  · skip
    replace c13 : x2 ≤ x4 := c13
    exact rq_117_p50L hQ hI (show (0 : Int) ≤ x3 ∧ x3 ≤ (11 : Int) from by omega) (show (0 : Int) ≤ 0 ∧ 0 ≤ (13 : Int) from by omega)
  · skip
    replace c13 : ¬ (x2 ≤ x4) := c13
    refine rq_121 hI (fun s33 hI16 fr15 => ?_)
    have fr18 : rq_fq [63, 64, 65, 66, 68, 69] 1000000 false s.1 s.2.2 s33.1 s33.2.2 := rq_fq_tr (rq_fq_rf) (rq_wq fr15 rfl (by decide) (by decide))
    exact hX28 (x4 + 1) s33 hI16 fr18 (show (0 : Int) ≤ x4 + 1 ∧ x4 + 1 ≤ (4 : Int) from by omega) (show (4 - (x4 + 1)).toNat < M28 from by omega)
theorem rq_117_p28L {Q : Int → lf_Z → Prop} {x2 : Int} {x3 : Int} {x4 : Int} {s : lf_Z} (hQ : ∀ (r : Int) (s' : lf_Z), iv_A s'.1 s'.2.2 → rq_fq [63, 64, 65, 66, 68, 69] 1000000 false s.1 s.2.2 s'.1 s'.2.2 → Q r s') (hI : iv_A s.1 s.2.2) (bx2 : 0 ≤ x2 ∧ x2 ≤ 4) (bx3 : 0 ≤ x3 ∧ x3 ≤ 11) (bx4 : 0 ≤ x4 ∧ x4 ≤ 4) : fm_117_p28L Q x2 x3 x4 s := by
  intro X28 hX
  have key : ∀ (m9 : Nat) (x4 : Int) (s' : lf_Z), iv_A s'.1 s'.2.2 → rq_fq [63, 64, 65, 66, 68, 69] 1000000 false s.1 s.2.2 s'.1 s'.2.2 → 0 ≤ x4 ∧ x4 ≤ 4 → (4 - x4).toNat < m9 → X28 x4 s' := by
    intro m9
    induction m9 with
    | zero => intro x4 s' _ _ bx4 h9; exact absurd h9 (Nat.not_lt_zero _)
    | succ m9 ih => intro x4 s' i7 f7 bx4 h9; exact hX _ _ (rq_117_p28 (fun r9 t9 i9 f9 => hQ r9 t9 i9 (rq_fq_tr f7 f9))   (fun x4' t8 i8 f8 bx4' h8 => ih x4' t8 i8 (rq_fq_tr f7 f8) bx4' (by omega)) (Nat.le_refl _)  i7  bx2 bx3 bx4  )
  exact key _ _ s hI rq_fq_rf bx4 (Nat.lt_succ_self _)
theorem rq_117 {a1 : Int} {a2 : Int} {a3 : Int} {Q : Int → lf_Z → Prop} {s : lf_Z} (hI : iv_A s.1 s.2.2) (ba1 : 0 ≤ a1 ∧ a1 ≤ 3) (ba2 : 0 ≤ a2 ∧ a2 ≤ 4) (ba3 : 0 ≤ a3 ∧ a3 ≤ 11) (kp0 : 0 < s.1 16 a1) (hQ : ∀ (r : Int) (s' : lf_Z), iv_A s'.1 s'.2.2 → rq_fq [63, 64, 65, 66, 68, 69] 1000000 false s.1 s.2.2 s'.1 s'.2.2 → Q r s') : fm_117 a1 a2 a3 Q s := by
  unfold fm_117
  refine sm_118 hI (show (0 : Int) ≤ a1 ∧ a1 ≤ (3 : Int) from by omega) (show (0 : Int) ≤ 0 ∧ 0 ≤ (9 : Int) from by omega) (fun s21 hI2 fr1 => ?_)
  have fr4 : rq_fq [63, 64, 65, 66, 68, 69] 1000000 false s.1 s.2.2 s21.1 s21.2.2 := rq_fq_tr (rq_fq_rf) (rq_fq_wk fr1 rfl (by decide) (by decide))
  obtain ⟨w22, ew22, hww22⟩ := iv_ref0 hI2
  refine ⟨w22, ew22, hww22, ?_⟩
  refine sm_119 hww22 hI2 (fun s23 hI6 fr5 => ?_)
  have fr8 : rq_fq [63, 64, 65, 66, 68, 69] 1000000 false s.1 s.2.2 s23.1 s23.2.2 := rq_fq_tr fr4 (rq_fq_wk fr5 rfl (by decide) (by decide))
  obtain ⟨w24, ew24, hww24⟩ := iv_ref0 hI6
  refine ⟨w24, ew24, hww24, ?_⟩
  have b9 : (-2147483648) ≤ s23.1 16 a1 ∧ s23.1 16 a1 ≤ 2147483647 := iv_full hI6
  have b10 : s23.1 16 a1 = s21.1 16 a1 := congrFun (fr5.1 16 rfl) _
  have b11 : s21.1 16 a1 = s.1 16 a1 := congrFun (fr1.1 16 rfl) _
  refine sm_120 hI6 (show (0 : Int) ≤ a1 ∧ a1 ≤ (3 : Int) from by omega) (show 0 < (s23.1 16 a1) from by omega) (fun r26 q12 => ?_)
  refine ⟨(show (0 : Int) ≤ r26 ∧ r26 < (156 : Int) from by omega), ?_⟩
  exact rq_117_p28L (fun r9 t9 i9 f9 => hQ r9 t9 i9 (rq_fq_tr fr8 f9)) hI6 (show (0 : Int) ≤ a2 ∧ a2 ≤ (4 : Int) from by omega) (show (0 : Int) ≤ a3 ∧ a3 ≤ (11 : Int) from by omega) (show (0 : Int) ≤ 0 ∧ 0 ≤ (4 : Int) from by omega)
theorem rq_116_p31 {Q : Int → lf_Z → Prop} {s : lf_Z} (hQ : ∀ (r : Int) (s' : lf_Z), iv_A s'.1 s'.2.2 → rq_fq [63, 64, 65, 66, 68, 69] 1000000 false s.1 s.2.2 s'.1 s'.2.2 → Q r s') (hI : iv_A s.1 s.2.2) : fm_116_p31 Q s := by
  unfold fm_116_p31
  exact hQ (-1) s hI (rq_fq_rf)
theorem rq_116 {a1 : Int} {a2 : Int} {a3 : Int} {a4 : Int} {Q : Int → lf_Z → Prop} {s : lf_Z} (hI : iv_A s.1 s.2.2) (ba1 : (-2147483648) ≤ a1 ∧ a1 ≤ 2147483647) (ba2 : (-2147483648) ≤ a2 ∧ a2 ≤ 2147483647) (ba3 : (-2147483648) ≤ a3 ∧ a3 ≤ 2147483647) (ba4 : 0 ≤ a4 ∧ a4 ≤ 1) (hQ : ∀ (r : Int) (s' : lf_Z), iv_A s'.1 s'.2.2 → rq_fq [63, 64, 65, 66, 68, 69] 1000000 false s.1 s.2.2 s'.1 s'.2.2 → Q r s') : fm_116 a1 a2 a3 a4 Q s := by
  unfold fm_116
  refine sm_80 hI (show (-2147483648 : Int) ≤ a1 ∧ a1 ≤ (2147483647 : Int) from by omega) (fun z22 q1 => ?_)
  have b2 : (-2147483648) ≤ s.1 16 a1 ∧ s.1 16 a1 ≤ 2147483647 := iv_full hI
  refine ⟨fun c3 => ?_, fun c3 => ?_⟩
  · skip
    have dc3 := q1.2 c3
    exact rq_116_p31 hQ hI
  · skip
    have dc3 := q1.1 c3
    refine sm_15 hI (show (-2147483648 : Int) ≤ a2 ∧ a2 ≤ (2147483647 : Int) from by omega) (show (-1 : Int) ≤ 0 ∧ 0 ≤ (99 : Int) from by omega) (show (-2147483648 : Int) ≤ 4 ∧ 4 ≤ (2147483647 : Int) from by omega) (fun z24 q4 => ?_)
    refine ⟨fun c5 => ?_, fun c5 => ?_⟩
    · skip
      have dc5 := q4.2 c5
      exact rq_116_p31 hQ hI
    · skip
      have dc5 := q4.1 c5
      refine sm_18 hI (show (-2147483648 : Int) ≤ a3 ∧ a3 ≤ (2147483647 : Int) from by omega) (fun z26 q6 => ?_)
      have b7 : 0 ≤ s.1 1 0 ∧ s.1 1 0 ≤ 12 := iv_r1_0 hI
      refine ⟨fun c8 => ?_, fun c8 => ?_⟩
      · skip
        have dc8 := q6.1 c8
        refine rq_117 hI (show (0 : Int) ≤ a1 ∧ a1 ≤ (3 : Int) from by omega) (show (0 : Int) ≤ a2 ∧ a2 ≤ (4 : Int) from by omega) (show (0 : Int) ≤ a3 ∧ a3 ≤ (11 : Int) from by omega) (show 0 < (s.1 16 a1) from by omega) (fun r28 s27 hI10 fr9 => ?_)
        have fr12 : rq_fq [63, 64, 65, 66, 68, 69] 1000000 false s.1 s.2.2 s27.1 s27.2.2 := rq_fq_tr (rq_fq_rf) (rq_wq fr9 rfl (by decide) (by decide))
        refine sm_124 hI10 (show (0 : Int) ≤ a2 ∧ a2 ≤ (4 : Int) from by omega) (fun r30 => ?_)
        refine sm_125 hI10 (show (0 : Int) ≤ a4 ∧ a4 ≤ (1 : Int) from by omega) (fun r32 => ?_)
        exact hQ (lf_wl r32) s27 hI10 fr12
      · skip
        have dc8 := q6.2 c8
        exact rq_116_p31 hQ hI
end RQ
section RQX
variable {l : List Nat} {w : Int} {b : Bool} {I I' : Nat → Int → Int} {P P' : Nat → Option Nat}
theorem gx_f3 (h : gx_A I P) (q : lf_fq l w b I P I' P') (hl : l.all gx_fr = true) (h3 : P' 3 = P 3) : gx_A I' P' := gx_q (fun c hc _ => q.1 c (gx_nf hl hc)) (fun i _ _ => by rw [q.1 95 (gx_nf hl rfl)]) (gx_9c (q.1 95 (gx_nf hl rfl)) h.2.2.2.2.2.2.2.2) h h3
theorem gx_116 {a1 : Int} {a2 : Int} {a3 : Int} {a4 : Int} {Q : Int → lf_Z → Prop} {s : lf_Z} (hI : iv_A s.1 s.2.2) (ba1 : (-2147483648) ≤ a1 ∧ a1 ≤ 2147483647) (ba2 : (-2147483648) ≤ a2 ∧ a2 ≤ 2147483647) (ba3 : (-2147483648) ≤ a3 ∧ a3 ≤ 2147483647) (ba4 : 0 ≤ a4 ∧ a4 ≤ 1) (hA : gx_A s.1 s.2.2) (hQ : ∀ (r : Int) (s' : lf_Z), iv_A s'.1 s'.2.2 → lf_fq [63, 64, 65, 66, 68, 69] 1000000 false s.1 s.2.2 s'.1 s'.2.2 → gx_A s'.1 s'.2.2 → Q r s') : fm_116 a1 a2 a3 a4 Q s := rq_116 hI ba1 ba2 ba3 ba4 (fun r s' h1 h2 => hQ r s' h1 h2.1 (gx_f3 hA h2.1 rfl h2.2))
end RQX
