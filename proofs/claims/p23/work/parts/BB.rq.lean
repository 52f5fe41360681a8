/-! where of the class keeps the law that rules -/
section RQ
variable {l l' : List Nat} {w w' i v : Int} {b b' : Bool} {c k : Nat} {I I' I2 : Nat → Int → Int} {P P' P2 : Nat → Option Nat} {x : Option Nat}
def rq_fq (l : List Nat) (w : Int) (b : Bool) (I : Nat → Int → Int) (P : Nat → Option Nat) (I' : Nat → Int → Int) (P' : Nat → Option Nat) : Prop := lf_fq l w b I P I' P' ∧ P' 3 = P 3
theorem rq_fq_rf : rq_fq l w b I P I P := ⟨lf_fq_rf, rfl⟩
theorem rq_fq_tr (h1 : rq_fq l w b I P I' P') (h2 : rq_fq l w b I' P' I2 P2) : rq_fq l w b I P I2 P2 := ⟨lf_fq_tr h1.1 h2.1, h2.2.trans h1.2⟩
theorem rq_fq_wk (h : lf_fq l' w' true I P I' P') (hl : l'.all (fun c => l.contains c) = true) (hw : w ≤ w') (hb : (b && !true) = false) : rq_fq l w b I P I' P' := ⟨lf_fq_wk h hl hw hb, by rw [h.2.2.1 rfl]⟩
theorem rq_wq (h : rq_fq l' w' b' I P I' P') (hl : l'.all (fun c => l.contains c) = true) (hw : w ≤ w') (hb : (b && !b') = false) : rq_fq l w b I P I' P' := ⟨lf_fq_wk h.1 hl hw hb, h.2⟩
theorem rq_fq_pp (h : rq_fq l w false I P I' P') (hk : (3 : Nat) ≠ k) : rq_fq l w false I P I' (lf_ur P' k x) := ⟨lf_fq_pp h.1, (show lf_ur P' k x 3 = P' 3 from if_neg hk).trans h.2⟩
theorem rq_121_p33 {X10 : Int → lf_Z → Prop} {Q : lf_Z → Prop} {x1 : Int} {s : lf_Z} (hQ : ∀  (s' : lf_Z), iv_A s'.1 s'.2.2 → rq_fq [63, 64, 65, 66, 69] 1000000 false s.1 s.2.2 s'.1 s'.2.2 → Q  s') {M10 : Nat} (hX10 : ∀ (x1 : Int) (s' : lf_Z), iv_A s'.1 s'.2.2 → rq_fq [63, 64, 65, 66, 69] 1000000 false s.1 s.2.2 s'.1 s'.2.2 → 0 ≤ x1 ∧ x1 ≤ 156 → (156 - x1).toNat < M10 → X10 x1 s') (hM10 : (156 - x1).toNat ≤ M10) (hI : iv_A s.1 s.2.2) (bx1 : 0 ≤ x1 ∧ x1 ≤ 155) : fm_121_p33 X10 Q x1 s := by
  unfold fm_121_p33
  exact hX10 (x1 + 1) s hI (rq_fq_rf) (show (0 : Int) ≤ x1 + 1 ∧ x1 + 1 ≤ (156 : Int) from by omega) (show (156 - (x1 + 1)).toNat < M10 from by omega)
theorem rq_121_p10 {X10 : Int → lf_Z → Prop} {Q : lf_Z → Prop} {x1 : Int} {s : lf_Z} (hQ : ∀  (s' : lf_Z), iv_A s'.1 s'.2.2 → rq_fq [63, 64, 65, 66, 69] 1000000 false s.1 s.2.2 s'.1 s'.2.2 → Q  s') {M10 : Nat} (hX10 : ∀ (x1 : Int) (s' : lf_Z), iv_A s'.1 s'.2.2 → rq_fq [63, 64, 65, 66, 69] 1000000 false s.1 s.2.2 s'.1 s'.2.2 → 0 ≤ x1 ∧ x1 ≤ 156 → (156 - x1).toNat < M10 → X10 x1 s') (hM10 : (156 - x1).toNat ≤ M10) (hI : iv_A s.1 s.2.2) (bx1 : 0 ≤ x1 ∧ x1 ≤ 156) : fm_121_p10 Q X10 x1 s := by
  unfold fm_121_p10
  refine ⟨(show lf_R x1 from lf_Rof (by omega)), ?_⟩
  refine ⟨fun c5 => ?_, fun c5 => ?_⟩
  · skip
    replace c5 : 156 ≤ x1 := c5
    obtain ⟨w24, ew24, hww24⟩ := iv_ref0 hI
    refine ⟨w24, ew24, hww24, ?_⟩
    obtain ⟨w25, ew25, hww25⟩ := iv_ref1 hI
    refine ⟨w25, ew25, hww25, ?_⟩
    have hI6 : iv_A s.1 (lf_ur s.2.2 0 (some w25)) := iv_uw0 hI hww25
    have fr7 : rq_fq [63, 64, 65, 66, 69] 1000000 false s.1 s.2.2 s.1 (lf_ur s.2.2 0 (some w25)) := rq_fq_pp (rq_fq_rf) (by decide)
    have hI8 : iv_A s.1 (lf_ur (lf_ur s.2.2 0 (some w25)) 1 (some w24)) := iv_uw1 hI6 hww24
    have fr9 : rq_fq [63, 64, 65, 66, 69] 1000000 false s.1 s.2.2 s.1 (lf_ur (lf_ur s.2.2 0 (some w25)) 1 (some w24)) := rq_fq_pp fr7 (by decide)
    exact hQ (s.1, s.2.1, lf_ur (lf_ur s.2.2 0 (some w25)) 1 (some w24)) hI8 fr9
  · skip
    replace c5 : ¬ (156 ≤ x1) := c5
    obtain ⟨w26, ew26, hww26⟩ := iv_ref0 hI
    refine ⟨w26, ew26, hww26, ?_⟩
    refine ⟨(show (0 : Int) ≤ x1 ∧ x1 < (156 : Int) from by omega), ?_⟩
    refine ⟨fun c10 => ?_, fun c10 => ?_⟩
    · replace c10 : lf_wl (s.2.1 w26 x1) ≤ 0 := c10
      exact rq_121_p33 hQ hX10 (show (156 - x1).toNat ≤ M10 from by omega) hI (show (0 : Int) ≤ x1 ∧ x1 ≤ (155 : Int) from by omega)
    · replace c10 : ¬ (lf_wl (s.2.1 w26 x1) ≤ 0) := c10
      refine sm_122 hI (show (0 : Int) ≤ x1 ∧ x1 ≤ (155 : Int) from by omega) (fun s28 hI12 fr11 => ?_)
      have fr14 : rq_fq [63, 64, 65, 66, 69] 1000000 false s.1 s.2.2 s28.1 s28.2.2 := rq_fq_tr (rq_fq_rf) (rq_fq_wk fr11 rfl (by decide) (by decide))
      exact rq_121_p33 (fun t9 i9 f9 => hQ t9 i9 (rq_fq_tr fr14 f9)) (fun p0 t9 i9 f9 => hX10 p0 t9 i9 (rq_fq_tr fr14 f9)) (show (156 - x1).toNat ≤ M10 from by omega) hI12 (show (0 : Int) ≤ x1 ∧ x1 ≤ (155 : Int) from by omega)
theorem rq_121_p10L {Q : lf_Z → Prop} {x1 : Int} {s : lf_Z} (hQ : ∀  (s' : lf_Z), iv_A s'.1 s'.2.2 → rq_fq [63, 64, 65, 66, 69] 1000000 false s.1 s.2.2 s'.1 s'.2.2 → Q  s') (hI : iv_A s.1 s.2.2) (bx1 : 0 ≤ x1 ∧ x1 ≤ 156) : fm_121_p10L Q x1 s := by
  intro X10 hX
  have key : ∀ (m9 : Nat) (x1 : Int) (s' : lf_Z), iv_A s'.1 s'.2.2 → rq_fq [63, 64, 65, 66, 69] 1000000 false s.1 s.2.2 s'.1 s'.2.2 → 0 ≤ x1 ∧ x1 ≤ 156 → (156 - x1).toNat < m9 → X10 x1 s' := by
    intro m9
    induction m9 with
    | zero => intro x1 s' _ _ bx1 h9; exact absurd h9 (Nat.not_lt_zero _)
    | succ m9 ih => intro x1 s' i7 f7 bx1 h9; exact hX _ _ (rq_121_p10 (fun t9 i9 f9 => hQ t9 i9 (rq_fq_tr f7 f9))   (fun x1' t8 i8 f8 bx1' h8 => ih x1' t8 i8 (rq_fq_tr f7 f8) bx1' (by omega)) (Nat.le_refl _)  i7  bx1  )
  exact key _ _ s hI rq_fq_rf bx1 (Nat.lt_succ_self _)
theorem rq_121 {Q : lf_Z → Prop} {s : lf_Z} (hI : iv_A s.1 s.2.2) (hQ : ∀  (s' : lf_Z), iv_A s'.1 s'.2.2 → rq_fq [63, 64, 65, 66, 69] 1000000 false s.1 s.2.2 s'.1 s'.2.2 → Q  s') : fm_121 Q s := by
  unfold fm_121
  obtain ⟨w21, ew21, hww21⟩ := iv_ref1 hI
  refine ⟨w21, ew21, hww21, ?_⟩
  refine sm_119 hww21 hI (fun s22 hI2 fr1 => ?_)
  have fr4 : rq_fq [63, 64, 65, 66, 69] 1000000 false s.1 s.2.2 s22.1 s22.2.2 := rq_fq_tr (rq_fq_rf) (rq_fq_wk fr1 rfl (by decide) (by decide))
  exact rq_121_p10L (fun t9 i9 f9 => hQ t9 i9 (rq_fq_tr fr4 f9)) hI2 (show (0 : Int) ≤ 0 ∧ 0 ≤ (156 : Int) from by omega)
theorem rq_117_p50 {X50 : Int → Int → lf_Z → Prop} {Q : Int → lf_Z → Prop} {x3 : Int} {x4 : Int} {x6 : Int} {s : lf_Z} (hQ : ∀ (r : Int) (s' : lf_Z), iv_A s'.1 s'.2.2 → rq_fq [63, 64, 65, 66, 68, 69] 1000000 false s.1 s.2.2 s'.1 s'.2.2 → Q r s') {M50 : Nat} (hX50 : ∀ (x4 : Int) (x6 : Int) (s' : lf_Z), iv_A s'.1 s'.2.2 → rq_fq [63, 64, 65, 66, 68, 69] 1000000 false s.1 s.2.2 s'.1 s'.2.2 → 0 ≤ x6 ∧ x6 ≤ 13 → (13 - x6).toNat < M50 → X50 x4 x6 s') (hM50 : (13 - x6).toNat ≤ M50) (hI : iv_A s.1 s.2.2) (bx3 : 0 ≤ x3 ∧ x3 ≤ 11) (bx6 : 0 ≤ x6 ∧ x6 ≤ 13) : fm_117_p50 Q x3 X50 x4 x6 s := by
  unfold fm_117_p50
  refine ⟨(show lf_R x6 from lf_Rof (by omega)), ?_⟩
  refine ⟨fun c14 => ?_, fun c14 => ?_⟩
  · skip
    replace c14 : 13 ≤ x6 := c14
    exact hQ (lf_wl x4) s hI (rq_fq_rf)
  · skip
    replace c14 : ¬ (13 ≤ x6) := c14
    obtain ⟨w31, ew31, hww31⟩ := iv_ref0 hI
    refine ⟨w31, ew31, hww31, ?_⟩
    refine ⟨(show (0 : Int) ≤ (x3 * 13) + x6 ∧ (x3 * 13) + x6 < (156 : Int) from by omega), ?_⟩
    exact hX50 (lf_wl ((lf_wl x4) + (lf_wl (s.2.1 w31 ((x3 * 13) + x6))))) (x6 + 1) s hI (rq_fq_rf) (show (0 : Int) ≤ x6 + 1 ∧ x6 + 1 ≤ (13 : Int) from by omega) (show (13 - (x6 + 1)).toNat < M50 from by omega)
theorem rq_117_p50L {Q : Int → lf_Z → Prop} {x3 : Int} {x4 : Int} {x6 : Int} {s : lf_Z} (hQ : ∀ (r : Int) (s' : lf_Z), iv_A s'.1 s'.2.2 → rq_fq [63, 64, 65, 66, 68, 69] 1000000 false s.1 s.2.2 s'.1 s'.2.2 → Q r s') (hI : iv_A s.1 s.2.2) (bx3 : 0 ≤ x3 ∧ x3 ≤ 11) (bx6 : 0 ≤ x6 ∧ x6 ≤ 13) : fm_117_p50L Q x3 x4 x6 s := by
  intro X50 hX
  have key : ∀ (m9 : Nat) (x4 : Int) (x6 : Int) (s' : lf_Z), iv_A s'.1 s'.2.2 → rq_fq [63, 64, 65, 66, 68, 69] 1000000 false s.1 s.2.2 s'.1 s'.2.2 → 0 ≤ x6 ∧ x6 ≤ 13 → (13 - x6).toNat < m9 → X50 x4 x6 s' := by
    intro m9
    induction m9 with
    | zero => intro x4 x6 s' _ _ bx6 h9; exact absurd h9 (Nat.not_lt_zero _)
    | succ m9 ih => intro x4 x6 s' i7 f7 bx6 h9; exact hX _ _ _ (rq_117_p50 (fun r9 t9 i9 f9 => hQ r9 t9 i9 (rq_fq_tr f7 f9))   (fun x4' x6' t8 i8 f8 bx6' h8 => ih x4' x6' t8 i8 (rq_fq_tr f7 f8) bx6' (by omega)) (Nat.le_refl _)  i7  bx3 bx6  )
  exact key _ _ _ s hI rq_fq_rf bx6 (Nat.lt_succ_self _)
theorem rq_117_p28 {X28 : Int → lf_Z → Prop} {Q : Int → lf_Z → Prop} {x2 : Int} {x3 : Int} {x4 : Int} {s : lf_Z} (hQ : ∀ (r : Int) (s' : lf_Z), iv_A s'.1 s'.2.2 → rq_fq [63, 64, 65, 66, 68, 69] 1000000 false s.1 s.2.2 s'.1 s'.2.2 → Q r s') {M28 : Nat} (hX28 : ∀ (x4 : Int) (s' : lf_Z), iv_A s'.1 s'.2.2 → rq_fq [63, 64, 65, 66, 68, 69] 1000000 false s.1 s.2.2 s'.1 s'.2.2 → 0 ≤ x4 ∧ x4 ≤ 4 → (4 - x4).toNat < M28 → X28 x4 s') (hM28 : (4 - x4).toNat ≤ M28) (hI : iv_A s.1 s.2.2) (bx2 : 0 ≤ x2 ∧ x2 ≤ 4) (bx3 : 0 ≤ x3 ∧ x3 ≤ 11) (bx4 : 0 ≤ x4 ∧ x4 ≤ 4) : fm_117_p28 Q x2 x3 X28 x4 s := by
  unfold fm_117_p28
  refine ⟨(show lf_R x4 from lf_Rof (by omega)), ?_⟩
  refine ⟨(show lf_R x2 from lf_Rof (by omega)), ?_⟩
  refine ⟨fun c13 => ?_, fun c13 => ?_⟩
  · skip
    replace c13 : x2 ≤ x4 := c13
    exact rq_117_p50L hQ hI (show (0 : Int) ≤ x3 ∧ x3 ≤ (11 : Int) from by omega) (show (0 : Int) ≤ 0 ∧ 0 ≤ (13 : Int) from by omega)
  · skip
    replace c13 : ¬ (x2 ≤ x4) := c13
    refine rq_121 hI (fun s33 hI16 fr15 => ?_)
    have fr18 : rq_fq [63, 64, 65, 66, 68, 69] 1000000 false s.1 s.2.2 s33.1 s33.2.2 := rq_fq_tr (rq_fq_rf) (rq_wq fr15 rfl (by decide) (by decide))
    exact hX28 (x4 + 1) s33 hI16 fr18 (show (0 : Int) ≤ x4 + 1 ∧ x4 + 1 ≤ (4 : Int) from by omega) (show (4 - (x4 + 1)).toNat < M28 from by omega)
theorem rq_117_p28L {Q : Int → lf_Z → Prop} {x2 : Int} {x3 : Int} {x4 : Int} {s : lf_Z} (hQ : ∀ (r : Int) (s' : lf_Z), iv_A s'.1 s'.2.2 → rq_fq [63, 64, 65, 66, 68, 69] 1000000 false s.1 s.2.2 s'.1 s'.2.2 → Q r s') (hI : iv_A s.1 s.2.2) (bx2 : 0 ≤ x2 ∧ x2 ≤ 4) (bx3 : 0 ≤ x3 ∧ x3 ≤ 11) (bx4 : 0 ≤ x4 ∧ x4 ≤ 4) : fm_117_p28L Q x2 x3 x4 s := by
  intro X28 hX
  have key : ∀ (m9 : Nat) (x4 : Int) (s' : lf_Z), iv_A s'.1 s'.2.2 → rq_fq [63, 64, 65, 66, 68, 69] 1000000 false s.1 s.2.2 s'.1 s'.2.2 → 0 ≤ x4 ∧ x4 ≤ 4 → (4 - x4).toNat < m9 → X28 x4 s' := by
    intro m9
    induction m9 with
    | zero => intro x4 s' _ _ bx4 h9; exact absurd h9 (Nat.not_lt_zero _)
    | succ m9 ih => intro x4 s' i7 f7 bx4 h9; exact hX _ _ (rq_117_p28 (fun r9 t9 i9 f9 => hQ r9 t9 i9 (rq_fq_tr f7 f9))   (fun x4' t8 i8 f8 bx4' h8 => ih x4' t8 i8 (rq_fq_tr f7 f8) bx4' (by omega)) (Nat.le_refl _)  i7  bx2 bx3 bx4  )
  exact key _ _ s hI rq_fq_rf bx4 (Nat.lt_succ_self _)
theorem rq_117 {a1 : Int} {a2 : Int} {a3 : Int} {Q : Int → lf_Z → Prop} {s : lf_Z} (hI : iv_A s.1 s.2.2) (ba1 : 0 ≤ a1 ∧ a1 ≤ 3) (ba2 : 0 ≤ a2 ∧ a2 ≤ 4) (ba3 : 0 ≤ a3 ∧ a3 ≤ 11) (kp0 : 0 < s.1 16 a1) (hQ : ∀ (r : Int) (s' : lf_Z), iv_A s'.1 s'.2.2 → rq_fq [63, 64, 65, 66, 68, 69] 1000000 false s.1 s.2.2 s'.1 s'.2.2 → Q r s') : fm_117 a1 a2 a3 Q s := by
  unfold fm_117
  refine sm_118 hI (show (0 : Int) ≤ a1 ∧ a1 ≤ (3 : Int) from by omega) (show (0 : Int) ≤ 0 ∧ 0 ≤ (9 : Int) from by omega) (fun s21 hI2 fr1 => ?_)
  have fr4 : rq_fq [63, 64, 65, 66, 68, 69] 1000000 false s.1 s.2.2 s21.1 s21.2.2 := rq_fq_tr (rq_fq_rf) (rq_fq_wk fr1 rfl (by decide) (by decide))
  obtain ⟨w22, ew22, hww22⟩ := iv_ref0 hI2
  refine ⟨w22, ew22, hww22, ?_⟩
  refine sm_119 hww22 hI2 (fun s23 hI6 fr5 => ?_)
  have fr8 : rq_fq [63, 64, 65, 66, 68, 69] 1000000 false s.1 s.2.2 s23.1 s23.2.2 := rq_fq_tr fr4 (rq_fq_wk fr5 rfl (by decide) (by decide))
  obtain ⟨w24, ew24, hww24⟩ := iv_ref0 hI6
  refine ⟨w24, ew24, hww24, ?_⟩
  have b9 : (-2147483648) ≤ s23.1 16 a1 ∧ s23.1 16 a1 ≤ 2147483647 := iv_full hI6
  have b10 : s23.1 16 a1 = s21.1 16 a1 := congrFun (fr5.1 16 rfl) _
  have b11 : s21.1 16 a1 = s.1 16 a1 := congrFun (fr1.1 16 rfl) _
  refine sm_120 hI6 (show (0 : Int) ≤ a1 ∧ a1 ≤ (3 : Int) from by omega) (show 0 < (s23.1 16 a1) from by omega) (fun r26 q12 => ?_)
  refine ⟨(show (0 : Int) ≤ r26 ∧ r26 < (156 : Int) from by omega), ?_⟩
  exact rq_117_p28L (fun r9 t9 i9 f9 => hQ r9 t9 i9 (rq_fq_tr fr8 f9)) hI6 (show (0 : Int) ≤ a2 ∧ a2 ≤ (4 : Int) from by omega) (show (0 : Int) ≤ a3 ∧ a3 ≤ (11 : Int) from by omega) (show (0 : Int) ≤ 0 ∧ 0 ≤ (4 : Int) from by omega)
theorem rq_116_p31 {Q : Int → lf_Z → Prop} {s : lf_Z} (hQ : ∀ (r : Int) (s' : lf_Z), iv_A s'.1 s'.2.2 → rq_fq [63, 64, 65, 66, 68, 69] 1000000 false s.1 s.2.2 s'.1 s'.2.2 → Q r s') (hI : iv_A s.1 s.2.2) : fm_116_p31 Q s := by
  unfold fm_116_p31
  exact hQ (-1) s hI (rq_fq_rf)
theorem rq_116 {a1 : Int} {a2 : Int} {a3 : Int} {a4 : Int} {Q : Int → lf_Z → Prop} {s : lf_Z} (hI : iv_A s.1 s.2.2) (ba1 : (-2147483648) ≤ a1 ∧ a1 ≤ 2147483647) (ba2 : (-2147483648) ≤ a2 ∧ a2 ≤ 2147483647) (ba3 : (-2147483648) ≤ a3 ∧ a3 ≤ 2147483647) (ba4 : 0 ≤ a4 ∧ a4 ≤ 1) (hQ : ∀ (r : Int) (s' : lf_Z), iv_A s'.1 s'.2.2 → rq_fq [63, 64, 65, 66, 68, 69] 1000000 false s.1 s.2.2 s'.1 s'.2.2 → Q r s') : fm_116 a1 a2 a3 a4 Q s := by
  unfold fm_116
  refine sm_80 hI (show (-2147483648 : Int) ≤ a1 ∧ a1 ≤ (2147483647 : Int) from by omega) (fun z22 q1 => ?_)
  have b2 : (-2147483648) ≤ s.1 16 a1 ∧ s.1 16 a1 ≤ 2147483647 := iv_full hI
  refine ⟨fun c3 => ?_, fun c3 => ?_⟩
  · skip
    have dc3 := q1.2 c3
    exact rq_116_p31 hQ hI
  · skip
    have dc3 := q1.1 c3
    refine sm_15 hI (show (-2147483648 : Int) ≤ a2 ∧ a2 ≤ (2147483647 : Int) from by omega) (show (-1 : Int) ≤ 0 ∧ 0 ≤ (99 : Int) from by omega) (show (-2147483648 : Int) ≤ 4 ∧ 4 ≤ (2147483647 : Int) from by omega) (fun z24 q4 => ?_)
    refine ⟨fun c5 => ?_, fun c5 => ?_⟩
    · skip
      have dc5 := q4.2 c5
      exact rq_116_p31 hQ hI
    · skip
      have dc5 := q4.1 c5
      refine sm_18 hI (show (-2147483648 : Int) ≤ a3 ∧ a3 ≤ (2147483647 : Int) from by omega) (fun z26 q6 => ?_)
      have b7 : 0 ≤ s.1 1 0 ∧ s.1 1 0 ≤ 12 := iv_r1_0 hI
      refine ⟨fun c8 => ?_, fun c8 => ?_⟩
      · skip
        have dc8 := q6.1 c8
        refine rq_117 hI (show (0 : Int) ≤ a1 ∧ a1 ≤ (3 : Int) from by omega) (show (0 : Int) ≤ a2 ∧ a2 ≤ (4 : Int) from by omega) (show (0 : Int) ≤ a3 ∧ a3 ≤ (11 : Int) from by omega) (show 0 < (s.1 16 a1) from by omega) (fun r28 s27 hI10 fr9 => ?_)
        have fr12 : rq_fq [63, 64, 65, 66, 68, 69] 1000000 false s.1 s.2.2 s27.1 s27.2.2 := rq_fq_tr (rq_fq_rf) (rq_wq fr9 rfl (by decide) (by decide))
        refine sm_124 hI10 (show (0 : Int) ≤ a2 ∧ a2 ≤ (4 : Int) from by omega) (fun r30 => ?_)
        refine sm_125 hI10 (show (0 : Int) ≤ a4 ∧ a4 ≤ (1 : Int) from by omega) (fun r32 => ?_)
        exact hQ (lf_wl r32) s27 hI10 fr12
      · skip
        have dc8 := q6.2 c8
        exact rq_116_p31 hQ hI
end RQ
section RQX
variable {l : List Nat} {w : Int} {b : Bool} {I I' : Nat → Int → Int} {P P' : Nat → Option Nat}
theorem gx_f3 (h : gx_A I P) (q : lf_fq l w b I P I' P') (hl : l.all gx_fr = true) (h3 : P' 3 = P 3) : gx_A I' P' := gx_q (fun c hc _ => q.1 c (gx_nf hl hc)) (fun i _ _ => by rw [q.1 95 (gx_nf hl rfl)]) (gx_9c (q.1 95 (gx_nf hl rfl)) h.2.2.2.2.2.2.2.2) h h3
theorem gx_116 {a1 : Int} {a2 : Int} {a3 : Int} {a4 : Int} {Q : Int → lf_Z → Prop} {s : lf_Z} (hI : iv_A s.1 s.2.2) (ba1 : (-2147483648) ≤ a1 ∧ a1 ≤ 2147483647) (ba2 : (-2147483648) ≤ a2 ∧ a2 ≤ 2147483647) (ba3 : (-2147483648) ≤ a3 ∧ a3 ≤ 2147483647) (ba4 : 0 ≤ a4 ∧ a4 ≤ 1) (hA : gx_A s.1 s.2.2) (hQ : ∀ (r : Int) (s' : lf_Z), iv_A s'.1 s'.2.2 → lf_fq [63, 64, 65, 66, 68, 69] 1000000 false s.1 s.2.2 s'.1 s'.2.2 → gx_A s'.1 s'.2.2 → Q r s') : fm_116 a1 a2 a3 a4 Q s := rq_116 hI ba1 ba2 ba3 ba4 (fun r s' h1 h2 => hQ r s' h1 h2.1 (gx_f3 hA h2.1 rfl h2.2))
end RQX
/-! small things for the law's loop -/
section GZ
variable {p : Int → Prop} {r : Int} {I : Nat → Int → Int} {P : Nat → Option Nat} {x1 x2 x3 x4 y1 y2 y3 y4 v : Int}
abbrev gx_Y : Type := (Nat → Int → Int) → (Nat → Option Nat) → Prop
/-- a cell of the script as yes or no -/
def gx_z (v : Int) : Int := if v = 0 then 0 else 1
theorem gx_zz (h : (y1 = 0 ∧ v = 0) ∨ (y1 = 1 ∧ v ≠ 0)) : y1 = gx_z v := by
  unfold gx_z
  rcases h with ⟨a, b⟩ | ⟨a, b⟩
  · rw [if_pos b, a]
  · rw [if_neg b, a]
theorem gx_a2 {R : Int → Int → Int → gx_Y} (h1 : x1 = y1) (h2 : x2 = y2) (hp : p r) (h : R x1 x2 r I P) : gx_MP (R y1 y2) p I P := by
  rw [← h1, ← h2]; exact ⟨r, hp, h⟩
theorem gx_a3 {R : Int → Int → Int → Int → gx_Y} (h1 : x1 = y1) (h2 : x2 = y2) (h3 : x3 = y3) (hp : p r) (h : R x1 x2 x3 r I P) : gx_MP (R y1 y2 y3) p I P := by
  rw [← h1, ← h2, ← h3]; exact ⟨r, hp, h⟩
theorem gx_a4 {R : Int → Int → Int → Int → Int → gx_Y} (h1 : x1 = y1) (h2 : x2 = y2) (h3 : x3 = y3) (h4 : x4 = y4) (hp : p r) (h : R x1 x2 x3 x4 r I P) : gx_MP (R y1 y2 y3 y4) p I P := by
  rw [← h1, ← h2, ← h3, ← h4]; exact ⟨r, hp, h⟩
theorem gx_b2 {R : Int → Int → (Int → Prop) → gx_Y} (h1 : x1 = y1) (h2 : x2 = y2) (h : R y1 y2 p I P) : R x1 x2 p I P := by
  rw [h1, h2]; exact h
theorem gx_b3 {R : Int → Int → Int → (Int → Prop) → gx_Y} (h1 : x1 = y1) (h2 : x2 = y2) (h3 : x3 = y3) (h : R y1 y2 y3 p I P) : R x1 x2 x3 p I P := by
  rw [h1, h2, h3]; exact h
theorem gx_b4 {R : Int → Int → Int → Int → (Int → Prop) → gx_Y} (h1 : x1 = y1) (h2 : x2 = y2) (h3 : x3 = y3) (h4 : x4 = y4) (h : R y1 y2 y3 y4 p I P) : R x1 x2 x3 x4 p I P := by
  rw [h1, h2, h3, h4]; exact h
end GZ
def fw_110 (a1 : Int) (a2 : Int) (Q : Int → lf_Z → Prop) (s : lf_Z) : Prop := fw_15 a1 0 3 (fun z22 s21 => ((z22 = false → (Q (-2) s21)) ∧ (z22 = true → (fw_15 a2 0 3 (fun z24 s23 => ((z24 = true → (lf_R a2 → ((a2 ≠ 0 → ((0 ≤ a1 ∧ a1 < 4) → (lf_R (s23.1 16 a1) → ((s23.1 16 a1 ≠ 0 → ((a2 ≠ 3 → ((a2 ≠ 1 → (Q (s23.1 18 a1) s23)) ∧ (¬ (a2 ≠ 1) → (Q (s23.1 17 a1) s23)))) ∧ (¬ (a2 ≠ 3) → (fw_81 a1 (fun r29 s28 => (Q r29 s28)) s23)))) ∧ (¬ (s23.1 16 a1 ≠ 0) → (Q (-1) s23)))))) ∧ (¬ (a2 ≠ 0) → ((0 ≤ a1 ∧ a1 < 4) → (Q (s23.1 16 a1) s23)))))) ∧ (z24 = false → (Q (-2) s23)))) s21)))) s
theorem cj_110 {Q1 Q2 Q3 : Int → lf_Z → Prop} {a1 : Int} {a2 : Int} {s : lf_Z} (hQ : ∀ (r : Int) (s : lf_Z), Q1 r s → Q2 r s → Q3 r s) (h1 : fm_110 a1 a2 Q1 s) (h2 : fw_110 a1 a2 Q2 s) : fm_110 a1 a2 Q3 s := by
  unfold fm_110 at h1 ⊢
  unfold fw_110 at h2
  exact cj_15 (fun z22 s21 k1 l1 => ⟨(fun c2 => hQ _ _  (k1.1 c2) (l1.1 c2)), (fun c2 => cj_15 (fun z24 s23 k4 l4 => ⟨(fun c5 => ⟨(k4.1 c5).1, ⟨(fun c7 => ⟨((k4.1 c5).2.1 c7).1, ⟨((k4.1 c5).2.1 c7).2.1, ⟨(fun c10 => ⟨(fun c11 => ⟨(fun c12 => hQ _ _  (((((k4.1 c5).2.1 c7).2.2.1 c10).1 c11).1 c12) ((((((((l4.1 c5) (k4.1 c5).1).1 c7) ((k4.1 c5).2.1 c7).1) ((k4.1 c5).2.1 c7).2.1).1 c10).1 c11).1 c12)), (fun c12 => hQ _ _  (((((k4.1 c5).2.1 c7).2.2.1 c10).1 c11).2 c12) ((((((((l4.1 c5) (k4.1 c5).1).1 c7) ((k4.1 c5).2.1 c7).1) ((k4.1 c5).2.1 c7).2.1).1 c10).1 c11).2 c12))⟩), (fun c11 => cj_81 (fun r29 s28 k15 l15 => hQ _ _  k15 l15) ((((k4.1 c5).2.1 c7).2.2.1 c10).2 c11) (((((((l4.1 c5) (k4.1 c5).1).1 c7) ((k4.1 c5).2.1 c7).1) ((k4.1 c5).2.1 c7).2.1).1 c10).2 c11))⟩), (fun c10 => hQ _ _  (((k4.1 c5).2.1 c7).2.2.2 c10) ((((((l4.1 c5) (k4.1 c5).1).1 c7) ((k4.1 c5).2.1 c7).1) ((k4.1 c5).2.1 c7).2.1).2 c10))⟩⟩⟩), (fun c7 => ⟨((k4.1 c5).2.2 c7).1, hQ _ _  ((k4.1 c5).2.2 c7).2 ((((l4.1 c5) (k4.1 c5).1).2 c7) ((k4.1 c5).2.2 c7).1)⟩)⟩⟩), (fun c5 => hQ _ _  (k4.2 c5) (l4.2 c5))⟩) (k1.2 c2) (l1.2 c2))⟩) h1 h2
def fw_284 (a1 : Int) (a2 : Int) (Q : Int → lf_Z → Prop) (s : lf_Z) : Prop := fw_183 a1 0 3 (fun z22 s21 => ((z22 = false → (Q (-2) s21)) ∧ (z22 = true → (fw_183 a2 0 3 (fun z24 s23 => ((z24 = true → (lf_R a2 → ((a2 ≠ 0 → (fw_242 a1 (fun r27 s26 => (lf_R r27 → ((r27 ≠ 0 → ((a2 ≠ 1 → ((a2 ≠ 2 → (fw_263 a1 (fun r30 s29 => (Q r30 s29)) s26)) ∧ (¬ (a2 ≠ 2) → (fw_256 a1 (fun r32 s31 => (Q r32 s31)) s26)))) ∧ (¬ (a2 ≠ 1) → (fw_255 a1 (fun r34 s33 => (Q r34 s33)) s26)))) ∧ (¬ (r27 ≠ 0) → (Q (-1) s26))))) s23)) ∧ (¬ (a2 ≠ 0) → (fw_242 a1 (fun r36 s35 => (Q r36 s35)) s23))))) ∧ (z24 = false → (Q (-2) s23)))) s21)))) s
theorem cj_284 {Q1 Q2 Q3 : Int → lf_Z → Prop} {a1 : Int} {a2 : Int} {s : lf_Z} (hQ : ∀ (r : Int) (s : lf_Z), Q1 r s → Q2 r s → Q3 r s) (h1 : fm_284 a1 a2 Q1 s) (h2 : fw_284 a1 a2 Q2 s) : fm_284 a1 a2 Q3 s := by
  unfold fm_284 at h1 ⊢
  unfold fw_284 at h2
  exact cj_183 (fun z22 s21 k1 l1 => ⟨(fun c2 => hQ _ _  (k1.1 c2) (l1.1 c2)), (fun c2 => cj_183 (fun z24 s23 k4 l4 => ⟨(fun c5 => ⟨(k4.1 c5).1, ⟨(fun c7 => cj_242 (fun r27 s26 k8 l8 => ⟨k8.1, ⟨(fun c10 => ⟨(fun c11 => ⟨(fun c12 => cj_263 (fun r30 s29 k13 l13 => hQ _ _  k13 l13) (((k8.2.1 c10).1 c11).1 c12) ((((l8 k8.1).1 c10).1 c11).1 c12)), (fun c12 => cj_256 (fun r32 s31 k15 l15 => hQ _ _  k15 l15) (((k8.2.1 c10).1 c11).2 c12) ((((l8 k8.1).1 c10).1 c11).2 c12))⟩), (fun c11 => cj_255 (fun r34 s33 k17 l17 => hQ _ _  k17 l17) ((k8.2.1 c10).2 c11) (((l8 k8.1).1 c10).2 c11))⟩), (fun c10 => hQ _ _  (k8.2.2 c10) ((l8 k8.1).2 c10))⟩⟩) ((k4.1 c5).2.1 c7) (((l4.1 c5) (k4.1 c5).1).1 c7)), (fun c7 => cj_242 (fun r36 s35 k20 l20 => hQ _ _  k20 l20) ((k4.1 c5).2.2 c7) (((l4.1 c5) (k4.1 c5).1).2 c7))⟩⟩), (fun c5 => hQ _ _  (k4.2 c5) (l4.2 c5))⟩) (k1.2 c2) (l1.2 c2))⟩) h1 h2
def fw_111 (a1 : Int) (a2 : Int) (Q : Int → lf_Z → Prop) (s : lf_Z) : Prop := fw_99 a1 (fun z22 s21 => ((z22 = true → (lf_R a2 → ((a2 < 0 ∨ 4 < a2 → (Q (-2) s21)) ∧ (a2 = 0 → ((0 ≤ a1 ∧ a1 < 6) → (Q (s21.1 7 a1) s21))) ∧ (a2 = 1 → ((0 ≤ a1 ∧ a1 < 6) → (lf_R (s21.1 8 a1) → ((s21.1 8 a1 = 0 → (Q 0 s21)) ∧ (¬ (s21.1 8 a1 = 0) → (Q 1 s21)))))) ∧ (a2 = 2 → ((0 ≤ a1 ∧ a1 < 6) → (lf_R (s21.1 9 a1) → ((s21.1 9 a1 = 0 → (Q 0 s21)) ∧ (¬ (s21.1 9 a1 = 0) → (Q 1 s21)))))) ∧ (a2 = 3 → ((0 ≤ a1 ∧ a1 < 6) → (Q (s21.1 19 a1) s21))) ∧ (a2 = 4 → ((0 ≤ a1 ∧ a1 < 6) → (Q (s21.1 20 a1) s21)))))) ∧ (z22 = false → (Q (-2) s21)))) s
theorem cj_111 {Q1 Q2 Q3 : Int → lf_Z → Prop} {a1 : Int} {a2 : Int} {s : lf_Z} (hQ : ∀ (r : Int) (s : lf_Z), Q1 r s → Q2 r s → Q3 r s) (h1 : fm_111 a1 a2 Q1 s) (h2 : fw_111 a1 a2 Q2 s) : fm_111 a1 a2 Q3 s := by
  unfold fm_111 at h1 ⊢
  unfold fw_111 at h2
  exact cj_99 (fun z22 s21 k1 l1 => ⟨(fun c2 => ⟨(k1.1 c2).1, ⟨(fun c4 => hQ _ _  ((k1.1 c2).2.1 c4) (((l1.1 c2) (k1.1 c2).1).1 c4)), (fun c4 => ⟨((k1.1 c2).2.2.1 c4).1, hQ _ _  ((k1.1 c2).2.2.1 c4).2 ((((l1.1 c2) (k1.1 c2).1).2.1 c4) ((k1.1 c2).2.2.1 c4).1)⟩), (fun c4 => ⟨((k1.1 c2).2.2.2.1 c4).1, ⟨((k1.1 c2).2.2.2.1 c4).2.1, ⟨(fun c10 => hQ _ _  (((k1.1 c2).2.2.2.1 c4).2.2.1 c10) ((((((l1.1 c2) (k1.1 c2).1).2.2.1 c4) ((k1.1 c2).2.2.2.1 c4).1) ((k1.1 c2).2.2.2.1 c4).2.1).1 c10)), (fun c10 => hQ _ _  (((k1.1 c2).2.2.2.1 c4).2.2.2 c10) ((((((l1.1 c2) (k1.1 c2).1).2.2.1 c4) ((k1.1 c2).2.2.2.1 c4).1) ((k1.1 c2).2.2.2.1 c4).2.1).2 c10))⟩⟩⟩), (fun c4 => ⟨((k1.1 c2).2.2.2.2.1 c4).1, ⟨((k1.1 c2).2.2.2.2.1 c4).2.1, ⟨(fun c15 => hQ _ _  (((k1.1 c2).2.2.2.2.1 c4).2.2.1 c15) ((((((l1.1 c2) (k1.1 c2).1).2.2.2.1 c4) ((k1.1 c2).2.2.2.2.1 c4).1) ((k1.1 c2).2.2.2.2.1 c4).2.1).1 c15)), (fun c15 => hQ _ _  (((k1.1 c2).2.2.2.2.1 c4).2.2.2 c15) ((((((l1.1 c2) (k1.1 c2).1).2.2.2.1 c4) ((k1.1 c2).2.2.2.2.1 c4).1) ((k1.1 c2).2.2.2.2.1 c4).2.1).2 c15))⟩⟩⟩), (fun c4 => ⟨((k1.1 c2).2.2.2.2.2.1 c4).1, hQ _ _  ((k1.1 c2).2.2.2.2.2.1 c4).2 ((((l1.1 c2) (k1.1 c2).1).2.2.2.2.1 c4) ((k1.1 c2).2.2.2.2.2.1 c4).1)⟩), (fun c4 => ⟨((k1.1 c2).2.2.2.2.2.2 c4).1, hQ _ _  ((k1.1 c2).2.2.2.2.2.2 c4).2 ((((l1.1 c2) (k1.1 c2).1).2.2.2.2.2 c4) ((k1.1 c2).2.2.2.2.2.2 c4).1)⟩)⟩⟩), (fun c2 => hQ _ _  (k1.2 c2) (l1.2 c2))⟩) h1 h2
def fw_285 (a1 : Int) (a2 : Int) (Q : Int → lf_Z → Prop) (s : lf_Z) : Prop := fw_249 a1 (fun z22 s21 => ((z22 = false → (Q (-2) s21)) ∧ (z22 = true → (fw_183 a2 0 4 (fun z24 s23 => ((z24 = false → (Q (-2) s23)) ∧ (z24 = true → (fw_239c a1 a2 (fun r26 s25 => (Q r26 s25)) s23)))) s21)))) s
theorem cj_285 {Q1 Q2 Q3 : Int → lf_Z → Prop} {a1 : Int} {a2 : Int} {s : lf_Z} (hQ : ∀ (r : Int) (s : lf_Z), Q1 r s → Q2 r s → Q3 r s) (h1 : fm_285 a1 a2 Q1 s) (h2 : fw_285 a1 a2 Q2 s) : fm_285 a1 a2 Q3 s := by
  unfold fm_285 at h1 ⊢
  unfold fw_285 at h2
  exact cj_249 (fun z22 s21 k1 l1 => ⟨(fun c2 => hQ _ _  (k1.1 c2) (l1.1 c2)), (fun c2 => cj_183 (fun z24 s23 k4 l4 => ⟨(fun c5 => hQ _ _  (k4.1 c5) (l4.1 c5)), (fun c5 => cj_239c (fun r26 s25 k7 l7 => hQ _ _  k7 l7) (k4.2 c5) (l4.2 c5))⟩) (k1.2 c2) (l1.2 c2))⟩) h1 h2
def fw_113_p4 (Q : Int → lf_Z → Prop) (x1 : Int) (X4 : Int → Int → lf_Z → Prop) (x2 : Int) (x3 : Int) (s : lf_Z) : Prop := fw_76 x1 (fun r22 s21 => (lf_R x3 → (lf_R r22 → ((r22 ≤ x3 → (Q x2 s21)) ∧ (¬ (r22 ≤ x3) → (fw_77 x1 x3 (fun r26 s25 => (X4 (lf_or x2 (lf_shl 1 r26)) (x3 + 1) s25)) s21)))))) s
theorem cj_113_p4 {X41 X42 X43 : Int → Int → lf_Z → Prop} {Q1 Q2 Q3 : Int → lf_Z → Prop} {x1 : Int} {x2 : Int} {x3 : Int} {s : lf_Z} (hX4 : ∀ (v0 : Int) (v1 : Int) (v2 : lf_Z), X41 v0 v1 v2 → X42 v0 v1 v2 → X43 v0 v1 v2) (hQ : ∀ (r : Int) (s : lf_Z), Q1 r s → Q2 r s → Q3 r s) (h1 : fm_113_p4 Q1 x1 X41 x2 x3 s) (h2 : fw_113_p4 Q2 x1 X42 x2 x3 s) : fm_113_p4 Q3 x1 X43 x2 x3 s := by
  unfold fm_113_p4 at h1 ⊢
  unfold fw_113_p4 at h2
  exact cj_76 (fun r22 s21 k1 l1 => ⟨k1.1, ⟨k1.2.1, ⟨(fun c4 => hQ _ _  (k1.2.2.1 c4) (((l1 k1.1) k1.2.1).1 c4)), (fun c4 => cj_77 (fun r26 s25 k6 l6 => hX4 _ _ _  k6 l6) (k1.2.2.2 c4) (((l1 k1.1) k1.2.1).2 c4))⟩⟩⟩) h1 h2
def fw_113_p4L (Q : Int → lf_Z → Prop) (x1 : Int) (x2 : Int) (x3 : Int) (s : lf_Z) : Prop := ∃ X4 : Int → Int → lf_Z → Prop, (∀ (x2 : Int) (x3 : Int) (s : lf_Z), X4 x2 x3 s → fw_113_p4 Q x1 X4 x2 x3 s) ∧ X4 x2 x3 s
theorem cj_113_p4L {Q1 Q2 Q3 : Int → lf_Z → Prop} {x1 : Int} {x2 : Int} {x3 : Int} {s : lf_Z} (hQ : ∀ (r : Int) (s : lf_Z), Q1 r s → Q2 r s → Q3 r s) (h1 : fm_113_p4L Q1 x1 x2 x3 s) (h2 : fw_113_p4L Q2 x1 x2 x3 s) : fm_113_p4L Q3 x1 x2 x3 s := by
  intro X0 hX0
  obtain ⟨Y, hY, hY0⟩ := h2
  exact h1 (fun v0 v1 s => Y v0 v1 s → X0 v0 v1 s) (fun v0 v1 s hb hy => hX0 v0 v1 s (cj_113_p4 (X41 := fun v0 v1 s => Y v0 v1 s → X0 v0 v1 s) (X42 := Y) (X43 := X0) (hX4 := fun v0 v1 s a b => a b) hQ hb (hY v0 v1 s hy))) hY0
def fw_113 (a1 : Int) (Q : Int → lf_Z → Prop) (s : lf_Z) : Prop := fw_113_p4L Q a1 0 0 s
theorem cj_113 {Q1 Q2 Q3 : Int → lf_Z → Prop} {a1 : Int} {s : lf_Z} (hQ : ∀ (r : Int) (s : lf_Z), Q1 r s → Q2 r s → Q3 r s) (h1 : fm_113 a1 Q1 s) (h2 : fw_113 a1 Q2 s) : fm_113 a1 Q3 s := by
  unfold fm_113 at h1 ⊢
  unfold fw_113 at h2
  exact cj_113_p4L hQ h1 h2
def fw_112 (a1 : Int) (a2 : Int) (Q : Int → lf_Z → Prop) (s : lf_Z) : Prop := fw_18 a1 (fun z22 s21 => ((z22 = true → (lf_R a2 → ((a2 < 0 ∨ 3 < a2 → (Q (-1) s21)) ∧ (a2 = 0 → ((0 ≤ a1 ∧ a1 < 12) → (Q (s21.1 2 a1) s21))) ∧ (a2 = 1 → ((0 ≤ a1 ∧ a1 < 12) → (Q (s21.1 3 a1) s21))) ∧ (a2 = 2 → ((0 ≤ a1 ∧ a1 < 12) → (Q (s21.1 21 a1) s21))) ∧ (a2 = 3 → (fw_113 a1 (fun r28 s27 => (Q r28 s27)) s21))))) ∧ (z22 = false → (Q (-1) s21)))) s
theorem cj_112 {Q1 Q2 Q3 : Int → lf_Z → Prop} {a1 : Int} {a2 : Int} {s : lf_Z} (hQ : ∀ (r : Int) (s : lf_Z), Q1 r s → Q2 r s → Q3 r s) (h1 : fm_112 a1 a2 Q1 s) (h2 : fw_112 a1 a2 Q2 s) : fm_112 a1 a2 Q3 s := by
  unfold fm_112 at h1 ⊢
  unfold fw_112 at h2
  exact cj_18 (fun z22 s21 k1 l1 => ⟨(fun c2 => ⟨(k1.1 c2).1, ⟨(fun c4 => hQ _ _  ((k1.1 c2).2.1 c4) (((l1.1 c2) (k1.1 c2).1).1 c4)), (fun c4 => ⟨((k1.1 c2).2.2.1 c4).1, hQ _ _  ((k1.1 c2).2.2.1 c4).2 ((((l1.1 c2) (k1.1 c2).1).2.1 c4) ((k1.1 c2).2.2.1 c4).1)⟩), (fun c4 => ⟨((k1.1 c2).2.2.2.1 c4).1, hQ _ _  ((k1.1 c2).2.2.2.1 c4).2 ((((l1.1 c2) (k1.1 c2).1).2.2.1 c4) ((k1.1 c2).2.2.2.1 c4).1)⟩), (fun c4 => ⟨((k1.1 c2).2.2.2.2.1 c4).1, hQ _ _  ((k1.1 c2).2.2.2.2.1 c4).2 ((((l1.1 c2) (k1.1 c2).1).2.2.2.1 c4) ((k1.1 c2).2.2.2.2.1 c4).1)⟩), (fun c4 => cj_113 (fun r28 s27 k12 l12 => hQ _ _  k12 l12) ((k1.1 c2).2.2.2.2.2 c4) (((l1.1 c2) (k1.1 c2).1).2.2.2.2 c4))⟩⟩), (fun c2 => hQ _ _  (k1.2 c2) (l1.2 c2))⟩) h1 h2
def fw_286 (a1 : Int) (a2 : Int) (Q : Int → lf_Z → Prop) (s : lf_Z) : Prop := fw_185 a1 (fun z22 s21 => ((z22 = false → (Q (-1) s21)) ∧ (z22 = true → (fw_183 a2 0 3 (fun z24 s23 => ((z24 = true → (lf_R a2 → ((a2 ≠ 3 → ((0 ≤ (14 + (3 * a1)) + a2 ∧ (14 + (3 * a1)) + a2 < 1538) → (Q (s23.1 96 ((14 + (3 * a1)) + a2)) s23))) ∧ (¬ (a2 ≠ 3) → (fw_186 a1 (fun r28 s27 => (Q r28 s27)) s23))))) ∧ (z24 = false → (Q (-1) s23)))) s21)))) s
theorem cj_286 {Q1 Q2 Q3 : Int → lf_Z → Prop} {a1 : Int} {a2 : Int} {s : lf_Z} (hQ : ∀ (r : Int) (s : lf_Z), Q1 r s → Q2 r s → Q3 r s) (h1 : fm_286 a1 a2 Q1 s) (h2 : fw_286 a1 a2 Q2 s) : fm_286 a1 a2 Q3 s := by
  unfold fm_286 at h1 ⊢
  unfold fw_286 at h2
  exact cj_185 (fun z22 s21 k1 l1 => ⟨(fun c2 => hQ _ _  (k1.1 c2) (l1.1 c2)), (fun c2 => cj_183 (fun z24 s23 k4 l4 => ⟨(fun c5 => ⟨(k4.1 c5).1, ⟨(fun c7 => ⟨((k4.1 c5).2.1 c7).1, hQ _ _  ((k4.1 c5).2.1 c7).2 ((((l4.1 c5) (k4.1 c5).1).1 c7) ((k4.1 c5).2.1 c7).1)⟩), (fun c7 => cj_186 (fun r28 s27 k10 l10 => hQ _ _  k10 l10) ((k4.1 c5).2.2 c7) (((l4.1 c5) (k4.1 c5).1).2 c7))⟩⟩), (fun c5 => hQ _ _  (k4.2 c5) (l4.2 c5))⟩) (k1.2 c2) (l1.2 c2))⟩) h1 h2
def fw_114 (a1 : Int) (a2 : Int) (Q : Int → lf_Z → Prop) (s : lf_Z) : Prop := fw_79 a1 (fun z22 s21 => ((z22 = true → (lf_R a2 → ((a2 < 0 ∨ 3 < a2 → (Q (-1) s21)) ∧ (a2 = 0 → ((0 ≤ a1 ∧ a1 < 16) → (Q (s21.1 4 a1) s21))) ∧ (a2 = 1 → ((0 ≤ a1 ∧ a1 < 16) → (Q (s21.1 5 a1) s21))) ∧ (a2 = 2 → ((0 ≤ a1 ∧ a1 < 16) → (lf_R (s21.1 6 a1) → ((s21.1 6 a1 = 0 → (Q 0 s21)) ∧ (¬ (s21.1 6 a1 = 0) → (Q 1 s21)))))) ∧ (a2 = 3 → (fw_90 a1 (fun z29 s28 => ((z29 = false → (Q 0 s28)) ∧ (z29 = true → (Q 1 s28)))) s21))))) ∧ (z22 = false → (Q (-1) s21)))) s
theorem cj_114 {Q1 Q2 Q3 : Int → lf_Z → Prop} {a1 : Int} {a2 : Int} {s : lf_Z} (hQ : ∀ (r : Int) (s : lf_Z), Q1 r s → Q2 r s → Q3 r s) (h1 : fm_114 a1 a2 Q1 s) (h2 : fw_114 a1 a2 Q2 s) : fm_114 a1 a2 Q3 s := by
  unfold fm_114 at h1 ⊢
  unfold fw_114 at h2
  exact cj_79 (fun z22 s21 k1 l1 => ⟨(fun c2 => ⟨(k1.1 c2).1, ⟨(fun c4 => hQ _ _  ((k1.1 c2).2.1 c4) (((l1.1 c2) (k1.1 c2).1).1 c4)), (fun c4 => ⟨((k1.1 c2).2.2.1 c4).1, hQ _ _  ((k1.1 c2).2.2.1 c4).2 ((((l1.1 c2) (k1.1 c2).1).2.1 c4) ((k1.1 c2).2.2.1 c4).1)⟩), (fun c4 => ⟨((k1.1 c2).2.2.2.1 c4).1, hQ _ _  ((k1.1 c2).2.2.2.1 c4).2 ((((l1.1 c2) (k1.1 c2).1).2.2.1 c4) ((k1.1 c2).2.2.2.1 c4).1)⟩), (fun c4 => ⟨((k1.1 c2).2.2.2.2.1 c4).1, ⟨((k1.1 c2).2.2.2.2.1 c4).2.1, ⟨(fun c12 => hQ _ _  (((k1.1 c2).2.2.2.2.1 c4).2.2.1 c12) ((((((l1.1 c2) (k1.1 c2).1).2.2.2.1 c4) ((k1.1 c2).2.2.2.2.1 c4).1) ((k1.1 c2).2.2.2.2.1 c4).2.1).1 c12)), (fun c12 => hQ _ _  (((k1.1 c2).2.2.2.2.1 c4).2.2.2 c12) ((((((l1.1 c2) (k1.1 c2).1).2.2.2.1 c4) ((k1.1 c2).2.2.2.2.1 c4).1) ((k1.1 c2).2.2.2.2.1 c4).2.1).2 c12))⟩⟩⟩), (fun c4 => cj_90 (fun z29 s28 k15 l15 => ⟨(fun c16 => hQ _ _  (k15.1 c16) (l15.1 c16)), (fun c16 => hQ _ _  (k15.2 c16) (l15.2 c16))⟩) ((k1.1 c2).2.2.2.2.2 c4) (((l1.1 c2) (k1.1 c2).1).2.2.2.2 c4))⟩⟩), (fun c2 => hQ _ _  (k1.2 c2) (l1.2 c2))⟩) h1 h2
def fw_287 (a1 : Int) (a2 : Int) (Q : Int → lf_Z → Prop) (s : lf_Z) : Prop := fw_251 a1 (fun z22 s21 => ((z22 = false → (Q (-1) s21)) ∧ (z22 = true → (fw_183 a2 0 3 (fun z24 s23 => ((z24 = false → (Q (-1) s23)) ∧ (z24 = true → ((0 ≤ (50 + (4 * a1)) + a2 ∧ (50 + (4 * a1)) + a2 < 1538) → (Q (s23.1 96 ((50 + (4 * a1)) + a2)) s23))))) s21)))) s
theorem cj_287 {Q1 Q2 Q3 : Int → lf_Z → Prop} {a1 : Int} {a2 : Int} {s : lf_Z} (hQ : ∀ (r : Int) (s : lf_Z), Q1 r s → Q2 r s → Q3 r s) (h1 : fm_287 a1 a2 Q1 s) (h2 : fw_287 a1 a2 Q2 s) : fm_287 a1 a2 Q3 s := by
  unfold fm_287 at h1 ⊢
  unfold fw_287 at h2
  exact cj_251 (fun z22 s21 k1 l1 => ⟨(fun c2 => hQ _ _  (k1.1 c2) (l1.1 c2)), (fun c2 => cj_183 (fun z24 s23 k4 l4 => ⟨(fun c5 => hQ _ _  (k4.1 c5) (l4.1 c5)), (fun c5 => ⟨(k4.2 c5).1, hQ _ _  (k4.2 c5).2 ((l4.2 c5) (k4.2 c5).1)⟩)⟩) (k1.2 c2) (l1.2 c2))⟩) h1 h2
def fw_115_p80 (Q : Int → lf_Z → Prop) (x1 : Int) (x2 : Int) (y0 : Int) (s : lf_Z) : Prop := (0 ≤ x1 ∧ x1 < 4) → (fw_91 (s.1 16 x1) (s.1 17 x1) x2 y0 0 0 (fun r34 s33 => (Q r34 s33)) s)
theorem cj_115_p80 {Q1 Q2 Q3 : Int → lf_Z → Prop} {x1 : Int} {x2 : Int} {y0 : Int} {s : lf_Z} (hQ : ∀ (r : Int) (s : lf_Z), Q1 r s → Q2 r s → Q3 r s) (h1 : fm_115_p80 Q1 x1 x2 y0 s) (h2 : fw_115_p80 Q2 x1 x2 y0 s) : fm_115_p80 Q3 x1 x2 y0 s := by
  unfold fm_115_p80 at h1 ⊢
  unfold fw_115_p80 at h2
  exact ⟨h1.1, cj_91 (fun r34 s33 k2 l2 => hQ _ _  k2 l2) h1.2 (h2 h1.1)⟩
def fw_115 (a1 : Int) (a2 : Int) (Q : Int → lf_Z → Prop) (s : lf_Z) : Prop := fw_80 a1 (fun z22 s21 => ((z22 = false → (Q (-1) s21)) ∧ (z22 = true → (fw_89 a2 (fun z24 s23 => ((z24 = true → ((0 ≤ a1 ∧ a1 < 4) → (fw_78 a2 (s23.1 17 a1) (fun r27 s26 => (lf_R r27 → ((r27 ≠ (-1) → (fw_90 a2 (fun z30 s29 => ((z30 = true → (lf_R (s29.1 18 a1) → ((s29.1 18 a1 ≠ r27 → (fw_115_p80 Q a1 a2 0 s29)) ∧ (¬ (s29.1 18 a1 ≠ r27) → (fw_115_p80 Q a1 a2 1 s29))))) ∧ (z30 = false → (Q 0 s29)))) s26)) ∧ (¬ (r27 ≠ (-1)) → (Q (-1) s26))))) s23))) ∧ (z24 = false → (Q (-1) s23)))) s21)))) s
theorem cj_115 {Q1 Q2 Q3 : Int → lf_Z → Prop} {a1 : Int} {a2 : Int} {s : lf_Z} (hQ : ∀ (r : Int) (s : lf_Z), Q1 r s → Q2 r s → Q3 r s) (h1 : fm_115 a1 a2 Q1 s) (h2 : fw_115 a1 a2 Q2 s) : fm_115 a1 a2 Q3 s := by
  unfold fm_115 at h1 ⊢
  unfold fw_115 at h2
  exact cj_80 (fun z22 s21 k1 l1 => ⟨(fun c2 => hQ _ _  (k1.1 c2) (l1.1 c2)), (fun c2 => cj_89 (fun z24 s23 k4 l4 => ⟨(fun c5 => ⟨(k4.1 c5).1, cj_78 (fun r27 s26 k7 l7 => ⟨k7.1, ⟨(fun c9 => cj_90 (fun z30 s29 k10 l10 => ⟨(fun c11 => ⟨(k10.1 c11).1, ⟨(fun c13 => cj_115_p80 hQ ((k10.1 c11).2.1 c13) (((l10.1 c11) (k10.1 c11).1).1 c13)), (fun c13 => cj_115_p80 hQ ((k10.1 c11).2.2 c13) (((l10.1 c11) (k10.1 c11).1).2 c13))⟩⟩), (fun c11 => hQ _ _  (k10.2 c11) (l10.2 c11))⟩) (k7.2.1 c9) ((l7 k7.1).1 c9)), (fun c9 => hQ _ _  (k7.2.2 c9) ((l7 k7.1).2 c9))⟩⟩) (k4.1 c5).2 ((l4.1 c5) (k4.1 c5).1)⟩), (fun c5 => hQ _ _  (k4.2 c5) (l4.2 c5))⟩) (k1.2 c2) (l1.2 c2))⟩) h1 h2
def fw_288 (a1 : Int) (a2 : Int) (Q : Int → lf_Z → Prop) (s : lf_Z) : Prop := fw_254 a1 (fun z22 s21 => ((z22 = false → (Q (-1) s21)) ∧ (z22 = true → (fw_251 a2 (fun z24 s23 => ((z24 = false → (Q (-1) s23)) ∧ (z24 = true → (fw_252 a2 (fun z26 s25 => ((z26 = true → (Q (-1) s25)) ∧ (z26 = false → (fw_255 a1 (fun r28 s27 => (fw_187 a2 r28 (fun r30 s29 => (lf_R r30 → ((0 ≤ r30 → (fw_242 a1 (fun r33 s32 => (fw_255 a1 (fun r35 s34 => (fw_256 a1 (fun r37 s36 => (fw_273 r33 r35 r37 a2 (fun r39 s38 => (Q r39 s38)) s36)) s34)) s32)) s29)) ∧ (¬ (0 ≤ r30) → (Q (-1) s29))))) s27)) s25)))) s23)))) s21)))) s
theorem cj_288 {Q1 Q2 Q3 : Int → lf_Z → Prop} {a1 : Int} {a2 : Int} {s : lf_Z} (hQ : ∀ (r : Int) (s : lf_Z), Q1 r s → Q2 r s → Q3 r s) (h1 : fm_288 a1 a2 Q1 s) (h2 : fw_288 a1 a2 Q2 s) : fm_288 a1 a2 Q3 s := by
  unfold fm_288 at h1 ⊢
  unfold fw_288 at h2
  exact cj_254 (fun z22 s21 k1 l1 => ⟨(fun c2 => hQ _ _  (k1.1 c2) (l1.1 c2)), (fun c2 => cj_251 (fun z24 s23 k4 l4 => ⟨(fun c5 => hQ _ _  (k4.1 c5) (l4.1 c5)), (fun c5 => cj_252 (fun z26 s25 k7 l7 => ⟨(fun c8 => hQ _ _  (k7.1 c8) (l7.1 c8)), (fun c8 => cj_255 (fun r28 s27 k10 l10 => cj_187 (fun r30 s29 k11 l11 => ⟨k11.1, ⟨(fun c13 => cj_242 (fun r33 s32 k14 l14 => cj_255 (fun r35 s34 k15 l15 => cj_256 (fun r37 s36 k16 l16 => cj_273 (fun r39 s38 k17 l17 => hQ _ _  k17 l17) k16 l16) k15 l15) k14 l14) (k11.2.1 c13) ((l11 k11.1).1 c13)), (fun c13 => hQ _ _  (k11.2.2 c13) ((l11 k11.1).2 c13))⟩⟩) k10 l10) (k7.2 c8) (l7.2 c8))⟩) (k4.2 c5) (l4.2 c5))⟩) (k1.2 c2) (l1.2 c2))⟩) h1 h2
def fw_165_p31 (X6 : Int → Int → Int → lf_Z → Prop) (Q : Int → lf_Z → Prop) (x1 : Int) (x2 : Int) (x3 : Int) (s : lf_Z) : Prop := X6 x1 x2 (x3 + 1) s
theorem cj_165_p31 {X61 X62 X63 : Int → Int → Int → lf_Z → Prop} {Q1 Q2 Q3 : Int → lf_Z → Prop} {x1 : Int} {x2 : Int} {x3 : Int} {s : lf_Z} (hX6 : ∀ (v0 : Int) (v1 : Int) (v2 : Int) (v3 : lf_Z), X61 v0 v1 v2 v3 → X62 v0 v1 v2 v3 → X63 v0 v1 v2 v3) (hQ : ∀ (r : Int) (s : lf_Z), Q1 r s → Q2 r s → Q3 r s) (h1 : fm_165_p31 X61 Q1 x1 x2 x3 s) (h2 : fw_165_p31 X62 Q2 x1 x2 x3 s) : fm_165_p31 X63 Q3 x1 x2 x3 s := by
  unfold fm_165_p31 at h1 ⊢
  unfold fw_165_p31 at h2
  exact hX6 _ _ _ _  h1 h2
def fw_165_p6 (Q : Int → lf_Z → Prop) (X6 : Int → Int → Int → lf_Z → Prop) (x1 : Int) (x2 : Int) (x3 : Int) (s : lf_Z) : Prop := lf_R x3 → ((16 ≤ x3 → (Q x1 s)) ∧ (¬ (16 ≤ x3) → ((0 ≤ x3 ∧ x3 < 16) → (lf_R (s.1 28 x3) → (lf_R x2 → ((s.1 28 x3 ≤ x2 → (fw_165_p31 X6 Q x1 x2 x3 s)) ∧ (¬ (s.1 28 x3 ≤ x2) → (fw_165_p31 X6 Q x3 (s.1 28 x3) x3 s))))))))
theorem cj_165_p6 {X61 X62 X63 : Int → Int → Int → lf_Z → Prop} {Q1 Q2 Q3 : Int → lf_Z → Prop} {x1 : Int} {x2 : Int} {x3 : Int} {s : lf_Z} (hX6 : ∀ (v0 : Int) (v1 : Int) (v2 : Int) (v3 : lf_Z), X61 v0 v1 v2 v3 → X62 v0 v1 v2 v3 → X63 v0 v1 v2 v3) (hQ : ∀ (r : Int) (s : lf_Z), Q1 r s → Q2 r s → Q3 r s) (h1 : fm_165_p6 Q1 X61 x1 x2 x3 s) (h2 : fw_165_p6 Q2 X62 x1 x2 x3 s) : fm_165_p6 Q3 X63 x1 x2 x3 s := by
  unfold fm_165_p6 at h1 ⊢
  unfold fw_165_p6 at h2
  exact ⟨h1.1, ⟨(fun c2 => hQ _ _  (h1.2.1 c2) ((h2 h1.1).1 c2)), (fun c2 => ⟨(h1.2.2 c2).1, ⟨(h1.2.2 c2).2.1, ⟨(h1.2.2 c2).2.2.1, ⟨(fun c7 => cj_165_p31 hX6 hQ ((h1.2.2 c2).2.2.2.1 c7) ((((((h2 h1.1).2 c2) (h1.2.2 c2).1) (h1.2.2 c2).2.1) (h1.2.2 c2).2.2.1).1 c7)), (fun c7 => cj_165_p31 hX6 hQ ((h1.2.2 c2).2.2.2.2 c7) ((((((h2 h1.1).2 c2) (h1.2.2 c2).1) (h1.2.2 c2).2.1) (h1.2.2 c2).2.2.1).2 c7))⟩⟩⟩⟩)⟩⟩
def fw_165_p6L (Q : Int → lf_Z → Prop) (x1 : Int) (x2 : Int) (x3 : Int) (s : lf_Z) : Prop := ∃ X6 : Int → Int → Int → lf_Z → Prop, (∀ (x1 : Int) (x2 : Int) (x3 : Int) (s : lf_Z), X6 x1 x2 x3 s → fw_165_p6 Q X6 x1 x2 x3 s) ∧ X6 x1 x2 x3 s
theorem cj_165_p6L {Q1 Q2 Q3 : Int → lf_Z → Prop} {x1 : Int} {x2 : Int} {x3 : Int} {s : lf_Z} (hQ : ∀ (r : Int) (s : lf_Z), Q1 r s → Q2 r s → Q3 r s) (h1 : fm_165_p6L Q1 x1 x2 x3 s) (h2 : fw_165_p6L Q2 x1 x2 x3 s) : fm_165_p6L Q3 x1 x2 x3 s := by
  intro X0 hX0
  obtain ⟨Y, hY, hY0⟩ := h2
  exact h1 (fun v0 v1 v2 s => Y v0 v1 v2 s → X0 v0 v1 v2 s) (fun v0 v1 v2 s hb hy => hX0 v0 v1 v2 s (cj_165_p6 (X61 := fun v0 v1 v2 s => Y v0 v1 v2 s → X0 v0 v1 v2 s) (X62 := Y) (X63 := X0) (hX6 := fun v0 v1 v2 s a b => a b) hQ hb (hY v0 v1 v2 s hy))) hY0
def fw_165 (Q : Int → lf_Z → Prop) (s : lf_Z) : Prop := fw_165_p6L Q (-1) 0 0 s
theorem cj_165 {Q1 Q2 Q3 : Int → lf_Z → Prop} {s : lf_Z} (hQ : ∀ (r : Int) (s : lf_Z), Q1 r s → Q2 r s → Q3 r s) (h1 : fm_165 Q1 s) (h2 : fw_165 Q2 s) : fm_165 Q3 s := by
  unfold fm_165 at h1 ⊢
  unfold fw_165 at h2
  exact cj_165_p6L hQ h1 h2
def fw_164 (a1 : Int) (Q : Int → lf_Z → Prop) (s : lf_Z) : Prop := lf_R a1 → ((a1 ≠ (-1) → (fw_79 a1 (fun z23 s22 => ((z23 = false → (Q (-10000) s22)) ∧ (z23 = true → ((0 ≤ a1 ∧ a1 < 16) → (Q (s22.1 28 a1) s22))))) s)) ∧ (¬ (a1 ≠ (-1)) → (fw_165 (fun r26 s25 => (Q r26 s25)) s)))
theorem cj_164 {Q1 Q2 Q3 : Int → lf_Z → Prop} {a1 : Int} {s : lf_Z} (hQ : ∀ (r : Int) (s : lf_Z), Q1 r s → Q2 r s → Q3 r s) (h1 : fm_164 a1 Q1 s) (h2 : fw_164 a1 Q2 s) : fm_164 a1 Q3 s := by
  unfold fm_164 at h1 ⊢
  unfold fw_164 at h2
  exact ⟨h1.1, ⟨(fun c2 => cj_79 (fun z23 s22 k3 l3 => ⟨(fun c4 => hQ _ _  (k3.1 c4) (l3.1 c4)), (fun c4 => ⟨(k3.2 c4).1, hQ _ _  (k3.2 c4).2 ((l3.2 c4) (k3.2 c4).1)⟩)⟩) (h1.2.1 c2) ((h2 h1.1).1 c2)), (fun c2 => cj_165 (fun r26 s25 k8 l8 => hQ _ _  k8 l8) (h1.2.2 c2) ((h2 h1.1).2 c2))⟩⟩
def fw_320 (a1 : Int) (Q : Int → lf_Z → Prop) (s : lf_Z) : Prop := (0 ≤ (174 + (5 * a1)) + 3 ∧ (174 + (5 * a1)) + 3 < 1538) → ((0 ≤ (174 + (5 * a1)) + 1 ∧ (174 + (5 * a1)) + 1 < 1538) → ((0 ≤ (174 + (5 * a1)) + 4 ∧ (174 + (5 * a1)) + 4 < 1538) → ((0 ≤ (174 + (5 * a1)) + 2 ∧ (174 + (5 * a1)) + 2 < 1538) → (Q (lf_w (((lf_w ((lf_w ((s.1 96 ((174 + (5 * a1)) + 3)) * (s.1 96 ((174 + (5 * a1)) + 1)))) * (s.1 96 ((174 + (5 * a1)) + 4)))).tdiv 10) - (s.1 96 ((174 + (5 * a1)) + 2)))) s))))
theorem cj_320 {Q1 Q2 Q3 : Int → lf_Z → Prop} {a1 : Int} {s : lf_Z} (hQ : ∀ (r : Int) (s : lf_Z), Q1 r s → Q2 r s → Q3 r s) (h1 : fm_320 a1 Q1 s) (h2 : fw_320 a1 Q2 s) : fm_320 a1 Q3 s := by
  unfold fm_320 at h1 ⊢
  unfold fw_320 at h2
  exact ⟨h1.1, ⟨h1.2.1, ⟨h1.2.2.1, ⟨h1.2.2.2.1, hQ _ _  h1.2.2.2.2 ((((h2 h1.1) h1.2.1) h1.2.2.1) h1.2.2.2.1)⟩⟩⟩⟩
def fw_319_p98 (X48 : Int → Int → Int → lf_Z → Prop) (Q : Int → lf_Z → Prop) (x2 : Int) (x3 : Int) (x4 : Int) (s : lf_Z) : Prop := X48 x2 x3 (x4 + 1) s
theorem cj_319_p98 {X481 X482 X483 : Int → Int → Int → lf_Z → Prop} {Q1 Q2 Q3 : Int → lf_Z → Prop} {x2 : Int} {x3 : Int} {x4 : Int} {s : lf_Z} (hX48 : ∀ (v0 : Int) (v1 : Int) (v2 : Int) (v3 : lf_Z), X481 v0 v1 v2 v3 → X482 v0 v1 v2 v3 → X483 v0 v1 v2 v3) (hQ : ∀ (r : Int) (s : lf_Z), Q1 r s → Q2 r s → Q3 r s) (h1 : fm_319_p98 X481 Q1 x2 x3 x4 s) (h2 : fw_319_p98 X482 Q2 x2 x3 x4 s) : fm_319_p98 X483 Q3 x2 x3 x4 s := by
  unfold fm_319_p98 at h1 ⊢
  unfold fw_319_p98 at h2
  exact hX48 _ _ _ _  h1 h2
def fw_319_p48 (Q : Int → lf_Z → Prop) (X48 : Int → Int → Int → lf_Z → Prop) (x2 : Int) (x3 : Int) (x4 : Int) (s : lf_Z) : Prop := lf_R x4 → (lf_R (s.1 96 1) → ((s.1 96 1 ≤ x4 → (Q x2 s)) ∧ (¬ (s.1 96 1 ≤ x4) → ((0 ≤ 174 + (5 * x4) ∧ 174 + (5 * x4) < 1538) → (lf_R (s.1 96 (174 + (5 * x4))) → ((s.1 96 (174 + (5 * x4)) = 0 → (fw_319_p98 X48 Q x2 x3 x4 s)) ∧ (¬ (s.1 96 (174 + (5 * x4)) = 0) → (fw_320 x4 (fun r27 s26 => (lf_R r27 → (lf_R x3 → ((x3 < r27 → (fw_320 x4 (fun r31 s30 => (fw_319_p98 X48 Q x4 r31 x4 s30)) s26)) ∧ (¬ (x3 < r27) → (fw_319_p98 X48 Q x2 x3 x4 s26)))))) s))))))))
theorem cj_319_p48 {X481 X482 X483 : Int → Int → Int → lf_Z → Prop} {Q1 Q2 Q3 : Int → lf_Z → Prop} {x2 : Int} {x3 : Int} {x4 : Int} {s : lf_Z} (hX48 : ∀ (v0 : Int) (v1 : Int) (v2 : Int) (v3 : lf_Z), X481 v0 v1 v2 v3 → X482 v0 v1 v2 v3 → X483 v0 v1 v2 v3) (hQ : ∀ (r : Int) (s : lf_Z), Q1 r s → Q2 r s → Q3 r s) (h1 : fm_319_p48 Q1 X481 x2 x3 x4 s) (h2 : fw_319_p48 Q2 X482 x2 x3 x4 s) : fm_319_p48 Q3 X483 x2 x3 x4 s := by
  unfold fm_319_p48 at h1 ⊢
  unfold fw_319_p48 at h2
  exact ⟨h1.1, ⟨h1.2.1, ⟨(fun c3 => hQ _ _  (h1.2.2.1 c3) (((h2 h1.1) h1.2.1).1 c3)), (fun c3 => ⟨(h1.2.2.2 c3).1, ⟨(h1.2.2.2 c3).2.1, ⟨(fun c7 => cj_319_p98 hX48 hQ ((h1.2.2.2 c3).2.2.1 c7) ((((((h2 h1.1) h1.2.1).2 c3) (h1.2.2.2 c3).1) (h1.2.2.2 c3).2.1).1 c7)), (fun c7 => cj_320 (fun r27 s26 k9 l9 => ⟨k9.1, ⟨k9.2.1, ⟨(fun c12 => cj_320 (fun r31 s30 k13 l13 => cj_319_p98 hX48 hQ k13 l13) (k9.2.2.1 c12) (((l9 k9.1) k9.2.1).1 c12)), (fun c12 => cj_319_p98 hX48 hQ (k9.2.2.2 c12) (((l9 k9.1) k9.2.1).2 c12))⟩⟩⟩) ((h1.2.2.2 c3).2.2.2 c7) ((((((h2 h1.1) h1.2.1).2 c3) (h1.2.2.2 c3).1) (h1.2.2.2 c3).2.1).2 c7))⟩⟩⟩)⟩⟩⟩
def fw_319_p48L (Q : Int → lf_Z → Prop) (x2 : Int) (x3 : Int) (x4 : Int) (s : lf_Z) : Prop := ∃ X48 : Int → Int → Int → lf_Z → Prop, (∀ (x2 : Int) (x3 : Int) (x4 : Int) (s : lf_Z), X48 x2 x3 x4 s → fw_319_p48 Q X48 x2 x3 x4 s) ∧ X48 x2 x3 x4 s
theorem cj_319_p48L {Q1 Q2 Q3 : Int → lf_Z → Prop} {x2 : Int} {x3 : Int} {x4 : Int} {s : lf_Z} (hQ : ∀ (r : Int) (s : lf_Z), Q1 r s → Q2 r s → Q3 r s) (h1 : fm_319_p48L Q1 x2 x3 x4 s) (h2 : fw_319_p48L Q2 x2 x3 x4 s) : fm_319_p48L Q3 x2 x3 x4 s := by
  intro X0 hX0
  obtain ⟨Y, hY, hY0⟩ := h2
  exact h1 (fun v0 v1 v2 s => Y v0 v1 v2 s → X0 v0 v1 v2 s) (fun v0 v1 v2 s hb hy => hX0 v0 v1 v2 s (cj_319_p48 (X481 := fun v0 v1 v2 s => Y v0 v1 v2 s → X0 v0 v1 v2 s) (X482 := Y) (X483 := X0) (hX48 := fun v0 v1 v2 s a b => a b) hQ hb (hY v0 v1 v2 s hy))) hY0
def fw_319 (a1 : Int) (Q : Int → lf_Z → Prop) (s : lf_Z) : Prop := lf_R a1 → ((a1 = (-1) → (fw_319_p48L Q (-1) 0 0 s)) ∧ (¬ (a1 = (-1)) → (fw_251 a1 (fun z33 s32 => ((z33 = false → (Q (-10000) s32)) ∧ (z33 = true → ((0 ≤ 174 + (5 * a1) ∧ 174 + (5 * a1) < 1538) → (lf_R (s32.1 96 (174 + (5 * a1))) → ((s32.1 96 (174 + (5 * a1)) ≠ 1 → (Q (-10000) s32)) ∧ (¬ (s32.1 96 (174 + (5 * a1)) ≠ 1) → (fw_320 a1 (fun r37 s36 => (Q r37 s36)) s32)))))))) s)))
theorem cj_319 {Q1 Q2 Q3 : Int → lf_Z → Prop} {a1 : Int} {s : lf_Z} (hQ : ∀ (r : Int) (s : lf_Z), Q1 r s → Q2 r s → Q3 r s) (h1 : fm_319 a1 Q1 s) (h2 : fw_319 a1 Q2 s) : fm_319 a1 Q3 s := by
  unfold fm_319 at h1 ⊢
  unfold fw_319 at h2
  exact ⟨h1.1, ⟨(fun c2 => cj_319_p48L hQ (h1.2.1 c2) ((h2 h1.1).1 c2)), (fun c2 => cj_251 (fun z33 s32 k4 l4 => ⟨(fun c5 => hQ _ _  (k4.1 c5) (l4.1 c5)), (fun c5 => ⟨(k4.2 c5).1, ⟨(k4.2 c5).2.1, ⟨(fun c9 => hQ _ _  ((k4.2 c5).2.2.1 c9) ((((l4.2 c5) (k4.2 c5).1) (k4.2 c5).2.1).1 c9)), (fun c9 => cj_320 (fun r37 s36 k11 l11 => hQ _ _  k11 l11) ((k4.2 c5).2.2.2 c9) ((((l4.2 c5) (k4.2 c5).1) (k4.2 c5).2.1).2 c9))⟩⟩⟩)⟩) (h1.2.2 c2) ((h2 h1.1).2 c2))⟩⟩
def fw_65c_p10 (Q : Int → lf_Z → Prop) (x3 : Int) (X10 : Int → Int → lf_Z → Prop) (x1 : Int) (x4 : Int) (s : lf_Z) : Prop := lf_R x4 → (lf_R x3 → ((x3 ≤ x4 → (Q x1 s)) ∧ (¬ (x3 ≤ x4) → ((0 ≤ x4 ∧ x4 < 4) → (X10 (lf_w (x1 + (s.1 29 x4))) (x4 + 1) s)))))
theorem cj_65c_p10 {X101 X102 X103 : Int → Int → lf_Z → Prop} {Q1 Q2 Q3 : Int → lf_Z → Prop} {x3 : Int} {x1 : Int} {x4 : Int} {s : lf_Z} (hX10 : ∀ (v0 : Int) (v1 : Int) (v2 : lf_Z), X101 v0 v1 v2 → X102 v0 v1 v2 → X103 v0 v1 v2) (hQ : ∀ (r : Int) (s : lf_Z), Q1 r s → Q2 r s → Q3 r s) (h1 : fm_65c_p10 Q1 x3 X101 x1 x4 s) (h2 : fw_65c_p10 Q2 x3 X102 x1 x4 s) : fm_65c_p10 Q3 x3 X103 x1 x4 s := by
  unfold fm_65c_p10 at h1 ⊢
  unfold fw_65c_p10 at h2
  exact ⟨h1.1, ⟨h1.2.1, ⟨(fun c3 => hQ _ _  (h1.2.2.1 c3) (((h2 h1.1) h1.2.1).1 c3)), (fun c3 => ⟨(h1.2.2.2 c3).1, hX10 _ _ _  (h1.2.2.2 c3).2 ((((h2 h1.1) h1.2.1).2 c3) (h1.2.2.2 c3).1)⟩)⟩⟩⟩
def fw_65c_p10L (Q : Int → lf_Z → Prop) (x1 : Int) (x3 : Int) (x4 : Int) (s : lf_Z) : Prop := ∃ X10 : Int → Int → lf_Z → Prop, (∀ (x1 : Int) (x4 : Int) (s : lf_Z), X10 x1 x4 s → fw_65c_p10 Q x3 X10 x1 x4 s) ∧ X10 x1 x4 s
theorem cj_65c_p10L {Q1 Q2 Q3 : Int → lf_Z → Prop} {x1 : Int} {x3 : Int} {x4 : Int} {s : lf_Z} (hQ : ∀ (r : Int) (s : lf_Z), Q1 r s → Q2 r s → Q3 r s) (h1 : fm_65c_p10L Q1 x1 x3 x4 s) (h2 : fw_65c_p10L Q2 x1 x3 x4 s) : fm_65c_p10L Q3 x1 x3 x4 s := by
  intro X0 hX0
  obtain ⟨Y, hY, hY0⟩ := h2
  exact h1 (fun v0 v1 s => Y v0 v1 s → X0 v0 v1 s) (fun v0 v1 s hb hy => hX0 v0 v1 s (cj_65c_p10 (X101 := fun v0 v1 s => Y v0 v1 s → X0 v0 v1 s) (X102 := Y) (X103 := X0) (hX10 := fun v0 v1 s a b => a b) hQ hb (hY v0 v1 s hy))) hY0
def fw_65c (Q : Int → lf_Z → Prop) (s : lf_Z) : Prop := fw_65c_p10L Q 0 4 0 s
theorem cj_65c {Q1 Q2 Q3 : Int → lf_Z → Prop} {s : lf_Z} (hQ : ∀ (r : Int) (s : lf_Z), Q1 r s → Q2 r s → Q3 r s) (h1 : fm_65c Q1 s) (h2 : fw_65c Q2 s) : fm_65c Q3 s := by
  unfold fm_65c at h1 ⊢
  unfold fw_65c at h2
  exact cj_65c_p10L hQ h1 h2
def fw_168 (Q : Int → lf_Z → Prop) (s : lf_Z) : Prop := fw_65c (fun r22 s21 => (Q r22 s21)) s
theorem cj_168 {Q1 Q2 Q3 : Int → lf_Z → Prop} {s : lf_Z} (hQ : ∀ (r : Int) (s : lf_Z), Q1 r s → Q2 r s → Q3 r s) (h1 : fm_168 Q1 s) (h2 : fw_168 Q2 s) : fm_168 Q3 s := by
  unfold fm_168 at h1 ⊢
  unfold fw_168 at h2
  exact cj_65c (fun r22 s21 k1 l1 => hQ _ _  k1 l1) h1 h2
def fw_179 (a1 : Int) (Q : Int → lf_Z → Prop) (s : lf_Z) : Prop := lf_R a1 → ((a1 < 0 ∨ 12 < a1 → (Q (-2) s)) ∧ (a1 = 0 → (Q (s.1 1 0) s)) ∧ (a1 = 1 → (Q (s.1 1 1) s)) ∧ (a1 = 2 → (Q (s.1 1 2) s)) ∧ (a1 = 3 → (Q (s.1 15 7) s)) ∧ (a1 = 4 → (fw_64 (fun r23 s22 => (Q r23 s22)) s)) ∧ (a1 = 5 → (fw_97 (fun r25 s24 => (Q r25 s24)) s)) ∧ (a1 = 6 → (Q (s.1 15 8) s)) ∧ (a1 = 7 → (Q (s.1 0 11) s)) ∧ (a1 = 8 → (Q (s.1 0 12) s)) ∧ (a1 = 9 → (Q (s.1 22 3) s)) ∧ (a1 = 10 → (Q (s.1 25 2) s)) ∧ (a1 = 11 → (fw_168 (fun r27 s26 => (Q r27 s26)) s)) ∧ (a1 = 12 → (Q (s.1 31 1) s)))
theorem cj_179 {Q1 Q2 Q3 : Int → lf_Z → Prop} {a1 : Int} {s : lf_Z} (hQ : ∀ (r : Int) (s : lf_Z), Q1 r s → Q2 r s → Q3 r s) (h1 : fm_179 a1 Q1 s) (h2 : fw_179 a1 Q2 s) : fm_179 a1 Q3 s := by
  unfold fm_179 at h1 ⊢
  unfold fw_179 at h2
  exact ⟨h1.1, ⟨(fun c2 => hQ _ _  (h1.2.1 c2) ((h2 h1.1).1 c2)), (fun c2 => hQ _ _  (h1.2.2.1 c2) ((h2 h1.1).2.1 c2)), (fun c2 => hQ _ _  (h1.2.2.2.1 c2) ((h2 h1.1).2.2.1 c2)), (fun c2 => hQ _ _  (h1.2.2.2.2.1 c2) ((h2 h1.1).2.2.2.1 c2)), (fun c2 => hQ _ _  (h1.2.2.2.2.2.1 c2) ((h2 h1.1).2.2.2.2.1 c2)), (fun c2 => cj_64 (fun r23 s22 k8 l8 => hQ _ _  k8 l8) (h1.2.2.2.2.2.2.1 c2) ((h2 h1.1).2.2.2.2.2.1 c2)), (fun c2 => cj_97 (fun r25 s24 k10 l10 => hQ _ _  k10 l10) (h1.2.2.2.2.2.2.2.1 c2) ((h2 h1.1).2.2.2.2.2.2.1 c2)), (fun c2 => hQ _ _  (h1.2.2.2.2.2.2.2.2.1 c2) ((h2 h1.1).2.2.2.2.2.2.2.1 c2)), (fun c2 => hQ _ _  (h1.2.2.2.2.2.2.2.2.2.1 c2) ((h2 h1.1).2.2.2.2.2.2.2.2.1 c2)), (fun c2 => hQ _ _  (h1.2.2.2.2.2.2.2.2.2.2.1 c2) ((h2 h1.1).2.2.2.2.2.2.2.2.2.1 c2)), (fun c2 => hQ _ _  (h1.2.2.2.2.2.2.2.2.2.2.2.1 c2) ((h2 h1.1).2.2.2.2.2.2.2.2.2.2.1 c2)), (fun c2 => hQ _ _  (h1.2.2.2.2.2.2.2.2.2.2.2.2.1 c2) ((h2 h1.1).2.2.2.2.2.2.2.2.2.2.2.1 c2)), (fun c2 => cj_168 (fun r27 s26 k17 l17 => hQ _ _  k17 l17) (h1.2.2.2.2.2.2.2.2.2.2.2.2.2.1 c2) ((h2 h1.1).2.2.2.2.2.2.2.2.2.2.2.2.1 c2)), (fun c2 => hQ _ _  (h1.2.2.2.2.2.2.2.2.2.2.2.2.2.2 c2) ((h2 h1.1).2.2.2.2.2.2.2.2.2.2.2.2.2 c2))⟩⟩
def fw_327 (a1 : Int) (Q : Int → lf_Z → Prop) (s : lf_Z) : Prop := lf_R a1 → ((a1 ≠ 4 → ((a1 ≠ 5 → (fw_183 a1 0 11 (fun z23 s22 => ((z23 = false → ((a1 ≠ 12 → (Q (-2) s22)) ∧ (¬ (a1 ≠ 12) → (Q (s22.1 95 4) s22)))) ∧ (z23 = true → ((0 ≤ a1 ∧ a1 < 1538) → (Q (s22.1 96 a1) s22))))) s)) ∧ (¬ (a1 ≠ 5) → (fw_279 (fun r26 s25 => (Q r26 s25)) s)))) ∧ (¬ (a1 ≠ 4) → (fw_243 (fun r28 s27 => (Q r28 s27)) s)))
theorem cj_327 {Q1 Q2 Q3 : Int → lf_Z → Prop} {a1 : Int} {s : lf_Z} (hQ : ∀ (r : Int) (s : lf_Z), Q1 r s → Q2 r s → Q3 r s) (h1 : fm_327 a1 Q1 s) (h2 : fw_327 a1 Q2 s) : fm_327 a1 Q3 s := by
  unfold fm_327 at h1 ⊢
  unfold fw_327 at h2
  exact ⟨h1.1, ⟨(fun c2 => ⟨(fun c3 => cj_183 (fun z23 s22 k4 l4 => ⟨(fun c5 => ⟨(fun c6 => hQ _ _  ((k4.1 c5).1 c6) ((l4.1 c5).1 c6)), (fun c6 => hQ _ _  ((k4.1 c5).2 c6) ((l4.1 c5).2 c6))⟩), (fun c5 => ⟨(k4.2 c5).1, hQ _ _  (k4.2 c5).2 ((l4.2 c5) (k4.2 c5).1)⟩)⟩) ((h1.2.1 c2).1 c3) (((h2 h1.1).1 c2).1 c3)), (fun c3 => cj_279 (fun r26 s25 k11 l11 => hQ _ _  k11 l11) ((h1.2.1 c2).2 c3) (((h2 h1.1).1 c2).2 c3))⟩), (fun c2 => cj_243 (fun r28 s27 k13 l13 => hQ _ _  k13 l13) (h1.2.2 c2) ((h2 h1.1).2 c2))⟩⟩
/-! what is asked, its answer as a function of what both hold: ofPerson, ofStretch, ofWay, saved, about -/
section QU
variable {J K : Nat → Int → Int} {s t u : lf_Z} {f g A B sv : Int → Int} {H : List rr_H} {X : mn_X} {I I' : Nat → Int → Int} {P P' : Nat → Option Nat} {a b c d r j n w : Int} {p : Int → Prop} {z : Bool}
theorem qu_to {Q : Int → lf_Z → Prop} {v : Int} (h : Q r s) (e : r = v) : Q v s := e ▸ h
/-! ofPerson -/
def qu_111 (A : Int → Int) (a b : Int) : Int := if (0 ≤ a ∧ a < A 2) ∧ 0 ≤ b ∧ b ≤ 4 then A (126 + 6 * a + b) else -2
theorem gq_111 {Q : Int → lf_Z → Prop} (h1 : gx_1 s.1) (h : Q (qu_111 (s.1 96) a b) s) : fw_111 a b Q s := by
  obtain ⟨f, H, hF, hC, hR⟩ := h1
  have e2 : s.1 96 2 = s.1 1 2 := hR.1.2.2.1
  have w2 := hF.1.1.2.2.1
  unfold fw_111
  refine fl_99 ⟨fun q _ => ?_, fun q => ?_⟩
  · have q := bd_t q
    have ok : ∀ c : Int, 0 ≤ c → c ≤ 4 → b = c → qu_111 (s.1 96) a b = s.1 96 (126 + 6 * a + c) := fun c c0 c1 e => by
      unfold qu_111
      rw [if_pos ⟨⟨q.1, by omega⟩, by omega, by omega⟩, e]
    obtain ⟨l7, l8, l9, l10⟩ := hR.1.2.2.2.2.2 a q.1 q.2
    obtain ⟨s3, s4⟩ := hR.2.1.2.2.2.1 a q.1 q.2
    obtain ⟨c3, c4⟩ := hC.1.2.1 a q.1 (by omega)
    obtain ⟨b8, b9⟩ := hF.1.2.1.2 a
    refine ⟨fun y => qu_to h ?_, fun y _ => qu_to h ((ok 0 (by decide) (by decide) y).trans l7), fun y _ _ => ⟨fun y2 => qu_to h ?_, fun y2 => qu_to h ?_⟩, fun y _ _ => ⟨fun y2 => qu_to h ?_, fun y2 => qu_to h ?_⟩, fun y _ => qu_to h ?_, fun y _ => qu_to h ?_⟩
    · unfold qu_111; rw [if_neg (by omega)]
    · rw [ok 1 (by decide) (by decide) y, l8]; exact y2
    · rw [ok 1 (by decide) (by decide) y, l8]; omega
    · rw [ok 2 (by decide) (by decide) y, l9]; exact y2
    · rw [ok 2 (by decide) (by decide) y, l9]; omega
    · rw [ok 3 (by decide) (by decide) y, s3, c3]
    · rw [ok 4 (by decide) (by decide) y, s4, c4]
  · have q := bd_f q
    refine qu_to h ?_
    unfold qu_111
    rw [if_neg (fun y => q ⟨y.1.1, by have := y.1.2; omega⟩)]
theorem gq_285 {Q : Int → lf_Z → Prop} (h : Q (qu_111 (s.1 96) a b) s) : fw_285 a b Q s := by
  unfold fw_285 fw_249
  refine fl_183 ⟨fun q => ?_, fun q => fl_183 ⟨fun q2 => ?_, fun q2 => ?_⟩⟩
  · have q := bd_f q
    refine qu_to h ?_
    unfold qu_111
    rw [if_neg (fun y => q ⟨y.1.1, by have := y.1.2; omega⟩)]
  · have q2 := bd_f q2
    refine qu_to h ?_
    unfold qu_111
    rw [if_neg (fun y => q2 y.2)]
  · have q := bd_t q
    have q2 := bd_t q2
    unfold fw_239c
    intro _
    refine qu_to h ?_
    unfold qu_111
    rw [if_pos ⟨⟨q.1, by omega⟩, q2⟩]
/-! ofStretch -/
/-- the first k ways at a stretch as bits -/
def mn_bs (J : Nat → Int → Int) (a : Int) : Nat → Int
  | 0 => 0
  | k + 1 => if mn_at J a k = true then lf_or (mn_bs J a k) (lf_shl 1 (k : Int)) else mn_bs J a k
theorem mn_bsE : ∀ (n w : Nat), w ≤ n → (∀ v : Nat, w ≤ v → v < n → mn_at J a v = false) → mn_bs J a n = mn_bs J a w := by
  intro n
  induction n with
  | zero => intro w h _; rw [show w = 0 by omega]
  | succ n ih =>
    intro w h hv
    by_cases y : w = n + 1
    · rw [y]
    · show (if mn_at J a n = true then lf_or (mn_bs J a n) (lf_shl 1 (n : Int)) else mn_bs J a n) = mn_bs J a w
      rw [hv n (by omega) (by omega), if_neg (by decide)]
      exact ih w (by omega) (fun v v0 v1 => hv v v0 (by omega))
theorem dm_cnW {P : Nat → Bool} : ∀ (n w : Nat), w ≤ n → dm_cn P w ≤ dm_cn P n := by
  intro n
  induction n with
  | zero => intro w h; rw [show w = 0 by omega]; exact Nat.le_refl _
  | succ n ih =>
    intro w h
    by_cases y : w = n + 1
    · rw [y]; exact Nat.le_refl _
    · refine Nat.le_trans (ih w (by omega)) ?_
      show dm_cn P n ≤ dm_cn P (n + 1)
      have : dm_cn P (n + 1) = dm_cn P n + (if P n = true then 1 else 0) := rfl
      rw [this]; omega
theorem dm_cnT {P : Nat → Bool} {w : Nat} (h : P w = true) : dm_cn P (w + 1) = dm_cn P w + 1 := by
  have : dm_cn P (w + 1) = dm_cn P w + (if P w = true then 1 else 0) := rfl
  rw [this, if_pos h]
/-- no way between: the bits are the same -/
theorem mn_bsC {w v : Nat} (h : dm_cn (mn_at J a) w = dm_cn (mn_at J a) v) : mn_bs J a w = mn_bs J a v := by
  have key : ∀ {x y : Nat}, x ≤ y → dm_cn (mn_at J a) x = dm_cn (mn_at J a) y → mn_bs J a y = mn_bs J a x := fun {x y} hxy e => by
    refine mn_bsE y x hxy (fun v v0 v1 => ?_)
    cases q : mn_at J a v with
    | false => rfl
    | true =>
      have m1 := dm_cnW (P := mn_at J a) v x v0
      have m2 := dm_cnT q
      have m3 := dm_cnW (P := mn_at J a) y (v + 1) (by omega)
      omega
  by_cases y : w ≤ v
  · exact (key y h).symm
  · exact key (by omega) h.symm
def qu_112 (I : Nat → Int → Int) (a b : Int) : Int := if (0 ≤ a ∧ a < I 1 0) ∧ 0 ≤ b ∧ b ≤ 3 then (if b = 3 then mn_bs I a (I 1 1).toNat else I 96 (14 + 3 * a + b)) else -1
theorem gq_113 {Q : Int → lf_Z → Prop} (hW : mn_W s.1) (ha : 0 ≤ a ∧ a < s.1 1 0) (h : Q (mn_bs s.1 a (s.1 1 1).toNat) s) : fw_113 a Q s := by
  obtain ⟨d1, d2, d3⟩ := hW.2.2.2.2.1 a ha.1 (by have := hW.1; omega)
  unfold fw_113
  refine ⟨fun x i t => t = s ∧ ∃ k : Nat, i = k ∧ k ≤ dm_cn (mn_at s.1 a) (s.1 1 1).toNat ∧ ∀ w : Nat, dm_cn (mn_at s.1 a) w = k → x = mn_bs s.1 a w, ?_, ⟨rfl, 0, rfl, Nat.zero_le _, fun w hw => ?_⟩⟩
  · intro x i t ⟨ht, k, hi, hk, hx⟩
    subst ht hi
    unfold fw_113_p4
    refine fl_76 ?_
    rw [if_pos ha]
    intro _ _
    refine ⟨fun q => qu_to h ?_, fun q => ?_⟩
    · exact (hx _ (by omega)).symm
    · refine fl_77 ha (by omega) (by omega) ?_
      obtain ⟨v, v1, v2, v3⟩ := dm_cnS (P := mn_at t.1 a) (t.1 1 1).toNat k (by omega)
      have e := d3 v (by omega) v2
      rw [v3] at e
      rw [e]
      refine ⟨rfl, k + 1, by omega, by omega, fun w hw => ?_⟩
      rw [hx v v3]
      have c := mn_bsC (J := t.1) (a := a) (w := w) (v := v + 1) (by rw [hw, dm_cnT v2, v3])
      rw [c]
      show _ = (if mn_at t.1 a v = true then lf_or (mn_bs t.1 a v) (lf_shl 1 (v : Int)) else mn_bs t.1 a v)
      rw [if_pos v2]
  · have := mn_bsC (J := s.1) (a := a) (w := w) (v := 0) (by rw [hw]; rfl)
    rw [this]; rfl
theorem gq_112 {Q : Int → lf_Z → Prop} (h1 : gx_1 s.1) (h : Q (qu_112 s.1 a b) s) : fw_112 a b Q s := by
  obtain ⟨f, H, hF, hC, hR⟩ := h1
  have w0 := hF.1.1.1
  unfold fw_112
  refine fl_18 ⟨fun q _ => ?_, fun q => ?_⟩
  · have q := bd_t q
    have ok : ∀ c : Int, 0 ≤ c → c ≤ 2 → b = c → qu_112 s.1 a b = s.1 96 (14 + 3 * a + c) := fun c c0 c1 e => by
      unfold qu_112
      rw [if_pos ⟨q, by omega, by omega⟩, if_neg (by omega), e]
    obtain ⟨l2, l3⟩ := hR.1.2.2.2.1 a q.1 q.2
    have s5 := hR.2.1.2.2.2.2.1 a q.1 (by omega)
    have c5 := hC.1.2.2.1 a q.1 (by omega)
    refine ⟨fun y => qu_to h ?_, fun y _ => qu_to h ?_, fun y _ => qu_to h ?_, fun y _ => qu_to h ?_, fun y => gq_113 hF.1.1 q (qu_to h ?_)⟩
    · unfold qu_112; rw [if_neg (by omega)]
    · rw [ok 0 (by decide) (by decide) y, Int.add_zero, l2]
    · rw [ok 1 (by decide) (by decide) y, l3]
    · rw [ok 2 (by decide) (by decide) y, s5, c5]
    · unfold qu_112
      rw [if_pos ⟨q, by omega, by omega⟩, if_pos y]
  · have q := bd_f q
    refine qu_to h ?_
    unfold qu_112
    rw [if_neg (fun y => q y.1)]
theorem lf_or0 {u v : Int} : lf_or (lf_or u v) 0 = lf_or u v := by
  have e : ∀ x : Int32, x ||| Int32.ofInt 0 = x := fun x => by
    apply Int32.toBitVec_inj.mp
    rw [Int32.toBitVec_or]
    first | exact BitVec.or_zero | simp
  unfold lf_or
  rw [Int32.ofInt_toInt, e]
theorem mn_bs0 : ∀ k : Nat, lf_or (mn_bs J a k) 0 = mn_bs J a k := by
  intro k
  induction k with
  | zero => show lf_or 0 0 = 0; decide
  | succ k ih =>
    show lf_or (if mn_at J a k = true then lf_or (mn_bs J a k) (lf_shl 1 (k : Int)) else mn_bs J a k) 0 = (if mn_at J a k = true then lf_or (mn_bs J a k) (lf_shl 1 (k : Int)) else mn_bs J a k)
    split
    · exact lf_or0
    · exact ih
theorem gq_186 {Q : Int → lf_Z → Prop} (hL : rr_L J (s.1 96)) (hW : mn_W J) (ha : 0 ≤ a) (h : Q (mn_bs J a (J 1 1).toNat) s) : fw_186 a Q s := by
  have e1 : s.1 96 1 = J 1 1 := hL.2.1
  have w1 := hW.2.1
  unfold fw_186
  refine ⟨fun x i u => u = s ∧ ∃ k : Nat, i = k ∧ (k : Int) ≤ J 1 1 ∧ x = mn_bs J a k, ?_, ⟨rfl, 0, rfl, by omega, rfl⟩⟩
  intro x i u ⟨eu, k, ei, hk, ex⟩
  subst eu ei ex
  unfold fw_186_p4
  rw [e1]
  intro _ _
  refine ⟨fun d => by rw [show (J 1 1).toNat = k by omega] at h; exact h, fun d => fl_187 hL (by omega) (by omega) ?_⟩
  have q4 := hW.2.2.2.1 k (by omega) (by omega)
  have atI : mn_at J a k = true ↔ 0 ≤ mn_ac J k a := by
    rw [mn_atE]
    unfold mn_ac
    (repeat' split) <;> omega
  intro _
  refine ⟨fun e => ?_, fun e => ?_⟩
  · unfold fw_186_p31
    have hf : ¬ mn_at J a k = true := fun q => by have := atI.mp q; omega
    exact ⟨rfl, k + 1, by omega, by omega, (mn_bs0 (J := J) (a := a) k).trans (if_neg hf).symm⟩
  · unfold fw_186_p31
    exact ⟨rfl, k + 1, by omega, by omega, (if_pos (atI.mpr (by omega))).symm⟩
theorem gq_286 {Q : Int → lf_Z → Prop} (h1 : gx_1 s.1) (h : Q (qu_112 s.1 a b) s) : fw_286 a b Q s := by
  obtain ⟨f, H, hF, hC, hR⟩ := h1
  have e0 : s.1 96 0 = s.1 1 0 := hR.1.1
  unfold fw_286 fw_185
  refine fl_183 ⟨fun q => ?_, fun q => fl_183 ⟨fun q2 => ?_, fun q2 => ?_⟩⟩
  · have q := bd_f q
    refine qu_to h ?_
    unfold qu_112
    rw [if_neg (fun y => q ⟨y.1.1, by have := y.1.2; omega⟩)]
  · have q := bd_t q
    have q2 := bd_t q2
    intro _
    refine ⟨fun y _ => qu_to h ?_, fun y => gq_186 hR.1 hF.1.1 q.1 (qu_to h ?_)⟩
    · unfold qu_112
      rw [if_pos ⟨⟨q.1, by omega⟩, q2⟩, if_neg y]
    · unfold qu_112
      rw [if_pos ⟨⟨q.1, by omega⟩, q2⟩, if_pos (Classical.not_not.mp y)]
  · have q2 := bd_f q2
    refine qu_to h ?_
    unfold qu_112
    rw [if_neg (fun y => q2 y.2)]
/-! ofWay -/
def qu_114 (A : Int → Int) (a b : Int) : Int := if (0 ≤ a ∧ a < A 1) ∧ 0 ≤ b ∧ b ≤ 3 then A (50 + 4 * a + b) else -1
theorem gq_114 {Q : Int → lf_Z → Prop} (h1 : gx_1 s.1) (h : Q (qu_114 (s.1 96) a b) s) : fw_114 a b Q s := by
  obtain ⟨f, H, hF, hC, hR⟩ := h1
  have e1 : s.1 96 1 = s.1 1 1 := hR.1.2.1
  have w1 := hF.1.1.2.1
  unfold fw_114
  refine fl_79 ⟨fun q _ => ?_, fun q => ?_⟩
  · have q := bd_t q
    have ok : ∀ c : Int, 0 ≤ c → c ≤ 3 → b = c → qu_114 (s.1 96) a b = s.1 96 (50 + 4 * a + c) := fun c c0 c1 e => by
      unfold qu_114
      rw [if_pos ⟨⟨q.1, by omega⟩, by omega, by omega⟩, e]
    obtain ⟨l4, l5, l6⟩ := hR.1.2.2.2.2.1 a q.1 q.2
    have s6 := hR.2.1.2.2.2.2.2 a q.1 q.2
    have c6 := hC.1.2.2.2.1
    have b6 := hF.1.2.1.1 a
    refine ⟨fun y => qu_to h ?_, fun y _ => qu_to h ?_, fun y _ => qu_to h ?_, fun y _ _ => ⟨fun y2 => qu_to h ?_, fun y2 => qu_to h ?_⟩, fun y => fl_90 q.1 (by omega) ⟨fun y2 => qu_to h ?_, fun y2 => qu_to h ?_⟩⟩
    · unfold qu_114; rw [if_neg (by omega)]
    · rw [ok 0 (by decide) (by decide) y, Int.add_zero, l4]
    · rw [ok 1 (by decide) (by decide) y, l5]
    · rw [ok 2 (by decide) (by decide) y, l6]; exact y2
    · rw [ok 2 (by decide) (by decide) y, l6]; omega
    · rw [ok 3 (by decide) (by decide) y, s6, ← c6]
      unfold rr_op
      rw [if_pos (by cases q9 : bt_t (s.1 15 6) a with
        | true => rfl
        | false => rw [q9] at y2; cases y2)]
    · rw [ok 3 (by decide) (by decide) y, s6, ← c6]
      unfold rr_op
      rw [if_neg (by cases q9 : bt_t (s.1 15 6) a with
        | true => rw [q9] at y2; cases y2
        | false => decide)]
  · have q := bd_f q
    refine qu_to h ?_
    unfold qu_114
    rw [if_neg (fun y => q ⟨y.1.1, by have := y.1.2; omega⟩)]
theorem gq_287 {Q : Int → lf_Z → Prop} (h : Q (qu_114 (s.1 96) a b) s) : fw_287 a b Q s := by
  unfold fw_287 fw_251
  refine fl_183 ⟨fun q => ?_, fun q => fl_183 ⟨fun q2 => ?_, fun q2 _ => ?_⟩⟩
  · have q := bd_f q
    refine qu_to h ?_
    unfold qu_114
    rw [if_neg (fun y => q ⟨y.1.1, by have := y.1.2; omega⟩)]
  · have q2 := bd_f q2
    refine qu_to h ?_
    unfold qu_114
    rw [if_neg (fun y => q2 y.2)]
  · have q := bd_t q
    have q2 := bd_t q2
    refine qu_to h ?_
    unfold qu_114
    rw [if_pos ⟨⟨q.1, by omega⟩, q2⟩]
/-! saved -/
/-- the best way among the first k, and how much it saves -/
def sv_b (sv : Int → Int) : Nat → Int × Int
  | 0 => (-1, 0)
  | k + 1 => if (sv_b sv k).2 < sv (k : Int) then ((k : Int), sv (k : Int)) else sv_b sv k
theorem sv_p : ∀ k : Nat, 0 ≤ (sv_b sv k).2 := by
  intro k
  induction k with
  | zero => exact Int.le_refl 0
  | succ k ih =>
    show 0 ≤ (if (sv_b sv k).2 < sv (k : Int) then ((k : Int), sv (k : Int)) else sv_b sv k).2
    split
    · show 0 ≤ sv (k : Int); omega
    · exact ih
theorem sv_e : ∀ (n k : Nat), k ≤ n → (∀ w : Int, k ≤ w → w < n → sv w ≤ 0) → sv_b sv n = sv_b sv k := by
  intro n
  induction n with
  | zero => intro k h _; rw [show k = 0 by omega]
  | succ n ih =>
    intro k h hv
    by_cases y : k = n + 1
    · rw [y]
    · show (if (sv_b sv n).2 < sv (n : Int) then ((n : Int), sv (n : Int)) else sv_b sv n) = _
      have := sv_p (sv := sv) n
      rw [if_neg (by have := hv n (by omega) (by omega); omega)]
      exact ih k (by omega) (fun w w0 w1 => hv w w0 (by omega))
def qu_164 (I : Nat → Int → Int) (a : Int) : Int := if a = -1 then (sv_b (I 28) 16).1 else if 0 ≤ a ∧ a < I 1 1 then I 28 a else -10000
theorem gq_164 {Q : Int → lf_Z → Prop} (h : Q (qu_164 s.1 a) s) : fw_164 a Q s := by
  unfold fw_164
  intro _
  refine ⟨fun ne => fl_79 ⟨fun q => qu_to h ?_, fun q _ => qu_to h ?_⟩, fun y => ?_⟩
  · unfold qu_164; rw [if_neg ne, if_neg (bd_f q)]
  · unfold qu_164; rw [if_neg ne, if_pos (bd_t q)]
  · have e : qu_164 s.1 a = (sv_b (s.1 28) 16).1 := if_pos (Classical.not_not.mp y)
    rw [e] at h
    unfold fw_165
    refine ⟨fun x1 x2 x3 t => t = s ∧ ∃ k : Nat, x3 = k ∧ k ≤ 16 ∧ x1 = (sv_b (s.1 28) k).1 ∧ x2 = (sv_b (s.1 28) k).2, ?_, ⟨rfl, 0, rfl, by decide, rfl, rfl⟩⟩
    intro x1 x2 x3 t ⟨ht, k, e3, hk, e1, e2⟩
    subst ht e3 e1 e2
    unfold fw_165_p6
    intro _
    refine ⟨fun q => ?_, fun q _ _ _ => ⟨fun q2 => ?_, fun q2 => ?_⟩⟩
    · rw [show k = 16 by omega]; exact h
    · unfold fw_165_p31
      have e : sv_b (t.1 28) (k + 1) = sv_b (t.1 28) k := if_neg (by omega)
      exact ⟨rfl, k + 1, by omega, by omega, by rw [e], by rw [e]⟩
    · unfold fw_165_p31
      have e : sv_b (t.1 28) (k + 1) = ((k : Int), t.1 28 (k : Int)) := if_pos (by omega)
      exact ⟨rfl, k + 1, by omega, by omega, by rw [e], by rw [e]⟩
theorem gq_320 {Q : Int → lf_Z → Prop} (h : gr_1 sv (s.1 96) a) (h0 : s.1 96 (174 + 5 * a) ≠ 0) (k : Q (sv a) s) : fw_320 a Q s := by
  rcases h with ⟨h, _⟩ | ⟨_, b1, b2, b3, b4, e⟩
  · exact absurd h h0
  · unfold fw_320
    intro _ _ _ _
    have g := mg_w (n := s.1 96 (174 + 5 * a + 4)) b1 b2 b3 b4
    rw [g]
    unfold mg_v
    rw [← e]
    exact k
theorem gq_319 {Q : Int → lf_Z → Prop} (h1 : gx_1 s.1) (h : Q (qu_164 s.1 a) s) : fw_319 a Q s := by
  obtain ⟨f, H, hF, hC, hR⟩ := h1
  have e1 : s.1 96 1 = s.1 1 1 := hR.1.2.1
  have w1 := hF.1.1.2.1
  obtain ⟨m1, m2⟩ := hR.2.2.2
  unfold fw_319
  intro _
  refine ⟨fun y => ?_, fun ne => ?_⟩
  · have e : qu_164 s.1 a = (sv_b (s.1 28) 16).1 := if_pos y
    rw [e, sv_e 16 (s.1 1 1).toNat (by omega) (fun w w0 w1 => by have := m2 w (by omega) (by omega); omega)] at h
    refine ⟨fun x2 x3 x4 t => t = s ∧ ∃ k : Nat, x4 = k ∧ (k : Int) ≤ s.1 1 1 ∧ x2 = (sv_b (s.1 28) k).1 ∧ x3 = (sv_b (s.1 28) k).2, ?_, ⟨rfl, 0, rfl, by omega, rfl, rfl⟩⟩
    intro x2 x3 x4 t ⟨ht, k, e4, hk, e2, e3⟩
    subst ht e4 e2 e3
    have p0 := sv_p (sv := t.1 28) k
    unfold fw_319_p48
    intro _
    rw [e1]
    intro _
    refine ⟨fun q => ?_, fun q _ _ => ⟨fun q2 => ?_, fun q2 => ?_⟩⟩
    · rw [show (t.1 1 1).toNat = k by omega] at h; exact h
    · unfold fw_319_p98
      have sk : t.1 28 (k : Int) = -10000 := by
        rcases m1 k (by omega) (by omega) with ⟨_, e⟩ | ⟨e, _⟩
        · exact e
        · omega
      have e : sv_b (t.1 28) (k + 1) = sv_b (t.1 28) k := if_neg (by omega)
      exact ⟨rfl, k + 1, by omega, by omega, by rw [e], by rw [e]⟩
    · have g1 := m1 k (by omega) (by omega)
      refine gq_320 g1 q2 ?_
      intro _ _
      refine ⟨fun q3 => gq_320 g1 q2 ?_, fun q3 => ?_⟩
      · unfold fw_319_p98
        have e : sv_b (t.1 28) (k + 1) = ((k : Int), t.1 28 (k : Int)) := if_pos (by omega)
        exact ⟨rfl, k + 1, by omega, by omega, by rw [e], by rw [e]⟩
      · unfold fw_319_p98
        have e : sv_b (t.1 28) (k + 1) = sv_b (t.1 28) k := if_neg (by omega)
        exact ⟨rfl, k + 1, by omega, by omega, by rw [e], by rw [e]⟩
  · unfold fw_251
    refine fl_183 ⟨fun q => qu_to h ?_, fun q _ _ => ?_⟩
    · have q := bd_f q
      unfold qu_164
      rw [if_neg ne, if_neg (fun y => q ⟨y.1, by have := y.2; omega⟩)]
    · have q := bd_t q
      have g1 := m1 a q.1 (by omega)
      have e : qu_164 s.1 a = s.1 28 a := by
        unfold qu_164
        rw [if_neg ne, if_pos ⟨q.1, by omega⟩]
      refine ⟨fun q2 => qu_to h ?_, fun q2 => gq_320 g1 (by omega) (qu_to h e)⟩
      rw [e]
      rcases g1 with ⟨_, e⟩ | ⟨e, _⟩
      · exact e
      · exact absurd e q2
/-! about -/
theorem mi_alC {f g : Int → Int} : ∀ k : Nat, (∀ i : Int, 0 ≤ i → i < k → f (24 + i) = g (24 + i)) → mi_al f k = mi_al g k := by
  intro k
  induction k with
  | zero => intro _; rfl
  | succ k ih =>
    intro h
    show lf_w (mi_al f k + f (24 + (k : Int))) = lf_w (mi_al g k + g (24 + (k : Int)))
    rw [ih (fun i i0 i1 => h i i0 (by omega)), h k (by omega) (by omega)]
def qu_179 (I : Nat → Int → Int) (a : Int) : Int := if a = 4 then I 96 114 + I 96 117 + I 96 120 + I 96 123 else if a = 5 then mi_al (fun j => I 21 (j - 24)) 12 else if 0 ≤ a ∧ a ≤ 11 then I 96 a else if a = 12 then I 95 4 else -2
theorem gq_4 (hR : gr_T sv J f H A) : sg_n f 4 = A 114 + A 117 + A 120 + A 123 := by
  have q := hR.2.1.2.2.1
  have q0 := (q 0 (by decide) (by decide)).1
  have q1 := (q 1 (by decide) (by decide)).1
  have q2 := (q 2 (by decide) (by decide)).1
  have q3 := (q 3 (by decide) (by decide)).1
  rw [sg_n4, show A 114 = f 0 from q0, show A 117 = f 3 from q1, show A 120 = f 6 from q2, show A 123 = f 9 from q3]
theorem gq_5 (hC : rc_S I f) : mi_al f 12 = mi_al (fun j => I 21 (j - 24)) 12 := mi_alC 12 (fun i i0 i1 => by
  show f (24 + i) = I 21 (24 + i - 24)
  rw [show 24 + i - 24 = i by omega]
  exact (hC.2.2.1 i i0 (by omega)).symm)
theorem gq_179 {Q : Int → lf_Z → Prop} (hA : gx_A s.1 s.2.2) (h : Q (qu_179 s.1 a) s) : fw_179 a Q s := by
  obtain ⟨⟨f, H, hF, hC, hR⟩, _, _, _, hT, hr, h7, _⟩ := hA
  obtain ⟨t1, t2, t3, t4, _⟩ := hT
  have e : ∀ c : Int, 0 ≤ c → c ≤ 11 → c ≠ 4 → c ≠ 5 → a = c → qu_179 s.1 a = s.1 96 c := fun c c0 c1 c4 c5 y => by
    unfold qu_179
    rw [if_neg (by omega), if_neg (by omega), if_pos (by omega), y]
  unfold fw_179
  intro _
  refine ⟨fun y => qu_to h ?_, fun y => qu_to h ?_, fun y => qu_to h ?_, fun y => qu_to h ?_, fun y => qu_to h ?_, fun y => fl_64 hC.1 hF.2.1.1 (qu_to h ?_), fun y => fl_97 hC.1 (qu_to h ?_), fun y => qu_to h ?_, fun y => qu_to h ?_, fun y => qu_to h ?_, fun y => qu_to h ?_, fun y => qu_to h ?_, fun y => ?_, fun y => qu_to h ?_⟩
  · unfold qu_179; rw [if_neg (by omega), if_neg (by omega), if_neg (by omega), if_neg (by omega)]
  · exact (e 0 (by decide) (by decide) (by decide) (by decide) y).trans hR.1.1
  · exact (e 1 (by decide) (by decide) (by decide) (by decide) y).trans hR.1.2.1
  · exact (e 2 (by decide) (by decide) (by decide) (by decide) y).trans hR.1.2.2.1
  · exact (e 3 (by decide) (by decide) (by decide) (by decide) y).trans (hR.2.1.1.trans hC.1.2.2.2.2.1.symm)
  · unfold qu_179; rw [if_pos y]; exact (gq_4 hR).symm
  · unfold qu_179; rw [if_neg (by omega), if_pos y]; exact (gq_5 hC.1).symm
  · exact (e 6 (by decide) (by decide) (by decide) (by decide) y).trans (hR.2.1.2.1.trans hC.1.2.2.2.2.2.symm)
  · exact (e 7 (by decide) (by decide) (by decide) (by decide) y).trans t3.symm
  · exact (e 8 (by decide) (by decide) (by decide) (by decide) y).trans t4.symm
  · exact (e 9 (by decide) (by decide) (by decide) (by decide) y).trans (hR.2.2.1.1.trans hC.2.1.symm)
  · exact (e 10 (by decide) (by decide) (by decide) (by decide) y).trans h7.1.1.symm
  · have e11 : qu_179 s.1 a = tr_s4 (s.1 29) := (e 11 (by decide) (by decide) (by decide) (by decide) y).trans (tr_S hr.1).symm
    rw [e11] at h
    unfold fw_168 fw_65c
    refine ⟨fun x i t => t = s ∧ ((i = 0 ∧ x = 0) ∨ (i = 0 + 1 ∧ x = lf_w (0 + s.1 29 0)) ∨ (i = 0 + 1 + 1 ∧ x = lf_w (lf_w (0 + s.1 29 0) + s.1 29 (0 + 1))) ∨ (i = 0 + 1 + 1 + 1 ∧ x = lf_w (lf_w (lf_w (0 + s.1 29 0) + s.1 29 (0 + 1)) + s.1 29 (0 + 1 + 1))) ∨ (i = 0 + 1 + 1 + 1 + 1 ∧ x = tr_s4 (s.1 29))), ?_, ⟨rfl, Or.inl ⟨rfl, rfl⟩⟩⟩
    intro x i t ⟨ht, hx⟩
    subst ht
    unfold fw_65c_p10
    intro _ _
    refine ⟨fun q => ?_, fun q _ => ?_⟩
    · rcases hx with ⟨c, _⟩ | ⟨c, _⟩ | ⟨c, _⟩ | ⟨c, _⟩ | ⟨_, c⟩
      · exfalso; omega
      · exfalso; omega
      · exfalso; omega
      · exfalso; omega
      · rw [c]; exact h
    · rcases hx with ⟨c, c2⟩ | ⟨c, c2⟩ | ⟨c, c2⟩ | ⟨c, c2⟩ | ⟨c, _⟩
      · subst c c2; exact ⟨rfl, Or.inr (Or.inl ⟨rfl, rfl⟩)⟩
      · subst c c2; exact ⟨rfl, Or.inr (Or.inr (Or.inl ⟨rfl, rfl⟩))⟩
      · subst c c2; exact ⟨rfl, Or.inr (Or.inr (Or.inr (Or.inl ⟨rfl, rfl⟩)))⟩
      · subst c c2; exact ⟨rfl, Or.inr (Or.inr (Or.inr (Or.inr ⟨rfl, rfl⟩)))⟩
      · exfalso; omega
  · unfold qu_179; rw [if_neg (by omega), if_neg (by omega), if_neg (by omega), if_pos y]; exact t1.symm
theorem gq_327 {Q : Int → lf_Z → Prop} (hA : gx_A s.1 s.2.2) (h : Q (qu_179 s.1 a) s) : fw_327 a Q s := by
  obtain ⟨⟨f, H, hF, hC, hR⟩, _⟩ := hA
  unfold fw_327
  intro _
  refine ⟨fun y4 => ⟨fun y5 => fl_183 ⟨fun q => ⟨fun y12 => qu_to h ?_, fun y12 => qu_to h ?_⟩, fun q _ => qu_to h ?_⟩, fun y5 => ?_⟩, fun y4 => fl_243 hR.2.1 (qu_to h ?_)⟩
  · unfold qu_179; rw [if_neg y4, if_neg y5, if_neg (bd_f q), if_neg y12]
  · unfold qu_179; rw [if_neg y4, if_neg y5, if_neg (bd_f q), if_pos (Classical.not_not.mp y12)]
  · unfold qu_179; rw [if_neg y4, if_neg y5, if_pos (bd_t q)]
  · refine fl_279 hR.1 hF.1.1 hR.2.1 (qu_to h ?_)
    unfold qu_179
    rw [if_neg y4, if_pos (Classical.not_not.mp y5), mi_alE hF.1.1 hF.2.1]
    exact (gq_5 hC.1).symm
  · unfold qu_179
    rw [if_pos (Classical.not_not.mp y4)]
    exact (gq_4 hR).symm
end QU
/-! within the law -/
section QL
variable {s : lf_Z} {a1 a2 : Int} {Q : Int → lf_Z → Prop}
theorem gx_111 (hI : iv_A s.1 s.2.2) (ba1 : (-2147483648) ≤ a1 ∧ a1 ≤ 2147483647) (ba2 : (-2147483648) ≤ a2 ∧ a2 ≤ 2147483647) (hA : gx_A s.1 s.2.2) (hQ : ∀ (r : Int), r = qu_111 (s.1 96) a1 a2 → ((-2147483648) ≤ r ∧ r ≤ 2147483647) → Q r s) : fm_111 a1 a2 Q s := cj_111 (Q1 := fun r t => t = s ∧ ((-2147483648) ≤ r ∧ r ≤ 2147483647)) (Q2 := fun r t => r = qu_111 (s.1 96) a1 a2) (fun r t h1 h2 => by obtain ⟨rfl, h⟩ := h1; exact hQ r h2 h) (sm_111 hI ba1 ba2 (fun r h => ⟨rfl, h⟩)) (gq_111 hA.1 rfl)
theorem gx_285 (hI : iv_A s.1 s.2.2) (ba1 : (-2147483648) ≤ a1 ∧ a1 ≤ 2147483647) (ba2 : (-2147483648) ≤ a2 ∧ a2 ≤ 2147483647) (hA : gx_A s.1 s.2.2) (hQ : ∀ (r : Int), r = qu_111 (s.1 96) a1 a2 → ((-2147483648) ≤ r ∧ r ≤ 2147483647) → Q r s) : fm_285 a1 a2 Q s := cj_285 (Q1 := fun r t => t = s ∧ ((-2147483648) ≤ r ∧ r ≤ 2147483647)) (Q2 := fun r t => r = qu_111 (s.1 96) a1 a2) (fun r t h1 h2 => by obtain ⟨rfl, h⟩ := h1; exact hQ r h2 h) (sm_285 hI ba1 ba2 (fun r h => ⟨rfl, h⟩)) (gq_285 rfl)
theorem gx_112 (hI : iv_A s.1 s.2.2) (ba1 : (-2147483648) ≤ a1 ∧ a1 ≤ 2147483647) (ba2 : (-2147483648) ≤ a2 ∧ a2 ≤ 2147483647) (hA : gx_A s.1 s.2.2) (hQ : ∀ (r : Int), r = qu_112 s.1 a1 a2 → ((-2147483648) ≤ r ∧ r ≤ 2147483647) → Q r s) : fm_112 a1 a2 Q s := cj_112 (Q1 := fun r t => t = s ∧ ((-2147483648) ≤ r ∧ r ≤ 2147483647)) (Q2 := fun r t => r = qu_112 s.1 a1 a2) (fun r t h1 h2 => by obtain ⟨rfl, h⟩ := h1; exact hQ r h2 h) (sm_112 hI ba1 ba2 (fun r h => ⟨rfl, h⟩)) (gq_112 hA.1 rfl)
theorem gx_286 (hI : iv_A s.1 s.2.2) (ba1 : (-2147483648) ≤ a1 ∧ a1 ≤ 2147483647) (ba2 : (-2147483648) ≤ a2 ∧ a2 ≤ 2147483647) (hA : gx_A s.1 s.2.2) (hQ : ∀ (r : Int), r = qu_112 s.1 a1 a2 → ((-2147483648) ≤ r ∧ r ≤ 2147483647) → Q r s) : fm_286 a1 a2 Q s := cj_286 (Q1 := fun r t => t = s ∧ ((-2147483648) ≤ r ∧ r ≤ 2147483647)) (Q2 := fun r t => r = qu_112 s.1 a1 a2) (fun r t h1 h2 => by obtain ⟨rfl, h⟩ := h1; exact hQ r h2 h) (sm_286 hI ba1 ba2 (fun r h => ⟨rfl, h⟩)) (gq_286 hA.1 rfl)
theorem gx_114 (hI : iv_A s.1 s.2.2) (ba1 : (-2147483648) ≤ a1 ∧ a1 ≤ 2147483647) (ba2 : (-2147483648) ≤ a2 ∧ a2 ≤ 2147483647) (hA : gx_A s.1 s.2.2) (hQ : ∀ (r : Int), r = qu_114 (s.1 96) a1 a2 → ((-1) ≤ r ∧ r ≤ 11) → Q r s) : fm_114 a1 a2 Q s := cj_114 (Q1 := fun r t => t = s ∧ ((-1) ≤ r ∧ r ≤ 11)) (Q2 := fun r t => r = qu_114 (s.1 96) a1 a2) (fun r t h1 h2 => by obtain ⟨rfl, h⟩ := h1; exact hQ r h2 h) (sm_114 hI ba1 ba2 (fun r h => ⟨rfl, h⟩)) (gq_114 hA.1 rfl)
theorem gx_287 (hI : iv_A s.1 s.2.2) (ba1 : (-2147483648) ≤ a1 ∧ a1 ≤ 2147483647) (ba2 : (-2147483648) ≤ a2 ∧ a2 ≤ 2147483647) (hA : gx_A s.1 s.2.2) (hQ : ∀ (r : Int), r = qu_114 (s.1 96) a1 a2 → ((-2147483648) ≤ r ∧ r ≤ 2147483647) → Q r s) : fm_287 a1 a2 Q s := cj_287 (Q1 := fun r t => t = s ∧ ((-2147483648) ≤ r ∧ r ≤ 2147483647)) (Q2 := fun r t => r = qu_114 (s.1 96) a1 a2) (fun r t h1 h2 => by obtain ⟨rfl, h⟩ := h1; exact hQ r h2 h) (sm_287 hI ba1 ba2 (fun r h => ⟨rfl, h⟩)) (gq_287 rfl)
theorem gx_164 (hI : iv_A s.1 s.2.2) (ba1 : (-2147483648) ≤ a1 ∧ a1 ≤ 2147483647) (hA : gx_A s.1 s.2.2) (hQ : ∀ (r : Int), r = qu_164 s.1 a1 → ((-2147483648) ≤ r ∧ r ≤ 2147483647) → Q r s) : fm_164 a1 Q s := cj_164 (Q1 := fun r t => t = s ∧ ((-2147483648) ≤ r ∧ r ≤ 2147483647)) (Q2 := fun r t => r = qu_164 s.1 a1) (fun r t h1 h2 => by obtain ⟨rfl, h⟩ := h1; exact hQ r h2 h) (sm_164 hI ba1 (fun r h => ⟨rfl, h⟩)) (gq_164 rfl)
theorem gx_319 (hI : iv_A s.1 s.2.2) (ba1 : (-2147483648) ≤ a1 ∧ a1 ≤ 2147483647) (hA : gx_A s.1 s.2.2) (hQ : ∀ (r : Int), r = qu_164 s.1 a1 → ((-2147483648) ≤ r ∧ r ≤ 2147483647) → Q r s) : fm_319 a1 Q s := cj_319 (Q1 := fun r t => t = s ∧ ((-2147483648) ≤ r ∧ r ≤ 2147483647)) (Q2 := fun r t => r = qu_164 s.1 a1) (fun r t h1 h2 => by obtain ⟨rfl, h⟩ := h1; exact hQ r h2 h) (sm_319 hI ba1 (fun r h => ⟨rfl, h⟩)) (gq_319 hA.1 rfl)
theorem gx_179 (hI : iv_A s.1 s.2.2) (ba1 : (-2147483648) ≤ a1 ∧ a1 ≤ 2147483647) (hA : gx_A s.1 s.2.2) (hQ : ∀ (r : Int), r = qu_179 s.1 a1 → ((-2147483648) ≤ r ∧ r ≤ 2147483647) → Q r s) : fm_179 a1 Q s := cj_179 (Q1 := fun r t => t = s ∧ ((-2147483648) ≤ r ∧ r ≤ 2147483647)) (Q2 := fun r t => r = qu_179 s.1 a1) (fun r t h1 h2 => by obtain ⟨rfl, h⟩ := h1; exact hQ r h2 h) (sm_179 hI ba1 (fun r h => ⟨rfl, h⟩)) (gq_179 hA rfl)
theorem gx_327 (hI : iv_A s.1 s.2.2) (ba1 : (-2147483648) ≤ a1 ∧ a1 ≤ 2147483647) (hA : gx_A s.1 s.2.2) (hQ : ∀ (r : Int), r = qu_179 s.1 a1 → ((-2147483648) ≤ r ∧ r ≤ 2147483647) → Q r s) : fm_327 a1 Q s := cj_327 (Q1 := fun r t => t = s ∧ ((-2147483648) ≤ r ∧ r ≤ 2147483647)) (Q2 := fun r t => r = qu_179 s.1 a1) (fun r t h1 h2 => by obtain ⟨rfl, h⟩ := h1; exact hQ r h2 h) (sm_327 hI ba1 (fun r h => ⟨rfl, h⟩)) (gq_327 hA rfl)
end QL
/-! bunch and takes: answers that rest on the law that rules -/
section QB
variable {J K : Nat → Int → Int} {s t u : lf_Z} {f g A B sv T : Int → Int} {H : List rr_H} {X : mn_X} {I I' : Nat → Int → Int} {P P' : Nat → Option Nat} {a b c d r j n w : Int} {p : Int → Prop} {z : Bool}
/-- an answer that rests on law, land and stand; both sides hold the same afterwards -/
abbrev qb_T : Type := mn_X → (Nat → Int → Int) → (Int → Int) → Int
def gx_B (q : qb_T) (r : Int) (I : Nat → Int → Int) (P : Nat → Option Nat) : Prop := (∃ (X : mn_X) (J : Nat → Int → Int) (f : Int → Int) (H : List rr_H), gx_XB X ∧ xr_X X (I 98) (I 96 8) ∧ gf_T J f H ∧ gr_T (I 28) J f H (I 96) ∧ r = q X J f) ∧ gx_A I P
def qb_110 (a b : Int) : qb_T := fun X J f => if (0 ≤ a ∧ a ≤ 3) ∧ 0 ≤ b ∧ b ≤ 3 then (if b = 0 then f (3 * a) else if f (3 * a) = 0 then -1 else if b = 1 then f (3 * a + 1) else if b = 2 then f (3 * a + 2) else X.1 (mn_np J f a)) else -2
theorem gq_110 {Q : Int → lf_Z → Prop} (hF : gf_T s.1 f H) (hC : gc_T s.1 f H) (hX : gx_Xc X I s) (h : ∀ t : lf_Z, Q (qb_110 a b X s.1 f) t) : fw_110 a b Q s := by
  unfold fw_110
  refine fl_15 ⟨fun q => ?_, fun q => fl_15 ⟨fun q2 _ => ?_, fun q2 => ?_⟩⟩
  · refine qu_to (h _) ?_
    unfold qb_110
    rw [if_neg (fun y => bd_f q y.1)]
  · have q := bd_t q
    have q2 := bd_t q2
    have gI := hF.2.1.1
    have sz := gp_sz gI q.1 (show a < 4 by omega)
    obtain ⟨c0, c1, c2⟩ := hC.1.1 a q.1 (by omega)
    have e : qb_110 a b X s.1 f = (if b = 0 then f (3 * a) else if f (3 * a) = 0 then -1 else if b = 1 then f (3 * a + 1) else if b = 2 then f (3 * a + 2) else X.1 (mn_np s.1 f a)) := if_pos ⟨q, q2⟩
    refine ⟨fun y0 _ _ => ⟨fun y => ⟨fun y3 => ⟨fun y1 => qu_to (h _) ?_, fun y1 => qu_to (h _) ?_⟩, fun y3 => ?_⟩, fun y => qu_to (h _) ?_⟩, fun y0 _ => qu_to (h _) ?_⟩
    · rw [e, if_neg y0, if_neg (by rw [← c0]; exact y), if_neg y1, if_pos (by omega), c2]
    · rw [e, if_neg y0, if_neg (by rw [← c0]; exact y), if_pos (Classical.not_not.mp y1), c1]
    · have hz : 0 < f (3 * a) := by rw [c0] at y; omega
      have at_ := gp_at gI q.1 (show a < 4 by omega) hz
      refine fl_81 (J := s.1) (fun _ _ => rfl) hF.1.1 hC.1 hX.1 hX.2 q.1 (by omega) hz at_.1 at_.2.1 (np_S hF.1.1 hF.1.2.2.1 sz at_.1) (fun v t _ hv => qu_to (h t) ?_)
      rw [e, if_neg y0, if_neg (by omega), if_neg (by omega), if_neg (by omega), hv]
    · rw [e, if_neg y0, if_pos (by rw [← c0]; exact Classical.not_not.mp y)]
    · rw [e, if_pos (Classical.not_not.mp y0), c0]
  · refine qu_to (h _) ?_
    unfold qb_110
    rw [if_neg (fun y => bd_f q2 y.2)]
theorem gq_284 {Q : Int → lf_Z → Prop} (hF : gf_T J f H) (hR : gr_T sv J f H (s.1 96)) (hX : gx_Xr X T s) (h : ∀ t : lf_Z, Q (qb_110 a b X J f) t) : fw_284 a b Q s := by
  unfold fw_284
  refine fl_183 ⟨fun q => ?_, fun q => fl_183 ⟨fun q2 _ => ?_, fun q2 => ?_⟩⟩
  · refine qu_to (h _) ?_
    unfold qb_110
    rw [if_neg (fun y => bd_f q y.1)]
  · have q := bd_t q
    have q2 := bd_t q2
    have gI := hF.2.1.1
    have sz := gp_sz gI q.1 (show a < 4 by omega)
    obtain ⟨c0, c12⟩ := hR.2.1.2.2.1 a q.1 (by omega)
    have e : qb_110 a b X J f = (if b = 0 then f (3 * a) else if f (3 * a) = 0 then -1 else if b = 1 then f (3 * a + 1) else if b = 2 then f (3 * a + 2) else X.1 (mn_np J f a)) := if_pos ⟨q, q2⟩
    refine ⟨fun y0 => fl_242 ?_, fun y0 => fl_242 (qu_to (h _) ?_)⟩
    · rw [c0]
      intro _
      refine ⟨fun y => ⟨fun y1 => ⟨fun y2 => ?_, fun y2 => fl_256 (qu_to (h _) ?_)⟩, fun y1 => fl_255 (qu_to (h _) ?_)⟩, fun y => qu_to (h _) ?_⟩
      · have hz : 0 < f (3 * a) := by omega
        have at_ := gp_at gI q.1 (show a < 4 by omega) hz
        refine fl_263 hR.1 hF.1.1 hR.2.1 hX.1 hX.2 q.1 (by omega) y at_.1 at_.2 (np_S hF.1.1 hF.1.2.2.1 sz at_.1) (fun v t _ hv => qu_to (h t) ?_)
        rw [e, if_neg y0, if_neg y, if_neg y1, if_neg y2, hv]
      · rw [e, if_neg y0, if_neg y, if_neg y1, if_pos (Classical.not_not.mp y2), (c12 y).2]
      · rw [e, if_neg y0, if_neg y, if_pos (Classical.not_not.mp y1), (c12 y).1]
      · rw [e, if_neg y0, if_pos (Classical.not_not.mp y)]
    · rw [e, if_pos (Classical.not_not.mp y0), c0]
  · refine qu_to (h _) ?_
    unfold qb_110
    rw [if_neg (fun y => bd_f q2 y.2)]
def qb_115 (a w : Int) : qb_T := fun X J f => if ((0 ≤ a ∧ a ≤ 3) ∧ 0 < f (3 * a)) ∧ (0 ≤ w ∧ w < J 1 1) ∧ J 6 w = 0 ∧ 0 ≤ mn_ac J w (f (3 * a + 1)) then (if bt_t (f 36) w = true then 0 else X.2 (mn_nt J f (f (3 * a)) (f (3 * a + 1)) (f (3 * a + 2)) w)) else -1
theorem ac_B (hW : mn_W J) (w0 : 0 ≤ w) (w1 : w < J 1 1) : mn_ac J w a = -1 ∨ (0 ≤ mn_ac J w a ∧ mn_at J a w.toNat = true) := by
  have m := hW.2.2.2.1 w w0 w1
  by_cases c1 : J 4 w = a
  · refine Or.inr ⟨?_, mn_atE.mpr (Or.inl (by rw [show ((w.toNat : Nat) : Int) = w by omega]; exact c1))⟩
    have : mn_ac J w a = J 5 w := if_pos c1
    omega
  · by_cases c2 : J 5 w = a
    · refine Or.inr ⟨?_, mn_atE.mpr (Or.inr (by rw [show ((w.toNat : Nat) : Int) = w by omega]; exact c2))⟩
      have : mn_ac J w a = J 4 w := (if_neg c1).trans (if_pos c2)
      omega
    · exact Or.inl ((if_neg c1).trans (if_neg c2))
theorem gq_115 {Q : Int → lf_Z → Prop} (hF : gf_T s.1 f H) (hC : gc_T s.1 f H) (hX : gx_Xc X I s) (h : ∀ t : lf_Z, Q (qb_115 a w X s.1 f) t) : fw_115 a w Q s := by
  have no : ¬ (((0 ≤ a ∧ a ≤ 3) ∧ 0 < f (3 * a)) ∧ (0 ≤ w ∧ w < s.1 1 1) ∧ s.1 6 w = 0 ∧ 0 ≤ mn_ac s.1 w (f (3 * a + 1))) → ∀ t : lf_Z, Q (-1) t := fun y t => qu_to (h t) (if_neg y)
  unfold fw_115
  refine fl_80 ⟨fun q => no (fun y => ?_) s, fun q => fl_89 ⟨fun q2 _ => ?_, fun q2 => no (fun y => ?_) s⟩⟩
  · have c := (hC.1.1 a y.1.1.1 (by have := y.1.1.2; omega)).1
    rw [decide_eq_true y.1.1.1, decide_eq_true (show a < 4 by have := y.1.1.2; omega), decide_eq_true (show 0 < s.1 16 a by rw [c]; exact y.1.2)] at q
    cases q
  · rw [Bool.and_eq_true, decide_eq_true_eq] at q q2
    have qa := bd_t q.1
    have qw := bd_t q2.1
    obtain ⟨c0, c1, c2⟩ := hC.1.1 a qa.1 qa.2
    have hz : 0 < f (3 * a) := by have := q.2; omega
    have gI := hF.2.1.1
    have sz := gp_sz gI qa.1 qa.2
    have at_ := gp_at gI qa.1 qa.2 hz
    have w1 := hF.1.1.2.1
    rw [c1]
    refine fl_78 ?_
    rw [if_pos qw]
    intro _
    refine ⟨fun ne => fl_90 qw.1 (by omega) ⟨fun y _ => ?_, fun y => qu_to (h _) ?_⟩, fun y => no (fun y2 => ?_) s⟩
    · have ac : 0 ≤ mn_ac s.1 w (f (3 * a + 1)) := by
        rcases ac_B (a := f (3 * a + 1)) hF.1.1 qw.1 qw.2 with e | e
        · exact absurd e ne
        · exact e.1
      have e : qb_115 a w X s.1 f = X.2 (mn_nt s.1 f (f (3 * a)) (f (3 * a + 1)) (f (3 * a + 2)) w) := by
        unfold qb_115
        rw [if_pos ⟨⟨⟨qa.1, by omega⟩, hz⟩, qw, q2.2, ac⟩, if_neg]
        rw [hC.1.2.2.2.1] at y
        intro y2
        rw [y2] at y
        cases y
      have go : ∀ bk : Int, bk = (if mn_ac s.1 w (f (3 * a + 1)) = f (3 * a + 2) then 1 else 0) → fw_115_p80 Q a w bk s := fun bk hb => by
        unfold fw_115_p80
        intro _
        rw [c0, c1]
        refine fl_91 (J := s.1) (fun _ _ => rfl) hF.1.1 hF.1.2.1 hF.1.2.2.1 hC.1 hX.1 hX.2 at_.1 qw.1 qw.2 (by decide) (ng_S hF.1.1 hF.1.2.1 hF.1.2.2.1 at_.1 qw.1 qw.2 (by unfold cm_sm; omega) (by rw [hb]; unfold cm_sm; split <;> omega) (by decide) (by decide)) ac (fun v t _ hv => qu_to (h t) ?_)
        rw [e, hv, hb, mn_ngt]
      rw [c2]
      exact ⟨fun y2 => go 0 (if_neg (fun q => y2 q.symm)).symm, fun y2 => go 1 (if_pos (Classical.not_not.mp y2).symm).symm⟩
    · have ac : 0 ≤ mn_ac s.1 w (f (3 * a + 1)) := by
        rcases ac_B (a := f (3 * a + 1)) hF.1.1 qw.1 qw.2 with e | e
        · exact absurd e ne
        · exact e.1
      unfold qb_115
      rw [if_pos ⟨⟨⟨qa.1, by omega⟩, hz⟩, qw, q2.2, ac⟩, if_pos]
      rw [hC.1.2.2.2.1] at y
      cases q9 : bt_t (f 36) w with
      | true => rfl
      | false => rw [q9] at y; cases y
    · have := Classical.not_not.mp y
      have := y2.2.2.2
      omega
  · rw [decide_eq_true y.2.1.1, decide_eq_true y.2.1.2, decide_eq_true y.2.2.1] at q2
    cases q2
theorem gq_288 {Q : Int → lf_Z → Prop} (hF : gf_T J f H) (hR : gr_T sv J f H (s.1 96)) (hX : gx_Xr X T s) (h : ∀ t : lf_Z, Q (qb_115 a w X J f) t) : fw_288 a w Q s := by
  have no : ¬ (((0 ≤ a ∧ a ≤ 3) ∧ 0 < f (3 * a)) ∧ (0 ≤ w ∧ w < J 1 1) ∧ J 6 w = 0 ∧ 0 ≤ mn_ac J w (f (3 * a + 1))) → ∀ t : lf_Z, Q (-1) t := fun y t => qu_to (h t) (if_neg y)
  have e1 : s.1 96 1 = J 1 1 := hR.1.2.1
  have w1 := hF.1.1.2.1
  unfold fw_288 fw_254
  refine fl_183 ⟨fun q => ⟨fun _ => no (fun y => bd_f q y.1.1) s, (fun q' => by cases q')⟩, fun q => fl_242 ?_⟩
  have qa := bd_t q
  obtain ⟨c0, c12⟩ := hR.2.1.2.2.1 a qa.1 (by omega)
  rw [c0]
  intro _
  refine ⟨fun q2 => ⟨fun _ => no (fun y => by have := y.1.2; omega) s, (fun q' => by cases q')⟩, fun q2 => ⟨(fun q' => by cases q'), fun _ => ?_⟩⟩
  have hz : 0 < f (3 * a) := by omega
  have gI := hF.2.1.1
  have sz := gp_sz gI qa.1 (show a < 4 by omega)
  have at_ := gp_at gI qa.1 (show a < 4 by omega) hz
  obtain ⟨p1, p2⟩ := c12 (by omega)
  unfold fw_251
  refine fl_183 ⟨fun q3 => no (fun y => bd_f q3 ⟨y.2.1.1, by have := y.2.1.2; omega⟩) s, fun q3 => ?_⟩
  have qw := bd_t q3
  have qw1 : w < J 1 1 := by omega
  refine fl_252 hR.1 qw.1 qw1 ⟨fun q4 => no (fun y => by have := of_decide_eq_true q4; have := y.2.2.1; omega) s, fun q4 => fl_255 ?_⟩
  have q6 : J 6 w = 0 := by
    have := of_decide_eq_false q4
    have := hF.1.2.1.1 w
    omega
  rw [p1]
  refine fl_187 hR.1 qw.1 qw1 ?_
  intro _
  refine ⟨fun ac => fl_242 (fl_255 (fl_256 ?_)), fun ac => no (fun y => ac y.2.2.2) s⟩
  rw [c0, p1, p2]
  obtain ⟨hT, h29, h31, h30, h30'⟩ := hX.2
  have b29 : ∀ k : Int, bt_t (s.1 95 29) k = false := fun k => by rw [h29]; exact bt_t0
  have b31 : bt_t (s.1 95 31) w = false := by rw [h31]; exact bt_t0
  refine fl_273 hR.1 hF.1.1 hF.1.2.1 hF.1.2.2.1 hR.2.1 hX.1 hT at_.1 qw.1 qw1 ⟨h30, h30'⟩ ?_ (fun v t _ hv => qu_to (h t) ?_)
  · refine ng_S hF.1.1 hF.1.2.1 hF.1.2.2.1 at_.1 qw.1 qw1 (by unfold cm_sm; omega) (by unfold cm_sm; split <;> omega) (by split <;> omega) (by split <;> omega)
  · have atT : mn_at J (f (3 * a + 1)) w.toNat = true := by
      rcases ac_B (a := f (3 * a + 1)) hF.1.1 qw.1 qw1 with e | e
      · omega
      · exact e.2
    rw [b29, b29, b31, atT, if_neg (show ¬ (false = true) by decide), if_neg (show ¬ (false = true) by decide), mn_ngt] at hv
    unfold qb_115
    rw [if_pos ⟨⟨qa, hz⟩, ⟨qw.1, qw1⟩, q6, ac⟩, hv]
    by_cases y : bt_t (f 36) w = true
    · rw [if_pos y, if_pos (Or.inr (Or.inr (Or.inl y)))]
    · rw [if_neg y, if_neg]
      intro m
      rcases m with m | m | m | m
      · cases m
      · exact m q6
      · exact y m
      · cases m
end QB
/-! within the law -/
section QM
variable {s : lf_Z} {a1 a2 : Int} {Q : Int → lf_Z → Prop} {p : Int → Prop}
def gx_S110 (a1 a2 : Int) (r : Int) (I : Nat → Int → Int) (P : Nat → Option Nat) : Prop := gx_B (qb_110 a1 a2) r I P
def gx_R110 (a1 a2 : Int) (p : Int → Prop) (I : Nat → Int → Int) (P : Nat → Option Nat) : Prop := gx_MP (gx_S110 a1 a2) p I P
theorem gx_110 (hI : iv_A s.1 s.2.2) (ba1 : (-2147483648) ≤ a1 ∧ a1 ≤ 2147483647) (ba2 : (-2147483648) ≤ a2 ∧ a2 ≤ 2147483647) (hA : gx_A s.1 s.2.2) (hQ : ∀ (r : Int) (s' : lf_Z), iv_A s'.1 s'.2.2 → lf_fq [63, 64, 65, 66] 1000000 true s.1 s.2.2 s'.1 s'.2.2 → gx_S110 a1 a2 r s'.1 s'.2.2 → ((-2147483648) ≤ r ∧ r ≤ 2147483647) → Q r s') : fm_110 a1 a2 Q s := by
  have hA' := hA
  obtain ⟨⟨f, H, hF, hC, hR⟩, hD⟩ := hA'
  obtain ⟨X, hB, hX, hXr⟩ := gx_X hD.2.2.1 hD.2.2.2.1.2.2.2.1 hD.2.2.2.2.2.2.2
  refine cj_110 (Q1 := fun r s' => iv_A s'.1 s'.2.2 ∧ lf_fq [63, 64, 65, 66] 1000000 true s.1 s.2.2 s'.1 s'.2.2 ∧ ((-2147483648) ≤ r ∧ r ≤ 2147483647)) (Q2 := fun r t => r = qb_110 a1 a2 X s.1 f) (fun r s' h1 h2 => hQ r s' h1.1 h1.2.1 ⟨⟨X, s.1, f, H, hB, ?_, hF, ?_, h2⟩, gx_fq hA h1.2.1 rfl⟩ h1.2.2) (sm_110 hI ba1 ba2 (fun r s' h1 h2 h3 => ⟨h1, h2, h3⟩)) (gq_110 hF hC hX (fun _ => rfl))
  · rw [h1.2.1.1 98 rfl, h1.2.1.1 96 rfl]; exact hXr.1
  · rw [h1.2.1.1 28 rfl, h1.2.1.1 96 rfl]; exact hR
theorem gx_284 (hI : iv_A s.1 s.2.2) (ba1 : (-2147483648) ≤ a1 ∧ a1 ≤ 2147483647) (ba2 : (-2147483648) ≤ a2 ∧ a2 ≤ 2147483647) (hM : gx_R110 a1 a2 p s.1 s.2.2) (hQ : ∀ (r : Int) (s' : lf_Z), iv_A s'.1 s'.2.2 → lf_fq [104, 107] 1000000 true s.1 s.2.2 s'.1 s'.2.2 → (gx_p p r ∧ gx_A s'.1 s'.2.2) → ((-2) ≤ r ∧ r ≤ 100) → Q r s') : fm_284 a1 a2 Q s := by
  obtain ⟨r0, hp, ⟨X, J, f, H, hB, hXr, hF, hR, e⟩, hA⟩ := hM
  have h9 := hA.2.2.2.2.2.2.2.2
  exact cj_284 (Q1 := fun r s' => iv_A s'.1 s'.2.2 ∧ lf_fq [104, 107] 1000000 true s.1 s.2.2 s'.1 s'.2.2 ∧ ((-2) ≤ r ∧ r ≤ 100)) (Q2 := fun r t => r = r0) (fun r s' h1 h2 => hQ r s' h1.1 h1.2.1 ⟨h2 ▸ hp, gx_fq hA h1.2.1 rfl⟩ h1.2.2) (sm_284 hI ba1 ba2 (fun r s' h1 h2 h3 => ⟨h1, h2, h3⟩)) (gq_284 hF hR ⟨hXr, rfl, h9.1, h9.2.1, h9.2.2.1, h9.2.2.2⟩ (fun _ => e.symm))
def gx_S115 (a1 a2 : Int) (r : Int) (I : Nat → Int → Int) (P : Nat → Option Nat) : Prop := gx_B (qb_115 a1 a2) r I P
def gx_R115 (a1 a2 : Int) (p : Int → Prop) (I : Nat → Int → Int) (P : Nat → Option Nat) : Prop := gx_MP (gx_S115 a1 a2) p I P
theorem gx_115 (hI : iv_A s.1 s.2.2) (ba1 : (-2147483648) ≤ a1 ∧ a1 ≤ 2147483647) (ba2 : (-2147483648) ≤ a2 ∧ a2 ≤ 2147483647) (hA : gx_A s.1 s.2.2) (hQ : ∀ (r : Int) (s' : lf_Z), iv_A s'.1 s'.2.2 → lf_fq [63, 64, 65, 66] 1000000 true s.1 s.2.2 s'.1 s'.2.2 → gx_S115 a1 a2 r s'.1 s'.2.2 → ((-1) ≤ r ∧ r ≤ 1000000) → Q r s') : fm_115 a1 a2 Q s := by
  have hA' := hA
  obtain ⟨⟨f, H, hF, hC, hR⟩, hD⟩ := hA'
  obtain ⟨X, hB, hX, hXr⟩ := gx_X hD.2.2.1 hD.2.2.2.1.2.2.2.1 hD.2.2.2.2.2.2.2
  refine cj_115 (Q1 := fun r s' => iv_A s'.1 s'.2.2 ∧ lf_fq [63, 64, 65, 66] 1000000 true s.1 s.2.2 s'.1 s'.2.2 ∧ ((-1) ≤ r ∧ r ≤ 1000000)) (Q2 := fun r t => r = qb_115 a1 a2 X s.1 f) (fun r s' h1 h2 => hQ r s' h1.1 h1.2.1 ⟨⟨X, s.1, f, H, hB, ?_, hF, ?_, h2⟩, gx_fq hA h1.2.1 rfl⟩ h1.2.2) (sm_115 hI ba1 ba2 (fun r s' h1 h2 h3 => ⟨h1, h2, h3⟩)) (gq_115 hF hC hX (fun _ => rfl))
  · rw [h1.2.1.1 98 rfl, h1.2.1.1 96 rfl]; exact hXr.1
  · rw [h1.2.1.1 28 rfl, h1.2.1.1 96 rfl]; exact hR
theorem gx_288 (hI : iv_A s.1 s.2.2) (ba1 : (-2147483648) ≤ a1 ∧ a1 ≤ 2147483647) (ba2 : (-2147483648) ≤ a2 ∧ a2 ≤ 2147483647) (hM : gx_R115 a1 a2 p s.1 s.2.2) (hQ : ∀ (r : Int) (s' : lf_Z), iv_A s'.1 s'.2.2 → lf_fq [104, 107] 1000000 true s.1 s.2.2 s'.1 s'.2.2 → (gx_p p r ∧ gx_A s'.1 s'.2.2) → ((-1) ≤ r ∧ r ≤ 100) → Q r s') : fm_288 a1 a2 Q s := by
  obtain ⟨r0, hp, ⟨X, J, f, H, hB, hXr, hF, hR, e⟩, hA⟩ := hM
  have h9 := hA.2.2.2.2.2.2.2.2
  exact cj_288 (Q1 := fun r s' => iv_A s'.1 s'.2.2 ∧ lf_fq [104, 107] 1000000 true s.1 s.2.2 s'.1 s'.2.2 ∧ ((-1) ≤ r ∧ r ≤ 100)) (Q2 := fun r t => r = r0) (fun r s' h1 h2 => hQ r s' h1.1 h1.2.1 ⟨h2 ▸ hp, gx_fq hA h1.2.1 rfl⟩ h1.2.2) (sm_288 hI ba1 ba2 (fun r s' h1 h2 h3 => ⟨h1, h2, h3⟩)) (gq_288 hF hR ⟨hXr, rfl, h9.1, h9.2.1, h9.2.2.1, h9.2.2.2⟩ (fun _ => e.symm))
end QM
def fw_118 (a1 : Int) (a2 : Int) (Q : lf_Z → Prop) (s : lf_Z) : Prop := (0 ≤ a1 ∧ a1 < 4) → (Q (lf_up (lf_up (lf_up (lf_up (lf_fl s.1 69 256 (-1)) 68 8 ((lf_fl s.1 69 256 (-1)) 16 a1)) 68 11 a2) 68 9 0) 68 10 0, s.2.1, s.2.2))
theorem cj_118 {Q1 Q2 Q3 : lf_Z → Prop} {a1 : Int} {a2 : Int} {s : lf_Z} (hQ : ∀ (s : lf_Z), Q1 s → Q2 s → Q3 s) (h1 : fm_118 a1 a2 Q1 s) (h2 : fw_118 a1 a2 Q2 s) : fm_118 a1 a2 Q3 s := by
  unfold fm_118 at h1 ⊢
  unfold fw_118 at h2
  exact ⟨h1.1, hQ _  h1.2 (h2 h1.1)⟩
def fw_119_p6 (Q : lf_Z → Prop) (v0 : Nat) (x1 : Int) (x4 : Int) (X6 : Int → lf_Z → Prop) (x3 : Int) (s : lf_Z) : Prop := lf_R x3 → (lf_R x4 → ((x4 ≤ x3 → (Q s)) ∧ (¬ (x4 ≤ x3) → ((0 ≤ x3 ∧ x3 < 156) → (X6 (x3 + 1) (s.1, lf_up s.2.1 v0 x3 (lf_wl x1), s.2.2))))))
theorem cj_119_p6 {X61 X62 X63 : Int → lf_Z → Prop} {Q1 Q2 Q3 : lf_Z → Prop} {v0 : Nat} {x1 : Int} {x4 : Int} {x3 : Int} {s : lf_Z} (hX6 : ∀ (v0 : Int) (v1 : lf_Z), X61 v0 v1 → X62 v0 v1 → X63 v0 v1) (hQ : ∀ (s : lf_Z), Q1 s → Q2 s → Q3 s) (h1 : fm_119_p6 Q1 v0 x1 x4 X61 x3 s) (h2 : fw_119_p6 Q2 v0 x1 x4 X62 x3 s) : fm_119_p6 Q3 v0 x1 x4 X63 x3 s := by
  unfold fm_119_p6 at h1 ⊢
  unfold fw_119_p6 at h2
  exact ⟨h1.1, ⟨h1.2.1, ⟨(fun c3 => hQ _  (h1.2.2.1 c3) (((h2 h1.1) h1.2.1).1 c3)), (fun c3 => ⟨(h1.2.2.2 c3).1, hX6 _ _  (h1.2.2.2 c3).2 ((((h2 h1.1) h1.2.1).2 c3) (h1.2.2.2 c3).1)⟩)⟩⟩⟩
def fw_119_p6L (Q : lf_Z → Prop) (v0 : Nat) (x1 : Int) (x3 : Int) (x4 : Int) (s : lf_Z) : Prop := ∃ X6 : Int → lf_Z → Prop, (∀ (x3 : Int) (s : lf_Z), X6 x3 s → fw_119_p6 Q v0 x1 x4 X6 x3 s) ∧ X6 x3 s
theorem cj_119_p6L {Q1 Q2 Q3 : lf_Z → Prop} {v0 : Nat} {x1 : Int} {x3 : Int} {x4 : Int} {s : lf_Z} (hQ : ∀ (s : lf_Z), Q1 s → Q2 s → Q3 s) (h1 : fm_119_p6L Q1 v0 x1 x3 x4 s) (h2 : fw_119_p6L Q2 v0 x1 x3 x4 s) : fm_119_p6L Q3 v0 x1 x3 x4 s := by
  intro X0 hX0
  obtain ⟨Y, hY, hY0⟩ := h2
  exact h1 (fun v0 s => Y v0 s → X0 v0 s) (fun v0 s hb hy => hX0 v0 s (cj_119_p6 (X61 := fun v0 s => Y v0 s → X0 v0 s) (X62 := Y) (X63 := X0) (hX6 := fun v0 s a b => a b) hQ hb (hY v0 s hy))) hY0
def fw_119 (w0 : Nat) (a1 : Int) (Q : lf_Z → Prop) (s : lf_Z) : Prop := fw_119_p6L Q w0 a1 0 156 s
theorem cj_119 {Q1 Q2 Q3 : lf_Z → Prop} {w0 : Nat} {a1 : Int} {s : lf_Z} (hQ : ∀ (s : lf_Z), Q1 s → Q2 s → Q3 s) (h1 : fm_119 w0 a1 Q1 s) (h2 : fw_119 w0 a1 Q2 s) : fm_119 w0 a1 Q3 s := by
  unfold fm_119 at h1 ⊢
  unfold fw_119 at h2
  exact cj_119_p6L hQ h1 h2
def fw_120 (a1 : Int) (Q : Int → lf_Z → Prop) (s : lf_Z) : Prop := (0 ≤ a1 ∧ a1 < 4) → (Q ((((s.1 17 a1) * 13) + (s.1 18 a1)) + 1) s)
theorem cj_120 {Q1 Q2 Q3 : Int → lf_Z → Prop} {a1 : Int} {s : lf_Z} (hQ : ∀ (r : Int) (s : lf_Z), Q1 r s → Q2 r s → Q3 r s) (h1 : fm_120 a1 Q1 s) (h2 : fw_120 a1 Q2 s) : fm_120 a1 Q3 s := by
  unfold fm_120 at h1 ⊢
  unfold fw_120 at h2
  exact ⟨h1.1, hQ _ _  h1.2 (h2 h1.1)⟩
def fw_123_p174 (Q : Int → lf_Z → Prop) (x9 : Int) (s : lf_Z) : Prop := (0 ≤ x9 ∧ x9 < 256) → (Q (s.1 69 x9) s)
theorem cj_123_p174 {Q1 Q2 Q3 : Int → lf_Z → Prop} {x9 : Int} {s : lf_Z} (hQ : ∀ (r : Int) (s : lf_Z), Q1 r s → Q2 r s → Q3 r s) (h1 : fm_123_p174 Q1 x9 s) (h2 : fw_123_p174 Q2 x9 s) : fm_123_p174 Q3 x9 s := by
  unfold fm_123_p174 at h1 ⊢
  unfold fw_123_p174 at h2
  exact ⟨h1.1, hQ _ _  h1.2 (h2 h1.1)⟩
def fw_123_p105 (Q : Int → lf_Z → Prop) (x1 : Int) (x2 : Int) (x5 : Int) (x6 : Int) (x7 : Int) (y0 : Int) (s : lf_Z) : Prop := (0 ≤ ((((x1 * 16) + (y0 * 8)) + (x5 * 4)) + (x6 * 2)) + x7 ∧ ((((x1 * 16) + (y0 * 8)) + (x5 * 4)) + (x6 * 2)) + x7 < 256) → (lf_R (s.1 69 (((((x1 * 16) + (y0 * 8)) + (x5 * 4)) + (x6 * 2)) + x7)) → ((s.1 69 (((((x1 * 16) + (y0 * 8)) + (x5 * 4)) + (x6 * 2)) + x7) ≠ (-1) → (fw_123_p174 Q (((((x1 * 16) + (y0 * 8)) + (x5 * 4)) + (x6 * 2)) + x7) s)) ∧ (¬ (s.1 69 (((((x1 * 16) + (y0 * 8)) + (x5 * 4)) + (x6 * 2)) + x7) ≠ (-1)) → (fw_91 (s.1 68 8) x2 x1 x5 x6 (x7 * (s.1 68 11)) (fun r36 s35 => (fw_123_p174 Q (((((x1 * 16) + (y0 * 8)) + (x5 * 4)) + (x6 * 2)) + x7) (lf_up s35.1 69 (((((x1 * 16) + (y0 * 8)) + (x5 * 4)) + (x6 * 2)) + x7) r36, s35.2.1, s35.2.2))) s))))
theorem cj_123_p105 {Q1 Q2 Q3 : Int → lf_Z → Prop} {x1 : Int} {x2 : Int} {x5 : Int} {x6 : Int} {x7 : Int} {y0 : Int} {s : lf_Z} (hQ : ∀ (r : Int) (s : lf_Z), Q1 r s → Q2 r s → Q3 r s) (h1 : fm_123_p105 Q1 x1 x2 x5 x6 x7 y0 s) (h2 : fw_123_p105 Q2 x1 x2 x5 x6 x7 y0 s) : fm_123_p105 Q3 x1 x2 x5 x6 x7 y0 s := by
  unfold fm_123_p105 at h1 ⊢
  unfold fw_123_p105 at h2
  exact ⟨h1.1, ⟨h1.2.1, ⟨(fun c3 => cj_123_p174 hQ (h1.2.2.1 c3) (((h2 h1.1) h1.2.1).1 c3)), (fun c3 => cj_91 (fun r36 s35 k5 l5 => cj_123_p174 hQ k5 l5) (h1.2.2.2 c3) (((h2 h1.1) h1.2.1).2 c3))⟩⟩⟩
def fw_123_p64 (Q : Int → lf_Z → Prop) (x1 : Int) (x2 : Int) (x4 : Int) (y0 : Int) (s : lf_Z) : Prop := (0 ≤ x1 ∧ x1 < 16) → (lf_R (s.1 4 x1) → (lf_R x2 → ((s.1 4 x1 ≠ x2 → (fw_123_p105 Q x1 x2 y0 (lf_and (lf_shr (s.1 68 10) x2) 1) (lf_and (lf_shr (s.1 68 10) x4) 1) 1 s)) ∧ (¬ (s.1 4 x1 ≠ x2) → (fw_123_p105 Q x1 x2 y0 (lf_and (lf_shr (s.1 68 10) x2) 1) (lf_and (lf_shr (s.1 68 10) x4) 1) 0 s)))))
theorem cj_123_p64 {Q1 Q2 Q3 : Int → lf_Z → Prop} {x1 : Int} {x2 : Int} {x4 : Int} {y0 : Int} {s : lf_Z} (hQ : ∀ (r : Int) (s : lf_Z), Q1 r s → Q2 r s → Q3 r s) (h1 : fm_123_p64 Q1 x1 x2 x4 y0 s) (h2 : fw_123_p64 Q2 x1 x2 x4 y0 s) : fm_123_p64 Q3 x1 x2 x4 y0 s := by
  unfold fm_123_p64 at h1 ⊢
  unfold fw_123_p64 at h2
  exact ⟨h1.1, ⟨h1.2.1, ⟨h1.2.2.1, ⟨(fun c4 => cj_123_p105 hQ (h1.2.2.2.1 c4) ((((h2 h1.1) h1.2.1) h1.2.2.1).1 c4)), (fun c4 => cj_123_p105 hQ (h1.2.2.2.2 c4) ((((h2 h1.1) h1.2.1) h1.2.2.1).2 c4))⟩⟩⟩⟩
def fw_123 (a1 : Int) (a2 : Int) (a3 : Int) (Q : Int → lf_Z → Prop) (s : lf_Z) : Prop := fw_78 a1 a2 (fun r22 s21 => (lf_R r22 → ((r22 = (-1) → (Q 0 s21)) ∧ (¬ (r22 = (-1)) → (fw_89 a1 (fun z25 s24 => ((z25 = false → (Q 0 s24)) ∧ (z25 = true → (fw_90 a1 (fun z27 s26 => ((z27 = false → (Q 0 s26)) ∧ (z27 = true → ((lf_and (lf_shr (s26.1 68 9) a1) 1 ≠ 1 → (lf_R a3 → ((a3 ≠ r22 → (fw_123_p64 Q a1 a2 r22 0 s26)) ∧ (¬ (a3 ≠ r22) → (fw_123_p64 Q a1 a2 r22 1 s26))))) ∧ (¬ (lf_and (lf_shr (s26.1 68 9) a1) 1 ≠ 1) → (Q 0 s26)))))) s24)))) s21))))) s
theorem cj_123 {Q1 Q2 Q3 : Int → lf_Z → Prop} {a1 : Int} {a2 : Int} {a3 : Int} {s : lf_Z} (hQ : ∀ (r : Int) (s : lf_Z), Q1 r s → Q2 r s → Q3 r s) (h1 : fm_123 a1 a2 a3 Q1 s) (h2 : fw_123 a1 a2 a3 Q2 s) : fm_123 a1 a2 a3 Q3 s := by
  unfold fm_123 at h1 ⊢
  unfold fw_123 at h2
  exact cj_78 (fun r22 s21 k1 l1 => ⟨k1.1, ⟨(fun c3 => hQ _ _  (k1.2.1 c3) ((l1 k1.1).1 c3)), (fun c3 => cj_89 (fun z25 s24 k5 l5 => ⟨(fun c6 => hQ _ _  (k5.1 c6) (l5.1 c6)), (fun c6 => cj_90 (fun z27 s26 k8 l8 => ⟨(fun c9 => hQ _ _  (k8.1 c9) (l8.1 c9)), (fun c9 => ⟨(fun c11 => ⟨((k8.2 c9).1 c11).1, ⟨(fun c13 => cj_123_p64 hQ (((k8.2 c9).1 c11).2.1 c13) ((((l8.2 c9).1 c11) ((k8.2 c9).1 c11).1).1 c13)), (fun c13 => cj_123_p64 hQ (((k8.2 c9).1 c11).2.2 c13) ((((l8.2 c9).1 c11) ((k8.2 c9).1 c11).1).2 c13))⟩⟩), (fun c11 => hQ _ _  ((k8.2 c9).2 c11) ((l8.2 c9).2 c11))⟩)⟩) (k5.2 c6) (l5.2 c6))⟩) (k1.2.2 c3) ((l1 k1.1).2 c3))⟩⟩) h1 h2
def fw_122_p107 (X19 : Int → Int → lf_Z → Prop) (Q : lf_Z → Prop) (x1 : Int) (x2 : Int) (x3 : Int) (x5 : Int) (s : lf_Z) : Prop := X19 x3 (x5 + 1) s
theorem cj_122_p107 {X191 X192 X193 : Int → Int → lf_Z → Prop} {Q1 Q2 Q3 : lf_Z → Prop} {x1 : Int} {x2 : Int} {x3 : Int} {x5 : Int} {s : lf_Z} (hX19 : ∀ (v0 : Int) (v1 : Int) (v2 : lf_Z), X191 v0 v1 v2 → X192 v0 v1 v2 → X193 v0 v1 v2) (hQ : ∀ (s : lf_Z), Q1 s → Q2 s → Q3 s) (h1 : fm_122_p107 X191 Q1 x1 x2 x3 x5 s) (h2 : fw_122_p107 X192 Q2 x1 x2 x3 x5 s) : fm_122_p107 X193 Q3 x1 x2 x3 x5 s := by
  unfold fm_122_p107 at h1 ⊢
  unfold fw_122_p107 at h2
  exact hX19 _ _ _  h1 h2
def fw_122_p19 (Q : lf_Z → Prop) (x1 : Int) (x2 : Int) (X19 : Int → Int → lf_Z → Prop) (x3 : Int) (x5 : Int) (s : lf_Z) : Prop := fw_76 x2 (fun r25 s24 => (lf_R x5 → (lf_R r25 → ((r25 ≤ x5 → (∀ w28 : Nat, s24.2.2 1 = some w28 → (w28 = 72 ∨ w28 = 73) → ((0 ≤ x1 ∧ x1 < 156) → (Q (s24.1, lf_up s24.2.1 w28 x1 (lf_wl ((lf_wl (s24.2.1 w28 x1)) + (lf_wl x3))), s24.2.2))))) ∧ (¬ (r25 ≤ x5) → (fw_77 x2 x5 (fun r31 s30 => (lf_R x1 → (fw_123 r31 x2 ((x1.tmod 13) - 1) (fun r34 s33 => (lf_R r34 → ((r34 ≤ 0 → (fw_122_p107 X19 Q x1 x2 x3 x5 s33)) ∧ (¬ (r34 ≤ 0) → (∀ w36 : Nat, s33.2.2 1 = some w36 → (w36 = 72 ∨ w36 = 73) → (fw_78 r31 x2 (fun r38 s37 => ((0 ≤ ((r38 * 13) + x2) + 1 ∧ ((r38 * 13) + x2) + 1 < 156) → (fw_122_p107 X19 Q x1 x2 (lf_wl ((lf_wl x3) - (lf_wl ((lf_wl ((lf_wl x3).tdiv 10)) * r34)))) x5 (s37.1, lf_up s37.2.1 w36 (((r38 * 13) + x2) + 1) (lf_wl ((lf_wl (s37.2.1 w36 (((r38 * 13) + x2) + 1))) + (lf_wl ((lf_wl ((lf_wl x3).tdiv 10)) * r34)))), s37.2.2)))) s33)))))) s30))) s24)))))) s
theorem cj_122_p19 {X191 X192 X193 : Int → Int → lf_Z → Prop} {Q1 Q2 Q3 : lf_Z → Prop} {x1 : Int} {x2 : Int} {x3 : Int} {x5 : Int} {s : lf_Z} (hX19 : ∀ (v0 : Int) (v1 : Int) (v2 : lf_Z), X191 v0 v1 v2 → X192 v0 v1 v2 → X193 v0 v1 v2) (hQ : ∀ (s : lf_Z), Q1 s → Q2 s → Q3 s) (h1 : fm_122_p19 Q1 x1 x2 X191 x3 x5 s) (h2 : fw_122_p19 Q2 x1 x2 X192 x3 x5 s) : fm_122_p19 Q3 x1 x2 X193 x3 x5 s := by
  unfold fm_122_p19 at h1 ⊢
  unfold fw_122_p19 at h2
  exact cj_76 (fun r25 s24 k1 l1 => ⟨k1.1, ⟨k1.2.1, ⟨(fun c4 => ((k1.2.2.1 c4)).elim (fun w28 e5 => ⟨w28, e5.1, e5.2.1, ⟨e5.2.2.1, hQ _  e5.2.2.2 (((((l1 k1.1) k1.2.1).1 c4) w28 e5.1 e5.2.1) e5.2.2.1)⟩⟩)), (fun c4 => cj_77 (fun r31 s30 k8 l8 => ⟨k8.1, cj_123 (fun r34 s33 k10 l10 => ⟨k10.1, ⟨(fun c12 => cj_122_p107 hX19 hQ (k10.2.1 c12) ((l10 k10.1).1 c12)), (fun c12 => ((k10.2.2 c12)).elim (fun w36 e14 => ⟨w36, e14.1, e14.2.1, cj_78 (fun r38 s37 k15 l15 => ⟨k15.1, cj_122_p107 hX19 hQ k15.2 (l15 k15.1)⟩) e14.2.2 (((l10 k10.1).2 c12) w36 e14.1 e14.2.1)⟩))⟩⟩) k8.2 (l8 k8.1)⟩) (k1.2.2.2 c4) (((l1 k1.1) k1.2.1).2 c4))⟩⟩⟩) h1 h2
def fw_122_p19L (Q : lf_Z → Prop) (x1 : Int) (x2 : Int) (x3 : Int) (x5 : Int) (s : lf_Z) : Prop := ∃ X19 : Int → Int → lf_Z → Prop, (∀ (x3 : Int) (x5 : Int) (s : lf_Z), X19 x3 x5 s → fw_122_p19 Q x1 x2 X19 x3 x5 s) ∧ X19 x3 x5 s
theorem cj_122_p19L {Q1 Q2 Q3 : lf_Z → Prop} {x1 : Int} {x2 : Int} {x3 : Int} {x5 : Int} {s : lf_Z} (hQ : ∀ (s : lf_Z), Q1 s → Q2 s → Q3 s) (h1 : fm_122_p19L Q1 x1 x2 x3 x5 s) (h2 : fw_122_p19L Q2 x1 x2 x3 x5 s) : fm_122_p19L Q3 x1 x2 x3 x5 s := by
  intro X0 hX0
  obtain ⟨Y, hY, hY0⟩ := h2
  exact h1 (fun v0 v1 s => Y v0 v1 s → X0 v0 v1 s) (fun v0 v1 s hb hy => hX0 v0 v1 s (cj_122_p19 (X191 := fun v0 v1 s => Y v0 v1 s → X0 v0 v1 s) (X192 := Y) (X193 := X0) (hX19 := fun v0 v1 s a b => a b) hQ hb (hY v0 v1 s hy))) hY0
def fw_122 (a1 : Int) (Q : lf_Z → Prop) (s : lf_Z) : Prop := lf_R a1 → (∀ w22 : Nat, s.2.2 0 = some w22 → (w22 = 72 ∨ w22 = 73) → ((0 ≤ a1 ∧ a1 < 156) → (fw_122_p19L Q a1 (a1.tdiv 13) (lf_wl ((lf_wl (s.2.1 w22 a1)) * 10000)) 0 s)))
theorem cj_122 {Q1 Q2 Q3 : lf_Z → Prop} {a1 : Int} {s : lf_Z} (hQ : ∀ (s : lf_Z), Q1 s → Q2 s → Q3 s) (h1 : fm_122 a1 Q1 s) (h2 : fw_122 a1 Q2 s) : fm_122 a1 Q3 s := by
  unfold fm_122 at h1 ⊢
  unfold fw_122 at h2
  exact ⟨h1.1, (h1.2).elim (fun w22 e2 => ⟨w22, e2.1, e2.2.1, ⟨e2.2.2.1, cj_122_p19L hQ e2.2.2.2 (((h2 h1.1) w22 e2.1 e2.2.1) e2.2.2.1)⟩⟩)⟩
def fw_121_p33 (X10 : Int → lf_Z → Prop) (Q : lf_Z → Prop) (x1 : Int) (s : lf_Z) : Prop := X10 (x1 + 1) s
theorem cj_121_p33 {X101 X102 X103 : Int → lf_Z → Prop} {Q1 Q2 Q3 : lf_Z → Prop} {x1 : Int} {s : lf_Z} (hX10 : ∀ (v0 : Int) (v1 : lf_Z), X101 v0 v1 → X102 v0 v1 → X103 v0 v1) (hQ : ∀ (s : lf_Z), Q1 s → Q2 s → Q3 s) (h1 : fm_121_p33 X101 Q1 x1 s) (h2 : fw_121_p33 X102 Q2 x1 s) : fm_121_p33 X103 Q3 x1 s := by
  unfold fm_121_p33 at h1 ⊢
  unfold fw_121_p33 at h2
  exact hX10 _ _  h1 h2
def fw_121_p10 (Q : lf_Z → Prop) (X10 : Int → lf_Z → Prop) (x1 : Int) (s : lf_Z) : Prop := lf_R x1 → ((156 ≤ x1 → (∀ w24 : Nat, s.2.2 0 = some w24 → (w24 = 72 ∨ w24 = 73) → (∀ w25 : Nat, s.2.2 1 = some w25 → (w25 = 72 ∨ w25 = 73) → (Q (s.1, s.2.1, lf_ur (lf_ur s.2.2 0 (some w25)) 1 (some w24)))))) ∧ (¬ (156 ≤ x1) → (∀ w26 : Nat, s.2.2 0 = some w26 → (w26 = 72 ∨ w26 = 73) → ((0 ≤ x1 ∧ x1 < 156) → ((lf_wl (s.2.1 w26 x1) ≤ 0 → (fw_121_p33 X10 Q x1 s)) ∧ (¬ (lf_wl (s.2.1 w26 x1) ≤ 0) → (fw_122 x1 (fun s28 => (fw_121_p33 X10 Q x1 s28)) s)))))))
theorem cj_121_p10 {X101 X102 X103 : Int → lf_Z → Prop} {Q1 Q2 Q3 : lf_Z → Prop} {x1 : Int} {s : lf_Z} (hX10 : ∀ (v0 : Int) (v1 : lf_Z), X101 v0 v1 → X102 v0 v1 → X103 v0 v1) (hQ : ∀ (s : lf_Z), Q1 s → Q2 s → Q3 s) (h1 : fm_121_p10 Q1 X101 x1 s) (h2 : fw_121_p10 Q2 X102 x1 s) : fm_121_p10 Q3 X103 x1 s := by
  unfold fm_121_p10 at h1 ⊢
  unfold fw_121_p10 at h2
  exact ⟨h1.1, ⟨(fun c2 => ((h1.2.1 c2)).elim (fun w24 e3 => ⟨w24, e3.1, e3.2.1, (e3.2.2).elim (fun w25 e4 => ⟨w25, e4.1, e4.2.1, hQ _  e4.2.2 ((((h2 h1.1).1 c2) w24 e3.1 e3.2.1) w25 e4.1 e4.2.1)⟩)⟩)), (fun c2 => ((h1.2.2 c2)).elim (fun w26 e6 => ⟨w26, e6.1, e6.2.1, ⟨e6.2.2.1, ⟨(fun c8 => cj_121_p33 hX10 hQ (e6.2.2.2.1 c8) (((((h2 h1.1).2 c2) w26 e6.1 e6.2.1) e6.2.2.1).1 c8)), (fun c8 => cj_122 (fun s28 k10 l10 => cj_121_p33 hX10 hQ k10 l10) (e6.2.2.2.2 c8) (((((h2 h1.1).2 c2) w26 e6.1 e6.2.1) e6.2.2.1).2 c8))⟩⟩⟩))⟩⟩
def fw_121_p10L (Q : lf_Z → Prop) (x1 : Int) (s : lf_Z) : Prop := ∃ X10 : Int → lf_Z → Prop, (∀ (x1 : Int) (s : lf_Z), X10 x1 s → fw_121_p10 Q X10 x1 s) ∧ X10 x1 s
theorem cj_121_p10L {Q1 Q2 Q3 : lf_Z → Prop} {x1 : Int} {s : lf_Z} (hQ : ∀ (s : lf_Z), Q1 s → Q2 s → Q3 s) (h1 : fm_121_p10L Q1 x1 s) (h2 : fw_121_p10L Q2 x1 s) : fm_121_p10L Q3 x1 s := by
  intro X0 hX0
  obtain ⟨Y, hY, hY0⟩ := h2
  exact h1 (fun v0 s => Y v0 s → X0 v0 s) (fun v0 s hb hy => hX0 v0 s (cj_121_p10 (X101 := fun v0 s => Y v0 s → X0 v0 s) (X102 := Y) (X103 := X0) (hX10 := fun v0 s a b => a b) hQ hb (hY v0 s hy))) hY0
def fw_121 (Q : lf_Z → Prop) (s : lf_Z) : Prop := ∀ w21 : Nat, s.2.2 1 = some w21 → (w21 = 72 ∨ w21 = 73) → (fw_119 w21 0 (fun s22 => (fw_121_p10L Q 0 s22)) s)
theorem cj_121 {Q1 Q2 Q3 : lf_Z → Prop} {s : lf_Z} (hQ : ∀ (s : lf_Z), Q1 s → Q2 s → Q3 s) (h1 : fm_121 Q1 s) (h2 : fw_121 Q2 s) : fm_121 Q3 s := by
  unfold fm_121 at h1 ⊢
  unfold fw_121 at h2
  exact (h1).elim (fun w21 e1 => ⟨w21, e1.1, e1.2.1, cj_119 (fun s22 k2 l2 => cj_121_p10L hQ k2 l2) e1.2.2 (h2 w21 e1.1 e1.2.1)⟩)
def fw_117_p50 (Q : Int → lf_Z → Prop) (x3 : Int) (X50 : Int → Int → lf_Z → Prop) (x4 : Int) (x6 : Int) (s : lf_Z) : Prop := lf_R x6 → ((13 ≤ x6 → (Q (lf_wl x4) s)) ∧ (¬ (13 ≤ x6) → (∀ w31 : Nat, s.2.2 0 = some w31 → (w31 = 72 ∨ w31 = 73) → ((0 ≤ (x3 * 13) + x6 ∧ (x3 * 13) + x6 < 156) → (X50 (lf_wl ((lf_wl x4) + (lf_wl (s.2.1 w31 ((x3 * 13) + x6))))) (x6 + 1) s)))))
theorem cj_117_p50 {X501 X502 X503 : Int → Int → lf_Z → Prop} {Q1 Q2 Q3 : Int → lf_Z → Prop} {x3 : Int} {x4 : Int} {x6 : Int} {s : lf_Z} (hX50 : ∀ (v0 : Int) (v1 : Int) (v2 : lf_Z), X501 v0 v1 v2 → X502 v0 v1 v2 → X503 v0 v1 v2) (hQ : ∀ (r : Int) (s : lf_Z), Q1 r s → Q2 r s → Q3 r s) (h1 : fm_117_p50 Q1 x3 X501 x4 x6 s) (h2 : fw_117_p50 Q2 x3 X502 x4 x6 s) : fm_117_p50 Q3 x3 X503 x4 x6 s := by
  unfold fm_117_p50 at h1 ⊢
  unfold fw_117_p50 at h2
  exact ⟨h1.1, ⟨(fun c2 => hQ _ _  (h1.2.1 c2) ((h2 h1.1).1 c2)), (fun c2 => ((h1.2.2 c2)).elim (fun w31 e4 => ⟨w31, e4.1, e4.2.1, ⟨e4.2.2.1, hX50 _ _ _  e4.2.2.2 ((((h2 h1.1).2 c2) w31 e4.1 e4.2.1) e4.2.2.1)⟩⟩))⟩⟩
def fw_117_p50L (Q : Int → lf_Z → Prop) (x3 : Int) (x4 : Int) (x6 : Int) (s : lf_Z) : Prop := ∃ X50 : Int → Int → lf_Z → Prop, (∀ (x4 : Int) (x6 : Int) (s : lf_Z), X50 x4 x6 s → fw_117_p50 Q x3 X50 x4 x6 s) ∧ X50 x4 x6 s
theorem cj_117_p50L {Q1 Q2 Q3 : Int → lf_Z → Prop} {x3 : Int} {x4 : Int} {x6 : Int} {s : lf_Z} (hQ : ∀ (r : Int) (s : lf_Z), Q1 r s → Q2 r s → Q3 r s) (h1 : fm_117_p50L Q1 x3 x4 x6 s) (h2 : fw_117_p50L Q2 x3 x4 x6 s) : fm_117_p50L Q3 x3 x4 x6 s := by
  intro X0 hX0
  obtain ⟨Y, hY, hY0⟩ := h2
  exact h1 (fun v0 v1 s => Y v0 v1 s → X0 v0 v1 s) (fun v0 v1 s hb hy => hX0 v0 v1 s (cj_117_p50 (X501 := fun v0 v1 s => Y v0 v1 s → X0 v0 v1 s) (X502 := Y) (X503 := X0) (hX50 := fun v0 v1 s a b => a b) hQ hb (hY v0 v1 s hy))) hY0
def fw_117_p28 (Q : Int → lf_Z → Prop) (x2 : Int) (x3 : Int) (X28 : Int → lf_Z → Prop) (x4 : Int) (s : lf_Z) : Prop := lf_R x4 → (lf_R x2 → ((x2 ≤ x4 → (fw_117_p50L Q x3 0 0 s)) ∧ (¬ (x2 ≤ x4) → (fw_121 (fun s33 => (X28 (x4 + 1) s33)) s))))
theorem cj_117_p28 {X281 X282 X283 : Int → lf_Z → Prop} {Q1 Q2 Q3 : Int → lf_Z → Prop} {x2 : Int} {x3 : Int} {x4 : Int} {s : lf_Z} (hX28 : ∀ (v0 : Int) (v1 : lf_Z), X281 v0 v1 → X282 v0 v1 → X283 v0 v1) (hQ : ∀ (r : Int) (s : lf_Z), Q1 r s → Q2 r s → Q3 r s) (h1 : fm_117_p28 Q1 x2 x3 X281 x4 s) (h2 : fw_117_p28 Q2 x2 x3 X282 x4 s) : fm_117_p28 Q3 x2 x3 X283 x4 s := by
  unfold fm_117_p28 at h1 ⊢
  unfold fw_117_p28 at h2
  exact ⟨h1.1, ⟨h1.2.1, ⟨(fun c3 => cj_117_p50L hQ (h1.2.2.1 c3) (((h2 h1.1) h1.2.1).1 c3)), (fun c3 => cj_121 (fun s33 k5 l5 => hX28 _ _  k5 l5) (h1.2.2.2 c3) (((h2 h1.1) h1.2.1).2 c3))⟩⟩⟩
def fw_117_p28L (Q : Int → lf_Z → Prop) (x2 : Int) (x3 : Int) (x4 : Int) (s : lf_Z) : Prop := ∃ X28 : Int → lf_Z → Prop, (∀ (x4 : Int) (s : lf_Z), X28 x4 s → fw_117_p28 Q x2 x3 X28 x4 s) ∧ X28 x4 s
theorem cj_117_p28L {Q1 Q2 Q3 : Int → lf_Z → Prop} {x2 : Int} {x3 : Int} {x4 : Int} {s : lf_Z} (hQ : ∀ (r : Int) (s : lf_Z), Q1 r s → Q2 r s → Q3 r s) (h1 : fm_117_p28L Q1 x2 x3 x4 s) (h2 : fw_117_p28L Q2 x2 x3 x4 s) : fm_117_p28L Q3 x2 x3 x4 s := by
  intro X0 hX0
  obtain ⟨Y, hY, hY0⟩ := h2
  exact h1 (fun v0 s => Y v0 s → X0 v0 s) (fun v0 s hb hy => hX0 v0 s (cj_117_p28 (X281 := fun v0 s => Y v0 s → X0 v0 s) (X282 := Y) (X283 := X0) (hX28 := fun v0 s a b => a b) hQ hb (hY v0 s hy))) hY0
def fw_117 (a1 : Int) (a2 : Int) (a3 : Int) (Q : Int → lf_Z → Prop) (s : lf_Z) : Prop := fw_118 a1 0 (fun s21 => (∀ w22 : Nat, s21.2.2 0 = some w22 → (w22 = 72 ∨ w22 = 73) → (fw_119 w22 0 (fun s23 => (∀ w24 : Nat, s23.2.2 0 = some w24 → (w24 = 72 ∨ w24 = 73) → (fw_120 a1 (fun r26 s25 => ((0 ≤ r26 ∧ r26 < 156) → (fw_117_p28L Q a2 a3 0 (s25.1, lf_up s25.2.1 w24 r26 1, s25.2.2)))) s23))) s21))) s
theorem cj_117 {Q1 Q2 Q3 : Int → lf_Z → Prop} {a1 : Int} {a2 : Int} {a3 : Int} {s : lf_Z} (hQ : ∀ (r : Int) (s : lf_Z), Q1 r s → Q2 r s → Q3 r s) (h1 : fm_117 a1 a2 a3 Q1 s) (h2 : fw_117 a1 a2 a3 Q2 s) : fm_117 a1 a2 a3 Q3 s := by
  unfold fm_117 at h1 ⊢
  unfold fw_117 at h2
  exact cj_118 (fun s21 k1 l1 => (k1).elim (fun w22 e2 => ⟨w22, e2.1, e2.2.1, cj_119 (fun s23 k3 l3 => (k3).elim (fun w24 e4 => ⟨w24, e4.1, e4.2.1, cj_120 (fun r26 s25 k5 l5 => ⟨k5.1, cj_117_p28L hQ k5.2 (l5 k5.1)⟩) e4.2.2 (l3 w24 e4.1 e4.2.1)⟩)) e2.2.2 (l1 w22 e2.1 e2.2.1)⟩)) h1 h2
def fw_124_p5 (Q : Int → lf_Z → Prop) (x1 : Int) (X5 : Int → Int → lf_Z → Prop) (x2 : Int) (x4 : Int) (s : lf_Z) : Prop := lf_R x4 → (lf_R x1 → ((x1 ≤ x4 → (Q (lf_wl x2) s)) ∧ (¬ (x1 ≤ x4) → (X5 (lf_wl ((lf_wl x2) * 10000)) (x4 + 1) s))))
theorem cj_124_p5 {X51 X52 X53 : Int → Int → lf_Z → Prop} {Q1 Q2 Q3 : Int → lf_Z → Prop} {x1 : Int} {x2 : Int} {x4 : Int} {s : lf_Z} (hX5 : ∀ (v0 : Int) (v1 : Int) (v2 : lf_Z), X51 v0 v1 v2 → X52 v0 v1 v2 → X53 v0 v1 v2) (hQ : ∀ (r : Int) (s : lf_Z), Q1 r s → Q2 r s → Q3 r s) (h1 : fm_124_p5 Q1 x1 X51 x2 x4 s) (h2 : fw_124_p5 Q2 x1 X52 x2 x4 s) : fm_124_p5 Q3 x1 X53 x2 x4 s := by
  unfold fm_124_p5 at h1 ⊢
  unfold fw_124_p5 at h2
  exact ⟨h1.1, ⟨h1.2.1, ⟨(fun c3 => hQ _ _  (h1.2.2.1 c3) (((h2 h1.1) h1.2.1).1 c3)), (fun c3 => hX5 _ _ _  (h1.2.2.2 c3) (((h2 h1.1) h1.2.1).2 c3))⟩⟩⟩
def fw_124_p5L (Q : Int → lf_Z → Prop) (x1 : Int) (x2 : Int) (x4 : Int) (s : lf_Z) : Prop := ∃ X5 : Int → Int → lf_Z → Prop, (∀ (x2 : Int) (x4 : Int) (s : lf_Z), X5 x2 x4 s → fw_124_p5 Q x1 X5 x2 x4 s) ∧ X5 x2 x4 s
theorem cj_124_p5L {Q1 Q2 Q3 : Int → lf_Z → Prop} {x1 : Int} {x2 : Int} {x4 : Int} {s : lf_Z} (hQ : ∀ (r : Int) (s : lf_Z), Q1 r s → Q2 r s → Q3 r s) (h1 : fm_124_p5L Q1 x1 x2 x4 s) (h2 : fw_124_p5L Q2 x1 x2 x4 s) : fm_124_p5L Q3 x1 x2 x4 s := by
  intro X0 hX0
  obtain ⟨Y, hY, hY0⟩ := h2
  exact h1 (fun v0 v1 s => Y v0 v1 s → X0 v0 v1 s) (fun v0 v1 s hb hy => hX0 v0 v1 s (cj_124_p5 (X51 := fun v0 v1 s => Y v0 v1 s → X0 v0 v1 s) (X52 := Y) (X53 := X0) (hX5 := fun v0 v1 s a b => a b) hQ hb (hY v0 v1 s hy))) hY0
def fw_124 (a1 : Int) (Q : Int → lf_Z → Prop) (s : lf_Z) : Prop := fw_124_p5L Q a1 1 0 s
theorem cj_124 {Q1 Q2 Q3 : Int → lf_Z → Prop} {a1 : Int} {s : lf_Z} (hQ : ∀ (r : Int) (s : lf_Z), Q1 r s → Q2 r s → Q3 r s) (h1 : fm_124 a1 Q1 s) (h2 : fw_124 a1 Q2 s) : fm_124 a1 Q3 s := by
  unfold fm_124 at h1 ⊢
  unfold fw_124 at h2
  exact cj_124_p5L hQ h1 h2
def fw_125_p55 (Q : Int → lf_Z → Prop) (x5 : Int) (y0 : Int) (s : lf_Z) : Prop := (lf_wl x5 ≠ 0 → ((lf_wl x5) ≠ 0 → (Q (lf_wl ((lf_wl y0).tdiv (lf_wl x5))) s))) ∧ (¬ (lf_wl x5 ≠ 0) → (Q (lf_wl y0) s))
theorem cj_125_p55 {Q1 Q2 Q3 : Int → lf_Z → Prop} {x5 : Int} {y0 : Int} {s : lf_Z} (hQ : ∀ (r : Int) (s : lf_Z), Q1 r s → Q2 r s → Q3 r s) (h1 : fm_125_p55 Q1 x5 y0 s) (h2 : fw_125_p55 Q2 x5 y0 s) : fm_125_p55 Q3 x5 y0 s := by
  unfold fm_125_p55 at h1 ⊢
  unfold fw_125_p55 at h2
  exact ⟨(fun c1 => ⟨(h1.1 c1).1, hQ _ _  (h1.1 c1).2 ((h2.1 c1) (h1.1 c1).1)⟩), (fun c1 => hQ _ _  (h1.2 c1) (h2.2 c1))⟩
def fw_125_p45 (Q : Int → lf_Z → Prop) (x0 : Int) (x2 : Int) (x4 : Int) (x5 : Int) (s : lf_Z) : Prop := lf_R x4 → ((x4 = 0 → (fw_125_p55 Q x5 x0 s)) ∧ (¬ (x4 = 0) → (fw_125_p55 Q x5 x2 s)))
theorem cj_125_p45 {Q1 Q2 Q3 : Int → lf_Z → Prop} {x0 : Int} {x2 : Int} {x4 : Int} {x5 : Int} {s : lf_Z} (hQ : ∀ (r : Int) (s : lf_Z), Q1 r s → Q2 r s → Q3 r s) (h1 : fm_125_p45 Q1 x0 x2 x4 x5 s) (h2 : fw_125_p45 Q2 x0 x2 x4 x5 s) : fm_125_p45 Q3 x0 x2 x4 x5 s := by
  unfold fm_125_p45 at h1 ⊢
  unfold fw_125_p45 at h2
  exact ⟨h1.1, ⟨(fun c2 => cj_125_p55 hQ (h1.2.1 c2) ((h2 h1.1).1 c2)), (fun c2 => cj_125_p55 hQ (h1.2.2 c2) ((h2 h1.1).2 c2))⟩⟩
def fw_125_p9 (Q : Int → lf_Z → Prop) (x0 : Int) (x2 : Int) (x4 : Int) (X9 : Int → Int → Int → lf_Z → Prop) (x5 : Int) (x7 : Int) (x9 : Int) (s : lf_Z) : Prop := lf_R x9 → ((1000 ≤ x9 → (fw_125_p45 Q x0 x2 x4 x5 s)) ∧ (¬ (1000 ≤ x9) → ((lf_wl x7 = 0 → (fw_125_p45 Q x0 x2 x4 x5 s)) ∧ (¬ (lf_wl x7 = 0) → ((lf_wl x7) ≠ 0 → (X9 x7 (lf_wl ((lf_wl x5).tmod (lf_wl x7))) (x9 + 1) s))))))
theorem cj_125_p9 {X91 X92 X93 : Int → Int → Int → lf_Z → Prop} {Q1 Q2 Q3 : Int → lf_Z → Prop} {x0 : Int} {x2 : Int} {x4 : Int} {x5 : Int} {x7 : Int} {x9 : Int} {s : lf_Z} (hX9 : ∀ (v0 : Int) (v1 : Int) (v2 : Int) (v3 : lf_Z), X91 v0 v1 v2 v3 → X92 v0 v1 v2 v3 → X93 v0 v1 v2 v3) (hQ : ∀ (r : Int) (s : lf_Z), Q1 r s → Q2 r s → Q3 r s) (h1 : fm_125_p9 Q1 x0 x2 x4 X91 x5 x7 x9 s) (h2 : fw_125_p9 Q2 x0 x2 x4 X92 x5 x7 x9 s) : fm_125_p9 Q3 x0 x2 x4 X93 x5 x7 x9 s := by
  unfold fm_125_p9 at h1 ⊢
  unfold fw_125_p9 at h2
  exact ⟨h1.1, ⟨(fun c2 => cj_125_p45 hQ (h1.2.1 c2) ((h2 h1.1).1 c2)), (fun c2 => ⟨(fun c4 => cj_125_p45 hQ ((h1.2.2 c2).1 c4) (((h2 h1.1).2 c2).1 c4)), (fun c4 => ⟨((h1.2.2 c2).2 c4).1, hX9 _ _ _ _  ((h1.2.2 c2).2 c4).2 ((((h2 h1.1).2 c2).2 c4) ((h1.2.2 c2).2 c4).1)⟩)⟩)⟩⟩
def fw_125_p9L (Q : Int → lf_Z → Prop) (x0 : Int) (x2 : Int) (x4 : Int) (x5 : Int) (x7 : Int) (x9 : Int) (s : lf_Z) : Prop := ∃ X9 : Int → Int → Int → lf_Z → Prop, (∀ (x5 : Int) (x7 : Int) (x9 : Int) (s : lf_Z), X9 x5 x7 x9 s → fw_125_p9 Q x0 x2 x4 X9 x5 x7 x9 s) ∧ X9 x5 x7 x9 s
theorem cj_125_p9L {Q1 Q2 Q3 : Int → lf_Z → Prop} {x0 : Int} {x2 : Int} {x4 : Int} {x5 : Int} {x7 : Int} {x9 : Int} {s : lf_Z} (hQ : ∀ (r : Int) (s : lf_Z), Q1 r s → Q2 r s → Q3 r s) (h1 : fm_125_p9L Q1 x0 x2 x4 x5 x7 x9 s) (h2 : fw_125_p9L Q2 x0 x2 x4 x5 x7 x9 s) : fm_125_p9L Q3 x0 x2 x4 x5 x7 x9 s := by
  intro X0 hX0
  obtain ⟨Y, hY, hY0⟩ := h2
  exact h1 (fun v0 v1 v2 s => Y v0 v1 v2 s → X0 v0 v1 v2 s) (fun v0 v1 v2 s hb hy => hX0 v0 v1 v2 s (cj_125_p9 (X91 := fun v0 v1 v2 s => Y v0 v1 v2 s → X0 v0 v1 v2 s) (X92 := Y) (X93 := X0) (hX9 := fun v0 v1 v2 s a b => a b) hQ hb (hY v0 v1 v2 s hy))) hY0
def fw_125 (a0 : Int) (a1 : Int) (a2 : Int) (Q : Int → lf_Z → Prop) (s : lf_Z) : Prop := fw_125_p9L Q a0 a1 a2 a1 a0 0 s
theorem cj_125 {Q1 Q2 Q3 : Int → lf_Z → Prop} {a0 : Int} {a1 : Int} {a2 : Int} {s : lf_Z} (hQ : ∀ (r : Int) (s : lf_Z), Q1 r s → Q2 r s → Q3 r s) (h1 : fm_125 a0 a1 a2 Q1 s) (h2 : fw_125 a0 a1 a2 Q2 s) : fm_125 a0 a1 a2 Q3 s := by
  unfold fm_125 at h1 ⊢
  unfold fw_125 at h2
  exact cj_125_p9L hQ h1 h2
def fw_116_p31 (Q : Int → lf_Z → Prop) (s : lf_Z) : Prop := Q (-1) s
theorem cj_116_p31 {Q1 Q2 Q3 : Int → lf_Z → Prop} {s : lf_Z} (hQ : ∀ (r : Int) (s : lf_Z), Q1 r s → Q2 r s → Q3 r s) (h1 : fm_116_p31 Q1 s) (h2 : fw_116_p31 Q2 s) : fm_116_p31 Q3 s := by
  unfold fm_116_p31 at h1 ⊢
  unfold fw_116_p31 at h2
  exact hQ _ _  h1 h2
def fw_116 (a1 : Int) (a2 : Int) (a3 : Int) (a4 : Int) (Q : Int → lf_Z → Prop) (s : lf_Z) : Prop := fw_80 a1 (fun z22 s21 => ((z22 = false → (fw_116_p31 Q s21)) ∧ (z22 = true → (fw_15 a2 0 4 (fun z24 s23 => ((z24 = false → (fw_116_p31 Q s23)) ∧ (z24 = true → (fw_18 a3 (fun z26 s25 => ((z26 = true → (fw_117 a1 a2 a3 (fun r28 s27 => (fw_124 a2 (fun r30 s29 => (fw_125 (lf_wl r28) (lf_wl r30) a4 (fun r32 s31 => (Q (lf_wl r32) s31)) s29)) s27)) s25)) ∧ (z26 = false → (fw_116_p31 Q s25)))) s23)))) s21)))) s
theorem cj_116 {Q1 Q2 Q3 : Int → lf_Z → Prop} {a1 : Int} {a2 : Int} {a3 : Int} {a4 : Int} {s : lf_Z} (hQ : ∀ (r : Int) (s : lf_Z), Q1 r s → Q2 r s → Q3 r s) (h1 : fm_116 a1 a2 a3 a4 Q1 s) (h2 : fw_116 a1 a2 a3 a4 Q2 s) : fm_116 a1 a2 a3 a4 Q3 s := by
  unfold fm_116 at h1 ⊢
  unfold fw_116 at h2
  exact cj_80 (fun z22 s21 k1 l1 => ⟨(fun c2 => cj_116_p31 hQ (k1.1 c2) (l1.1 c2)), (fun c2 => cj_15 (fun z24 s23 k4 l4 => ⟨(fun c5 => cj_116_p31 hQ (k4.1 c5) (l4.1 c5)), (fun c5 => cj_18 (fun z26 s25 k7 l7 => ⟨(fun c8 => cj_117 (fun r28 s27 k9 l9 => cj_124 (fun r30 s29 k10 l10 => cj_125 (fun r32 s31 k11 l11 => hQ _ _  k11 l11) k10 l10) k9 l9) (k7.1 c8) (l7.1 c8)), (fun c8 => cj_116_p31 hQ (k7.2 c8) (l7.2 c8))⟩) (k4.2 c5) (l4.2 c5))⟩) (k1.2 c2) (l1.2 c2))⟩) h1 h2
def fw_292_p6 (Q : Int → lf_Z → Prop) (X6 : Int → Int → lf_Z → Prop) (x4 : Int) (x6 : Int) (s : lf_Z) : Prop := (lf_wl x6 = 0 → (Q (lf_wl x4) s)) ∧ (¬ (lf_wl x6 = 0) → ((lf_wl x6) ≠ 0 → (X6 x6 (lf_wl ((lf_wl x4).tmod (lf_wl x6))) s)))
theorem cj_292_p6 {X61 X62 X63 : Int → Int → lf_Z → Prop} {Q1 Q2 Q3 : Int → lf_Z → Prop} {x4 : Int} {x6 : Int} {s : lf_Z} (hX6 : ∀ (v0 : Int) (v1 : Int) (v2 : lf_Z), X61 v0 v1 v2 → X62 v0 v1 v2 → X63 v0 v1 v2) (hQ : ∀ (r : Int) (s : lf_Z), Q1 r s → Q2 r s → Q3 r s) (h1 : fm_292_p6 Q1 X61 x4 x6 s) (h2 : fw_292_p6 Q2 X62 x4 x6 s) : fm_292_p6 Q3 X63 x4 x6 s := by
  unfold fm_292_p6 at h1 ⊢
  unfold fw_292_p6 at h2
  exact ⟨(fun c1 => hQ _ _  (h1.1 c1) (h2.1 c1)), (fun c1 => ⟨(h1.2 c1).1, hX6 _ _ _  (h1.2 c1).2 ((h2.2 c1) (h1.2 c1).1)⟩)⟩
def fw_292_p6L (Q : Int → lf_Z → Prop) (x4 : Int) (x6 : Int) (s : lf_Z) : Prop := ∃ X6 : Int → Int → lf_Z → Prop, (∀ (x4 : Int) (x6 : Int) (s : lf_Z), X6 x4 x6 s → fw_292_p6 Q X6 x4 x6 s) ∧ X6 x4 x6 s
theorem cj_292_p6L {Q1 Q2 Q3 : Int → lf_Z → Prop} {x4 : Int} {x6 : Int} {s : lf_Z} (hQ : ∀ (r : Int) (s : lf_Z), Q1 r s → Q2 r s → Q3 r s) (h1 : fm_292_p6L Q1 x4 x6 s) (h2 : fw_292_p6L Q2 x4 x6 s) : fm_292_p6L Q3 x4 x6 s := by
  intro X0 hX0
  obtain ⟨Y, hY, hY0⟩ := h2
  exact h1 (fun v0 v1 s => Y v0 v1 s → X0 v0 v1 s) (fun v0 v1 s hb hy => hX0 v0 v1 s (cj_292_p6 (X61 := fun v0 v1 s => Y v0 v1 s → X0 v0 v1 s) (X62 := Y) (X63 := X0) (hX6 := fun v0 v1 s a b => a b) hQ hb (hY v0 v1 s hy))) hY0
def fw_292 (a0 : Int) (a1 : Int) (Q : Int → lf_Z → Prop) (s : lf_Z) : Prop := fw_292_p6L Q a0 a1 s
theorem cj_292 {Q1 Q2 Q3 : Int → lf_Z → Prop} {a0 : Int} {a1 : Int} {s : lf_Z} (hQ : ∀ (r : Int) (s : lf_Z), Q1 r s → Q2 r s → Q3 r s) (h1 : fm_292 a0 a1 Q1 s) (h2 : fw_292 a0 a1 Q2 s) : fm_292 a0 a1 Q3 s := by
  unfold fm_292 at h1 ⊢
  unfold fw_292 at h2
  exact cj_292_p6L hQ h1 h2
def fw_291_p10 (Q : Int → lf_Z → Prop) (x0 : Int) (x2 : Int) (y0 : Int) (s : lf_Z) : Prop := fw_292 (lf_wl x0) (lf_wl x2) (fun r23 s22 => ((lf_wl r23) ≠ 0 → (Q (lf_wl ((lf_wl y0).tdiv (lf_wl r23))) s22))) s
theorem cj_291_p10 {Q1 Q2 Q3 : Int → lf_Z → Prop} {x0 : Int} {x2 : Int} {y0 : Int} {s : lf_Z} (hQ : ∀ (r : Int) (s : lf_Z), Q1 r s → Q2 r s → Q3 r s) (h1 : fm_291_p10 Q1 x0 x2 y0 s) (h2 : fw_291_p10 Q2 x0 x2 y0 s) : fm_291_p10 Q3 x0 x2 y0 s := by
  unfold fm_291_p10 at h1 ⊢
  unfold fw_291_p10 at h2
  exact cj_292 (fun r23 s22 k1 l1 => ⟨k1.1, hQ _ _  k1.2 (l1 k1.1)⟩) h1 h2
def fw_291 (a0 : Int) (a1 : Int) (a2 : Int) (Q : Int → lf_Z → Prop) (s : lf_Z) : Prop := lf_R a2 → ((a2 = 0 → (fw_291_p10 Q a0 a1 a0 s)) ∧ (¬ (a2 = 0) → (fw_291_p10 Q a0 a1 a1 s)))
theorem cj_291 {Q1 Q2 Q3 : Int → lf_Z → Prop} {a0 : Int} {a1 : Int} {a2 : Int} {s : lf_Z} (hQ : ∀ (r : Int) (s : lf_Z), Q1 r s → Q2 r s → Q3 r s) (h1 : fm_291 a0 a1 a2 Q1 s) (h2 : fw_291 a0 a1 a2 Q2 s) : fm_291 a0 a1 a2 Q3 s := by
  unfold fm_291 at h1 ⊢
  unfold fw_291 at h2
  exact ⟨h1.1, ⟨(fun c2 => cj_291_p10 hQ (h1.2.1 c2) ((h2 h1.1).1 c2)), (fun c2 => cj_291_p10 hQ (h1.2.2 c2) ((h2 h1.1).2 c2))⟩⟩
def fw_290_p98 (X20 : Int → Int → lf_Z → Prop) (Q : lf_Z → Prop) (x1 : Int) (x2 : Int) (x3 : Int) (x4 : Int) (x6 : Int) (s : lf_Z) : Prop := X20 x4 (x6 + 1) s
theorem cj_290_p98 {X201 X202 X203 : Int → Int → lf_Z → Prop} {Q1 Q2 Q3 : lf_Z → Prop} {x1 : Int} {x2 : Int} {x3 : Int} {x4 : Int} {x6 : Int} {s : lf_Z} (hX20 : ∀ (v0 : Int) (v1 : Int) (v2 : lf_Z), X201 v0 v1 v2 → X202 v0 v1 v2 → X203 v0 v1 v2) (hQ : ∀ (s : lf_Z), Q1 s → Q2 s → Q3 s) (h1 : fm_290_p98 X201 Q1 x1 x2 x3 x4 x6 s) (h2 : fw_290_p98 X202 Q2 x1 x2 x3 x4 x6 s) : fm_290_p98 X203 Q3 x1 x2 x3 x4 x6 s := by
  unfold fm_290_p98 at h1 ⊢
  unfold fw_290_p98 at h2
  exact hX20 _ _ _  h1 h2
def fw_290_p20 (Q : lf_Z → Prop) (x1 : Int) (x2 : Int) (x3 : Int) (X20 : Int → Int → lf_Z → Prop) (x4 : Int) (x6 : Int) (s : lf_Z) : Prop := lf_R x6 → (lf_R (s.1 96 1) → ((s.1 96 1 ≤ x6 → ((0 ≤ x2 ∧ x2 < 156) → (Q (s.1, lf_up s.2.1 110 x2 (lf_wl ((lf_wl (s.2.1 110 x2)) + (lf_wl x4))), s.2.2)))) ∧ (¬ (s.1 96 1 ≤ x6) → (lf_R x2 → (fw_273 x1 x3 ((x2.tmod 13) - 1) x6 (fun r28 s27 => (lf_R r28 → ((r28 ≠ 0 → (fw_187 x6 x3 (fun r31 s30 => ((0 ≤ ((13 * r31) + x3) + 1 ∧ ((13 * r31) + x3) + 1 < 156) → (fw_290_p98 X20 Q x1 x2 x3 (lf_wl ((lf_wl x4) - (lf_wl ((lf_wl ((lf_wl x4).tdiv 10)) * r28)))) x6 (s30.1, lf_up s30.2.1 110 (((13 * r31) + x3) + 1) (lf_wl ((lf_wl (s30.2.1 110 (((13 * r31) + x3) + 1))) + (lf_wl ((lf_wl ((lf_wl x4).tdiv 10)) * r28)))), s30.2.2)))) s27)) ∧ (¬ (r28 ≠ 0) → (fw_290_p98 X20 Q x1 x2 x3 x4 x6 s27))))) s)))))
theorem cj_290_p20 {X201 X202 X203 : Int → Int → lf_Z → Prop} {Q1 Q2 Q3 : lf_Z → Prop} {x1 : Int} {x2 : Int} {x3 : Int} {x4 : Int} {x6 : Int} {s : lf_Z} (hX20 : ∀ (v0 : Int) (v1 : Int) (v2 : lf_Z), X201 v0 v1 v2 → X202 v0 v1 v2 → X203 v0 v1 v2) (hQ : ∀ (s : lf_Z), Q1 s → Q2 s → Q3 s) (h1 : fm_290_p20 Q1 x1 x2 x3 X201 x4 x6 s) (h2 : fw_290_p20 Q2 x1 x2 x3 X202 x4 x6 s) : fm_290_p20 Q3 x1 x2 x3 X203 x4 x6 s := by
  unfold fm_290_p20 at h1 ⊢
  unfold fw_290_p20 at h2
  exact ⟨h1.1, ⟨h1.2.1, ⟨(fun c3 => ⟨(h1.2.2.1 c3).1, hQ _  (h1.2.2.1 c3).2 ((((h2 h1.1) h1.2.1).1 c3) (h1.2.2.1 c3).1)⟩), (fun c3 => ⟨(h1.2.2.2 c3).1, cj_273 (fun r28 s27 k7 l7 => ⟨k7.1, ⟨(fun c9 => cj_187 (fun r31 s30 k10 l10 => ⟨k10.1, cj_290_p98 hX20 hQ k10.2 (l10 k10.1)⟩) (k7.2.1 c9) ((l7 k7.1).1 c9)), (fun c9 => cj_290_p98 hX20 hQ (k7.2.2 c9) ((l7 k7.1).2 c9))⟩⟩) (h1.2.2.2 c3).2 ((((h2 h1.1) h1.2.1).2 c3) (h1.2.2.2 c3).1)⟩)⟩⟩⟩
def fw_290_p20L (Q : lf_Z → Prop) (x1 : Int) (x2 : Int) (x3 : Int) (x4 : Int) (x6 : Int) (s : lf_Z) : Prop := ∃ X20 : Int → Int → lf_Z → Prop, (∀ (x4 : Int) (x6 : Int) (s : lf_Z), X20 x4 x6 s → fw_290_p20 Q x1 x2 x3 X20 x4 x6 s) ∧ X20 x4 x6 s
theorem cj_290_p20L {Q1 Q2 Q3 : lf_Z → Prop} {x1 : Int} {x2 : Int} {x3 : Int} {x4 : Int} {x6 : Int} {s : lf_Z} (hQ : ∀ (s : lf_Z), Q1 s → Q2 s → Q3 s) (h1 : fm_290_p20L Q1 x1 x2 x3 x4 x6 s) (h2 : fw_290_p20L Q2 x1 x2 x3 x4 x6 s) : fm_290_p20L Q3 x1 x2 x3 x4 x6 s := by
  intro X0 hX0
  obtain ⟨Y, hY, hY0⟩ := h2
  exact h1 (fun v0 v1 s => Y v0 v1 s → X0 v0 v1 s) (fun v0 v1 s hb hy => hX0 v0 v1 s (cj_290_p20 (X201 := fun v0 v1 s => Y v0 v1 s → X0 v0 v1 s) (X202 := Y) (X203 := X0) (hX20 := fun v0 v1 s a b => a b) hQ hb (hY v0 v1 s hy))) hY0
def fw_290 (a1 : Int) (a2 : Int) (Q : lf_Z → Prop) (s : lf_Z) : Prop := lf_R a2 → ((0 ≤ a2 ∧ a2 < 156) → (fw_290_p20L Q a1 a2 (a2.tdiv 13) (lf_wl ((lf_wl (s.2.1 109 a2)) * 10000)) 0 s))
theorem cj_290 {Q1 Q2 Q3 : lf_Z → Prop} {a1 : Int} {a2 : Int} {s : lf_Z} (hQ : ∀ (s : lf_Z), Q1 s → Q2 s → Q3 s) (h1 : fm_290 a1 a2 Q1 s) (h2 : fw_290 a1 a2 Q2 s) : fm_290 a1 a2 Q3 s := by
  unfold fm_290 at h1 ⊢
  unfold fw_290 at h2
  exact ⟨h1.1, ⟨h1.2.1, cj_290_p20L hQ h1.2.2 ((h2 h1.1) h1.2.1)⟩⟩
def fw_289_p25 (Q : Int → lf_Z → Prop) (s : lf_Z) : Prop := Q (-1) s
theorem cj_289_p25 {Q1 Q2 Q3 : Int → lf_Z → Prop} {s : lf_Z} (hQ : ∀ (r : Int) (s : lf_Z), Q1 r s → Q2 r s → Q3 r s) (h1 : fm_289_p25 Q1 s) (h2 : fw_289_p25 Q2 s) : fm_289_p25 Q3 s := by
  unfold fm_289_p25 at h1 ⊢
  unfold fw_289_p25 at h2
  exact hQ _ _  h1 h2
def fw_289_p204 (Q : Int → lf_Z → Prop) (x3 : Int) (x4 : Int) (x5 : Int) (X204 : Int → Int → lf_Z → Prop) (x7 : Int) (x9 : Int) (s : lf_Z) : Prop := lf_R x9 → ((13 ≤ x9 → (fw_291 (lf_wl x7) (lf_wl x5) x4 (fun r37 s36 => (Q (lf_wl r37) s36)) s)) ∧ (¬ (13 ≤ x9) → ((0 ≤ (13 * x3) + x9 ∧ (13 * x3) + x9 < 156) → (X204 (lf_wl ((lf_wl x7) + (lf_wl (s.2.1 109 ((13 * x3) + x9))))) (x9 + 1) s))))
theorem cj_289_p204 {X2041 X2042 X2043 : Int → Int → lf_Z → Prop} {Q1 Q2 Q3 : Int → lf_Z → Prop} {x3 : Int} {x4 : Int} {x5 : Int} {x7 : Int} {x9 : Int} {s : lf_Z} (hX204 : ∀ (v0 : Int) (v1 : Int) (v2 : lf_Z), X2041 v0 v1 v2 → X2042 v0 v1 v2 → X2043 v0 v1 v2) (hQ : ∀ (r : Int) (s : lf_Z), Q1 r s → Q2 r s → Q3 r s) (h1 : fm_289_p204 Q1 x3 x4 x5 X2041 x7 x9 s) (h2 : fw_289_p204 Q2 x3 x4 x5 X2042 x7 x9 s) : fm_289_p204 Q3 x3 x4 x5 X2043 x7 x9 s := by
  unfold fm_289_p204 at h1 ⊢
  unfold fw_289_p204 at h2
  exact ⟨h1.1, ⟨(fun c2 => cj_291 (fun r37 s36 k3 l3 => hQ _ _  k3 l3) (h1.2.1 c2) ((h2 h1.1).1 c2)), (fun c2 => ⟨(h1.2.2 c2).1, hX204 _ _ _  (h1.2.2 c2).2 (((h2 h1.1).2 c2) (h1.2.2 c2).1)⟩)⟩⟩
def fw_289_p204L (Q : Int → lf_Z → Prop) (x3 : Int) (x4 : Int) (x5 : Int) (x7 : Int) (x9 : Int) (s : lf_Z) : Prop := ∃ X204 : Int → Int → lf_Z → Prop, (∀ (x7 : Int) (x9 : Int) (s : lf_Z), X204 x7 x9 s → fw_289_p204 Q x3 x4 x5 X204 x7 x9 s) ∧ X204 x7 x9 s
theorem cj_289_p204L {Q1 Q2 Q3 : Int → lf_Z → Prop} {x3 : Int} {x4 : Int} {x5 : Int} {x7 : Int} {x9 : Int} {s : lf_Z} (hQ : ∀ (r : Int) (s : lf_Z), Q1 r s → Q2 r s → Q3 r s) (h1 : fm_289_p204L Q1 x3 x4 x5 x7 x9 s) (h2 : fw_289_p204L Q2 x3 x4 x5 x7 x9 s) : fm_289_p204L Q3 x3 x4 x5 x7 x9 s := by
  intro X0 hX0
  obtain ⟨Y, hY, hY0⟩ := h2
  exact h1 (fun v0 v1 s => Y v0 v1 s → X0 v0 v1 s) (fun v0 v1 s hb hy => hX0 v0 v1 s (cj_289_p204 (X2041 := fun v0 v1 s => Y v0 v1 s → X0 v0 v1 s) (X2042 := Y) (X2043 := X0) (hX204 := fun v0 v1 s a b => a b) hQ hb (hY v0 v1 s hy))) hY0
def fw_289_p156 (X82 : Int → Int → lf_Z → Prop) (Q : Int → lf_Z → Prop) (x1 : Int) (x2 : Int) (x3 : Int) (x4 : Int) (x5 : Int) (x7 : Int) (X156 : Int → lf_Z → Prop) (x8 : Int) (s : lf_Z) : Prop := lf_R x8 → ((156 ≤ x8 → (X82 (lf_wl ((lf_wl x5) * 10000)) (x7 + 1) s)) ∧ (¬ (156 ≤ x8) → ((0 ≤ x8 ∧ x8 < 156) → (X156 (x8 + 1) (s.1, lf_up s.2.1 109 x8 (lf_wl (s.2.1 110 x8)), s.2.2)))))
theorem cj_289_p156 {X821 X822 X823 : Int → Int → lf_Z → Prop} {X1561 X1562 X1563 : Int → lf_Z → Prop} {Q1 Q2 Q3 : Int → lf_Z → Prop} {x1 : Int} {x2 : Int} {x3 : Int} {x4 : Int} {x5 : Int} {x7 : Int} {x8 : Int} {s : lf_Z} (hX82 : ∀ (v0 : Int) (v1 : Int) (v2 : lf_Z), X821 v0 v1 v2 → X822 v0 v1 v2 → X823 v0 v1 v2) (hX156 : ∀ (v0 : Int) (v1 : lf_Z), X1561 v0 v1 → X1562 v0 v1 → X1563 v0 v1) (hQ : ∀ (r : Int) (s : lf_Z), Q1 r s → Q2 r s → Q3 r s) (h1 : fm_289_p156 X821 Q1 x1 x2 x3 x4 x5 x7 X1561 x8 s) (h2 : fw_289_p156 X822 Q2 x1 x2 x3 x4 x5 x7 X1562 x8 s) : fm_289_p156 X823 Q3 x1 x2 x3 x4 x5 x7 X1563 x8 s := by
  unfold fm_289_p156 at h1 ⊢
  unfold fw_289_p156 at h2
  exact ⟨h1.1, ⟨(fun c2 => hX82 _ _ _  (h1.2.1 c2) ((h2 h1.1).1 c2)), (fun c2 => ⟨(h1.2.2 c2).1, hX156 _ _  (h1.2.2 c2).2 (((h2 h1.1).2 c2) (h1.2.2 c2).1)⟩)⟩⟩
def fw_289_p156L (X82 : Int → Int → lf_Z → Prop) (Q : Int → lf_Z → Prop) (x1 : Int) (x2 : Int) (x3 : Int) (x4 : Int) (x5 : Int) (x7 : Int) (x8 : Int) (s : lf_Z) : Prop := ∃ X156 : Int → lf_Z → Prop, (∀ (x8 : Int) (s : lf_Z), X156 x8 s → fw_289_p156 X82 Q x1 x2 x3 x4 x5 x7 X156 x8 s) ∧ X156 x8 s
theorem cj_289_p156L {X821 X822 X823 : Int → Int → lf_Z → Prop} {Q1 Q2 Q3 : Int → lf_Z → Prop} {x1 : Int} {x2 : Int} {x3 : Int} {x4 : Int} {x5 : Int} {x7 : Int} {x8 : Int} {s : lf_Z} (hX82 : ∀ (v0 : Int) (v1 : Int) (v2 : lf_Z), X821 v0 v1 v2 → X822 v0 v1 v2 → X823 v0 v1 v2) (hQ : ∀ (r : Int) (s : lf_Z), Q1 r s → Q2 r s → Q3 r s) (h1 : fm_289_p156L X821 Q1 x1 x2 x3 x4 x5 x7 x8 s) (h2 : fw_289_p156L X822 Q2 x1 x2 x3 x4 x5 x7 x8 s) : fm_289_p156L X823 Q3 x1 x2 x3 x4 x5 x7 x8 s := by
  intro X0 hX0
  obtain ⟨Y, hY, hY0⟩ := h2
  exact h1 (fun v0 s => Y v0 s → X0 v0 s) (fun v0 s hb hy => hX0 v0 s (cj_289_p156 (hX82 := hX82) (X1561 := fun v0 s => Y v0 s → X0 v0 s) (X1562 := Y) (X1563 := X0) (hX156 := fun v0 s a b => a b) hQ hb (hY v0 s hy))) hY0
def fw_289_p147 (X82 : Int → Int → lf_Z → Prop) (X116 : Int → lf_Z → Prop) (Q : Int → lf_Z → Prop) (x1 : Int) (x2 : Int) (x3 : Int) (x4 : Int) (x5 : Int) (x7 : Int) (x8 : Int) (s : lf_Z) : Prop := X116 (x8 + 1) s
theorem cj_289_p147 {X821 X822 X823 : Int → Int → lf_Z → Prop} {X1161 X1162 X1163 : Int → lf_Z → Prop} {Q1 Q2 Q3 : Int → lf_Z → Prop} {x1 : Int} {x2 : Int} {x3 : Int} {x4 : Int} {x5 : Int} {x7 : Int} {x8 : Int} {s : lf_Z} (hX82 : ∀ (v0 : Int) (v1 : Int) (v2 : lf_Z), X821 v0 v1 v2 → X822 v0 v1 v2 → X823 v0 v1 v2) (hX116 : ∀ (v0 : Int) (v1 : lf_Z), X1161 v0 v1 → X1162 v0 v1 → X1163 v0 v1) (hQ : ∀ (r : Int) (s : lf_Z), Q1 r s → Q2 r s → Q3 r s) (h1 : fm_289_p147 X821 X1161 Q1 x1 x2 x3 x4 x5 x7 x8 s) (h2 : fw_289_p147 X822 X1162 Q2 x1 x2 x3 x4 x5 x7 x8 s) : fm_289_p147 X823 X1163 Q3 x1 x2 x3 x4 x5 x7 x8 s := by
  unfold fm_289_p147 at h1 ⊢
  unfold fw_289_p147 at h2
  exact hX116 _ _  h1 h2
def fw_289_p116 (X82 : Int → Int → lf_Z → Prop) (Q : Int → lf_Z → Prop) (x1 : Int) (x2 : Int) (x3 : Int) (x4 : Int) (x5 : Int) (x7 : Int) (X116 : Int → lf_Z → Prop) (x8 : Int) (s : lf_Z) : Prop := lf_R x8 → ((156 ≤ x8 → (fw_289_p156L X82 Q x1 x2 x3 x4 x5 x7 0 s)) ∧ (¬ (156 ≤ x8) → ((0 ≤ x8 ∧ x8 < 156) → ((lf_wl (s.2.1 109 x8) ≤ 0 → (fw_289_p147 X82 X116 Q x1 x2 x3 x4 x5 x7 x8 s)) ∧ (¬ (lf_wl (s.2.1 109 x8) ≤ 0) → (fw_242 x1 (fun r45 s44 => (fw_290 r45 x8 (fun s46 => (fw_289_p147 X82 X116 Q x1 x2 x3 x4 x5 x7 x8 s46)) s44)) s))))))
theorem cj_289_p116 {X821 X822 X823 : Int → Int → lf_Z → Prop} {X1161 X1162 X1163 : Int → lf_Z → Prop} {Q1 Q2 Q3 : Int → lf_Z → Prop} {x1 : Int} {x2 : Int} {x3 : Int} {x4 : Int} {x5 : Int} {x7 : Int} {x8 : Int} {s : lf_Z} (hX82 : ∀ (v0 : Int) (v1 : Int) (v2 : lf_Z), X821 v0 v1 v2 → X822 v0 v1 v2 → X823 v0 v1 v2) (hX116 : ∀ (v0 : Int) (v1 : lf_Z), X1161 v0 v1 → X1162 v0 v1 → X1163 v0 v1) (hQ : ∀ (r : Int) (s : lf_Z), Q1 r s → Q2 r s → Q3 r s) (h1 : fm_289_p116 X821 Q1 x1 x2 x3 x4 x5 x7 X1161 x8 s) (h2 : fw_289_p116 X822 Q2 x1 x2 x3 x4 x5 x7 X1162 x8 s) : fm_289_p116 X823 Q3 x1 x2 x3 x4 x5 x7 X1163 x8 s := by
  unfold fm_289_p116 at h1 ⊢
  unfold fw_289_p116 at h2
  exact ⟨h1.1, ⟨(fun c2 => cj_289_p156L hX82 hQ (h1.2.1 c2) ((h2 h1.1).1 c2)), (fun c2 => ⟨(h1.2.2 c2).1, ⟨(fun c5 => cj_289_p147 hX82 hX116 hQ ((h1.2.2 c2).2.1 c5) ((((h2 h1.1).2 c2) (h1.2.2 c2).1).1 c5)), (fun c5 => cj_242 (fun r45 s44 k7 l7 => cj_290 (fun s46 k8 l8 => cj_289_p147 hX82 hX116 hQ k8 l8) k7 l7) ((h1.2.2 c2).2.2 c5) ((((h2 h1.1).2 c2) (h1.2.2 c2).1).2 c5))⟩⟩)⟩⟩
def fw_289_p116L (X82 : Int → Int → lf_Z → Prop) (Q : Int → lf_Z → Prop) (x1 : Int) (x2 : Int) (x3 : Int) (x4 : Int) (x5 : Int) (x7 : Int) (x8 : Int) (s : lf_Z) : Prop := ∃ X116 : Int → lf_Z → Prop, (∀ (x8 : Int) (s : lf_Z), X116 x8 s → fw_289_p116 X82 Q x1 x2 x3 x4 x5 x7 X116 x8 s) ∧ X116 x8 s
theorem cj_289_p116L {X821 X822 X823 : Int → Int → lf_Z → Prop} {Q1 Q2 Q3 : Int → lf_Z → Prop} {x1 : Int} {x2 : Int} {x3 : Int} {x4 : Int} {x5 : Int} {x7 : Int} {x8 : Int} {s : lf_Z} (hX82 : ∀ (v0 : Int) (v1 : Int) (v2 : lf_Z), X821 v0 v1 v2 → X822 v0 v1 v2 → X823 v0 v1 v2) (hQ : ∀ (r : Int) (s : lf_Z), Q1 r s → Q2 r s → Q3 r s) (h1 : fm_289_p116L X821 Q1 x1 x2 x3 x4 x5 x7 x8 s) (h2 : fw_289_p116L X822 Q2 x1 x2 x3 x4 x5 x7 x8 s) : fm_289_p116L X823 Q3 x1 x2 x3 x4 x5 x7 x8 s := by
  intro X0 hX0
  obtain ⟨Y, hY, hY0⟩ := h2
  exact h1 (fun v0 s => Y v0 s → X0 v0 s) (fun v0 s hb hy => hX0 v0 s (cj_289_p116 (hX82 := hX82) (X1161 := fun v0 s => Y v0 s → X0 v0 s) (X1162 := Y) (X1163 := X0) (hX116 := fun v0 s a b => a b) hQ hb (hY v0 s hy))) hY0
def fw_289_p91 (X82 : Int → Int → lf_Z → Prop) (Q : Int → lf_Z → Prop) (x1 : Int) (x2 : Int) (x3 : Int) (x4 : Int) (x5 : Int) (x7 : Int) (X91 : Int → lf_Z → Prop) (x8 : Int) (s : lf_Z) : Prop := lf_R x8 → ((156 ≤ x8 → (fw_289_p116L X82 Q x1 x2 x3 x4 x5 x7 0 s)) ∧ (¬ (156 ≤ x8) → ((0 ≤ x8 ∧ x8 < 156) → (X91 (x8 + 1) (s.1, lf_up s.2.1 110 x8 0, s.2.2)))))
theorem cj_289_p91 {X821 X822 X823 : Int → Int → lf_Z → Prop} {X911 X912 X913 : Int → lf_Z → Prop} {Q1 Q2 Q3 : Int → lf_Z → Prop} {x1 : Int} {x2 : Int} {x3 : Int} {x4 : Int} {x5 : Int} {x7 : Int} {x8 : Int} {s : lf_Z} (hX82 : ∀ (v0 : Int) (v1 : Int) (v2 : lf_Z), X821 v0 v1 v2 → X822 v0 v1 v2 → X823 v0 v1 v2) (hX91 : ∀ (v0 : Int) (v1 : lf_Z), X911 v0 v1 → X912 v0 v1 → X913 v0 v1) (hQ : ∀ (r : Int) (s : lf_Z), Q1 r s → Q2 r s → Q3 r s) (h1 : fm_289_p91 X821 Q1 x1 x2 x3 x4 x5 x7 X911 x8 s) (h2 : fw_289_p91 X822 Q2 x1 x2 x3 x4 x5 x7 X912 x8 s) : fm_289_p91 X823 Q3 x1 x2 x3 x4 x5 x7 X913 x8 s := by
  unfold fm_289_p91 at h1 ⊢
  unfold fw_289_p91 at h2
  exact ⟨h1.1, ⟨(fun c2 => cj_289_p116L hX82 hQ (h1.2.1 c2) ((h2 h1.1).1 c2)), (fun c2 => ⟨(h1.2.2 c2).1, hX91 _ _  (h1.2.2 c2).2 (((h2 h1.1).2 c2) (h1.2.2 c2).1)⟩)⟩⟩
def fw_289_p91L (X82 : Int → Int → lf_Z → Prop) (Q : Int → lf_Z → Prop) (x1 : Int) (x2 : Int) (x3 : Int) (x4 : Int) (x5 : Int) (x7 : Int) (x8 : Int) (s : lf_Z) : Prop := ∃ X91 : Int → lf_Z → Prop, (∀ (x8 : Int) (s : lf_Z), X91 x8 s → fw_289_p91 X82 Q x1 x2 x3 x4 x5 x7 X91 x8 s) ∧ X91 x8 s
theorem cj_289_p91L {X821 X822 X823 : Int → Int → lf_Z → Prop} {Q1 Q2 Q3 : Int → lf_Z → Prop} {x1 : Int} {x2 : Int} {x3 : Int} {x4 : Int} {x5 : Int} {x7 : Int} {x8 : Int} {s : lf_Z} (hX82 : ∀ (v0 : Int) (v1 : Int) (v2 : lf_Z), X821 v0 v1 v2 → X822 v0 v1 v2 → X823 v0 v1 v2) (hQ : ∀ (r : Int) (s : lf_Z), Q1 r s → Q2 r s → Q3 r s) (h1 : fm_289_p91L X821 Q1 x1 x2 x3 x4 x5 x7 x8 s) (h2 : fw_289_p91L X822 Q2 x1 x2 x3 x4 x5 x7 x8 s) : fm_289_p91L X823 Q3 x1 x2 x3 x4 x5 x7 x8 s := by
  intro X0 hX0
  obtain ⟨Y, hY, hY0⟩ := h2
  exact h1 (fun v0 s => Y v0 s → X0 v0 s) (fun v0 s hb hy => hX0 v0 s (cj_289_p91 (hX82 := hX82) (X911 := fun v0 s => Y v0 s → X0 v0 s) (X912 := Y) (X913 := X0) (hX91 := fun v0 s a b => a b) hQ hb (hY v0 s hy))) hY0
def fw_289_p82 (Q : Int → lf_Z → Prop) (x1 : Int) (x2 : Int) (x3 : Int) (x4 : Int) (X82 : Int → Int → lf_Z → Prop) (x5 : Int) (x7 : Int) (s : lf_Z) : Prop := lf_R x7 → (lf_R x2 → ((x2 ≤ x7 → (fw_289_p204L Q x3 x4 x5 0 0 s)) ∧ (¬ (x2 ≤ x7) → (fw_289_p91L X82 Q x1 x2 x3 x4 x5 x7 0 s))))
theorem cj_289_p82 {X821 X822 X823 : Int → Int → lf_Z → Prop} {Q1 Q2 Q3 : Int → lf_Z → Prop} {x1 : Int} {x2 : Int} {x3 : Int} {x4 : Int} {x5 : Int} {x7 : Int} {s : lf_Z} (hX82 : ∀ (v0 : Int) (v1 : Int) (v2 : lf_Z), X821 v0 v1 v2 → X822 v0 v1 v2 → X823 v0 v1 v2) (hQ : ∀ (r : Int) (s : lf_Z), Q1 r s → Q2 r s → Q3 r s) (h1 : fm_289_p82 Q1 x1 x2 x3 x4 X821 x5 x7 s) (h2 : fw_289_p82 Q2 x1 x2 x3 x4 X822 x5 x7 s) : fm_289_p82 Q3 x1 x2 x3 x4 X823 x5 x7 s := by
  unfold fm_289_p82 at h1 ⊢
  unfold fw_289_p82 at h2
  exact ⟨h1.1, ⟨h1.2.1, ⟨(fun c3 => cj_289_p204L hQ (h1.2.2.1 c3) (((h2 h1.1) h1.2.1).1 c3)), (fun c3 => cj_289_p91L hX82 hQ (h1.2.2.2 c3) (((h2 h1.1) h1.2.1).2 c3))⟩⟩⟩
def fw_289_p82L (Q : Int → lf_Z → Prop) (x1 : Int) (x2 : Int) (x3 : Int) (x4 : Int) (x5 : Int) (x7 : Int) (s : lf_Z) : Prop := ∃ X82 : Int → Int → lf_Z → Prop, (∀ (x5 : Int) (x7 : Int) (s : lf_Z), X82 x5 x7 s → fw_289_p82 Q x1 x2 x3 x4 X82 x5 x7 s) ∧ X82 x5 x7 s
theorem cj_289_p82L {Q1 Q2 Q3 : Int → lf_Z → Prop} {x1 : Int} {x2 : Int} {x3 : Int} {x4 : Int} {x5 : Int} {x7 : Int} {s : lf_Z} (hQ : ∀ (r : Int) (s : lf_Z), Q1 r s → Q2 r s → Q3 r s) (h1 : fm_289_p82L Q1 x1 x2 x3 x4 x5 x7 s) (h2 : fw_289_p82L Q2 x1 x2 x3 x4 x5 x7 s) : fm_289_p82L Q3 x1 x2 x3 x4 x5 x7 s := by
  intro X0 hX0
  obtain ⟨Y, hY, hY0⟩ := h2
  exact h1 (fun v0 v1 s => Y v0 v1 s → X0 v0 v1 s) (fun v0 v1 s hb hy => hX0 v0 v1 s (cj_289_p82 (X821 := fun v0 v1 s => Y v0 v1 s → X0 v0 v1 s) (X822 := Y) (X823 := X0) (hX82 := fun v0 v1 s a b => a b) hQ hb (hY v0 v1 s hy))) hY0
def fw_289_p32 (Q : Int → lf_Z → Prop) (x1 : Int) (x2 : Int) (x3 : Int) (x4 : Int) (X32 : Int → lf_Z → Prop) (x5 : Int) (s : lf_Z) : Prop := lf_R x5 → ((156 ≤ x5 → (fw_255 x1 (fun r29 s28 => (fw_256 x1 (fun r31 s30 => ((0 ≤ ((13 * r29) + r31) + 1 ∧ ((13 * r29) + r31) + 1 < 156) → (fw_289_p82L Q x1 x2 x3 x4 1 0 (s30.1, lf_up s30.2.1 109 (((13 * r29) + r31) + 1) 1, s30.2.2)))) s28)) s)) ∧ (¬ (156 ≤ x5) → ((0 ≤ x5 ∧ x5 < 156) → (X32 (x5 + 1) (s.1, lf_up s.2.1 109 x5 0, s.2.2)))))
theorem cj_289_p32 {X321 X322 X323 : Int → lf_Z → Prop} {Q1 Q2 Q3 : Int → lf_Z → Prop} {x1 : Int} {x2 : Int} {x3 : Int} {x4 : Int} {x5 : Int} {s : lf_Z} (hX32 : ∀ (v0 : Int) (v1 : lf_Z), X321 v0 v1 → X322 v0 v1 → X323 v0 v1) (hQ : ∀ (r : Int) (s : lf_Z), Q1 r s → Q2 r s → Q3 r s) (h1 : fm_289_p32 Q1 x1 x2 x3 x4 X321 x5 s) (h2 : fw_289_p32 Q2 x1 x2 x3 x4 X322 x5 s) : fm_289_p32 Q3 x1 x2 x3 x4 X323 x5 s := by
  unfold fm_289_p32 at h1 ⊢
  unfold fw_289_p32 at h2
  exact ⟨h1.1, ⟨(fun c2 => cj_255 (fun r29 s28 k3 l3 => cj_256 (fun r31 s30 k4 l4 => ⟨k4.1, cj_289_p82L hQ k4.2 (l4 k4.1)⟩) k3 l3) (h1.2.1 c2) ((h2 h1.1).1 c2)), (fun c2 => ⟨(h1.2.2 c2).1, hX32 _ _  (h1.2.2 c2).2 (((h2 h1.1).2 c2) (h1.2.2 c2).1)⟩)⟩⟩
def fw_289_p32L (Q : Int → lf_Z → Prop) (x1 : Int) (x2 : Int) (x3 : Int) (x4 : Int) (x5 : Int) (s : lf_Z) : Prop := ∃ X32 : Int → lf_Z → Prop, (∀ (x5 : Int) (s : lf_Z), X32 x5 s → fw_289_p32 Q x1 x2 x3 x4 X32 x5 s) ∧ X32 x5 s
theorem cj_289_p32L {Q1 Q2 Q3 : Int → lf_Z → Prop} {x1 : Int} {x2 : Int} {x3 : Int} {x4 : Int} {x5 : Int} {s : lf_Z} (hQ : ∀ (r : Int) (s : lf_Z), Q1 r s → Q2 r s → Q3 r s) (h1 : fm_289_p32L Q1 x1 x2 x3 x4 x5 s) (h2 : fw_289_p32L Q2 x1 x2 x3 x4 x5 s) : fm_289_p32L Q3 x1 x2 x3 x4 x5 s := by
  intro X0 hX0
  obtain ⟨Y, hY, hY0⟩ := h2
  exact h1 (fun v0 s => Y v0 s → X0 v0 s) (fun v0 s hb hy => hX0 v0 s (cj_289_p32 (X321 := fun v0 s => Y v0 s → X0 v0 s) (X322 := Y) (X323 := X0) (hX32 := fun v0 s a b => a b) hQ hb (hY v0 s hy))) hY0
def fw_289 (a1 : Int) (a2 : Int) (a3 : Int) (a4 : Int) (Q : Int → lf_Z → Prop) (s : lf_Z) : Prop := fw_254 a1 (fun z22 s21 => ((z22 = false → (fw_289_p25 Q s21)) ∧ (z22 = true → (fw_183 a2 0 4 (fun z24 s23 => ((z24 = false → (fw_289_p25 Q s23)) ∧ (z24 = true → (fw_185 a3 (fun z26 s25 => ((z26 = true → (fw_289_p32L Q a1 a2 a3 a4 0 s25)) ∧ (z26 = false → (fw_289_p25 Q s25)))) s23)))) s21)))) s
theorem cj_289 {Q1 Q2 Q3 : Int → lf_Z → Prop} {a1 : Int} {a2 : Int} {a3 : Int} {a4 : Int} {s : lf_Z} (hQ : ∀ (r : Int) (s : lf_Z), Q1 r s → Q2 r s → Q3 r s) (h1 : fm_289 a1 a2 a3 a4 Q1 s) (h2 : fw_289 a1 a2 a3 a4 Q2 s) : fm_289 a1 a2 a3 a4 Q3 s := by
  unfold fm_289 at h1 ⊢
  unfold fw_289 at h2
  exact cj_254 (fun z22 s21 k1 l1 => ⟨(fun c2 => cj_289_p25 hQ (k1.1 c2) (l1.1 c2)), (fun c2 => cj_183 (fun z24 s23 k4 l4 => ⟨(fun c5 => cj_289_p25 hQ (k4.1 c5) (l4.1 c5)), (fun c5 => cj_185 (fun z26 s25 k7 l7 => ⟨(fun c8 => cj_289_p32L hQ (k7.1 c8) (l7.1 c8)), (fun c8 => cj_289_p25 hQ (k7.2 c8) (l7.2 c8))⟩) (k4.2 c5) (l4.2 c5))⟩) (k1.2 c2) (l1.2 c2))⟩) h1 h2
def fw_129_p113 (X11 : Int → Int → lf_Z → Prop) (Q : Int → lf_Z → Prop) (x1 : Int) (x3 : Int) (x4 : Int) (x5 : Int) (x7 : Int) (s : lf_Z) : Prop := lf_R x7 → ((x7 ≠ 10 → (X11 x4 (x5 + 1) s)) ∧ (¬ (x7 ≠ 10) → (Q x4 s)))
theorem cj_129_p113 {X111 X112 X113 : Int → Int → lf_Z → Prop} {Q1 Q2 Q3 : Int → lf_Z → Prop} {x1 : Int} {x3 : Int} {x4 : Int} {x5 : Int} {x7 : Int} {s : lf_Z} (hX11 : ∀ (v0 : Int) (v1 : Int) (v2 : lf_Z), X111 v0 v1 v2 → X112 v0 v1 v2 → X113 v0 v1 v2) (hQ : ∀ (r : Int) (s : lf_Z), Q1 r s → Q2 r s → Q3 r s) (h1 : fm_129_p113 X111 Q1 x1 x3 x4 x5 x7 s) (h2 : fw_129_p113 X112 Q2 x1 x3 x4 x5 x7 s) : fm_129_p113 X113 Q3 x1 x3 x4 x5 x7 s := by
  unfold fm_129_p113 at h1 ⊢
  unfold fw_129_p113 at h2
  exact ⟨h1.1, ⟨(fun c2 => hX11 _ _ _  (h1.2.1 c2) ((h2 h1.1).1 c2)), (fun c2 => hQ _ _  (h1.2.2 c2) ((h2 h1.1).2 c2))⟩⟩
def fw_129_p11 (Q : Int → lf_Z → Prop) (x1 : Int) (x3 : Int) (X11 : Int → Int → lf_Z → Prop) (x4 : Int) (x5 : Int) (s : lf_Z) : Prop := fw_76 x3 (fun r23 s22 => (lf_R x5 → (lf_R r23 → ((r23 ≤ x5 → (Q x4 s22)) ∧ (¬ (r23 ≤ x5) → (fw_77 x3 x5 (fun r27 s26 => (lf_R x1 → (fw_123 r27 x3 ((x1.tmod 13) - 1) (fun r30 s29 => (fw_78 r27 x3 (fun r32 s31 => (lf_R r30 → ((r30 ≤ 0 → (fw_129_p113 X11 Q x1 x3 x4 x5 r30 s31)) ∧ (¬ (r30 ≤ 0) → ((0 ≤ ((r32 * 13) + x3) + 1 ∧ ((r32 * 13) + x3) + 1 < 156) → (lf_R (s31.1 71 (((r32 * 13) + x3) + 1)) → ((s31.1 71 (((r32 * 13) + x3) + 1) ≠ 0 → (fw_129_p113 X11 Q x1 x3 x4 x5 r30 s31)) ∧ (¬ (s31.1 71 (((r32 * 13) + x3) + 1) ≠ 0) → (lf_R x4 → ((156 ≤ x4 → (fw_129_p113 X11 Q x1 x3 x4 x5 r30 s31)) ∧ (¬ (156 ≤ x4) → ((0 ≤ x4 ∧ x4 < 156) → (fw_129_p113 X11 Q x1 x3 (x4 + 1) x5 r30 (lf_up (lf_up s31.1 71 (((r32 * 13) + x3) + 1) 1) 70 x4 (((r32 * 13) + x3) + 1), s31.2.1, s31.2.2)))))))))))))) s29)) s26))) s22)))))) s
theorem cj_129_p11 {X111 X112 X113 : Int → Int → lf_Z → Prop} {Q1 Q2 Q3 : Int → lf_Z → Prop} {x1 : Int} {x3 : Int} {x4 : Int} {x5 : Int} {s : lf_Z} (hX11 : ∀ (v0 : Int) (v1 : Int) (v2 : lf_Z), X111 v0 v1 v2 → X112 v0 v1 v2 → X113 v0 v1 v2) (hQ : ∀ (r : Int) (s : lf_Z), Q1 r s → Q2 r s → Q3 r s) (h1 : fm_129_p11 Q1 x1 x3 X111 x4 x5 s) (h2 : fw_129_p11 Q2 x1 x3 X112 x4 x5 s) : fm_129_p11 Q3 x1 x3 X113 x4 x5 s := by
  unfold fm_129_p11 at h1 ⊢
  unfold fw_129_p11 at h2
  exact cj_76 (fun r23 s22 k1 l1 => ⟨k1.1, ⟨k1.2.1, ⟨(fun c4 => hQ _ _  (k1.2.2.1 c4) (((l1 k1.1) k1.2.1).1 c4)), (fun c4 => cj_77 (fun r27 s26 k6 l6 => ⟨k6.1, cj_123 (fun r30 s29 k8 l8 => cj_78 (fun r32 s31 k9 l9 => ⟨k9.1, ⟨(fun c11 => cj_129_p113 hX11 hQ (k9.2.1 c11) ((l9 k9.1).1 c11)), (fun c11 => ⟨(k9.2.2 c11).1, ⟨(k9.2.2 c11).2.1, ⟨(fun c15 => cj_129_p113 hX11 hQ ((k9.2.2 c11).2.2.1 c15) (((((l9 k9.1).2 c11) (k9.2.2 c11).1) (k9.2.2 c11).2.1).1 c15)), (fun c15 => ⟨((k9.2.2 c11).2.2.2 c15).1, ⟨(fun c18 => cj_129_p113 hX11 hQ (((k9.2.2 c11).2.2.2 c15).2.1 c18) (((((((l9 k9.1).2 c11) (k9.2.2 c11).1) (k9.2.2 c11).2.1).2 c15) ((k9.2.2 c11).2.2.2 c15).1).1 c18)), (fun c18 => ⟨(((k9.2.2 c11).2.2.2 c15).2.2 c18).1, cj_129_p113 hX11 hQ (((k9.2.2 c11).2.2.2 c15).2.2 c18).2 ((((((((l9 k9.1).2 c11) (k9.2.2 c11).1) (k9.2.2 c11).2.1).2 c15) ((k9.2.2 c11).2.2.2 c15).1).2 c18) (((k9.2.2 c11).2.2.2 c15).2.2 c18).1)⟩)⟩⟩)⟩⟩⟩)⟩⟩) k8 l8) k6.2 (l6 k6.1)⟩) (k1.2.2.2 c4) (((l1 k1.1) k1.2.1).2 c4))⟩⟩⟩) h1 h2
def fw_129_p11L (Q : Int → lf_Z → Prop) (x1 : Int) (x3 : Int) (x4 : Int) (x5 : Int) (s : lf_Z) : Prop := ∃ X11 : Int → Int → lf_Z → Prop, (∀ (x4 : Int) (x5 : Int) (s : lf_Z), X11 x4 x5 s → fw_129_p11 Q x1 x3 X11 x4 x5 s) ∧ X11 x4 x5 s
theorem cj_129_p11L {Q1 Q2 Q3 : Int → lf_Z → Prop} {x1 : Int} {x3 : Int} {x4 : Int} {x5 : Int} {s : lf_Z} (hQ : ∀ (r : Int) (s : lf_Z), Q1 r s → Q2 r s → Q3 r s) (h1 : fm_129_p11L Q1 x1 x3 x4 x5 s) (h2 : fw_129_p11L Q2 x1 x3 x4 x5 s) : fm_129_p11L Q3 x1 x3 x4 x5 s := by
  intro X0 hX0
  obtain ⟨Y, hY, hY0⟩ := h2
  exact h1 (fun v0 v1 s => Y v0 v1 s → X0 v0 v1 s) (fun v0 v1 s hb hy => hX0 v0 v1 s (cj_129_p11 (X111 := fun v0 v1 s => Y v0 v1 s → X0 v0 v1 s) (X112 := Y) (X113 := X0) (hX11 := fun v0 v1 s a b => a b) hQ hb (hY v0 v1 s hy))) hY0
def fw_129 (a1 : Int) (a2 : Int) (Q : Int → lf_Z → Prop) (s : lf_Z) : Prop := lf_R a1 → (fw_129_p11L Q a1 (a1.tdiv 13) a2 0 s)
theorem cj_129 {Q1 Q2 Q3 : Int → lf_Z → Prop} {a1 : Int} {a2 : Int} {s : lf_Z} (hQ : ∀ (r : Int) (s : lf_Z), Q1 r s → Q2 r s → Q3 r s) (h1 : fm_129 a1 a2 Q1 s) (h2 : fw_129 a1 a2 Q2 s) : fm_129 a1 a2 Q3 s := by
  unfold fm_129 at h1 ⊢
  unfold fw_129 at h2
  exact ⟨h1.1, cj_129_p11L hQ h1.2 (h2 h1.1)⟩
def fw_128_p38 (Q : Int → lf_Z → Prop) (X38 : Int → Int → Int → lf_Z → Prop) (x2 : Int) (x3 : Int) (x4 : Int) (s : lf_Z) : Prop := lf_R x4 → (lf_R x2 → ((x2 ≤ x4 → (Q x3 s)) ∧ (¬ (x2 ≤ x4) → ((156 ≤ x4 → (Q x3 s)) ∧ (¬ (156 ≤ x4) → ((0 ≤ x4 ∧ x4 < 156) → (lf_R (s.1 70 x4) → (fw_129 (s.1 70 x4) x2 (fun r29 s28 => (X38 r29 (lf_or x3 (lf_shl 1 ((s.1 70 x4).tdiv 13))) (x4 + 1) s28)) s))))))))
theorem cj_128_p38 {X381 X382 X383 : Int → Int → Int → lf_Z → Prop} {Q1 Q2 Q3 : Int → lf_Z → Prop} {x2 : Int} {x3 : Int} {x4 : Int} {s : lf_Z} (hX38 : ∀ (v0 : Int) (v1 : Int) (v2 : Int) (v3 : lf_Z), X381 v0 v1 v2 v3 → X382 v0 v1 v2 v3 → X383 v0 v1 v2 v3) (hQ : ∀ (r : Int) (s : lf_Z), Q1 r s → Q2 r s → Q3 r s) (h1 : fm_128_p38 Q1 X381 x2 x3 x4 s) (h2 : fw_128_p38 Q2 X382 x2 x3 x4 s) : fm_128_p38 Q3 X383 x2 x3 x4 s := by
  unfold fm_128_p38 at h1 ⊢
  unfold fw_128_p38 at h2
  exact ⟨h1.1, ⟨h1.2.1, ⟨(fun c3 => hQ _ _  (h1.2.2.1 c3) (((h2 h1.1) h1.2.1).1 c3)), (fun c3 => ⟨(fun c5 => hQ _ _  ((h1.2.2.2 c3).1 c5) ((((h2 h1.1) h1.2.1).2 c3).1 c5)), (fun c5 => ⟨((h1.2.2.2 c3).2 c5).1, ⟨((h1.2.2.2 c3).2 c5).2.1, cj_129 (fun r29 s28 k9 l9 => hX38 _ _ _ _  k9 l9) ((h1.2.2.2 c3).2 c5).2.2 ((((((h2 h1.1) h1.2.1).2 c3).2 c5) ((h1.2.2.2 c3).2 c5).1) ((h1.2.2.2 c3).2 c5).2.1)⟩⟩)⟩)⟩⟩⟩
def fw_128_p38L (Q : Int → lf_Z → Prop) (x2 : Int) (x3 : Int) (x4 : Int) (s : lf_Z) : Prop := ∃ X38 : Int → Int → Int → lf_Z → Prop, (∀ (x2 : Int) (x3 : Int) (x4 : Int) (s : lf_Z), X38 x2 x3 x4 s → fw_128_p38 Q X38 x2 x3 x4 s) ∧ X38 x2 x3 x4 s
theorem cj_128_p38L {Q1 Q2 Q3 : Int → lf_Z → Prop} {x2 : Int} {x3 : Int} {x4 : Int} {s : lf_Z} (hQ : ∀ (r : Int) (s : lf_Z), Q1 r s → Q2 r s → Q3 r s) (h1 : fm_128_p38L Q1 x2 x3 x4 s) (h2 : fw_128_p38L Q2 x2 x3 x4 s) : fm_128_p38L Q3 x2 x3 x4 s := by
  intro X0 hX0
  obtain ⟨Y, hY, hY0⟩ := h2
  exact h1 (fun v0 v1 v2 s => Y v0 v1 v2 s → X0 v0 v1 v2 s) (fun v0 v1 v2 s hb hy => hX0 v0 v1 v2 s (cj_128_p38 (X381 := fun v0 v1 v2 s => Y v0 v1 v2 s → X0 v0 v1 v2 s) (X382 := Y) (X383 := X0) (hX38 := fun v0 v1 v2 s a b => a b) hQ hb (hY v0 v1 v2 s hy))) hY0
def fw_128 (a1 : Int) (Q : Int → lf_Z → Prop) (s : lf_Z) : Prop := fw_120 a1 (fun r22 s21 => ((0 ≤ r22 ∧ r22 < 156) → (fw_128_p38L Q 1 0 0 (lf_up (lf_up s21.1 70 0 r22) 71 r22 1, s21.2.1, s21.2.2)))) (lf_fl s.1 71 156 0, s.2.1, s.2.2)
theorem cj_128 {Q1 Q2 Q3 : Int → lf_Z → Prop} {a1 : Int} {s : lf_Z} (hQ : ∀ (r : Int) (s : lf_Z), Q1 r s → Q2 r s → Q3 r s) (h1 : fm_128 a1 Q1 s) (h2 : fw_128 a1 Q2 s) : fm_128 a1 Q3 s := by
  unfold fm_128 at h1 ⊢
  unfold fw_128 at h2
  exact cj_120 (fun r22 s21 k1 l1 => ⟨k1.1, cj_128_p38L hQ k1.2 (l1 k1.1)⟩) h1 h2
def fw_127 (a1 : Int) (Q : Int → lf_Z → Prop) (s : lf_Z) : Prop := fw_118 a1 0 (fun s21 => (fw_128 a1 (fun r23 s22 => (Q r23 s22)) s21)) s
theorem cj_127 {Q1 Q2 Q3 : Int → lf_Z → Prop} {a1 : Int} {s : lf_Z} (hQ : ∀ (r : Int) (s : lf_Z), Q1 r s → Q2 r s → Q3 r s) (h1 : fm_127 a1 Q1 s) (h2 : fw_127 a1 Q2 s) : fm_127 a1 Q3 s := by
  unfold fm_127 at h1 ⊢
  unfold fw_127 at h2
  exact cj_118 (fun s21 k1 l1 => cj_128 (fun r23 s22 k2 l2 => hQ _ _  k2 l2) k1 l1) h1 h2
def fw_126 (a1 : Int) (Q : Int → lf_Z → Prop) (s : lf_Z) : Prop := fw_80 a1 (fun z22 s21 => ((z22 = false → (Q (-1) s21)) ∧ (z22 = true → (fw_127 a1 (fun r24 s23 => (Q r24 s23)) s21)))) s
theorem cj_126 {Q1 Q2 Q3 : Int → lf_Z → Prop} {a1 : Int} {s : lf_Z} (hQ : ∀ (r : Int) (s : lf_Z), Q1 r s → Q2 r s → Q3 r s) (h1 : fm_126 a1 Q1 s) (h2 : fw_126 a1 Q2 s) : fm_126 a1 Q3 s := by
  unfold fm_126 at h1 ⊢
  unfold fw_126 at h2
  exact cj_80 (fun z22 s21 k1 l1 => ⟨(fun c2 => hQ _ _  (k1.1 c2) (l1.1 c2)), (fun c2 => cj_127 (fun r24 s23 k4 l4 => hQ _ _  k4 l4) (k1.2 c2) (l1.2 c2))⟩) h1 h2
def fw_294_p203 (X63 : Int → Int → Int → lf_Z → Prop) (Q : Int → lf_Z → Prop) (x1 : Int) (x2 : Int) (x3 : Int) (x4 : Int) (s : lf_Z) : Prop := X63 x2 x3 (x4 + 1) s
theorem cj_294_p203 {X631 X632 X633 : Int → Int → Int → lf_Z → Prop} {Q1 Q2 Q3 : Int → lf_Z → Prop} {x1 : Int} {x2 : Int} {x3 : Int} {x4 : Int} {s : lf_Z} (hX63 : ∀ (v0 : Int) (v1 : Int) (v2 : Int) (v3 : lf_Z), X631 v0 v1 v2 v3 → X632 v0 v1 v2 v3 → X633 v0 v1 v2 v3) (hQ : ∀ (r : Int) (s : lf_Z), Q1 r s → Q2 r s → Q3 r s) (h1 : fm_294_p203 X631 Q1 x1 x2 x3 x4 s) (h2 : fw_294_p203 X632 Q2 x1 x2 x3 x4 s) : fm_294_p203 X633 Q3 x1 x2 x3 x4 s := by
  unfold fm_294_p203 at h1 ⊢
  unfold fw_294_p203 at h2
  exact hX63 _ _ _ _  h1 h2
def fw_294_p197 (X63 : Int → Int → Int → lf_Z → Prop) (X94 : Int → Int → Int → lf_Z → Prop) (Q : Int → lf_Z → Prop) (x1 : Int) (x2 : Int) (x3 : Int) (x4 : Int) (x5 : Int) (x6 : Int) (x7 : Int) (s : lf_Z) : Prop := X94 x2 x6 (x7 + 1) s
theorem cj_294_p197 {X631 X632 X633 : Int → Int → Int → lf_Z → Prop} {X941 X942 X943 : Int → Int → Int → lf_Z → Prop} {Q1 Q2 Q3 : Int → lf_Z → Prop} {x1 : Int} {x2 : Int} {x3 : Int} {x4 : Int} {x5 : Int} {x6 : Int} {x7 : Int} {s : lf_Z} (hX63 : ∀ (v0 : Int) (v1 : Int) (v2 : Int) (v3 : lf_Z), X631 v0 v1 v2 v3 → X632 v0 v1 v2 v3 → X633 v0 v1 v2 v3) (hX94 : ∀ (v0 : Int) (v1 : Int) (v2 : Int) (v3 : lf_Z), X941 v0 v1 v2 v3 → X942 v0 v1 v2 v3 → X943 v0 v1 v2 v3) (hQ : ∀ (r : Int) (s : lf_Z), Q1 r s → Q2 r s → Q3 r s) (h1 : fm_294_p197 X631 X941 Q1 x1 x2 x3 x4 x5 x6 x7 s) (h2 : fw_294_p197 X632 X942 Q2 x1 x2 x3 x4 x5 x6 x7 s) : fm_294_p197 X633 X943 Q3 x1 x2 x3 x4 x5 x6 x7 s := by
  unfold fm_294_p197 at h1 ⊢
  unfold fw_294_p197 at h2
  exact hX94 _ _ _ _  h1 h2
def fw_294_p94 (X63 : Int → Int → Int → lf_Z → Prop) (Q : Int → lf_Z → Prop) (x1 : Int) (x3 : Int) (x4 : Int) (x5 : Int) (X94 : Int → Int → Int → lf_Z → Prop) (x2 : Int) (x6 : Int) (x7 : Int) (s : lf_Z) : Prop := lf_R x7 → (lf_R (s.1 96 1) → ((s.1 96 1 ≤ x7 → (fw_294_p203 X63 Q x1 x2 x3 x4 s)) ∧ (¬ (s.1 96 1 ≤ x7) → (lf_R x6 → ((10 ≤ x6 → (fw_294_p203 X63 Q x1 x2 x3 x4 s)) ∧ (¬ (10 ≤ x6) → (fw_242 x1 (fun r35 s34 => ((0 ≤ x4 ∧ x4 < 156) → (lf_R (s34.1 112 x4) → (fw_273 r35 x5 (((s34.1 112 x4).tmod 13) - 1) x7 (fun r39 s38 => (lf_R r39 → ((r39 ≠ 0 → (fw_187 x7 x5 (fun r42 s41 => ((0 ≤ ((13 * r42) + x5) + 1 ∧ ((13 * r42) + x5) + 1 < 156) → (lf_R (s41.1 111 (((13 * r42) + x5) + 1)) → ((s41.1 111 (((13 * r42) + x5) + 1) = 0 → ((0 ≤ x2 ∧ x2 < 156) → (fw_294_p197 X63 X94 Q x1 (x2 + 1) x3 x4 x5 r39 x7 (lf_up (lf_up s41.1 111 (((13 * r42) + x5) + 1) 1) 112 x2 (((13 * r42) + x5) + 1), s41.2.1, s41.2.2)))) ∧ (¬ (s41.1 111 (((13 * r42) + x5) + 1) = 0) → (fw_294_p197 X63 X94 Q x1 x2 x3 x4 x5 r39 x7 s41)))))) s38)) ∧ (¬ (r39 ≠ 0) → (fw_294_p197 X63 X94 Q x1 x2 x3 x4 x5 r39 x7 s38))))) s34)))) s)))))))
theorem cj_294_p94 {X631 X632 X633 : Int → Int → Int → lf_Z → Prop} {X941 X942 X943 : Int → Int → Int → lf_Z → Prop} {Q1 Q2 Q3 : Int → lf_Z → Prop} {x1 : Int} {x3 : Int} {x4 : Int} {x5 : Int} {x2 : Int} {x6 : Int} {x7 : Int} {s : lf_Z} (hX63 : ∀ (v0 : Int) (v1 : Int) (v2 : Int) (v3 : lf_Z), X631 v0 v1 v2 v3 → X632 v0 v1 v2 v3 → X633 v0 v1 v2 v3) (hX94 : ∀ (v0 : Int) (v1 : Int) (v2 : Int) (v3 : lf_Z), X941 v0 v1 v2 v3 → X942 v0 v1 v2 v3 → X943 v0 v1 v2 v3) (hQ : ∀ (r : Int) (s : lf_Z), Q1 r s → Q2 r s → Q3 r s) (h1 : fm_294_p94 X631 Q1 x1 x3 x4 x5 X941 x2 x6 x7 s) (h2 : fw_294_p94 X632 Q2 x1 x3 x4 x5 X942 x2 x6 x7 s) : fm_294_p94 X633 Q3 x1 x3 x4 x5 X943 x2 x6 x7 s := by
  unfold fm_294_p94 at h1 ⊢
  unfold fw_294_p94 at h2
  exact ⟨h1.1, ⟨h1.2.1, ⟨(fun c3 => cj_294_p203 hX63 hQ (h1.2.2.1 c3) (((h2 h1.1) h1.2.1).1 c3)), (fun c3 => ⟨(h1.2.2.2 c3).1, ⟨(fun c6 => cj_294_p203 hX63 hQ ((h1.2.2.2 c3).2.1 c6) (((((h2 h1.1) h1.2.1).2 c3) (h1.2.2.2 c3).1).1 c6)), (fun c6 => cj_242 (fun r35 s34 k8 l8 => ⟨k8.1, ⟨k8.2.1, cj_273 (fun r39 s38 k11 l11 => ⟨k11.1, ⟨(fun c13 => cj_187 (fun r42 s41 k14 l14 => ⟨k14.1, ⟨k14.2.1, ⟨(fun c17 => ⟨(k14.2.2.1 c17).1, cj_294_p197 hX63 hX94 hQ (k14.2.2.1 c17).2 ((((l14 k14.1) k14.2.1).1 c17) (k14.2.2.1 c17).1)⟩), (fun c17 => cj_294_p197 hX63 hX94 hQ (k14.2.2.2 c17) (((l14 k14.1) k14.2.1).2 c17))⟩⟩⟩) (k11.2.1 c13) ((l11 k11.1).1 c13)), (fun c13 => cj_294_p197 hX63 hX94 hQ (k11.2.2 c13) ((l11 k11.1).2 c13))⟩⟩) k8.2.2 ((l8 k8.1) k8.2.1)⟩⟩) ((h1.2.2.2 c3).2.2 c6) (((((h2 h1.1) h1.2.1).2 c3) (h1.2.2.2 c3).1).2 c6))⟩⟩)⟩⟩⟩
def fw_294_p94L (X63 : Int → Int → Int → lf_Z → Prop) (Q : Int → lf_Z → Prop) (x1 : Int) (x2 : Int) (x3 : Int) (x4 : Int) (x5 : Int) (x6 : Int) (x7 : Int) (s : lf_Z) : Prop := ∃ X94 : Int → Int → Int → lf_Z → Prop, (∀ (x2 : Int) (x6 : Int) (x7 : Int) (s : lf_Z), X94 x2 x6 x7 s → fw_294_p94 X63 Q x1 x3 x4 x5 X94 x2 x6 x7 s) ∧ X94 x2 x6 x7 s
theorem cj_294_p94L {X631 X632 X633 : Int → Int → Int → lf_Z → Prop} {Q1 Q2 Q3 : Int → lf_Z → Prop} {x1 : Int} {x2 : Int} {x3 : Int} {x4 : Int} {x5 : Int} {x6 : Int} {x7 : Int} {s : lf_Z} (hX63 : ∀ (v0 : Int) (v1 : Int) (v2 : Int) (v3 : lf_Z), X631 v0 v1 v2 v3 → X632 v0 v1 v2 v3 → X633 v0 v1 v2 v3) (hQ : ∀ (r : Int) (s : lf_Z), Q1 r s → Q2 r s → Q3 r s) (h1 : fm_294_p94L X631 Q1 x1 x2 x3 x4 x5 x6 x7 s) (h2 : fw_294_p94L X632 Q2 x1 x2 x3 x4 x5 x6 x7 s) : fm_294_p94L X633 Q3 x1 x2 x3 x4 x5 x6 x7 s := by
  intro X0 hX0
  obtain ⟨Y, hY, hY0⟩ := h2
  exact h1 (fun v0 v1 v2 s => Y v0 v1 v2 s → X0 v0 v1 v2 s) (fun v0 v1 v2 s hb hy => hX0 v0 v1 v2 s (cj_294_p94 (hX63 := hX63) (X941 := fun v0 v1 v2 s => Y v0 v1 v2 s → X0 v0 v1 v2 s) (X942 := Y) (X943 := X0) (hX94 := fun v0 v1 v2 s a b => a b) hQ hb (hY v0 v1 v2 s hy))) hY0
def fw_294_p63 (Q : Int → lf_Z → Prop) (x1 : Int) (X63 : Int → Int → Int → lf_Z → Prop) (x2 : Int) (x3 : Int) (x4 : Int) (s : lf_Z) : Prop := lf_R x4 → (lf_R x2 → ((x2 ≤ x4 → (Q x3 s)) ∧ (¬ (x2 ≤ x4) → ((0 ≤ x4 ∧ x4 < 156) → (lf_R (s.1 112 x4) → (fw_294_p94L X63 Q x1 x2 (lf_or x3 (lf_shl 1 ((s.1 112 x4).tdiv 13))) x4 ((s.1 112 x4).tdiv 13) 0 0 s))))))
theorem cj_294_p63 {X631 X632 X633 : Int → Int → Int → lf_Z → Prop} {Q1 Q2 Q3 : Int → lf_Z → Prop} {x1 : Int} {x2 : Int} {x3 : Int} {x4 : Int} {s : lf_Z} (hX63 : ∀ (v0 : Int) (v1 : Int) (v2 : Int) (v3 : lf_Z), X631 v0 v1 v2 v3 → X632 v0 v1 v2 v3 → X633 v0 v1 v2 v3) (hQ : ∀ (r : Int) (s : lf_Z), Q1 r s → Q2 r s → Q3 r s) (h1 : fm_294_p63 Q1 x1 X631 x2 x3 x4 s) (h2 : fw_294_p63 Q2 x1 X632 x2 x3 x4 s) : fm_294_p63 Q3 x1 X633 x2 x3 x4 s := by
  unfold fm_294_p63 at h1 ⊢
  unfold fw_294_p63 at h2
  exact ⟨h1.1, ⟨h1.2.1, ⟨(fun c3 => hQ _ _  (h1.2.2.1 c3) (((h2 h1.1) h1.2.1).1 c3)), (fun c3 => ⟨(h1.2.2.2 c3).1, ⟨(h1.2.2.2 c3).2.1, cj_294_p94L hX63 hQ (h1.2.2.2 c3).2.2 (((((h2 h1.1) h1.2.1).2 c3) (h1.2.2.2 c3).1) (h1.2.2.2 c3).2.1)⟩⟩)⟩⟩⟩
def fw_294_p63L (Q : Int → lf_Z → Prop) (x1 : Int) (x2 : Int) (x3 : Int) (x4 : Int) (s : lf_Z) : Prop := ∃ X63 : Int → Int → Int → lf_Z → Prop, (∀ (x2 : Int) (x3 : Int) (x4 : Int) (s : lf_Z), X63 x2 x3 x4 s → fw_294_p63 Q x1 X63 x2 x3 x4 s) ∧ X63 x2 x3 x4 s
theorem cj_294_p63L {Q1 Q2 Q3 : Int → lf_Z → Prop} {x1 : Int} {x2 : Int} {x3 : Int} {x4 : Int} {s : lf_Z} (hQ : ∀ (r : Int) (s : lf_Z), Q1 r s → Q2 r s → Q3 r s) (h1 : fm_294_p63L Q1 x1 x2 x3 x4 s) (h2 : fw_294_p63L Q2 x1 x2 x3 x4 s) : fm_294_p63L Q3 x1 x2 x3 x4 s := by
  intro X0 hX0
  obtain ⟨Y, hY, hY0⟩ := h2
  exact h1 (fun v0 v1 v2 s => Y v0 v1 v2 s → X0 v0 v1 v2 s) (fun v0 v1 v2 s hb hy => hX0 v0 v1 v2 s (cj_294_p63 (X631 := fun v0 v1 v2 s => Y v0 v1 v2 s → X0 v0 v1 v2 s) (X632 := Y) (X633 := X0) (hX63 := fun v0 v1 v2 s a b => a b) hQ hb (hY v0 v1 v2 s hy))) hY0
def fw_294_p2 (Q : Int → lf_Z → Prop) (x1 : Int) (X2 : Int → lf_Z → Prop) (x2 : Int) (s : lf_Z) : Prop := lf_R x2 → ((156 ≤ x2 → (fw_255 x1 (fun r23 s22 => (fw_256 x1 (fun r25 s24 => ((0 ≤ ((13 * r23) + r25) + 1 ∧ ((13 * r23) + r25) + 1 < 156) → (fw_294_p63L Q x1 1 0 0 (lf_up (lf_up s24.1 112 0 (((13 * r23) + r25) + 1)) 111 (((13 * r23) + r25) + 1) 1, s24.2.1, s24.2.2)))) s22)) s)) ∧ (¬ (156 ≤ x2) → ((0 ≤ x2 ∧ x2 < 156) → (X2 (x2 + 1) (lf_up s.1 111 x2 0, s.2.1, s.2.2)))))
theorem cj_294_p2 {X21 X22 X23 : Int → lf_Z → Prop} {Q1 Q2 Q3 : Int → lf_Z → Prop} {x1 : Int} {x2 : Int} {s : lf_Z} (hX2 : ∀ (v0 : Int) (v1 : lf_Z), X21 v0 v1 → X22 v0 v1 → X23 v0 v1) (hQ : ∀ (r : Int) (s : lf_Z), Q1 r s → Q2 r s → Q3 r s) (h1 : fm_294_p2 Q1 x1 X21 x2 s) (h2 : fw_294_p2 Q2 x1 X22 x2 s) : fm_294_p2 Q3 x1 X23 x2 s := by
  unfold fm_294_p2 at h1 ⊢
  unfold fw_294_p2 at h2
  exact ⟨h1.1, ⟨(fun c2 => cj_255 (fun r23 s22 k3 l3 => cj_256 (fun r25 s24 k4 l4 => ⟨k4.1, cj_294_p63L hQ k4.2 (l4 k4.1)⟩) k3 l3) (h1.2.1 c2) ((h2 h1.1).1 c2)), (fun c2 => ⟨(h1.2.2 c2).1, hX2 _ _  (h1.2.2 c2).2 (((h2 h1.1).2 c2) (h1.2.2 c2).1)⟩)⟩⟩
def fw_294_p2L (Q : Int → lf_Z → Prop) (x1 : Int) (x2 : Int) (s : lf_Z) : Prop := ∃ X2 : Int → lf_Z → Prop, (∀ (x2 : Int) (s : lf_Z), X2 x2 s → fw_294_p2 Q x1 X2 x2 s) ∧ X2 x2 s
theorem cj_294_p2L {Q1 Q2 Q3 : Int → lf_Z → Prop} {x1 : Int} {x2 : Int} {s : lf_Z} (hQ : ∀ (r : Int) (s : lf_Z), Q1 r s → Q2 r s → Q3 r s) (h1 : fm_294_p2L Q1 x1 x2 s) (h2 : fw_294_p2L Q2 x1 x2 s) : fm_294_p2L Q3 x1 x2 s := by
  intro X0 hX0
  obtain ⟨Y, hY, hY0⟩ := h2
  exact h1 (fun v0 s => Y v0 s → X0 v0 s) (fun v0 s hb hy => hX0 v0 s (cj_294_p2 (X21 := fun v0 s => Y v0 s → X0 v0 s) (X22 := Y) (X23 := X0) (hX2 := fun v0 s a b => a b) hQ hb (hY v0 s hy))) hY0
def fw_294 (a1 : Int) (Q : Int → lf_Z → Prop) (s : lf_Z) : Prop := fw_294_p2L Q a1 0 s
theorem cj_294 {Q1 Q2 Q3 : Int → lf_Z → Prop} {a1 : Int} {s : lf_Z} (hQ : ∀ (r : Int) (s : lf_Z), Q1 r s → Q2 r s → Q3 r s) (h1 : fm_294 a1 Q1 s) (h2 : fw_294 a1 Q2 s) : fm_294 a1 Q3 s := by
  unfold fm_294 at h1 ⊢
  unfold fw_294 at h2
  exact cj_294_p2L hQ h1 h2
def fw_293 (a1 : Int) (Q : Int → lf_Z → Prop) (s : lf_Z) : Prop := fw_254 a1 (fun z22 s21 => ((z22 = false → (Q (-1) s21)) ∧ (z22 = true → (fw_294 a1 (fun r24 s23 => (Q r24 s23)) s21)))) s
theorem cj_293 {Q1 Q2 Q3 : Int → lf_Z → Prop} {a1 : Int} {s : lf_Z} (hQ : ∀ (r : Int) (s : lf_Z), Q1 r s → Q2 r s → Q3 r s) (h1 : fm_293 a1 Q1 s) (h2 : fw_293 a1 Q2 s) : fm_293 a1 Q3 s := by
  unfold fm_293 at h1 ⊢
  unfold fw_293 at h2
  exact cj_254 (fun z22 s21 k1 l1 => ⟨(fun c2 => hQ _ _  (k1.1 c2) (l1.1 c2)), (fun c2 => cj_294 (fun r24 s23 k4 l4 => hQ _ _  k4 l4) (k1.2 c2) (l1.2 c2))⟩) h1 h2
def fw_132_p28 (X4 : Int → Int → lf_Z → Prop) (Q : Int → lf_Z → Prop) (x1 : Int) (x2 : Int) (x3 : Int) (s : lf_Z) : Prop := X4 x2 (x3 + 1) s
theorem cj_132_p28 {X41 X42 X43 : Int → Int → lf_Z → Prop} {Q1 Q2 Q3 : Int → lf_Z → Prop} {x1 : Int} {x2 : Int} {x3 : Int} {s : lf_Z} (hX4 : ∀ (v0 : Int) (v1 : Int) (v2 : lf_Z), X41 v0 v1 v2 → X42 v0 v1 v2 → X43 v0 v1 v2) (hQ : ∀ (r : Int) (s : lf_Z), Q1 r s → Q2 r s → Q3 r s) (h1 : fm_132_p28 X41 Q1 x1 x2 x3 s) (h2 : fw_132_p28 X42 Q2 x1 x2 x3 s) : fm_132_p28 X43 Q3 x1 x2 x3 s := by
  unfold fm_132_p28 at h1 ⊢
  unfold fw_132_p28 at h2
  exact hX4 _ _ _  h1 h2
def fw_132_p4 (Q : Int → lf_Z → Prop) (x1 : Int) (X4 : Int → Int → lf_Z → Prop) (x2 : Int) (x3 : Int) (s : lf_Z) : Prop := lf_R x3 → (lf_R (s.1 1 0) → ((s.1 1 0 ≤ x3 → (Q x2 s)) ∧ (¬ (s.1 1 0 ≤ x3) → ((0 ≤ x3 ∧ x3 < 12) → (lf_R (s.1 2 x3) → (lf_R x1 → ((s.1 2 x3 ≠ x1 → (fw_132_p28 X4 Q x1 x2 x3 s)) ∧ (¬ (s.1 2 x3 ≠ x1) → (fw_132_p28 X4 Q x1 (lf_or x2 (lf_shl 1 x3)) x3 s)))))))))
theorem cj_132_p4 {X41 X42 X43 : Int → Int → lf_Z → Prop} {Q1 Q2 Q3 : Int → lf_Z → Prop} {x1 : Int} {x2 : Int} {x3 : Int} {s : lf_Z} (hX4 : ∀ (v0 : Int) (v1 : Int) (v2 : lf_Z), X41 v0 v1 v2 → X42 v0 v1 v2 → X43 v0 v1 v2) (hQ : ∀ (r : Int) (s : lf_Z), Q1 r s → Q2 r s → Q3 r s) (h1 : fm_132_p4 Q1 x1 X41 x2 x3 s) (h2 : fw_132_p4 Q2 x1 X42 x2 x3 s) : fm_132_p4 Q3 x1 X43 x2 x3 s := by
  unfold fm_132_p4 at h1 ⊢
  unfold fw_132_p4 at h2
  exact ⟨h1.1, ⟨h1.2.1, ⟨(fun c3 => hQ _ _  (h1.2.2.1 c3) (((h2 h1.1) h1.2.1).1 c3)), (fun c3 => ⟨(h1.2.2.2 c3).1, ⟨(h1.2.2.2 c3).2.1, ⟨(h1.2.2.2 c3).2.2.1, ⟨(fun c8 => cj_132_p28 hX4 hQ ((h1.2.2.2 c3).2.2.2.1 c8) (((((((h2 h1.1) h1.2.1).2 c3) (h1.2.2.2 c3).1) (h1.2.2.2 c3).2.1) (h1.2.2.2 c3).2.2.1).1 c8)), (fun c8 => cj_132_p28 hX4 hQ ((h1.2.2.2 c3).2.2.2.2 c8) (((((((h2 h1.1) h1.2.1).2 c3) (h1.2.2.2 c3).1) (h1.2.2.2 c3).2.1) (h1.2.2.2 c3).2.2.1).2 c8))⟩⟩⟩⟩)⟩⟩⟩
def fw_132_p4L (Q : Int → lf_Z → Prop) (x1 : Int) (x2 : Int) (x3 : Int) (s : lf_Z) : Prop := ∃ X4 : Int → Int → lf_Z → Prop, (∀ (x2 : Int) (x3 : Int) (s : lf_Z), X4 x2 x3 s → fw_132_p4 Q x1 X4 x2 x3 s) ∧ X4 x2 x3 s
theorem cj_132_p4L {Q1 Q2 Q3 : Int → lf_Z → Prop} {x1 : Int} {x2 : Int} {x3 : Int} {s : lf_Z} (hQ : ∀ (r : Int) (s : lf_Z), Q1 r s → Q2 r s → Q3 r s) (h1 : fm_132_p4L Q1 x1 x2 x3 s) (h2 : fw_132_p4L Q2 x1 x2 x3 s) : fm_132_p4L Q3 x1 x2 x3 s := by
  intro X0 hX0
  obtain ⟨Y, hY, hY0⟩ := h2
  exact h1 (fun v0 v1 s => Y v0 v1 s → X0 v0 v1 s) (fun v0 v1 s hb hy => hX0 v0 v1 s (cj_132_p4 (X41 := fun v0 v1 s => Y v0 v1 s → X0 v0 v1 s) (X42 := Y) (X43 := X0) (hX4 := fun v0 v1 s a b => a b) hQ hb (hY v0 v1 s hy))) hY0
def fw_132 (a1 : Int) (Q : Int → lf_Z → Prop) (s : lf_Z) : Prop := fw_132_p4L Q a1 0 0 s
theorem cj_132 {Q1 Q2 Q3 : Int → lf_Z → Prop} {a1 : Int} {s : lf_Z} (hQ : ∀ (r : Int) (s : lf_Z), Q1 r s → Q2 r s → Q3 r s) (h1 : fm_132 a1 Q1 s) (h2 : fw_132 a1 Q2 s) : fm_132 a1 Q3 s := by
  unfold fm_132 at h1 ⊢
  unfold fw_132 at h2
  exact cj_132_p4L hQ h1 h2
def fw_133 (a0 : Int) (Q : Int → lf_Z → Prop) (s : lf_Z) : Prop := (lf_and a0 (lf_w (-a0)) ≠ 0 → ((lf_and a0 (lf_w (-a0))) ≠ 0 → (Q (lf_or (lf_w (a0 + (lf_and a0 (lf_w (-a0))))) (lf_ushr (lf_w ((lf_xor a0 (lf_w (a0 + (lf_and a0 (lf_w (-a0)))))).tdiv (lf_and a0 (lf_w (-a0))))) 2)) s))) ∧ (¬ (lf_and a0 (lf_w (-a0)) ≠ 0) → (Q 65536 s))
theorem cj_133 {Q1 Q2 Q3 : Int → lf_Z → Prop} {a0 : Int} {s : lf_Z} (hQ : ∀ (r : Int) (s : lf_Z), Q1 r s → Q2 r s → Q3 r s) (h1 : fm_133 a0 Q1 s) (h2 : fw_133 a0 Q2 s) : fm_133 a0 Q3 s := by
  unfold fm_133 at h1 ⊢
  unfold fw_133 at h2
  exact ⟨(fun c1 => ⟨(h1.1 c1).1, hQ _ _  (h1.1 c1).2 ((h2.1 c1) (h1.1 c1).1)⟩), (fun c1 => hQ _ _  (h1.2 c1) (h2.2 c1))⟩
def fw_131_p120 (X29 : Int → lf_Z → Prop) (Q : Int → lf_Z → Prop) (x1 : Int) (x3 : Int) (x4 : Int) (x5 : Int) (s : lf_Z) : Prop := X29 (x5 + 1) s
theorem cj_131_p120 {X291 X292 X293 : Int → lf_Z → Prop} {Q1 Q2 Q3 : Int → lf_Z → Prop} {x1 : Int} {x3 : Int} {x4 : Int} {x5 : Int} {s : lf_Z} (hX29 : ∀ (v0 : Int) (v1 : lf_Z), X291 v0 v1 → X292 v0 v1 → X293 v0 v1) (hQ : ∀ (r : Int) (s : lf_Z), Q1 r s → Q2 r s → Q3 r s) (h1 : fm_131_p120 X291 Q1 x1 x3 x4 x5 s) (h2 : fw_131_p120 X292 Q2 x1 x3 x4 x5 s) : fm_131_p120 X293 Q3 x1 x3 x4 x5 s := by
  unfold fm_131_p120 at h1 ⊢
  unfold fw_131_p120 at h2
  exact hX29 _ _  h1 h2
def fw_131_p112 (X29 : Int → lf_Z → Prop) (X46 : Int → Int → lf_Z → Prop) (Q : Int → lf_Z → Prop) (x1 : Int) (x3 : Int) (x4 : Int) (x5 : Int) (x7 : Int) (y0 : Int) (s : lf_Z) : Prop := X46 y0 (x7 + 1) s
theorem cj_131_p112 {X291 X292 X293 : Int → lf_Z → Prop} {X461 X462 X463 : Int → Int → lf_Z → Prop} {Q1 Q2 Q3 : Int → lf_Z → Prop} {x1 : Int} {x3 : Int} {x4 : Int} {x5 : Int} {x7 : Int} {y0 : Int} {s : lf_Z} (hX29 : ∀ (v0 : Int) (v1 : lf_Z), X291 v0 v1 → X292 v0 v1 → X293 v0 v1) (hX46 : ∀ (v0 : Int) (v1 : Int) (v2 : lf_Z), X461 v0 v1 v2 → X462 v0 v1 v2 → X463 v0 v1 v2) (hQ : ∀ (r : Int) (s : lf_Z), Q1 r s → Q2 r s → Q3 r s) (h1 : fm_131_p112 X291 X461 Q1 x1 x3 x4 x5 x7 y0 s) (h2 : fw_131_p112 X292 X462 Q2 x1 x3 x4 x5 x7 y0 s) : fm_131_p112 X293 X463 Q3 x1 x3 x4 x5 x7 y0 s := by
  unfold fm_131_p112 at h1 ⊢
  unfold fw_131_p112 at h2
  exact hX46 _ _ _  h1 h2
def fw_131_p97 (X29 : Int → lf_Z → Prop) (X46 : Int → Int → lf_Z → Prop) (Q : Int → lf_Z → Prop) (x1 : Int) (x3 : Int) (x4 : Int) (x5 : Int) (x6 : Int) (x7 : Int) (s : lf_Z) : Prop := lf_R x5 → ((x5 ≠ 0 → (fw_133 x6 (fun r31 s30 => (fw_131_p112 X29 X46 Q x1 x3 x4 x5 x7 r31 s30)) s)) ∧ (¬ (x5 ≠ 0) → (fw_131_p112 X29 X46 Q x1 x3 x4 x5 x7 x4 s)))
theorem cj_131_p97 {X291 X292 X293 : Int → lf_Z → Prop} {X461 X462 X463 : Int → Int → lf_Z → Prop} {Q1 Q2 Q3 : Int → lf_Z → Prop} {x1 : Int} {x3 : Int} {x4 : Int} {x5 : Int} {x6 : Int} {x7 : Int} {s : lf_Z} (hX29 : ∀ (v0 : Int) (v1 : lf_Z), X291 v0 v1 → X292 v0 v1 → X293 v0 v1) (hX46 : ∀ (v0 : Int) (v1 : Int) (v2 : lf_Z), X461 v0 v1 v2 → X462 v0 v1 v2 → X463 v0 v1 v2) (hQ : ∀ (r : Int) (s : lf_Z), Q1 r s → Q2 r s → Q3 r s) (h1 : fm_131_p97 X291 X461 Q1 x1 x3 x4 x5 x6 x7 s) (h2 : fw_131_p97 X292 X462 Q2 x1 x3 x4 x5 x6 x7 s) : fm_131_p97 X293 X463 Q3 x1 x3 x4 x5 x6 x7 s := by
  unfold fm_131_p97 at h1 ⊢
  unfold fw_131_p97 at h2
  exact ⟨h1.1, ⟨(fun c2 => cj_133 (fun r31 s30 k3 l3 => cj_131_p112 hX29 hX46 hQ k3 l3) (h1.2.1 c2) ((h2 h1.1).1 c2)), (fun c2 => cj_131_p112 hX29 hX46 hQ (h1.2.2 c2) ((h2 h1.1).2 c2))⟩⟩
def fw_131_p46 (X29 : Int → lf_Z → Prop) (Q : Int → lf_Z → Prop) (x1 : Int) (x3 : Int) (x4 : Int) (x5 : Int) (X46 : Int → Int → lf_Z → Prop) (x6 : Int) (x7 : Int) (s : lf_Z) : Prop := lf_R x7 → ((1000 ≤ x7 → (fw_131_p120 X29 Q x1 x3 x4 x5 s)) ∧ (¬ (1000 ≤ x7) → (lf_R x6 → (lf_R x4 → ((x4 ≤ x6 → (fw_131_p120 X29 Q x1 x3 x4 x5 s)) ∧ (¬ (x4 ≤ x6) → ((0 ≤ x1 ∧ x1 < 4) → ((lf_and (lf_shr x6 (s.1 17 x1)) 1 ≠ 0 → (fw_131_p97 X29 X46 Q x1 x3 x4 x5 x6 x7 (lf_up s.1 68 10 x6, s.2.1, s.2.2))) ∧ (¬ (lf_and (lf_shr x6 (s.1 17 x1)) 1 ≠ 0) → (fw_128 x1 (fun r33 s32 => ((lf_and r33 x3 ≠ 0 → (fw_131_p97 X29 X46 Q x1 x3 x4 x5 x6 x7 s32)) ∧ (¬ (lf_and r33 x3 ≠ 0) → (Q x6 s32)))) (lf_up s.1 68 10 x6, s.2.1, s.2.2)))))))))))
theorem cj_131_p46 {X291 X292 X293 : Int → lf_Z → Prop} {X461 X462 X463 : Int → Int → lf_Z → Prop} {Q1 Q2 Q3 : Int → lf_Z → Prop} {x1 : Int} {x3 : Int} {x4 : Int} {x5 : Int} {x6 : Int} {x7 : Int} {s : lf_Z} (hX29 : ∀ (v0 : Int) (v1 : lf_Z), X291 v0 v1 → X292 v0 v1 → X293 v0 v1) (hX46 : ∀ (v0 : Int) (v1 : Int) (v2 : lf_Z), X461 v0 v1 v2 → X462 v0 v1 v2 → X463 v0 v1 v2) (hQ : ∀ (r : Int) (s : lf_Z), Q1 r s → Q2 r s → Q3 r s) (h1 : fm_131_p46 X291 Q1 x1 x3 x4 x5 X461 x6 x7 s) (h2 : fw_131_p46 X292 Q2 x1 x3 x4 x5 X462 x6 x7 s) : fm_131_p46 X293 Q3 x1 x3 x4 x5 X463 x6 x7 s := by
  unfold fm_131_p46 at h1 ⊢
  unfold fw_131_p46 at h2
  exact ⟨h1.1, ⟨(fun c2 => cj_131_p120 hX29 hQ (h1.2.1 c2) ((h2 h1.1).1 c2)), (fun c2 => ⟨(h1.2.2 c2).1, ⟨(h1.2.2 c2).2.1, ⟨(fun c6 => cj_131_p120 hX29 hQ ((h1.2.2 c2).2.2.1 c6) (((((h2 h1.1).2 c2) (h1.2.2 c2).1) (h1.2.2 c2).2.1).1 c6)), (fun c6 => ⟨((h1.2.2 c2).2.2.2 c6).1, ⟨(fun c9 => cj_131_p97 hX29 hX46 hQ (((h1.2.2 c2).2.2.2 c6).2.1 c9) (((((((h2 h1.1).2 c2) (h1.2.2 c2).1) (h1.2.2 c2).2.1).2 c6) ((h1.2.2 c2).2.2.2 c6).1).1 c9)), (fun c9 => cj_128 (fun r33 s32 k11 l11 => ⟨(fun c12 => cj_131_p97 hX29 hX46 hQ (k11.1 c12) (l11.1 c12)), (fun c12 => hQ _ _  (k11.2 c12) (l11.2 c12))⟩) (((h1.2.2 c2).2.2.2 c6).2.2 c9) (((((((h2 h1.1).2 c2) (h1.2.2 c2).1) (h1.2.2 c2).2.1).2 c6) ((h1.2.2 c2).2.2.2 c6).1).2 c9))⟩⟩)⟩⟩⟩)⟩⟩
def fw_131_p46L (X29 : Int → lf_Z → Prop) (Q : Int → lf_Z → Prop) (x1 : Int) (x3 : Int) (x4 : Int) (x5 : Int) (x6 : Int) (x7 : Int) (s : lf_Z) : Prop := ∃ X46 : Int → Int → lf_Z → Prop, (∀ (x6 : Int) (x7 : Int) (s : lf_Z), X46 x6 x7 s → fw_131_p46 X29 Q x1 x3 x4 x5 X46 x6 x7 s) ∧ X46 x6 x7 s
theorem cj_131_p46L {X291 X292 X293 : Int → lf_Z → Prop} {Q1 Q2 Q3 : Int → lf_Z → Prop} {x1 : Int} {x3 : Int} {x4 : Int} {x5 : Int} {x6 : Int} {x7 : Int} {s : lf_Z} (hX29 : ∀ (v0 : Int) (v1 : lf_Z), X291 v0 v1 → X292 v0 v1 → X293 v0 v1) (hQ : ∀ (r : Int) (s : lf_Z), Q1 r s → Q2 r s → Q3 r s) (h1 : fm_131_p46L X291 Q1 x1 x3 x4 x5 x6 x7 s) (h2 : fw_131_p46L X292 Q2 x1 x3 x4 x5 x6 x7 s) : fm_131_p46L X293 Q3 x1 x3 x4 x5 x6 x7 s := by
  intro X0 hX0
  obtain ⟨Y, hY, hY0⟩ := h2
  exact h1 (fun v0 v1 s => Y v0 v1 s → X0 v0 v1 s) (fun v0 v1 s hb hy => hX0 v0 v1 s (cj_131_p46 (hX29 := hX29) (X461 := fun v0 v1 s => Y v0 v1 s → X0 v0 v1 s) (X462 := Y) (X463 := X0) (hX46 := fun v0 v1 s a b => a b) hQ hb (hY v0 v1 s hy))) hY0
def fw_131_p29 (Q : Int → lf_Z → Prop) (x1 : Int) (x3 : Int) (x4 : Int) (X29 : Int → lf_Z → Prop) (x5 : Int) (s : lf_Z) : Prop := lf_R x5 → ((3 < x5 → (Q (-1) s)) ∧ (¬ (3 < x5) → (fw_131_p46L X29 Q x1 x3 x4 x5 ((lf_shl 1 x5) - 1) 0 s)))
theorem cj_131_p29 {X291 X292 X293 : Int → lf_Z → Prop} {Q1 Q2 Q3 : Int → lf_Z → Prop} {x1 : Int} {x3 : Int} {x4 : Int} {x5 : Int} {s : lf_Z} (hX29 : ∀ (v0 : Int) (v1 : lf_Z), X291 v0 v1 → X292 v0 v1 → X293 v0 v1) (hQ : ∀ (r : Int) (s : lf_Z), Q1 r s → Q2 r s → Q3 r s) (h1 : fm_131_p29 Q1 x1 x3 x4 X291 x5 s) (h2 : fw_131_p29 Q2 x1 x3 x4 X292 x5 s) : fm_131_p29 Q3 x1 x3 x4 X293 x5 s := by
  unfold fm_131_p29 at h1 ⊢
  unfold fw_131_p29 at h2
  exact ⟨h1.1, ⟨(fun c2 => hQ _ _  (h1.2.1 c2) ((h2 h1.1).1 c2)), (fun c2 => cj_131_p46L hX29 hQ (h1.2.2 c2) ((h2 h1.1).2 c2))⟩⟩
def fw_131_p29L (Q : Int → lf_Z → Prop) (x1 : Int) (x3 : Int) (x4 : Int) (x5 : Int) (s : lf_Z) : Prop := ∃ X29 : Int → lf_Z → Prop, (∀ (x5 : Int) (s : lf_Z), X29 x5 s → fw_131_p29 Q x1 x3 x4 X29 x5 s) ∧ X29 x5 s
theorem cj_131_p29L {Q1 Q2 Q3 : Int → lf_Z → Prop} {x1 : Int} {x3 : Int} {x4 : Int} {x5 : Int} {s : lf_Z} (hQ : ∀ (r : Int) (s : lf_Z), Q1 r s → Q2 r s → Q3 r s) (h1 : fm_131_p29L Q1 x1 x3 x4 x5 s) (h2 : fw_131_p29L Q2 x1 x3 x4 x5 s) : fm_131_p29L Q3 x1 x3 x4 x5 s := by
  intro X0 hX0
  obtain ⟨Y, hY, hY0⟩ := h2
  exact h1 (fun v0 s => Y v0 s → X0 v0 s) (fun v0 s hb hy => hX0 v0 s (cj_131_p29 (X291 := fun v0 s => Y v0 s → X0 v0 s) (X292 := Y) (X293 := X0) (hX29 := fun v0 s a b => a b) hQ hb (hY v0 s hy))) hY0
def fw_131 (a1 : Int) (a2 : Int) (Q : Int → lf_Z → Prop) (s : lf_Z) : Prop := fw_118 a1 a2 (fun s21 => (fw_132 2 (fun r23 s22 => (fw_131_p29L Q a1 r23 (lf_shl 1 (s22.1 1 0)) 0 s22)) s21)) s
theorem cj_131 {Q1 Q2 Q3 : Int → lf_Z → Prop} {a1 : Int} {a2 : Int} {s : lf_Z} (hQ : ∀ (r : Int) (s : lf_Z), Q1 r s → Q2 r s → Q3 r s) (h1 : fm_131 a1 a2 Q1 s) (h2 : fw_131 a1 a2 Q2 s) : fm_131 a1 a2 Q3 s := by
  unfold fm_131 at h1 ⊢
  unfold fw_131 at h2
  exact cj_118 (fun s21 k1 l1 => cj_132 (fun r23 s22 k2 l2 => cj_131_p29L hQ k2 l2) k1 l1) h1 h2
def fw_130 (a1 : Int) (a2 : Int) (Q : Int → lf_Z → Prop) (s : lf_Z) : Prop := fw_80 a1 (fun z22 s21 => ((z22 = false → (Q (-1) s21)) ∧ (z22 = true → (fw_15 a2 0 9 (fun z24 s23 => ((z24 = true → (fw_131 a1 a2 (fun r26 s25 => (Q r26 s25)) s23)) ∧ (z24 = false → (Q (-1) s23)))) s21)))) s
theorem cj_130 {Q1 Q2 Q3 : Int → lf_Z → Prop} {a1 : Int} {a2 : Int} {s : lf_Z} (hQ : ∀ (r : Int) (s : lf_Z), Q1 r s → Q2 r s → Q3 r s) (h1 : fm_130 a1 a2 Q1 s) (h2 : fw_130 a1 a2 Q2 s) : fm_130 a1 a2 Q3 s := by
  unfold fm_130 at h1 ⊢
  unfold fw_130 at h2
  exact cj_80 (fun z22 s21 k1 l1 => ⟨(fun c2 => hQ _ _  (k1.1 c2) (l1.1 c2)), (fun c2 => cj_15 (fun z24 s23 k4 l4 => ⟨(fun c5 => cj_131 (fun r26 s25 k6 l6 => hQ _ _  k6 l6) (k4.1 c5) (l4.1 c5)), (fun c5 => hQ _ _  (k4.2 c5) (l4.2 c5))⟩) (k1.2 c2) (l1.2 c2))⟩) h1 h2
def fw_296_p44 (X5 : Int → Int → lf_Z → Prop) (Q : Int → lf_Z → Prop) (x1 : Int) (x2 : Int) (x4 : Int) (y0 : Int) (y1 : Int) (s : lf_Z) : Prop := X5 (lf_or y0 y1) (x4 + 1) s
theorem cj_296_p44 {X51 X52 X53 : Int → Int → lf_Z → Prop} {Q1 Q2 Q3 : Int → lf_Z → Prop} {x1 : Int} {x2 : Int} {x4 : Int} {y0 : Int} {y1 : Int} {s : lf_Z} (hX5 : ∀ (v0 : Int) (v1 : Int) (v2 : lf_Z), X51 v0 v1 v2 → X52 v0 v1 v2 → X53 v0 v1 v2) (hQ : ∀ (r : Int) (s : lf_Z), Q1 r s → Q2 r s → Q3 r s) (h1 : fm_296_p44 X51 Q1 x1 x2 x4 y0 y1 s) (h2 : fw_296_p44 X52 Q2 x1 x2 x4 y0 y1 s) : fm_296_p44 X53 Q3 x1 x2 x4 y0 y1 s := by
  unfold fm_296_p44 at h1 ⊢
  unfold fw_296_p44 at h2
  exact hX5 _ _ _  h1 h2
def fw_296_p43 (X5 : Int → Int → lf_Z → Prop) (Q : Int → lf_Z → Prop) (x1 : Int) (x2 : Int) (x4 : Int) (y0 : Int) (s : lf_Z) : Prop := fw_296_p44 X5 Q x1 x2 x4 y0 0 s
theorem cj_296_p43 {X51 X52 X53 : Int → Int → lf_Z → Prop} {Q1 Q2 Q3 : Int → lf_Z → Prop} {x1 : Int} {x2 : Int} {x4 : Int} {y0 : Int} {s : lf_Z} (hX5 : ∀ (v0 : Int) (v1 : Int) (v2 : lf_Z), X51 v0 v1 v2 → X52 v0 v1 v2 → X53 v0 v1 v2) (hQ : ∀ (r : Int) (s : lf_Z), Q1 r s → Q2 r s → Q3 r s) (h1 : fm_296_p43 X51 Q1 x1 x2 x4 y0 s) (h2 : fw_296_p43 X52 Q2 x1 x2 x4 y0 s) : fm_296_p43 X53 Q3 x1 x2 x4 y0 s := by
  unfold fm_296_p43 at h1 ⊢
  unfold fw_296_p43 at h2
  exact cj_296_p44 hX5 hQ h1 h2
def fw_296_p5 (Q : Int → lf_Z → Prop) (x1 : Int) (x2 : Int) (X5 : Int → Int → lf_Z → Prop) (x3 : Int) (x4 : Int) (s : lf_Z) : Prop := lf_R x4 → (lf_R (s.1 96 0) → ((s.1 96 0 ≤ x4 → (Q x3 s)) ∧ (¬ (s.1 96 0 ≤ x4) → (fw_210 x1 x4 (fun z24 s23 => ((z24 = false → (fw_296_p43 X5 Q x1 x2 x4 x3 s23)) ∧ (z24 = true → (fw_265 x4 (fun r26 s25 => (lf_R r26 → (lf_R x2 → ((r26 ≠ x2 → (fw_296_p43 X5 Q x1 x2 x4 x3 s25)) ∧ (¬ (r26 ≠ x2) → (fw_296_p44 X5 Q x1 x2 x4 x3 (lf_shl 1 x4) s25)))))) s23)))) s))))
theorem cj_296_p5 {X51 X52 X53 : Int → Int → lf_Z → Prop} {Q1 Q2 Q3 : Int → lf_Z → Prop} {x1 : Int} {x2 : Int} {x3 : Int} {x4 : Int} {s : lf_Z} (hX5 : ∀ (v0 : Int) (v1 : Int) (v2 : lf_Z), X51 v0 v1 v2 → X52 v0 v1 v2 → X53 v0 v1 v2) (hQ : ∀ (r : Int) (s : lf_Z), Q1 r s → Q2 r s → Q3 r s) (h1 : fm_296_p5 Q1 x1 x2 X51 x3 x4 s) (h2 : fw_296_p5 Q2 x1 x2 X52 x3 x4 s) : fm_296_p5 Q3 x1 x2 X53 x3 x4 s := by
  unfold fm_296_p5 at h1 ⊢
  unfold fw_296_p5 at h2
  exact ⟨h1.1, ⟨h1.2.1, ⟨(fun c3 => hQ _ _  (h1.2.2.1 c3) (((h2 h1.1) h1.2.1).1 c3)), (fun c3 => cj_210 (fun z24 s23 k5 l5 => ⟨(fun c6 => cj_296_p43 hX5 hQ (k5.1 c6) (l5.1 c6)), (fun c6 => cj_265 (fun r26 s25 k8 l8 => ⟨k8.1, ⟨k8.2.1, ⟨(fun c11 => cj_296_p43 hX5 hQ (k8.2.2.1 c11) (((l8 k8.1) k8.2.1).1 c11)), (fun c11 => cj_296_p44 hX5 hQ (k8.2.2.2 c11) (((l8 k8.1) k8.2.1).2 c11))⟩⟩⟩) (k5.2 c6) (l5.2 c6))⟩) (h1.2.2.2 c3) (((h2 h1.1) h1.2.1).2 c3))⟩⟩⟩
def fw_296_p5L (Q : Int → lf_Z → Prop) (x1 : Int) (x2 : Int) (x3 : Int) (x4 : Int) (s : lf_Z) : Prop := ∃ X5 : Int → Int → lf_Z → Prop, (∀ (x3 : Int) (x4 : Int) (s : lf_Z), X5 x3 x4 s → fw_296_p5 Q x1 x2 X5 x3 x4 s) ∧ X5 x3 x4 s
theorem cj_296_p5L {Q1 Q2 Q3 : Int → lf_Z → Prop} {x1 : Int} {x2 : Int} {x3 : Int} {x4 : Int} {s : lf_Z} (hQ : ∀ (r : Int) (s : lf_Z), Q1 r s → Q2 r s → Q3 r s) (h1 : fm_296_p5L Q1 x1 x2 x3 x4 s) (h2 : fw_296_p5L Q2 x1 x2 x3 x4 s) : fm_296_p5L Q3 x1 x2 x3 x4 s := by
  intro X0 hX0
  obtain ⟨Y, hY, hY0⟩ := h2
  exact h1 (fun v0 v1 s => Y v0 v1 s → X0 v0 v1 s) (fun v0 v1 s hb hy => hX0 v0 v1 s (cj_296_p5 (X51 := fun v0 v1 s => Y v0 v1 s → X0 v0 v1 s) (X52 := Y) (X53 := X0) (hX5 := fun v0 v1 s a b => a b) hQ hb (hY v0 v1 s hy))) hY0
def fw_296 (a1 : Int) (a2 : Int) (Q : Int → lf_Z → Prop) (s : lf_Z) : Prop := fw_296_p5L Q a1 a2 0 0 s
theorem cj_296 {Q1 Q2 Q3 : Int → lf_Z → Prop} {a1 : Int} {a2 : Int} {s : lf_Z} (hQ : ∀ (r : Int) (s : lf_Z), Q1 r s → Q2 r s → Q3 r s) (h1 : fm_296 a1 a2 Q1 s) (h2 : fw_296 a1 a2 Q2 s) : fm_296 a1 a2 Q3 s := by
  unfold fm_296 at h1 ⊢
  unfold fw_296 at h2
  exact cj_296_p5L hQ h1 h2
def fw_295_p120 (Q : Int → lf_Z → Prop) (x3 : Int) (s : lf_Z) : Prop := Q x3 (lf_up s.1 95 29 0, s.2.1, s.2.2)
theorem cj_295_p120 {Q1 Q2 Q3 : Int → lf_Z → Prop} {x3 : Int} {s : lf_Z} (hQ : ∀ (r : Int) (s : lf_Z), Q1 r s → Q2 r s → Q3 r s) (h1 : fm_295_p120 Q1 x3 s) (h2 : fw_295_p120 Q2 x3 s) : fm_295_p120 Q3 x3 s := by
  unfold fm_295_p120 at h1 ⊢
  unfold fw_295_p120 at h2
  exact hQ _ _  h1 h2
def fw_295_p114 (X30 : Int → Int → lf_Z → Prop) (Q : Int → lf_Z → Prop) (x1 : Int) (x3 : Int) (x4 : Int) (s : lf_Z) : Prop := X30 x3 (x4 + 1) s
theorem cj_295_p114 {X301 X302 X303 : Int → Int → lf_Z → Prop} {Q1 Q2 Q3 : Int → lf_Z → Prop} {x1 : Int} {x3 : Int} {x4 : Int} {s : lf_Z} (hX30 : ∀ (v0 : Int) (v1 : Int) (v2 : lf_Z), X301 v0 v1 v2 → X302 v0 v1 v2 → X303 v0 v1 v2) (hQ : ∀ (r : Int) (s : lf_Z), Q1 r s → Q2 r s → Q3 r s) (h1 : fm_295_p114 X301 Q1 x1 x3 x4 s) (h2 : fw_295_p114 X302 Q2 x1 x3 x4 s) : fm_295_p114 X303 Q3 x1 x3 x4 s := by
  unfold fm_295_p114 at h1 ⊢
  unfold fw_295_p114 at h2
  exact hX30 _ _ _  h1 h2
def fw_295_p108 (X30 : Int → Int → lf_Z → Prop) (X43 : Int → Int → lf_Z → Prop) (Q : Int → lf_Z → Prop) (x1 : Int) (x3 : Int) (x4 : Int) (x5 : Int) (s : lf_Z) : Prop := X43 x3 (x5 + 1) s
theorem cj_295_p108 {X301 X302 X303 : Int → Int → lf_Z → Prop} {X431 X432 X433 : Int → Int → lf_Z → Prop} {Q1 Q2 Q3 : Int → lf_Z → Prop} {x1 : Int} {x3 : Int} {x4 : Int} {x5 : Int} {s : lf_Z} (hX30 : ∀ (v0 : Int) (v1 : Int) (v2 : lf_Z), X301 v0 v1 v2 → X302 v0 v1 v2 → X303 v0 v1 v2) (hX43 : ∀ (v0 : Int) (v1 : Int) (v2 : lf_Z), X431 v0 v1 v2 → X432 v0 v1 v2 → X433 v0 v1 v2) (hQ : ∀ (r : Int) (s : lf_Z), Q1 r s → Q2 r s → Q3 r s) (h1 : fm_295_p108 X301 X431 Q1 x1 x3 x4 x5 s) (h2 : fw_295_p108 X302 X432 Q2 x1 x3 x4 x5 s) : fm_295_p108 X303 X433 Q3 x1 x3 x4 x5 s := by
  unfold fm_295_p108 at h1 ⊢
  unfold fw_295_p108 at h2
  exact hX43 _ _ _  h1 h2
def fw_295_p43 (X30 : Int → Int → lf_Z → Prop) (Q : Int → lf_Z → Prop) (x1 : Int) (x4 : Int) (X43 : Int → Int → lf_Z → Prop) (x3 : Int) (x5 : Int) (s : lf_Z) : Prop := lf_R x5 → ((lf_shl 1 (s.1 96 0) ≤ x5 → (fw_295_p114 X30 Q x1 x3 x4 s)) ∧ (¬ (lf_shl 1 (s.1 96 0) ≤ x5) → (lf_R x3 → ((0 ≤ x3 → (fw_295_p114 X30 Q x1 x3 x4 s)) ∧ (¬ (0 ≤ x3) → (fw_188 x5 (fun r30 s29 => (lf_R r30 → (lf_R x4 → ((r30 ≠ x4 → (fw_295_p108 X30 X43 Q x1 x3 x4 x5 s29)) ∧ (¬ (r30 ≠ x4) → (fw_255 x1 (fun r34 s33 => (fw_210 x5 r34 (fun z36 s35 => ((z36 = false → (fw_294 x1 (fun r38 s37 => (fw_296 r38 2 (fun r40 s39 => (lf_R r40 → ((r40 ≠ 0 → (fw_295_p108 X30 X43 Q x1 x3 x4 x5 s39)) ∧ (¬ (r40 ≠ 0) → (fw_295_p108 X30 X43 Q x1 x5 x4 x5 s39))))) s37)) (lf_up s35.1 95 29 x5, s35.2.1, s35.2.2))) ∧ (z36 = true → (fw_295_p108 X30 X43 Q x1 x3 x4 x5 s35)))) s33)) s29)))))) s))))))
theorem cj_295_p43 {X301 X302 X303 : Int → Int → lf_Z → Prop} {X431 X432 X433 : Int → Int → lf_Z → Prop} {Q1 Q2 Q3 : Int → lf_Z → Prop} {x1 : Int} {x4 : Int} {x3 : Int} {x5 : Int} {s : lf_Z} (hX30 : ∀ (v0 : Int) (v1 : Int) (v2 : lf_Z), X301 v0 v1 v2 → X302 v0 v1 v2 → X303 v0 v1 v2) (hX43 : ∀ (v0 : Int) (v1 : Int) (v2 : lf_Z), X431 v0 v1 v2 → X432 v0 v1 v2 → X433 v0 v1 v2) (hQ : ∀ (r : Int) (s : lf_Z), Q1 r s → Q2 r s → Q3 r s) (h1 : fm_295_p43 X301 Q1 x1 x4 X431 x3 x5 s) (h2 : fw_295_p43 X302 Q2 x1 x4 X432 x3 x5 s) : fm_295_p43 X303 Q3 x1 x4 X433 x3 x5 s := by
  unfold fm_295_p43 at h1 ⊢
  unfold fw_295_p43 at h2
  exact ⟨h1.1, ⟨(fun c2 => cj_295_p114 hX30 hQ (h1.2.1 c2) ((h2 h1.1).1 c2)), (fun c2 => ⟨(h1.2.2 c2).1, ⟨(fun c5 => cj_295_p114 hX30 hQ ((h1.2.2 c2).2.1 c5) ((((h2 h1.1).2 c2) (h1.2.2 c2).1).1 c5)), (fun c5 => cj_188 (fun r30 s29 k7 l7 => ⟨k7.1, ⟨k7.2.1, ⟨(fun c10 => cj_295_p108 hX30 hX43 hQ (k7.2.2.1 c10) (((l7 k7.1) k7.2.1).1 c10)), (fun c10 => cj_255 (fun r34 s33 k12 l12 => cj_210 (fun z36 s35 k13 l13 => ⟨(fun c14 => cj_294 (fun r38 s37 k15 l15 => cj_296 (fun r40 s39 k16 l16 => ⟨k16.1, ⟨(fun c18 => cj_295_p108 hX30 hX43 hQ (k16.2.1 c18) ((l16 k16.1).1 c18)), (fun c18 => cj_295_p108 hX30 hX43 hQ (k16.2.2 c18) ((l16 k16.1).2 c18))⟩⟩) k15 l15) (k13.1 c14) (l13.1 c14)), (fun c14 => cj_295_p108 hX30 hX43 hQ (k13.2 c14) (l13.2 c14))⟩) k12 l12) (k7.2.2.2 c10) (((l7 k7.1) k7.2.1).2 c10))⟩⟩⟩) ((h1.2.2 c2).2.2 c5) ((((h2 h1.1).2 c2) (h1.2.2 c2).1).2 c5))⟩⟩)⟩⟩
def fw_295_p43L (X30 : Int → Int → lf_Z → Prop) (Q : Int → lf_Z → Prop) (x1 : Int) (x3 : Int) (x4 : Int) (x5 : Int) (s : lf_Z) : Prop := ∃ X43 : Int → Int → lf_Z → Prop, (∀ (x3 : Int) (x5 : Int) (s : lf_Z), X43 x3 x5 s → fw_295_p43 X30 Q x1 x4 X43 x3 x5 s) ∧ X43 x3 x5 s
theorem cj_295_p43L {X301 X302 X303 : Int → Int → lf_Z → Prop} {Q1 Q2 Q3 : Int → lf_Z → Prop} {x1 : Int} {x3 : Int} {x4 : Int} {x5 : Int} {s : lf_Z} (hX30 : ∀ (v0 : Int) (v1 : Int) (v2 : lf_Z), X301 v0 v1 v2 → X302 v0 v1 v2 → X303 v0 v1 v2) (hQ : ∀ (r : Int) (s : lf_Z), Q1 r s → Q2 r s → Q3 r s) (h1 : fm_295_p43L X301 Q1 x1 x3 x4 x5 s) (h2 : fw_295_p43L X302 Q2 x1 x3 x4 x5 s) : fm_295_p43L X303 Q3 x1 x3 x4 x5 s := by
  intro X0 hX0
  obtain ⟨Y, hY, hY0⟩ := h2
  exact h1 (fun v0 v1 s => Y v0 v1 s → X0 v0 v1 s) (fun v0 v1 s hb hy => hX0 v0 v1 s (cj_295_p43 (hX30 := hX30) (X431 := fun v0 v1 s => Y v0 v1 s → X0 v0 v1 s) (X432 := Y) (X433 := X0) (hX43 := fun v0 v1 s a b => a b) hQ hb (hY v0 v1 s hy))) hY0
def fw_295_p30 (Q : Int → lf_Z → Prop) (x1 : Int) (X30 : Int → Int → lf_Z → Prop) (x3 : Int) (x4 : Int) (s : lf_Z) : Prop := lf_R x4 → ((3 < x4 → (fw_295_p120 Q x3 s)) ∧ (¬ (3 < x4) → (lf_R x3 → ((0 ≤ x3 → (fw_295_p120 Q x3 s)) ∧ (¬ (0 ≤ x3) → (fw_295_p43L X30 Q x1 x3 x4 0 s))))))
theorem cj_295_p30 {X301 X302 X303 : Int → Int → lf_Z → Prop} {Q1 Q2 Q3 : Int → lf_Z → Prop} {x1 : Int} {x3 : Int} {x4 : Int} {s : lf_Z} (hX30 : ∀ (v0 : Int) (v1 : Int) (v2 : lf_Z), X301 v0 v1 v2 → X302 v0 v1 v2 → X303 v0 v1 v2) (hQ : ∀ (r : Int) (s : lf_Z), Q1 r s → Q2 r s → Q3 r s) (h1 : fm_295_p30 Q1 x1 X301 x3 x4 s) (h2 : fw_295_p30 Q2 x1 X302 x3 x4 s) : fm_295_p30 Q3 x1 X303 x3 x4 s := by
  unfold fm_295_p30 at h1 ⊢
  unfold fw_295_p30 at h2
  exact ⟨h1.1, ⟨(fun c2 => cj_295_p120 hQ (h1.2.1 c2) ((h2 h1.1).1 c2)), (fun c2 => ⟨(h1.2.2 c2).1, ⟨(fun c5 => cj_295_p120 hQ ((h1.2.2 c2).2.1 c5) ((((h2 h1.1).2 c2) (h1.2.2 c2).1).1 c5)), (fun c5 => cj_295_p43L hX30 hQ ((h1.2.2 c2).2.2 c5) ((((h2 h1.1).2 c2) (h1.2.2 c2).1).2 c5))⟩⟩)⟩⟩
def fw_295_p30L (Q : Int → lf_Z → Prop) (x1 : Int) (x3 : Int) (x4 : Int) (s : lf_Z) : Prop := ∃ X30 : Int → Int → lf_Z → Prop, (∀ (x3 : Int) (x4 : Int) (s : lf_Z), X30 x3 x4 s → fw_295_p30 Q x1 X30 x3 x4 s) ∧ X30 x3 x4 s
theorem cj_295_p30L {Q1 Q2 Q3 : Int → lf_Z → Prop} {x1 : Int} {x3 : Int} {x4 : Int} {s : lf_Z} (hQ : ∀ (r : Int) (s : lf_Z), Q1 r s → Q2 r s → Q3 r s) (h1 : fm_295_p30L Q1 x1 x3 x4 s) (h2 : fw_295_p30L Q2 x1 x3 x4 s) : fm_295_p30L Q3 x1 x3 x4 s := by
  intro X0 hX0
  obtain ⟨Y, hY, hY0⟩ := h2
  exact h1 (fun v0 v1 s => Y v0 v1 s → X0 v0 v1 s) (fun v0 v1 s hb hy => hX0 v0 v1 s (cj_295_p30 (X301 := fun v0 v1 s => Y v0 v1 s → X0 v0 v1 s) (X302 := Y) (X303 := X0) (hX30 := fun v0 v1 s a b => a b) hQ hb (hY v0 v1 s hy))) hY0
def fw_295 (a1 : Int) (a2 : Int) (Q : Int → lf_Z → Prop) (s : lf_Z) : Prop := fw_254 a1 (fun z22 s21 => ((z22 = false → (Q (-1) s21)) ∧ (z22 = true → (fw_183 a2 0 9 (fun z24 s23 => ((z24 = true → (fw_295_p30L Q a1 (-1) 0 (lf_up s23.1 95 30 a2, s23.2.1, s23.2.2))) ∧ (z24 = false → (Q (-1) s23)))) s21)))) s
theorem cj_295 {Q1 Q2 Q3 : Int → lf_Z → Prop} {a1 : Int} {a2 : Int} {s : lf_Z} (hQ : ∀ (r : Int) (s : lf_Z), Q1 r s → Q2 r s → Q3 r s) (h1 : fm_295 a1 a2 Q1 s) (h2 : fw_295 a1 a2 Q2 s) : fm_295 a1 a2 Q3 s := by
  unfold fm_295 at h1 ⊢
  unfold fw_295 at h2
  exact cj_254 (fun z22 s21 k1 l1 => ⟨(fun c2 => hQ _ _  (k1.1 c2) (l1.1 c2)), (fun c2 => cj_183 (fun z24 s23 k4 l4 => ⟨(fun c5 => cj_295_p30L hQ (k4.1 c5) (l4.1 c5)), (fun c5 => hQ _ _  (k4.2 c5) (l4.2 c5))⟩) (k1.2 c2) (l1.2 c2))⟩) h1 h2
def fw_144_p43 (X4 : Int → Int → lf_Z → Prop) (Q : Int → lf_Z → Prop) (x1 : Int) (x2 : Int) (s : lf_Z) : Prop := X4 x1 (x2 + 1) s
theorem cj_144_p43 {X41 X42 X43 : Int → Int → lf_Z → Prop} {Q1 Q2 Q3 : Int → lf_Z → Prop} {x1 : Int} {x2 : Int} {s : lf_Z} (hX4 : ∀ (v0 : Int) (v1 : Int) (v2 : lf_Z), X41 v0 v1 v2 → X42 v0 v1 v2 → X43 v0 v1 v2) (hQ : ∀ (r : Int) (s : lf_Z), Q1 r s → Q2 r s → Q3 r s) (h1 : fm_144_p43 X41 Q1 x1 x2 s) (h2 : fw_144_p43 X42 Q2 x1 x2 s) : fm_144_p43 X43 Q3 x1 x2 s := by
  unfold fm_144_p43 at h1 ⊢
  unfold fw_144_p43 at h2
  exact hX4 _ _ _  h1 h2
def fw_144_p4 (Q : Int → lf_Z → Prop) (X4 : Int → Int → lf_Z → Prop) (x1 : Int) (x2 : Int) (s : lf_Z) : Prop := lf_R x2 → (lf_R (s.1 1 1) → ((s.1 1 1 ≤ x2 → (Q x1 s)) ∧ (¬ (s.1 1 1 ≤ x2) → (fw_89 x2 (fun z24 s23 => ((z24 = false → (fw_144_p43 X4 Q x1 x2 s23)) ∧ (z24 = true → (fw_90 x2 (fun z26 s25 => ((z26 = false → (fw_144_p43 X4 Q x1 x2 s25)) ∧ (z26 = true → (fw_144_p43 X4 Q (lf_or x1 (lf_shl 1 x2)) x2 s25)))) s23)))) s))))
theorem cj_144_p4 {X41 X42 X43 : Int → Int → lf_Z → Prop} {Q1 Q2 Q3 : Int → lf_Z → Prop} {x1 : Int} {x2 : Int} {s : lf_Z} (hX4 : ∀ (v0 : Int) (v1 : Int) (v2 : lf_Z), X41 v0 v1 v2 → X42 v0 v1 v2 → X43 v0 v1 v2) (hQ : ∀ (r : Int) (s : lf_Z), Q1 r s → Q2 r s → Q3 r s) (h1 : fm_144_p4 Q1 X41 x1 x2 s) (h2 : fw_144_p4 Q2 X42 x1 x2 s) : fm_144_p4 Q3 X43 x1 x2 s := by
  unfold fm_144_p4 at h1 ⊢
  unfold fw_144_p4 at h2
  exact ⟨h1.1, ⟨h1.2.1, ⟨(fun c3 => hQ _ _  (h1.2.2.1 c3) (((h2 h1.1) h1.2.1).1 c3)), (fun c3 => cj_89 (fun z24 s23 k5 l5 => ⟨(fun c6 => cj_144_p43 hX4 hQ (k5.1 c6) (l5.1 c6)), (fun c6 => cj_90 (fun z26 s25 k8 l8 => ⟨(fun c9 => cj_144_p43 hX4 hQ (k8.1 c9) (l8.1 c9)), (fun c9 => cj_144_p43 hX4 hQ (k8.2 c9) (l8.2 c9))⟩) (k5.2 c6) (l5.2 c6))⟩) (h1.2.2.2 c3) (((h2 h1.1) h1.2.1).2 c3))⟩⟩⟩
def fw_144_p4L (Q : Int → lf_Z → Prop) (x1 : Int) (x2 : Int) (s : lf_Z) : Prop := ∃ X4 : Int → Int → lf_Z → Prop, (∀ (x1 : Int) (x2 : Int) (s : lf_Z), X4 x1 x2 s → fw_144_p4 Q X4 x1 x2 s) ∧ X4 x1 x2 s
theorem cj_144_p4L {Q1 Q2 Q3 : Int → lf_Z → Prop} {x1 : Int} {x2 : Int} {s : lf_Z} (hQ : ∀ (r : Int) (s : lf_Z), Q1 r s → Q2 r s → Q3 r s) (h1 : fm_144_p4L Q1 x1 x2 s) (h2 : fw_144_p4L Q2 x1 x2 s) : fm_144_p4L Q3 x1 x2 s := by
  intro X0 hX0
  obtain ⟨Y, hY, hY0⟩ := h2
  exact h1 (fun v0 v1 s => Y v0 v1 s → X0 v0 v1 s) (fun v0 v1 s hb hy => hX0 v0 v1 s (cj_144_p4 (X41 := fun v0 v1 s => Y v0 v1 s → X0 v0 v1 s) (X42 := Y) (X43 := X0) (hX4 := fun v0 v1 s a b => a b) hQ hb (hY v0 v1 s hy))) hY0
def fw_144 (Q : Int → lf_Z → Prop) (s : lf_Z) : Prop := fw_144_p4L Q 0 0 s
theorem cj_144 {Q1 Q2 Q3 : Int → lf_Z → Prop} {s : lf_Z} (hQ : ∀ (r : Int) (s : lf_Z), Q1 r s → Q2 r s → Q3 r s) (h1 : fm_144 Q1 s) (h2 : fw_144 Q2 s) : fm_144 Q3 s := by
  unfold fm_144 at h1 ⊢
  unfold fw_144 at h2
  exact cj_144_p4L hQ h1 h2
def fw_143_p152 (X53 : Int → lf_Z → Prop) (Q : Int → lf_Z → Prop) (x1 : Int) (x2 : Int) (x3 : Int) (x4 : Int) (x5 : Int) (x6 : Int) (s : lf_Z) : Prop := X53 (x6 + 1) s
theorem cj_143_p152 {X531 X532 X533 : Int → lf_Z → Prop} {Q1 Q2 Q3 : Int → lf_Z → Prop} {x1 : Int} {x2 : Int} {x3 : Int} {x4 : Int} {x5 : Int} {x6 : Int} {s : lf_Z} (hX53 : ∀ (v0 : Int) (v1 : lf_Z), X531 v0 v1 → X532 v0 v1 → X533 v0 v1) (hQ : ∀ (r : Int) (s : lf_Z), Q1 r s → Q2 r s → Q3 r s) (h1 : fm_143_p152 X531 Q1 x1 x2 x3 x4 x5 x6 s) (h2 : fw_143_p152 X532 Q2 x1 x2 x3 x4 x5 x6 s) : fm_143_p152 X533 Q3 x1 x2 x3 x4 x5 x6 s := by
  unfold fm_143_p152 at h1 ⊢
  unfold fw_143_p152 at h2
  exact hX53 _ _  h1 h2
def fw_143_p144 (X53 : Int → lf_Z → Prop) (X70 : Int → Int → lf_Z → Prop) (Q : Int → lf_Z → Prop) (x1 : Int) (x2 : Int) (x3 : Int) (x4 : Int) (x5 : Int) (x6 : Int) (x8 : Int) (y0 : Int) (s : lf_Z) : Prop := X70 y0 (x8 + 1) s
theorem cj_143_p144 {X531 X532 X533 : Int → lf_Z → Prop} {X701 X702 X703 : Int → Int → lf_Z → Prop} {Q1 Q2 Q3 : Int → lf_Z → Prop} {x1 : Int} {x2 : Int} {x3 : Int} {x4 : Int} {x5 : Int} {x6 : Int} {x8 : Int} {y0 : Int} {s : lf_Z} (hX53 : ∀ (v0 : Int) (v1 : lf_Z), X531 v0 v1 → X532 v0 v1 → X533 v0 v1) (hX70 : ∀ (v0 : Int) (v1 : Int) (v2 : lf_Z), X701 v0 v1 v2 → X702 v0 v1 v2 → X703 v0 v1 v2) (hQ : ∀ (r : Int) (s : lf_Z), Q1 r s → Q2 r s → Q3 r s) (h1 : fm_143_p144 X531 X701 Q1 x1 x2 x3 x4 x5 x6 x8 y0 s) (h2 : fw_143_p144 X532 X702 Q2 x1 x2 x3 x4 x5 x6 x8 y0 s) : fm_143_p144 X533 X703 Q3 x1 x2 x3 x4 x5 x6 x8 y0 s := by
  unfold fm_143_p144 at h1 ⊢
  unfold fw_143_p144 at h2
  exact hX70 _ _ _  h1 h2
def fw_143_p129 (X53 : Int → lf_Z → Prop) (X70 : Int → Int → lf_Z → Prop) (Q : Int → lf_Z → Prop) (x1 : Int) (x2 : Int) (x3 : Int) (x4 : Int) (x5 : Int) (x6 : Int) (x7 : Int) (x8 : Int) (s : lf_Z) : Prop := lf_R x6 → ((x6 ≠ 0 → (fw_133 x7 (fun r36 s35 => (fw_143_p144 X53 X70 Q x1 x2 x3 x4 x5 x6 x8 r36 s35)) s)) ∧ (¬ (x6 ≠ 0) → (fw_143_p144 X53 X70 Q x1 x2 x3 x4 x5 x6 x8 x5 s)))
theorem cj_143_p129 {X531 X532 X533 : Int → lf_Z → Prop} {X701 X702 X703 : Int → Int → lf_Z → Prop} {Q1 Q2 Q3 : Int → lf_Z → Prop} {x1 : Int} {x2 : Int} {x3 : Int} {x4 : Int} {x5 : Int} {x6 : Int} {x7 : Int} {x8 : Int} {s : lf_Z} (hX53 : ∀ (v0 : Int) (v1 : lf_Z), X531 v0 v1 → X532 v0 v1 → X533 v0 v1) (hX70 : ∀ (v0 : Int) (v1 : Int) (v2 : lf_Z), X701 v0 v1 v2 → X702 v0 v1 v2 → X703 v0 v1 v2) (hQ : ∀ (r : Int) (s : lf_Z), Q1 r s → Q2 r s → Q3 r s) (h1 : fm_143_p129 X531 X701 Q1 x1 x2 x3 x4 x5 x6 x7 x8 s) (h2 : fw_143_p129 X532 X702 Q2 x1 x2 x3 x4 x5 x6 x7 x8 s) : fm_143_p129 X533 X703 Q3 x1 x2 x3 x4 x5 x6 x7 x8 s := by
  unfold fm_143_p129 at h1 ⊢
  unfold fw_143_p129 at h2
  exact ⟨h1.1, ⟨(fun c2 => cj_133 (fun r36 s35 k3 l3 => cj_143_p144 hX53 hX70 hQ k3 l3) (h1.2.1 c2) ((h2 h1.1).1 c2)), (fun c2 => cj_143_p144 hX53 hX70 hQ (h1.2.2 c2) ((h2 h1.1).2 c2))⟩⟩
def fw_143_p110 (X53 : Int → lf_Z → Prop) (X70 : Int → Int → lf_Z → Prop) (Q : Int → lf_Z → Prop) (x1 : Int) (x2 : Int) (x3 : Int) (x4 : Int) (x5 : Int) (x6 : Int) (x7 : Int) (x8 : Int) (y0 : Int) (s : lf_Z) : Prop := (lf_and y0 x3 ≠ 0 → (fw_143_p129 X53 X70 Q x1 x2 x3 x4 x5 x6 x7 x8 s)) ∧ (¬ (lf_and y0 x3 ≠ 0) → ((lf_and y0 x2 = 0 → (fw_143_p129 X53 X70 Q x1 x2 x3 x4 x5 x6 x7 x8 s)) ∧ (¬ (lf_and y0 x2 = 0) → (Q x7 s))))
theorem cj_143_p110 {X531 X532 X533 : Int → lf_Z → Prop} {X701 X702 X703 : Int → Int → lf_Z → Prop} {Q1 Q2 Q3 : Int → lf_Z → Prop} {x1 : Int} {x2 : Int} {x3 : Int} {x4 : Int} {x5 : Int} {x6 : Int} {x7 : Int} {x8 : Int} {y0 : Int} {s : lf_Z} (hX53 : ∀ (v0 : Int) (v1 : lf_Z), X531 v0 v1 → X532 v0 v1 → X533 v0 v1) (hX70 : ∀ (v0 : Int) (v1 : Int) (v2 : lf_Z), X701 v0 v1 v2 → X702 v0 v1 v2 → X703 v0 v1 v2) (hQ : ∀ (r : Int) (s : lf_Z), Q1 r s → Q2 r s → Q3 r s) (h1 : fm_143_p110 X531 X701 Q1 x1 x2 x3 x4 x5 x6 x7 x8 y0 s) (h2 : fw_143_p110 X532 X702 Q2 x1 x2 x3 x4 x5 x6 x7 x8 y0 s) : fm_143_p110 X533 X703 Q3 x1 x2 x3 x4 x5 x6 x7 x8 y0 s := by
  unfold fm_143_p110 at h1 ⊢
  unfold fw_143_p110 at h2
  exact ⟨(fun c1 => cj_143_p129 hX53 hX70 hQ (h1.1 c1) (h2.1 c1)), (fun c1 => ⟨(fun c3 => cj_143_p129 hX53 hX70 hQ ((h1.2 c1).1 c3) ((h2.2 c1).1 c3)), (fun c3 => hQ _ _  ((h1.2 c1).2 c3) ((h2.2 c1).2 c3))⟩)⟩
def fw_143_p70 (X53 : Int → lf_Z → Prop) (Q : Int → lf_Z → Prop) (x1 : Int) (x2 : Int) (x3 : Int) (x4 : Int) (x5 : Int) (x6 : Int) (X70 : Int → Int → lf_Z → Prop) (x7 : Int) (x8 : Int) (s : lf_Z) : Prop := lf_R x8 → ((1000 ≤ x8 → (fw_143_p152 X53 Q x1 x2 x3 x4 x5 x6 s)) ∧ (¬ (1000 ≤ x8) → (lf_R x7 → (lf_R x5 → ((x5 ≤ x7 → (fw_143_p152 X53 Q x1 x2 x3 x4 x5 x6 s)) ∧ (¬ (x5 ≤ x7) → ((lf_and x7 (lf_xor x4 (-1)) ≠ 0 → (fw_143_p110 X53 X70 Q x1 x2 x3 x4 x5 x6 x7 x8 x3 (lf_up s.1 68 9 x7, s.2.1, s.2.2))) ∧ (¬ (lf_and x7 (lf_xor x4 (-1)) ≠ 0) → (fw_128 x1 (fun r38 s37 => (fw_143_p110 X53 X70 Q x1 x2 x3 x4 x5 x6 x7 x8 r38 s37)) (lf_up s.1 68 9 x7, s.2.1, s.2.2))))))))))
theorem cj_143_p70 {X531 X532 X533 : Int → lf_Z → Prop} {X701 X702 X703 : Int → Int → lf_Z → Prop} {Q1 Q2 Q3 : Int → lf_Z → Prop} {x1 : Int} {x2 : Int} {x3 : Int} {x4 : Int} {x5 : Int} {x6 : Int} {x7 : Int} {x8 : Int} {s : lf_Z} (hX53 : ∀ (v0 : Int) (v1 : lf_Z), X531 v0 v1 → X532 v0 v1 → X533 v0 v1) (hX70 : ∀ (v0 : Int) (v1 : Int) (v2 : lf_Z), X701 v0 v1 v2 → X702 v0 v1 v2 → X703 v0 v1 v2) (hQ : ∀ (r : Int) (s : lf_Z), Q1 r s → Q2 r s → Q3 r s) (h1 : fm_143_p70 X531 Q1 x1 x2 x3 x4 x5 x6 X701 x7 x8 s) (h2 : fw_143_p70 X532 Q2 x1 x2 x3 x4 x5 x6 X702 x7 x8 s) : fm_143_p70 X533 Q3 x1 x2 x3 x4 x5 x6 X703 x7 x8 s := by
  unfold fm_143_p70 at h1 ⊢
  unfold fw_143_p70 at h2
  exact ⟨h1.1, ⟨(fun c2 => cj_143_p152 hX53 hQ (h1.2.1 c2) ((h2 h1.1).1 c2)), (fun c2 => ⟨(h1.2.2 c2).1, ⟨(h1.2.2 c2).2.1, ⟨(fun c6 => cj_143_p152 hX53 hQ ((h1.2.2 c2).2.2.1 c6) (((((h2 h1.1).2 c2) (h1.2.2 c2).1) (h1.2.2 c2).2.1).1 c6)), (fun c6 => ⟨(fun c8 => cj_143_p110 hX53 hX70 hQ (((h1.2.2 c2).2.2.2 c6).1 c8) ((((((h2 h1.1).2 c2) (h1.2.2 c2).1) (h1.2.2 c2).2.1).2 c6).1 c8)), (fun c8 => cj_128 (fun r38 s37 k10 l10 => cj_143_p110 hX53 hX70 hQ k10 l10) (((h1.2.2 c2).2.2.2 c6).2 c8) ((((((h2 h1.1).2 c2) (h1.2.2 c2).1) (h1.2.2 c2).2.1).2 c6).2 c8))⟩)⟩⟩⟩)⟩⟩
def fw_143_p70L (X53 : Int → lf_Z → Prop) (Q : Int → lf_Z → Prop) (x1 : Int) (x2 : Int) (x3 : Int) (x4 : Int) (x5 : Int) (x6 : Int) (x7 : Int) (x8 : Int) (s : lf_Z) : Prop := ∃ X70 : Int → Int → lf_Z → Prop, (∀ (x7 : Int) (x8 : Int) (s : lf_Z), X70 x7 x8 s → fw_143_p70 X53 Q x1 x2 x3 x4 x5 x6 X70 x7 x8 s) ∧ X70 x7 x8 s
theorem cj_143_p70L {X531 X532 X533 : Int → lf_Z → Prop} {Q1 Q2 Q3 : Int → lf_Z → Prop} {x1 : Int} {x2 : Int} {x3 : Int} {x4 : Int} {x5 : Int} {x6 : Int} {x7 : Int} {x8 : Int} {s : lf_Z} (hX53 : ∀ (v0 : Int) (v1 : lf_Z), X531 v0 v1 → X532 v0 v1 → X533 v0 v1) (hQ : ∀ (r : Int) (s : lf_Z), Q1 r s → Q2 r s → Q3 r s) (h1 : fm_143_p70L X531 Q1 x1 x2 x3 x4 x5 x6 x7 x8 s) (h2 : fw_143_p70L X532 Q2 x1 x2 x3 x4 x5 x6 x7 x8 s) : fm_143_p70L X533 Q3 x1 x2 x3 x4 x5 x6 x7 x8 s := by
  intro X0 hX0
  obtain ⟨Y, hY, hY0⟩ := h2
  exact h1 (fun v0 v1 s => Y v0 v1 s → X0 v0 v1 s) (fun v0 v1 s hb hy => hX0 v0 v1 s (cj_143_p70 (hX53 := hX53) (X701 := fun v0 v1 s => Y v0 v1 s → X0 v0 v1 s) (X702 := Y) (X703 := X0) (hX70 := fun v0 v1 s a b => a b) hQ hb (hY v0 v1 s hy))) hY0
def fw_143_p53 (Q : Int → lf_Z → Prop) (x1 : Int) (x2 : Int) (x3 : Int) (x4 : Int) (x5 : Int) (X53 : Int → lf_Z → Prop) (x6 : Int) (s : lf_Z) : Prop := lf_R x6 → ((3 < x6 → (Q (-1) s)) ∧ (¬ (3 < x6) → (fw_143_p70L X53 Q x1 x2 x3 x4 x5 x6 ((lf_shl 1 x6) - 1) 0 s)))
theorem cj_143_p53 {X531 X532 X533 : Int → lf_Z → Prop} {Q1 Q2 Q3 : Int → lf_Z → Prop} {x1 : Int} {x2 : Int} {x3 : Int} {x4 : Int} {x5 : Int} {x6 : Int} {s : lf_Z} (hX53 : ∀ (v0 : Int) (v1 : lf_Z), X531 v0 v1 → X532 v0 v1 → X533 v0 v1) (hQ : ∀ (r : Int) (s : lf_Z), Q1 r s → Q2 r s → Q3 r s) (h1 : fm_143_p53 Q1 x1 x2 x3 x4 x5 X531 x6 s) (h2 : fw_143_p53 Q2 x1 x2 x3 x4 x5 X532 x6 s) : fm_143_p53 Q3 x1 x2 x3 x4 x5 X533 x6 s := by
  unfold fm_143_p53 at h1 ⊢
  unfold fw_143_p53 at h2
  exact ⟨h1.1, ⟨(fun c2 => hQ _ _  (h1.2.1 c2) ((h2 h1.1).1 c2)), (fun c2 => cj_143_p70L hX53 hQ (h1.2.2 c2) ((h2 h1.1).2 c2))⟩⟩
def fw_143_p53L (Q : Int → lf_Z → Prop) (x1 : Int) (x2 : Int) (x3 : Int) (x4 : Int) (x5 : Int) (x6 : Int) (s : lf_Z) : Prop := ∃ X53 : Int → lf_Z → Prop, (∀ (x6 : Int) (s : lf_Z), X53 x6 s → fw_143_p53 Q x1 x2 x3 x4 x5 X53 x6 s) ∧ X53 x6 s
theorem cj_143_p53L {Q1 Q2 Q3 : Int → lf_Z → Prop} {x1 : Int} {x2 : Int} {x3 : Int} {x4 : Int} {x5 : Int} {x6 : Int} {s : lf_Z} (hQ : ∀ (r : Int) (s : lf_Z), Q1 r s → Q2 r s → Q3 r s) (h1 : fm_143_p53L Q1 x1 x2 x3 x4 x5 x6 s) (h2 : fw_143_p53L Q2 x1 x2 x3 x4 x5 x6 s) : fm_143_p53L Q3 x1 x2 x3 x4 x5 x6 s := by
  intro X0 hX0
  obtain ⟨Y, hY, hY0⟩ := h2
  exact h1 (fun v0 s => Y v0 s → X0 v0 s) (fun v0 s hb hy => hX0 v0 s (cj_143_p53 (X531 := fun v0 s => Y v0 s → X0 v0 s) (X532 := Y) (X533 := X0) (hX53 := fun v0 s a b => a b) hQ hb (hY v0 s hy))) hY0
def fw_143 (a1 : Int) (Q : Int → lf_Z → Prop) (s : lf_Z) : Prop := fw_118 a1 0 (fun s21 => (fw_132 3 (fun r23 s22 => (fw_132 1 (fun r25 s24 => (fw_132 2 (fun r27 s26 => (fw_144 (fun r29 s28 => (fw_143_p53L Q a1 r23 (lf_or r25 r27) r29 (lf_shl 1 (s28.1 1 1)) 0 s28)) s26)) s24)) s22)) s21)) s
theorem cj_143 {Q1 Q2 Q3 : Int → lf_Z → Prop} {a1 : Int} {s : lf_Z} (hQ : ∀ (r : Int) (s : lf_Z), Q1 r s → Q2 r s → Q3 r s) (h1 : fm_143 a1 Q1 s) (h2 : fw_143 a1 Q2 s) : fm_143 a1 Q3 s := by
  unfold fm_143 at h1 ⊢
  unfold fw_143 at h2
  exact cj_118 (fun s21 k1 l1 => cj_132 (fun r23 s22 k2 l2 => cj_132 (fun r25 s24 k3 l3 => cj_132 (fun r27 s26 k4 l4 => cj_144 (fun r29 s28 k5 l5 => cj_143_p53L hQ k5 l5) k4 l4) k3 l3) k2 l2) k1 l1) h1 h2
def fw_142 (a1 : Int) (Q : Int → lf_Z → Prop) (s : lf_Z) : Prop := fw_80 a1 (fun z22 s21 => ((z22 = false → (Q (-1) s21)) ∧ (z22 = true → (fw_143 a1 (fun r24 s23 => (Q r24 s23)) s21)))) s
theorem cj_142 {Q1 Q2 Q3 : Int → lf_Z → Prop} {a1 : Int} {s : lf_Z} (hQ : ∀ (r : Int) (s : lf_Z), Q1 r s → Q2 r s → Q3 r s) (h1 : fm_142 a1 Q1 s) (h2 : fw_142 a1 Q2 s) : fm_142 a1 Q3 s := by
  unfold fm_142 at h1 ⊢
  unfold fw_142 at h2
  exact cj_80 (fun z22 s21 k1 l1 => ⟨(fun c2 => hQ _ _  (k1.1 c2) (l1.1 c2)), (fun c2 => cj_143 (fun r24 s23 k4 l4 => hQ _ _  k4 l4) (k1.2 c2) (l1.2 c2))⟩) h1 h2
def fw_297_p176 (Q : Int → lf_Z → Prop) (x2 : Int) (s : lf_Z) : Prop := Q x2 (lf_up s.1 95 31 0, s.2.1, s.2.2)
theorem cj_297_p176 {Q1 Q2 Q3 : Int → lf_Z → Prop} {x2 : Int} {s : lf_Z} (hQ : ∀ (r : Int) (s : lf_Z), Q1 r s → Q2 r s → Q3 r s) (h1 : fm_297_p176 Q1 x2 s) (h2 : fw_297_p176 Q2 x2 s) : fm_297_p176 Q3 x2 s := by
  unfold fm_297_p176 at h1 ⊢
  unfold fw_297_p176 at h2
  exact hQ _ _  h1 h2
def fw_297_p170 (X66 : Int → Int → lf_Z → Prop) (Q : Int → lf_Z → Prop) (x1 : Int) (x2 : Int) (x3 : Int) (x4 : Int) (s : lf_Z) : Prop := X66 x2 (x4 + 1) s
theorem cj_297_p170 {X661 X662 X663 : Int → Int → lf_Z → Prop} {Q1 Q2 Q3 : Int → lf_Z → Prop} {x1 : Int} {x2 : Int} {x3 : Int} {x4 : Int} {s : lf_Z} (hX66 : ∀ (v0 : Int) (v1 : Int) (v2 : lf_Z), X661 v0 v1 v2 → X662 v0 v1 v2 → X663 v0 v1 v2) (hQ : ∀ (r : Int) (s : lf_Z), Q1 r s → Q2 r s → Q3 r s) (h1 : fm_297_p170 X661 Q1 x1 x2 x3 x4 s) (h2 : fw_297_p170 X662 Q2 x1 x2 x3 x4 s) : fm_297_p170 X663 Q3 x1 x2 x3 x4 s := by
  unfold fm_297_p170 at h1 ⊢
  unfold fw_297_p170 at h2
  exact hX66 _ _ _  h1 h2
def fw_297_p164 (X66 : Int → Int → lf_Z → Prop) (X79 : Int → Int → lf_Z → Prop) (Q : Int → lf_Z → Prop) (x1 : Int) (x2 : Int) (x3 : Int) (x4 : Int) (x5 : Int) (s : lf_Z) : Prop := X79 x2 (x5 + 1) s
theorem cj_297_p164 {X661 X662 X663 : Int → Int → lf_Z → Prop} {X791 X792 X793 : Int → Int → lf_Z → Prop} {Q1 Q2 Q3 : Int → lf_Z → Prop} {x1 : Int} {x2 : Int} {x3 : Int} {x4 : Int} {x5 : Int} {s : lf_Z} (hX66 : ∀ (v0 : Int) (v1 : Int) (v2 : lf_Z), X661 v0 v1 v2 → X662 v0 v1 v2 → X663 v0 v1 v2) (hX79 : ∀ (v0 : Int) (v1 : Int) (v2 : lf_Z), X791 v0 v1 v2 → X792 v0 v1 v2 → X793 v0 v1 v2) (hQ : ∀ (r : Int) (s : lf_Z), Q1 r s → Q2 r s → Q3 r s) (h1 : fm_297_p164 X661 X791 Q1 x1 x2 x3 x4 x5 s) (h2 : fw_297_p164 X662 X792 Q2 x1 x2 x3 x4 x5 s) : fm_297_p164 X663 X793 Q3 x1 x2 x3 x4 x5 s := by
  unfold fm_297_p164 at h1 ⊢
  unfold fw_297_p164 at h2
  exact hX79 _ _ _  h1 h2
def fw_297_p79 (X66 : Int → Int → lf_Z → Prop) (Q : Int → lf_Z → Prop) (x1 : Int) (x3 : Int) (x4 : Int) (X79 : Int → Int → lf_Z → Prop) (x2 : Int) (x5 : Int) (s : lf_Z) : Prop := lf_R x5 → ((lf_shl 1 (s.1 96 1) ≤ x5 → (fw_297_p170 X66 Q x1 x2 x3 x4 s)) ∧ (¬ (lf_shl 1 (s.1 96 1) ≤ x5) → (lf_R x2 → ((0 ≤ x2 → (fw_297_p170 X66 Q x1 x2 x3 x4 s)) ∧ (¬ (0 ≤ x2) → (fw_188 x5 (fun r30 s29 => (lf_R r30 → (lf_R x4 → ((r30 ≠ x4 → (fw_297_p164 X66 X79 Q x1 x2 x3 x4 x5 s29)) ∧ (¬ (r30 ≠ x4) → ((lf_and x5 (lf_xor x3 (-1)) = 0 → (fw_294 x1 (fun r34 s33 => (fw_296 r34 3 (fun r36 s35 => (lf_R r36 → ((r36 = 0 → (fw_297_p164 X66 X79 Q x1 x2 x3 x4 x5 s35)) ∧ (¬ (r36 = 0) → (fw_296 r34 1 (fun r39 s38 => (lf_R r39 → ((r39 ≠ 0 → (fw_297_p164 X66 X79 Q x1 x2 x3 x4 x5 s38)) ∧ (¬ (r39 ≠ 0) → (fw_296 r34 2 (fun r42 s41 => (lf_R r42 → ((r42 ≠ 0 → (fw_297_p164 X66 X79 Q x1 x2 x3 x4 x5 s41)) ∧ (¬ (r42 ≠ 0) → (fw_297_p164 X66 X79 Q x1 x5 x3 x4 x5 s41))))) s38))))) s35))))) s33)) (lf_up s29.1 95 31 x5, s29.2.1, s29.2.2))) ∧ (¬ (lf_and x5 (lf_xor x3 (-1)) = 0) → (fw_297_p164 X66 X79 Q x1 x2 x3 x4 x5 s29)))))))) s))))))
theorem cj_297_p79 {X661 X662 X663 : Int → Int → lf_Z → Prop} {X791 X792 X793 : Int → Int → lf_Z → Prop} {Q1 Q2 Q3 : Int → lf_Z → Prop} {x1 : Int} {x3 : Int} {x4 : Int} {x2 : Int} {x5 : Int} {s : lf_Z} (hX66 : ∀ (v0 : Int) (v1 : Int) (v2 : lf_Z), X661 v0 v1 v2 → X662 v0 v1 v2 → X663 v0 v1 v2) (hX79 : ∀ (v0 : Int) (v1 : Int) (v2 : lf_Z), X791 v0 v1 v2 → X792 v0 v1 v2 → X793 v0 v1 v2) (hQ : ∀ (r : Int) (s : lf_Z), Q1 r s → Q2 r s → Q3 r s) (h1 : fm_297_p79 X661 Q1 x1 x3 x4 X791 x2 x5 s) (h2 : fw_297_p79 X662 Q2 x1 x3 x4 X792 x2 x5 s) : fm_297_p79 X663 Q3 x1 x3 x4 X793 x2 x5 s := by
  unfold fm_297_p79 at h1 ⊢
  unfold fw_297_p79 at h2
  exact ⟨h1.1, ⟨(fun c2 => cj_297_p170 hX66 hQ (h1.2.1 c2) ((h2 h1.1).1 c2)), (fun c2 => ⟨(h1.2.2 c2).1, ⟨(fun c5 => cj_297_p170 hX66 hQ ((h1.2.2 c2).2.1 c5) ((((h2 h1.1).2 c2) (h1.2.2 c2).1).1 c5)), (fun c5 => cj_188 (fun r30 s29 k7 l7 => ⟨k7.1, ⟨k7.2.1, ⟨(fun c10 => cj_297_p164 hX66 hX79 hQ (k7.2.2.1 c10) (((l7 k7.1) k7.2.1).1 c10)), (fun c10 => ⟨(fun c12 => cj_294 (fun r34 s33 k13 l13 => cj_296 (fun r36 s35 k14 l14 => ⟨k14.1, ⟨(fun c16 => cj_297_p164 hX66 hX79 hQ (k14.2.1 c16) ((l14 k14.1).1 c16)), (fun c16 => cj_296 (fun r39 s38 k18 l18 => ⟨k18.1, ⟨(fun c20 => cj_297_p164 hX66 hX79 hQ (k18.2.1 c20) ((l18 k18.1).1 c20)), (fun c20 => cj_296 (fun r42 s41 k22 l22 => ⟨k22.1, ⟨(fun c24 => cj_297_p164 hX66 hX79 hQ (k22.2.1 c24) ((l22 k22.1).1 c24)), (fun c24 => cj_297_p164 hX66 hX79 hQ (k22.2.2 c24) ((l22 k22.1).2 c24))⟩⟩) (k18.2.2 c20) ((l18 k18.1).2 c20))⟩⟩) (k14.2.2 c16) ((l14 k14.1).2 c16))⟩⟩) k13 l13) ((k7.2.2.2 c10).1 c12) ((((l7 k7.1) k7.2.1).2 c10).1 c12)), (fun c12 => cj_297_p164 hX66 hX79 hQ ((k7.2.2.2 c10).2 c12) ((((l7 k7.1) k7.2.1).2 c10).2 c12))⟩)⟩⟩⟩) ((h1.2.2 c2).2.2 c5) ((((h2 h1.1).2 c2) (h1.2.2 c2).1).2 c5))⟩⟩)⟩⟩
def fw_297_p79L (X66 : Int → Int → lf_Z → Prop) (Q : Int → lf_Z → Prop) (x1 : Int) (x2 : Int) (x3 : Int) (x4 : Int) (x5 : Int) (s : lf_Z) : Prop := ∃ X79 : Int → Int → lf_Z → Prop, (∀ (x2 : Int) (x5 : Int) (s : lf_Z), X79 x2 x5 s → fw_297_p79 X66 Q x1 x3 x4 X79 x2 x5 s) ∧ X79 x2 x5 s
theorem cj_297_p79L {X661 X662 X663 : Int → Int → lf_Z → Prop} {Q1 Q2 Q3 : Int → lf_Z → Prop} {x1 : Int} {x2 : Int} {x3 : Int} {x4 : Int} {x5 : Int} {s : lf_Z} (hX66 : ∀ (v0 : Int) (v1 : Int) (v2 : lf_Z), X661 v0 v1 v2 → X662 v0 v1 v2 → X663 v0 v1 v2) (hQ : ∀ (r : Int) (s : lf_Z), Q1 r s → Q2 r s → Q3 r s) (h1 : fm_297_p79L X661 Q1 x1 x2 x3 x4 x5 s) (h2 : fw_297_p79L X662 Q2 x1 x2 x3 x4 x5 s) : fm_297_p79L X663 Q3 x1 x2 x3 x4 x5 s := by
  intro X0 hX0
  obtain ⟨Y, hY, hY0⟩ := h2
  exact h1 (fun v0 v1 s => Y v0 v1 s → X0 v0 v1 s) (fun v0 v1 s hb hy => hX0 v0 v1 s (cj_297_p79 (hX66 := hX66) (X791 := fun v0 v1 s => Y v0 v1 s → X0 v0 v1 s) (X792 := Y) (X793 := X0) (hX79 := fun v0 v1 s a b => a b) hQ hb (hY v0 v1 s hy))) hY0
def fw_297_p66 (Q : Int → lf_Z → Prop) (x1 : Int) (x3 : Int) (X66 : Int → Int → lf_Z → Prop) (x2 : Int) (x4 : Int) (s : lf_Z) : Prop := lf_R x4 → ((3 < x4 → (fw_297_p176 Q x2 s)) ∧ (¬ (3 < x4) → (lf_R x2 → ((0 ≤ x2 → (fw_297_p176 Q x2 s)) ∧ (¬ (0 ≤ x2) → (fw_297_p79L X66 Q x1 x2 x3 x4 0 s))))))
theorem cj_297_p66 {X661 X662 X663 : Int → Int → lf_Z → Prop} {Q1 Q2 Q3 : Int → lf_Z → Prop} {x1 : Int} {x3 : Int} {x2 : Int} {x4 : Int} {s : lf_Z} (hX66 : ∀ (v0 : Int) (v1 : Int) (v2 : lf_Z), X661 v0 v1 v2 → X662 v0 v1 v2 → X663 v0 v1 v2) (hQ : ∀ (r : Int) (s : lf_Z), Q1 r s → Q2 r s → Q3 r s) (h1 : fm_297_p66 Q1 x1 x3 X661 x2 x4 s) (h2 : fw_297_p66 Q2 x1 x3 X662 x2 x4 s) : fm_297_p66 Q3 x1 x3 X663 x2 x4 s := by
  unfold fm_297_p66 at h1 ⊢
  unfold fw_297_p66 at h2
  exact ⟨h1.1, ⟨(fun c2 => cj_297_p176 hQ (h1.2.1 c2) ((h2 h1.1).1 c2)), (fun c2 => ⟨(h1.2.2 c2).1, ⟨(fun c5 => cj_297_p176 hQ ((h1.2.2 c2).2.1 c5) ((((h2 h1.1).2 c2) (h1.2.2 c2).1).1 c5)), (fun c5 => cj_297_p79L hX66 hQ ((h1.2.2 c2).2.2 c5) ((((h2 h1.1).2 c2) (h1.2.2 c2).1).2 c5))⟩⟩)⟩⟩
def fw_297_p66L (Q : Int → lf_Z → Prop) (x1 : Int) (x2 : Int) (x3 : Int) (x4 : Int) (s : lf_Z) : Prop := ∃ X66 : Int → Int → lf_Z → Prop, (∀ (x2 : Int) (x4 : Int) (s : lf_Z), X66 x2 x4 s → fw_297_p66 Q x1 x3 X66 x2 x4 s) ∧ X66 x2 x4 s
theorem cj_297_p66L {Q1 Q2 Q3 : Int → lf_Z → Prop} {x1 : Int} {x2 : Int} {x3 : Int} {x4 : Int} {s : lf_Z} (hQ : ∀ (r : Int) (s : lf_Z), Q1 r s → Q2 r s → Q3 r s) (h1 : fm_297_p66L Q1 x1 x2 x3 x4 s) (h2 : fw_297_p66L Q2 x1 x2 x3 x4 s) : fm_297_p66L Q3 x1 x2 x3 x4 s := by
  intro X0 hX0
  obtain ⟨Y, hY, hY0⟩ := h2
  exact h1 (fun v0 v1 s => Y v0 v1 s → X0 v0 v1 s) (fun v0 v1 s hb hy => hX0 v0 v1 s (cj_297_p66 (X661 := fun v0 v1 s => Y v0 v1 s → X0 v0 v1 s) (X662 := Y) (X663 := X0) (hX66 := fun v0 v1 s a b => a b) hQ hb (hY v0 v1 s hy))) hY0
def fw_297_p55 (X17 : Int → Int → lf_Z → Prop) (Q : Int → lf_Z → Prop) (x1 : Int) (x2 : Int) (x4 : Int) (y0 : Int) (y1 : Int) (s : lf_Z) : Prop := X17 (lf_or y0 y1) (x4 + 1) s
theorem cj_297_p55 {X171 X172 X173 : Int → Int → lf_Z → Prop} {Q1 Q2 Q3 : Int → lf_Z → Prop} {x1 : Int} {x2 : Int} {x4 : Int} {y0 : Int} {y1 : Int} {s : lf_Z} (hX17 : ∀ (v0 : Int) (v1 : Int) (v2 : lf_Z), X171 v0 v1 v2 → X172 v0 v1 v2 → X173 v0 v1 v2) (hQ : ∀ (r : Int) (s : lf_Z), Q1 r s → Q2 r s → Q3 r s) (h1 : fm_297_p55 X171 Q1 x1 x2 x4 y0 y1 s) (h2 : fw_297_p55 X172 Q2 x1 x2 x4 y0 y1 s) : fm_297_p55 X173 Q3 x1 x2 x4 y0 y1 s := by
  unfold fm_297_p55 at h1 ⊢
  unfold fw_297_p55 at h2
  exact hX17 _ _ _  h1 h2
def fw_297_p54 (X17 : Int → Int → lf_Z → Prop) (Q : Int → lf_Z → Prop) (x1 : Int) (x2 : Int) (x4 : Int) (y0 : Int) (s : lf_Z) : Prop := fw_297_p55 X17 Q x1 x2 x4 y0 0 s
theorem cj_297_p54 {X171 X172 X173 : Int → Int → lf_Z → Prop} {Q1 Q2 Q3 : Int → lf_Z → Prop} {x1 : Int} {x2 : Int} {x4 : Int} {y0 : Int} {s : lf_Z} (hX17 : ∀ (v0 : Int) (v1 : Int) (v2 : lf_Z), X171 v0 v1 v2 → X172 v0 v1 v2 → X173 v0 v1 v2) (hQ : ∀ (r : Int) (s : lf_Z), Q1 r s → Q2 r s → Q3 r s) (h1 : fm_297_p54 X171 Q1 x1 x2 x4 y0 s) (h2 : fw_297_p54 X172 Q2 x1 x2 x4 y0 s) : fm_297_p54 X173 Q3 x1 x2 x4 y0 s := by
  unfold fm_297_p54 at h1 ⊢
  unfold fw_297_p54 at h2
  exact cj_297_p55 hX17 hQ h1 h2
def fw_297_p17 (Q : Int → lf_Z → Prop) (x1 : Int) (x2 : Int) (X17 : Int → Int → lf_Z → Prop) (x3 : Int) (x4 : Int) (s : lf_Z) : Prop := lf_R x4 → (lf_R (s.1 96 1) → ((s.1 96 1 ≤ x4 → (fw_297_p66L Q x1 x2 x3 0 s)) ∧ (¬ (s.1 96 1 ≤ x4) → (fw_245 x4 (fun z45 s44 => ((z45 = false → (fw_297_p54 X17 Q x1 x2 x4 x3 s44)) ∧ (z45 = true → (fw_252 x4 (fun z47 s46 => ((z47 = true → (fw_297_p54 X17 Q x1 x2 x4 x3 s46)) ∧ (z47 = false → (fw_297_p55 X17 Q x1 x2 x4 x3 (lf_shl 1 x4) s46)))) s44)))) s))))
theorem cj_297_p17 {X171 X172 X173 : Int → Int → lf_Z → Prop} {Q1 Q2 Q3 : Int → lf_Z → Prop} {x1 : Int} {x2 : Int} {x3 : Int} {x4 : Int} {s : lf_Z} (hX17 : ∀ (v0 : Int) (v1 : Int) (v2 : lf_Z), X171 v0 v1 v2 → X172 v0 v1 v2 → X173 v0 v1 v2) (hQ : ∀ (r : Int) (s : lf_Z), Q1 r s → Q2 r s → Q3 r s) (h1 : fm_297_p17 Q1 x1 x2 X171 x3 x4 s) (h2 : fw_297_p17 Q2 x1 x2 X172 x3 x4 s) : fm_297_p17 Q3 x1 x2 X173 x3 x4 s := by
  unfold fm_297_p17 at h1 ⊢
  unfold fw_297_p17 at h2
  exact ⟨h1.1, ⟨h1.2.1, ⟨(fun c3 => cj_297_p66L hQ (h1.2.2.1 c3) (((h2 h1.1) h1.2.1).1 c3)), (fun c3 => cj_245 (fun z45 s44 k5 l5 => ⟨(fun c6 => cj_297_p54 hX17 hQ (k5.1 c6) (l5.1 c6)), (fun c6 => cj_252 (fun z47 s46 k8 l8 => ⟨(fun c9 => cj_297_p54 hX17 hQ (k8.1 c9) (l8.1 c9)), (fun c9 => cj_297_p55 hX17 hQ (k8.2 c9) (l8.2 c9))⟩) (k5.2 c6) (l5.2 c6))⟩) (h1.2.2.2 c3) (((h2 h1.1) h1.2.1).2 c3))⟩⟩⟩
def fw_297_p17L (Q : Int → lf_Z → Prop) (x1 : Int) (x2 : Int) (x3 : Int) (x4 : Int) (s : lf_Z) : Prop := ∃ X17 : Int → Int → lf_Z → Prop, (∀ (x3 : Int) (x4 : Int) (s : lf_Z), X17 x3 x4 s → fw_297_p17 Q x1 x2 X17 x3 x4 s) ∧ X17 x3 x4 s
theorem cj_297_p17L {Q1 Q2 Q3 : Int → lf_Z → Prop} {x1 : Int} {x2 : Int} {x3 : Int} {x4 : Int} {s : lf_Z} (hQ : ∀ (r : Int) (s : lf_Z), Q1 r s → Q2 r s → Q3 r s) (h1 : fm_297_p17L Q1 x1 x2 x3 x4 s) (h2 : fw_297_p17L Q2 x1 x2 x3 x4 s) : fm_297_p17L Q3 x1 x2 x3 x4 s := by
  intro X0 hX0
  obtain ⟨Y, hY, hY0⟩ := h2
  exact h1 (fun v0 v1 s => Y v0 v1 s → X0 v0 v1 s) (fun v0 v1 s hb hy => hX0 v0 v1 s (cj_297_p17 (X171 := fun v0 v1 s => Y v0 v1 s → X0 v0 v1 s) (X172 := Y) (X173 := X0) (hX17 := fun v0 v1 s a b => a b) hQ hb (hY v0 v1 s hy))) hY0
def fw_297 (a1 : Int) (Q : Int → lf_Z → Prop) (s : lf_Z) : Prop := fw_254 a1 (fun z22 s21 => ((z22 = true → (fw_297_p17L Q a1 (-1) 0 0 s21)) ∧ (z22 = false → (Q (-1) s21)))) s
theorem cj_297 {Q1 Q2 Q3 : Int → lf_Z → Prop} {a1 : Int} {s : lf_Z} (hQ : ∀ (r : Int) (s : lf_Z), Q1 r s → Q2 r s → Q3 r s) (h1 : fm_297 a1 Q1 s) (h2 : fw_297 a1 Q2 s) : fm_297 a1 Q3 s := by
  unfold fm_297 at h1 ⊢
  unfold fw_297 at h2
  exact cj_254 (fun z22 s21 k1 l1 => ⟨(fun c2 => cj_297_p17L hQ (k1.1 c2) (l1.1 c2)), (fun c2 => hQ _ _  (k1.2 c2) (l1.2 c2))⟩) h1 h2
/-! walks: what a law says of a way -/
section WJ
variable {J K : Nat → Int → Int} {s t u : lf_Z} {f g sv T : Int → Int} {H : List rr_H} {X : mn_X} {I : Nat → Int → Int} {P : Nat → Option Nat} {a b c w p z G v B : Int}
/-- the chance of a way: guarded stretches G, with nerve v; ways B are shut besides -/
def wj_ch (J : Nat → Int → Int) (X : mn_X) (f : Int → Int) (z G v B w p c : Int) : Int :=
  if mn_at J p w.toNat = false ∨ J 6 w ≠ 0 ∨ bt_t (f 36) w = true ∨ bt_t B w = true then 0 else X.2 (mn_ng J f z p w (if mn_ac J w p = c then 1 else 0) (if bt_t G p = true then 1 else 0) (if bt_t G (mn_ac J w p) = true then v else 0))
theorem wj_chB (hB : gx_XB X) : 0 ≤ wj_ch J X f z G v B w p c ∧ wj_ch J X f z G v B w p c ≤ 10 := by
  unfold wj_ch
  split
  · omega
  · exact hB.2 _
theorem wj_at (hW : mn_W J) (w0 : 0 ≤ a) (w1 : a < J 1 1) : mn_at J b a.toNat = true ↔ mn_ac J a b ≠ -1 := by
  have q4 := hW.2.2.2.1 a w0 w1
  rw [mn_atE, show ((a.toNat : Nat) : Int) = a by omega]
  unfold mn_ac
  (repeat' split) <;> omega
theorem wj_ac (hW : mn_W J) (w0 : 0 ≤ a) (w1 : a < J 1 1) (h : mn_ac J a b ≠ -1) : 0 ≤ mn_ac J a b ∧ mn_ac J a b < J 1 0 := by
  have q4 := hW.2.2.2.1 a w0 w1
  unfold mn_ac at h ⊢
  (repeat' split) <;> first | omega | (exfalso; (repeat' split at h) <;> omega)
/-- what a law says of a way, by its side -/
def wj_v (J : Nat → Int → Int) (X : mn_X) (f : Int → Int) (z v a sd bk mh mt : Int) : Int := X.2 (mn_ng J f z (if sd = 0 then J 4 a else J 5 a) a bk mh (mt * v))
/-- what the class keeps of it -/
def wj_C (J : Nat → Int → Int) (X : mn_X) (f : Int → Int) (z v : Int) (I : Nat → Int → Int) : Prop := ∀ w sd bk mh mt : Int, (0 ≤ w ∧ w < J 1 1) → (0 ≤ sd ∧ sd ≤ 1) → (0 ≤ bk ∧ bk ≤ 1) → (0 ≤ mh ∧ mh ≤ 1) → (0 ≤ mt ∧ mt ≤ 1) → I 69 (w * 16 + sd * 8 + bk * 4 + mh * 2 + mt) = -1 ∨ I 69 (w * 16 + sd * 8 + bk * 4 + mh * 2 + mt) = wj_v J X f z v w sd bk mh mt
def wj_K (J : Nat → Int → Int) (X : mn_X) (f : Int → Int) (z G v B : Int) (I : Nat → Int → Int) : Prop := (I 68 8 = z ∧ I 68 9 = B ∧ I 68 10 = G ∧ I 68 11 = v) ∧ wj_C J X f z v I
def wj_f (s t : lf_Z) : Prop := (∀ c : Nat, c ≠ 63 → c ≠ 64 → c ≠ 65 → c ≠ 66 → c ≠ 69 → t.1 c = s.1 c) ∧ t.2 = s.2
theorem wj_fr : wj_f s s := ⟨fun _ _ _ _ _ _ => rfl, rfl⟩
/-- what stays for all of a walk -/
def wj_F (J : Nat → Int → Int) (X : mn_X) (z v : Int) : Prop := mn_W J ∧ mn_B J ∧ mn_V J ∧ gx_XB X ∧ cm_sm z ∧ 0 ≤ v ∧ v ≤ 9
def wj_A (J : Nat → Int → Int) (X : mn_X) (f : Int → Int) (z G v B : Int) (I : Nat → Int → Int) (s : lf_Z) : Prop := gc_J J s ∧ rc_S s.1 f ∧ gx_Xc X I s ∧ wj_K J X f z G v B s.1
/-- the class -/
theorem fl_123 {Q : Int → lf_Z → Prop} (hF : wj_F J X z v) (hA : wj_A J X f z G v B I s) (p0 : 0 ≤ b ∧ b < J 1 0) (w0 : 0 ≤ a) (w1 : a < J 1 1) (k : ∀ t : lf_Z, wj_f s t → wj_K J X f z G v B t.1 → Q (wj_ch J X f z G v B a b c) t) : fw_123 a b c Q s := by
  obtain ⟨hW, hB, hV, hXB, hz, hv⟩ := hF
  obtain ⟨hJ, hS, hX, hK⟩ := hA
  have n0 := hW.1
  have n1 := hW.2.1
  have e1 : s.1 1 = J 1 := hJ 1 (by omega)
  have e4 : s.1 4 = J 4 := hJ 4 (by omega)
  have e6 : s.1 6 = J 6 := hJ 6 (by omega)
  have hK' := hK
  obtain ⟨⟨k8, k9, k10, k11⟩, kC⟩ := hK'
  have no : (mn_at J b a.toNat = false ∨ J 6 a ≠ 0 ∨ bt_t (f 36) a = true ∨ bt_t B a = true) → Q 0 s := fun q => qu_to (k s wj_fr hK) (if_pos q)
  unfold fw_123
  refine fl_78 ?_
  rw [e1, if_pos ⟨w0, w1⟩, mn_acJ hJ]
  intro _
  refine ⟨fun y => no (Or.inl ?_), fun y => fl_89 ⟨fun y1 => no (Or.inr (Or.inl (fun q => ?_))), fun y1 => fl_90 w0 (by omega) ⟨fun y2 => no (Or.inr (Or.inr (Or.inl ?_))), fun y2 => ⟨fun y3 _ => ?_, fun y3 => no (Or.inr (Or.inr (Or.inr ?_)))⟩⟩⟩⟩
  · cases q : mn_at J b a.toNat with
    | false => rfl
    | true => exact absurd y ((wj_at hW w0 w1).mp q)
  · rw [decide_eq_true w0, e1, decide_eq_true w1, e6, decide_eq_true q] at y1
    cases y1
  · rw [hS.2.2.2.1] at y2
    cases q : bt_t (f 36) a with
    | true => rfl
    | false => rw [q] at y2; cases y2
  · have hat := (wj_at (b := b) hW w0 w1).mpr y
    have ac := wj_ac hW w0 w1 y
    have sh : bt_t (f 36) a = false := by
      rw [hS.2.2.2.1] at y2
      cases q : bt_t (f 36) a with
      | false => rfl
      | true => rw [q] at y2; cases y2
    have sB : bt_t B a = false := by
      rw [k9, bt_T w0 (by omega)] at y3
      cases q : bt_t B a with
      | false => rfl
      | true => rw [q] at y3; exact absurd rfl y3
    have j6 : J 6 a = 0 := by
      cases q : decide (s.1 6 a = 0) with
      | true => have q := of_decide_eq_true q; rw [e6] at q; exact q
      | false => rw [q, Bool.and_false] at y1; cases y1
    obtain ⟨bk, hb⟩ : ∃ bk : Int, bk = (if mn_ac J a b = c then 1 else 0) := ⟨_, rfl⟩
    obtain ⟨mh, hh⟩ : ∃ mh : Int, mh = (if bt_t G b = true then 1 else 0) := ⟨_, rfl⟩
    obtain ⟨mt, ht⟩ : ∃ mt : Int, mt = (if bt_t G (mn_ac J a b) = true then 1 else 0) := ⟨_, rfl⟩
    have bB : 0 ≤ bk ∧ bk ≤ 1 := by rw [hb]; split <;> omega
    have hB' : 0 ≤ mh ∧ mh ≤ 1 := by rw [hh]; split <;> omega
    have tB : 0 ≤ mt ∧ mt ≤ 1 := by rw [ht]; split <;> omega
    have tv : 0 ≤ mt * v ∧ mt * v ≤ 9 := by
      rcases (show mt = 0 ∨ mt = 1 by omega) with q | q
      · rw [q]; omega
      · rw [q]; omega
    have e : wj_ch J X f z G v B a b c = X.2 (mn_ng J f z b a bk mh (mt * v)) := by
      have m : mt * v = (if bt_t G (mn_ac J a b) = true then v else 0) := by
        by_cases q : bt_t G (mn_ac J a b) = true
        · rw [ht, if_pos q, if_pos q]; omega
        · rw [ht, if_neg q, if_neg q]; omega
      rw [m, hb, hh]
      exact if_neg (fun q => by
        rcases q with q | q | q | q
        · rw [hat] at q; cases q
        · exact q j6
        · rw [sh] at q; cases q
        · rw [sB] at q; cases q)
    have p105 : ∀ sd : Int, (0 ≤ sd ∧ sd ≤ 1) → b = (if sd = 0 then J 4 a else J 5 a) → fw_123_p105 Q a b bk mh mt sd s := fun sd sd1 hbs => by
      have kc := kC a sd bk mh mt ⟨w0, w1⟩ sd1 bB hB' tB
      have ev : wj_v J X f z v a sd bk mh mt = wj_ch J X f z G v B a b c := by
        unfold wj_v
        rw [← hbs, e]
      unfold fw_123_p105
      intro _ _
      refine ⟨fun y5 => ?_, fun y5 => ?_⟩
      · unfold fw_123_p174
        intro _
        rcases kc with q | q
        · exact absurd q y5
        · rw [q, ev]; exact k s wj_fr hK
      · rw [k8, k11]
        refine fl_91 hJ hW hB hV hS hX.1 hX.2 p0 w0 w1 tv (ng_S hW hB hV p0 w0 w1 hz (by unfold cm_sm; omega) hB' tv) ac.1 (fun r t tf hr => ?_)
        have er : r = wj_ch J X f z G v B a b c := hr.trans e.symm
        have c68 : t.1 68 = s.1 68 := tf.1 68 (by decide) (by decide) (by decide) (by decide)
        have c69 : t.1 69 = s.1 69 := tf.1 69 (by decide) (by decide) (by decide) (by decide)
        unfold fw_123_p174
        intro _
        refine qu_to (k _ ⟨fun d d1 d2 d3 d4 d5 => (zu_r d5).trans (tf.1 d d1 d2 d3 d4), tf.2⟩ ⟨⟨?_, ?_, ?_, ?_⟩, ?_⟩) (er.symm.trans zu_s.symm)
        · rw [zu_c (by decide), c68]; exact k8
        · rw [zu_c (by decide), c68]; exact k9
        · rw [zu_c (by decide), c68]; exact k10
        · rw [zu_c (by decide), c68]; exact k11
        · intro w' sd' bk' mh' mt' h1 h2 h3 h4 h5
          by_cases q : w' * 16 + sd' * 8 + bk' * 4 + mh' * 2 + mt' = a * 16 + sd * 8 + bk * 4 + mh * 2 + mt
          · obtain ⟨q1, q2, q3, q4, q5⟩ : w' = a ∧ sd' = sd ∧ bk' = bk ∧ mh' = mh ∧ mt' = mt := by omega
            rw [q1, q2, q3, q4, q5]
            exact Or.inr (zu_s.trans (er.trans ev.symm))
          · rw [zu_i q, c69]
            exact kC w' sd' bk' mh' mt' h1 h2 h3 h4 h5
    have p64 : fw_123_p64 Q a b (mn_ac J a b) bk s := by
      unfold fw_123_p64
      rw [k10, bt_T p0.1 (by omega), bt_T ac.1 (by omega), ← hh, ← ht, e4]
      intro _ _ _
      refine ⟨fun q => p105 1 (by decide) ?_, fun q => p105 0 (by decide) ?_⟩
      · rw [if_neg (by decide)]
        rcases mn_atE.mp hat with m | m
        · rw [show ((a.toNat : Nat) : Int) = a by omega] at m; exact absurd m q
        · rw [show ((a.toNat : Nat) : Int) = a by omega] at m; exact m.symm
      · rw [if_pos rfl]; exact (Classical.not_not.mp q).symm
    have m : ∀ x : Int, x = bk → fw_123_p64 Q a b (mn_ac J a b) x s := fun x hx => by rw [hx]; exact p64
    exact ⟨fun q => m 0 (by rw [hb, if_neg (fun q2 => q q2.symm)]), fun q => m 1 (by rw [hb, if_pos (Classical.not_not.mp q).symm])⟩
  · rw [k9, bt_T w0 (by omega)] at y3
    cases q : bt_t B a with
    | true => rfl
    | false => rw [q] at y3; exact absurd (show (if false = true then (1 : Int) else 0) ≠ 1 by decide) y3
/-- the reference -/
theorem fl_273w {Q : Int → lf_Z → Prop} (hF : wj_F J X z v) (hL : rr_L J (s.1 96)) (hS : rr_S (J 1 1) (J 1 2) f (s.1 96)) (hX : xr_X X T (s.1 96 8)) (hT : s.1 98 = T) (h9 : s.1 95 29 = G ∧ s.1 95 30 = v ∧ s.1 95 31 = B) (p0 : 0 ≤ b ∧ b < J 1 0) (w0 : 0 ≤ a) (w1 : a < J 1 1) (k : ∀ t : lf_Z, tr_f s t → Q (wj_ch J X f z G v B a b c) t) : fw_273 z b c a Q s := by
  obtain ⟨hW, hB, hV, hXB, hz, hv⟩ := hF
  obtain ⟨g1, g2, g3⟩ := h9
  have n0 := hW.1
  refine fl_273 hL hW hB hV hS hX hT p0 w0 w1 (by rw [g2]; exact hv) (ng_S hW hB hV p0 w0 w1 hz (by unfold cm_sm; split <;> omega) (by split <;> omega) (by rw [g2]; split <;> omega)) (fun r t tf hr => qu_to (k t tf) ?_)
  rw [hr, g1, g2, g3]
  rfl
end WJ
/-! where a bunch can come: the search -/
section WJ
variable {J K : Nat → Int → Int} {s t u : lf_Z} {f g sv T : Int → Int} {H : List rr_H} {X : mn_X} {I : Nat → Int → Int} {a b c w p z G v B n1 x : Int}
/-- one more of a sort -/
theorem dm_cnX {P : Nat → Bool} {m : Nat} (h : P m = false) : ∀ n : Nat, m < n → dm_cn P n < n := by
  intro n
  induction n with
  | zero => intro h; omega
  | succ n ih =>
    intro hm
    show dm_cn P n + (if P n = true then 1 else 0) < n + 1
    by_cases e : m = n
    · subst e
      have := dm_cnB (P := P) m
      rw [if_neg (by rw [h]; decide)]
      omega
    · have := ih (by omega)
      split <;> omega
theorem dm_cnA {P P' : Nat → Bool} {m : Nat} (h : P m = false) (h' : P' m = true) (he : ∀ y : Nat, y ≠ m → P' y = P y) : ∀ n : Nat, dm_cn P' n = dm_cn P n + (if m < n then 1 else 0) := by
  intro n
  induction n with
  | zero => rfl
  | succ n ih =>
    show dm_cn P' n + (if P' n = true then 1 else 0) = dm_cn P n + (if P n = true then 1 else 0) + (if m < n + 1 then 1 else 0)
    rw [ih]
    by_cases e : n = m
    · subst e
      rw [h, h', if_neg (show ¬ n < n by omega), if_pos (show n < n + 1 by omega), if_pos (show true = true from rfl), if_neg (show ¬ (false = true) by decide)]
    · rw [he n e]
      by_cases q : m < n
      · rw [if_pos q, if_pos (show m < n + 1 by omega)]; omega
      · rw [if_neg q, if_neg (show ¬ m < n + 1 by omega)]; omega
theorem dm_cn0 : ∀ n : Nat, dm_cn (fun _ => false) n = 0 := by
  intro n
  induction n with
  | zero => rfl
  | succ n ih => exact (show dm_cn (fun _ => false) n + 0 = 0 by rw [ih])
/-- the search: what is to be looked at, what was met, how many -/
abbrev wj_T : Type := (Int → Int) × (Int → Int) × Nat
def wj_i (J : Nat → Int → Int) (w p : Int) : Int := mn_ac J w p * 13 + p + 1
def wj_pu (J : Nat → Int → Int) (C : Int → Int) (p : Int) (w : Nat) (T : wj_T) : wj_T := if C w ≠ 0 ∧ T.2.1 (wj_i J w p) = 0 then (ds_u1 T.1 T.2.2 (wj_i J w p), ds_u1 T.2.1 (wj_i J w p) 1, T.2.2 + 1) else T
def wj_go (J : Nat → Int → Int) (C : Int → Int) (p : Int) : Nat → Nat → wj_T → wj_T
  | 0, _, T => T
  | k + 1, w, T => if 10 ≤ C w then wj_pu J C p w T else wj_go J C p k (w + 1) (wj_pu J C p w T)
def wj_sp (J : Nat → Int → Int) (C : Int → Int → Int → Int) : Nat → Nat → Int → wj_T → Int
  | 0, _, m, _ => m
  | k + 1, i, m, T => if i < T.2.2 then wj_sp J C k (i + 1) (lf_or m (lf_shl 1 ((T.1 i).tdiv 13))) (wj_go J (fun w => C w ((T.1 i).tdiv 13) ((T.1 i).tmod 13 - 1)) ((T.1 i).tdiv 13) (J 1 1).toNat 0 T) else m
def wj_0 (x : Int) : wj_T := (fun _ => x, ds_u1 (fun _ => 0) x 1, 1)
/-- where it can come -/
def wj_re (J : Nat → Int → Int) (X : mn_X) (f : Int → Int) (z G v B x : Int) : Int := wj_sp J (fun w p c => wj_ch J X f z G v B w p c) 200 0 0 (wj_0 x)
theorem wj_pu0 {C : Int → Int} {w : Nat} {T : wj_T} (h : C w = 0) : wj_pu J C p w T = T := if_neg (fun q => q.1 h)
theorem wj_pu1 {C : Int → Int} {w : Nat} {T : wj_T} (h : T.2.1 (wj_i J w p) ≠ 0) : wj_pu J C p w T = T := if_neg (fun q => h q.2)
theorem wj_pu2 {C : Int → Int} {w : Nat} {T : wj_T} (h : C w ≠ 0) (h2 : T.2.1 (wj_i J w p) = 0) : wj_pu J C p w T = (ds_u1 T.1 T.2.2 (wj_i J w p), ds_u1 T.2.1 (wj_i J w p) 1, T.2.2 + 1) := if_pos ⟨h, h2⟩
/-- cells that hold it -/
def wj_Q (n1 : Int) (cq cm : Int → Int) (T : wj_T) : Prop := (∀ j : Int, 0 ≤ j → j < T.2.2 → cq j = T.1 j ∧ 0 ≤ T.1 j ∧ T.1 j < 13 * n1) ∧ (∀ y : Int, 0 ≤ y → y < 156 → cm y = T.2.1 y) ∧ T.2.2 = dm_cn (fun m => decide (T.2.1 (m : Int) ≠ 0)) 156
theorem wj_QL {cq cm : Int → Int} {T : wj_T} (h : wj_Q n1 cq cm T) : T.2.2 ≤ 156 := by
  rw [h.2.2]
  exact dm_cnB _
theorem wj_Ql {cq cm : Int → Int} {T : wj_T} (h : wj_Q n1 cq cm T) (x0 : 0 ≤ x) (x1 : x < 156) (hx : T.2.1 x = 0) : T.2.2 < 156 := by
  rw [h.2.2]
  refine dm_cnX (m := x.toNat) ?_ 156 (by omega)
  rw [show ((x.toNat : Nat) : Int) = x by omega, hx]
  rfl
theorem wj_Qp {cq cm cq' cm' : Int → Int} {T : wj_T} (h : wj_Q n1 cq cm T) (n12 : n1 ≤ 12) (x0 : 0 ≤ x) (x1 : x < 13 * n1) (hx : T.2.1 x = 0) (e1 : cq' T.2.2 = x) (e2 : ∀ j : Int, j ≠ T.2.2 → cq' j = cq j) (e3 : cm' x = 1) (e4 : ∀ y : Int, y ≠ x → cm' y = cm y) : wj_Q n1 cq' cm' (ds_u1 T.1 T.2.2 x, ds_u1 T.2.1 x 1, T.2.2 + 1) := by
  have us : ∀ (F : Int → Int) (i y : Int), ds_u1 F i y i = y := fun F i y => if_pos rfl
  have ui : ∀ (F : Int → Int) (i y j : Int), j ≠ i → ds_u1 F i y j = F j := fun F i y j hj => if_neg hj
  refine ⟨fun j j0 j1 => ?_, fun y y0 y1 => ?_, ?_⟩
  · have j1 : j < ((T.2.2 + 1 : Nat) : Int) := j1
    show cq' j = ds_u1 T.1 T.2.2 x j ∧ 0 ≤ ds_u1 T.1 T.2.2 x j ∧ ds_u1 T.1 T.2.2 x j < 13 * n1
    by_cases q : j = T.2.2
    · rw [q, us, e1]; exact ⟨rfl, x0, x1⟩
    · rw [ui _ _ _ _ q, e2 j q]
      exact h.1 j j0 (by omega)
  · show cm' y = ds_u1 T.2.1 x 1 y
    by_cases q : y = x
    · rw [q, us, e3]
    · rw [ui _ _ _ _ q, e4 y q]
      exact h.2.1 y y0 y1
  · show T.2.2 + 1 = dm_cn (fun m => decide (ds_u1 T.2.1 x 1 (m : Int) ≠ 0)) 156
    have e := dm_cnA (P := fun m => decide (T.2.1 (m : Int) ≠ 0)) (P' := fun m => decide (ds_u1 T.2.1 x 1 (m : Int) ≠ 0)) (m := x.toNat) (by show decide (T.2.1 ((x.toNat : Nat) : Int) ≠ 0) = false; rw [show ((x.toNat : Nat) : Int) = x by omega, hx]; rfl) (by show decide (ds_u1 T.2.1 x 1 ((x.toNat : Nat) : Int) ≠ 0) = true; rw [show ((x.toNat : Nat) : Int) = x by omega, us]; rfl) (fun y hy => by show decide (ds_u1 T.2.1 x 1 (y : Int) ≠ 0) = decide (T.2.1 (y : Int) ≠ 0); rw [ui _ _ _ _ (by omega)]) 156
    rw [e, if_pos (by omega), ← h.2.2]
theorem wj_Qe {cq cm cq' cm' : Int → Int} {T : wj_T} (h : wj_Q n1 cq cm T) (e1 : cq' = cq) (e2 : cm' = cm) : wj_Q n1 cq' cm' T := by rw [e1, e2]; exact h
/-- ways that aren't there -/
theorem wj_goN {C : Int → Int} {P : Nat → Bool} (hC : ∀ w : Nat, P w = false → C w = 0) (T : wj_T) : ∀ (k w : Nat), (∀ y : Nat, w ≤ y → y < w + k → P y = false) → wj_go J C p k w T = T := by
  intro k
  induction k with
  | zero => intro w _; rfl
  | succ k ih =>
    intro w h
    have h0 := hC w (h w (Nat.le_refl w) (by omega))
    show (if 10 ≤ C w then wj_pu J C p w T else wj_go J C p k (w + 1) (wj_pu J C p w T)) = T
    have e : wj_pu J C p w T = T := wj_pu0 h0
    rw [if_neg (by rw [h0]; decide), e]
    exact ih (w + 1) (fun y y0 y1 => h y (by omega) (by omega))
theorem wj_goS {C : Int → Int} {P : Nat → Bool} (hC : ∀ w : Nat, P w = false → C w = 0) (T : wj_T) (l : Nat) : ∀ (k w : Nat), (∀ y : Nat, w ≤ y → y < w + k → P y = false) → wj_go J C p (k + l) w T = wj_go J C p l (w + k) T := by
  intro k
  induction k with
  | zero => intro w _; rw [Nat.zero_add]; rfl
  | succ k ih =>
    intro w h
    have h0 := hC w (h w (Nat.le_refl w) (by omega))
    rw [show k + 1 + l = (k + l) + 1 by omega]
    show (if 10 ≤ C w then wj_pu J C p w T else wj_go J C p (k + l) (w + 1) (wj_pu J C p w T)) = _
    have e : wj_pu J C p w T = T := wj_pu0 h0
    rw [if_neg (by rw [h0]; decide), e, ih (w + 1) (fun y y0 y1 => h y (by omega) (by omega)), show w + 1 + k = w + (k + 1) by omega]
theorem dm_cnZ {P : Nat → Bool} {x y : Nat} (h : dm_cn P x = dm_cn P y) : ∀ z : Nat, x ≤ z → z < y → P z = false := by
  intro z z0 z1
  cases q : P z with
  | false => rfl
  | true =>
    have m1 := dm_cnW (P := P) z x z0
    have m2 := dm_cnT q
    have m3 := dm_cnW (P := P) y (z + 1) (by omega)
    omega
/-- frames of the class, of the reference -/
def wj_e (s t : lf_Z) : Prop := (∀ c : Nat, c ≠ 63 → c ≠ 64 → c ≠ 65 → c ≠ 66 → c ≠ 69 → c ≠ 70 → c ≠ 71 → t.1 c = s.1 c) ∧ t.2 = s.2
theorem wj_er : wj_e s s := ⟨fun _ _ _ _ _ _ _ _ => rfl, rfl⟩
theorem wj_et (h : wj_e s t) (g : wj_e t u) : wj_e s u := ⟨fun c a b d e i j k => (g.1 c a b d e i j k).trans (h.1 c a b d e i j k), g.2.trans h.2⟩
theorem wj_fe (h : wj_f s t) : wj_e s t := ⟨fun c a b d e i _ _ => h.1 c a b d e i, h.2⟩
theorem wj_Ae (h : wj_A J X f z G v B I s) (e : wj_e s t) (k : wj_K J X f z G v B t.1) : wj_A J X f z G v B I t := by
  obtain ⟨hJ, hS, ⟨hX1, hX2⟩, _⟩ := h
  refine ⟨fun c hc => (e.1 c (by omega) (by omega) (by omega) (by omega) (by omega) (by omega) (by omega)).trans (hJ c hc), ?_, ⟨?_, fun c c0 c1 => (e.1 c (by omega) (by omega) (by omega) (by omega) (by omega) (by omega) (by omega)).trans (hX2 c c0 c1)⟩, k⟩
  · unfold rc_S at hS ⊢
    rw [e.1 16 (by decide) (by decide) (by decide) (by decide) (by decide) (by decide) (by decide), e.1 17 (by decide) (by decide) (by decide) (by decide) (by decide) (by decide) (by decide), e.1 18 (by decide) (by decide) (by decide) (by decide) (by decide) (by decide) (by decide), e.1 19 (by decide) (by decide) (by decide) (by decide) (by decide) (by decide) (by decide), e.1 20 (by decide) (by decide) (by decide) (by decide) (by decide) (by decide) (by decide), e.1 21 (by decide) (by decide) (by decide) (by decide) (by decide) (by decide) (by decide), e.1 15 (by decide) (by decide) (by decide) (by decide) (by decide) (by decide) (by decide)]
    exact hS
  · rw [e.2]; exact hX1
/-- the loop over the ways of a stretch -/
def wj_n9 (J : Nat → Int → Int) (X : mn_X) (f : Int → Int) (z G v B : Int) (I : Nat → Int → Int) (s : lf_Z) (p c : Int) (T : wj_T) (x4 x5 : Int) (t : lf_Z) : Prop := wj_e s t ∧ wj_A J X f z G v B I t ∧ ∃ (w : Nat) (T' : wj_T), w ≤ (J 1 1).toNat ∧ x5 = (dm_cn (mn_at J p) w : Nat) ∧ x4 = T'.2.2 ∧ wj_Q (J 1 0) (t.1 70) (t.1 71) T' ∧ wj_go J (fun w => wj_ch J X f z G v B w p c) p (J 1 1).toNat 0 T = wj_go J (fun w => wj_ch J X f z G v B w p c) p ((J 1 1).toNat - w) w T'
theorem fl_129 {Q : Int → lf_Z → Prop} {T : wj_T} (hF : wj_F J X z v) (hA : wj_A J X f z G v B I s) (hp : a.tdiv 13 = p) (hc : a.tmod 13 - 1 = c) (p0 : 0 ≤ p ∧ p < J 1 0) (hb : b = T.2.2) (hQ : wj_Q (J 1 0) (s.1 70) (s.1 71) T)
    (k : ∀ (T' : wj_T) (t : lf_Z), T' = wj_go J (fun w => wj_ch J X f z G v B w p c) p (J 1 1).toNat 0 T → wj_e s t → wj_A J X f z G v B I t → wj_Q (J 1 0) (t.1 70) (t.1 71) T' → Q T'.2.2 t) : fw_129 a b Q s := by
  have hW := hF.1
  have n0 := hW.1
  have n1 := hW.2.1
  have hC : ∀ w : Nat, mn_at J p w = false → wj_ch J X f z G v B w p c = 0 := fun w hw => if_pos (Or.inl (by rw [Int.toNat_natCast]; exact hw))
  unfold fw_129
  intro _
  rw [hp]
  refine ⟨wj_n9 J X f z G v B I s p c T, ?_, ⟨wj_er, hA, 0, T, Nat.zero_le _, rfl, hb, hQ, rfl⟩⟩
  intro x4 x5 t ⟨te, tA, w, T', wW, ex5, ex4, tQ, eg⟩
  have e1 : t.1 1 = J 1 := tA.1 1 (by omega)
  have e11 : t.1 11 = J 11 := tA.1 11 (by omega)
  have e12 : t.1 12 = J 12 := tA.1 12 (by omega)
  obtain ⟨m1, m2, m3⟩ := hW.2.2.2.2.1 p p0.1 (by omega)
  have mono := dm_cnW (P := mn_at J p) (J 1 1).toNat w wW
  unfold fw_129_p11
  refine fl_76 ?_
  rw [e1, if_pos p0, e12]
  intro _ _
  refine ⟨fun y => ?_, fun y => ?_⟩
  · have e2 : dm_cn (mn_at J p) w = dm_cn (mn_at J p) (J 1 1).toNat := by omega
    have e3 := wj_goN (J := J) (C := fun w => wj_ch J X f z G v B w p c) (P := mn_at J p) (p := p) hC T' ((J 1 1).toNat - w) w (fun y y0 y1 => dm_cnZ e2 y y0 (by omega))
    rw [ex4]
    exact k T' t (eg.trans e3).symm te tA tQ
  · obtain ⟨w2, g1, g2, g3⟩ := dm_cnS (P := mn_at J p) (J 1 1).toNat (dm_cn (mn_at J p) w) (by omega)
    have gw := m3 w2 (by omega) g2
    rw [g3] at gw
    have wle : w ≤ w2 := by
      by_cases q : w ≤ w2
      · exact q
      · have q1 := dm_cnT g2
        have q2 := dm_cnW (P := mn_at J p) w (w2 + 1) (by omega)
        omega
    have skip := wj_goS (J := J) (C := fun w => wj_ch J X f z G v B w p c) (P := mn_at J p) (p := p) hC T' ((J 1 1).toNat - w2) (w2 - w) w (fun y y0 y1 => dm_cnZ g3.symm y y0 (by omega))
    rw [show w2 - w + ((J 1 1).toNat - w2) = (J 1 1).toNat - w by omega, show w + (w2 - w) = w2 by omega, show (J 1 1).toNat - w2 = ((J 1 1).toNat - (w2 + 1)) + 1 by omega] at skip
    have un : wj_go J (fun w => wj_ch J X f z G v B w p c) p (((J 1 1).toNat - (w2 + 1)) + 1) w2 T' = if 10 ≤ wj_ch J X f z G v B w2 p c then wj_pu J (fun w => wj_ch J X f z G v B w p c) p w2 T' else wj_go J (fun w => wj_ch J X f z G v B w p c) p ((J 1 1).toNat - (w2 + 1)) (w2 + 1) (wj_pu J (fun w => wj_ch J X f z G v B w p c) p w2 T') := rfl
    have eg2 := eg.trans (skip.trans un)
    have ac := mn_acB hW (show (w2 : Int) < J 1 1 by omega) g2
    have cB : 0 ≤ wj_ch J X f z G v B w2 p c ∧ wj_ch J X f z G v B w2 p c ≤ 10 := wj_chB hF.2.2.2.1
    refine fl_77 (by rw [e1]; exact p0) (by omega) (by rw [e12]; omega) ?_
    rw [e11, ex5, gw]
    intro _
    rw [hc]
    refine fl_123 hF tA p0 (by omega) (by omega) (fun r rf rK => fl_78 ?_)
    have rA := wj_Ae tA (wj_fe rf) rK
    have r1 : r.1 1 = J 1 := rA.1 1 (by omega)
    have r70 : r.1 70 = t.1 70 := rf.1 70 (by decide) (by decide) (by decide) (by decide) (by decide)
    have r71 : r.1 71 = t.1 71 := rf.1 71 (by decide) (by decide) (by decide) (by decide) (by decide)
    have rQ : wj_Q (J 1 0) (r.1 70) (r.1 71) T' := wj_Qe tQ r70 r71
    rw [r1, if_pos ⟨by omega, by omega⟩, mn_acJ rA.1]
    have ei : mn_ac J (w2 : Int) p * 13 + p + 1 = wj_i J w2 p := rfl
    have iB : 0 ≤ wj_i J w2 p ∧ wj_i J w2 p < 13 * J 1 0 := by rw [← ei]; omega
    have fin : ∀ (u : lf_Z) (T2 : wj_T), wj_e t u → wj_A J X f z G v B I u → wj_Q (J 1 0) (u.1 70) (u.1 71) T2 → T2 = wj_pu J (fun w => wj_ch J X f z G v B w p c) p w2 T' → fw_129_p113 (wj_n9 J X f z G v B I s p c T) Q a p T2.2.2 (dm_cn (mn_at J p) w : Nat) (wj_ch J X f z G v B w2 p c) u := fun u T2 ue uA uQ e2 => by
      unfold fw_129_p113
      intro _
      refine ⟨fun y2 => ⟨wj_et te ue, uA, w2 + 1, T2, by omega, ?_, rfl, uQ, ?_⟩, fun y2 => ?_⟩
      · have q1 := dm_cnT g2
        omega
      · rw [eg2, if_neg (by omega), e2]
      · refine k T2 u ?_ (wj_et te ue) uA uQ
        rw [eg2, if_pos (by omega), e2]
    intro _
    rw [ei, ex4]
    refine ⟨fun y2 => fin r T' (wj_fe rf) rA rQ ?_, fun y2 _ _ => ⟨fun y3 => fin r T' (wj_fe rf) rA rQ ?_, fun y3 _ => ⟨fun y4 => ?_, fun y4 _ => ?_⟩⟩⟩
    · exact (wj_pu0 (C := fun w => wj_ch J X f z G v B w p c) (show wj_ch J X f z G v B w2 p c = 0 by omega)).symm
    · rw [r71, tQ.2.1 _ iB.1 (by omega)] at y3
      exact (wj_pu1 (C := fun w => wj_ch J X f z G v B w p c) y3).symm
    · rw [r71, tQ.2.1 _ iB.1 (by omega)] at y3
      have := wj_Ql tQ iB.1 (by omega) (Classical.not_not.mp y3)
      omega
    · rw [r71, tQ.2.1 _ iB.1 (by omega)] at y3
      have ne : wj_ch J X f z G v B w2 p c ≠ 0 := by omega
      have ep : (ds_u1 T'.1 T'.2.2 (wj_i J w2 p), ds_u1 T'.2.1 (wj_i J w2 p) 1, T'.2.2 + 1) = wj_pu J (fun w => wj_ch J X f z G v B w p c) p w2 T' := (wj_pu2 (C := fun w => wj_ch J X f z G v B w p c) ne (Classical.not_not.mp y3)).symm
      obtain ⟨u, hu⟩ : ∃ u : lf_Z, u = (lf_up (lf_up r.1 71 (wj_i J w2 p) 1) 70 T'.2.2 (wj_i J w2 p), r.2.1, r.2.2) := ⟨_, rfl⟩
      rw [← hu]
      have ue : wj_e t u := wj_et (wj_fe rf) (by rw [hu]; exact ⟨fun c _ _ _ _ _ c1 c2 => (zu_r c1).trans (lf_up_row c2), rfl⟩)
      have uK : wj_K J X f z G v B u.1 := by
        have q := rA.2.2.2
        unfold wj_K wj_C at q ⊢
        rw [hu, zu_r (by decide), lf_up_row (by decide), zu_r (by decide), lf_up_row (by decide)]
        exact q
      refine fin u (ds_u1 T'.1 T'.2.2 (wj_i J w2 p), ds_u1 T'.2.1 (wj_i J w2 p) 1, T'.2.2 + 1) ue (wj_Ae tA ue uK) ?_ ep
      refine wj_Qp rQ n0.2 iB.1 iB.2 (Classical.not_not.mp y3) ?_ (fun j hj => ?_) ?_ (fun y hy => ?_)
      · rw [hu]; exact zu_s
      · rw [hu]; exact (zu_i hj).trans (lf_up_c (by decide))
      · rw [hu]; exact (zu_c (by decide)).trans lf_up_s
      · rw [hu]; exact (zu_c (by decide)).trans (lf_up_i hy)
end WJ
