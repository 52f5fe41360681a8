/-! stopped and home of the reference: nobody more is posted, nothing barred behind them -/
section ZQ
variable {l l' : List Nat} {w w' i v k e : Int} {b b' : Bool} {c : Nat} {I I' I2 : Nat → Int → Int} {P P' P2 : Nat → Option Nat}
def zq_R (k : Int) (l : List Nat) (w : Int) (b : Bool) (I : Nat → Int → Int) (P : Nat → Option Nat) (I' : Nat → Int → Int) (P' : Nat → Option Nat) : Prop := lf_fq l w b I P I' P' ∧ ∀ i : Int, ((4 ≤ i ∧ i ≤ 6) ∨ i = k ∨ i = 30) → I' 95 i = I 95 i
def zq_9 (I : Nat → Int → Int) : Prop := I 95 29 = 0 ∧ I 95 31 = 0 ∧ 0 ≤ I 95 30 ∧ I 95 30 ≤ 9
def zq_E (k e : Int) (l : List Nat) (w : Int) (b : Bool) (I : Nat → Int → Int) (P : Nat → Option Nat) (I' : Nat → Int → Int) (P' : Nat → Option Nat) : Prop := zq_R k l w b I P I' P' ∧ I' 95 e = 0
theorem zq_rf : zq_R k l w b I P I P := ⟨lf_fq_rf, fun _ _ => rfl⟩
theorem zq_tr (h1 : zq_R k l w b I P I' P') (h2 : zq_R k l w b I' P' I2 P2) : zq_R k l w b I P I2 P2 := ⟨lf_fq_tr h1.1 h2.1, fun i a => (h2.2 i a).trans (h1.2 i a)⟩
theorem zq_te (h1 : zq_R k l w b I P I' P') (h2 : zq_E k e l w b I' P' I2 P2) : zq_E k e l w b I P I2 P2 := ⟨zq_tr h1 h2.1, h2.2⟩
theorem zq_wk (h : lf_fq l' w' b' I P I' P') (hl : l'.all (fun c => l.contains c) = true) (hw : w ≤ w') (hb : (b && !b') = false) (h9 : l'.contains 95 = false) : zq_R k l w b I P I' P' := ⟨lf_fq_wk h hl hw hb, fun i _ => congrFun (h.1 95 h9) i⟩
theorem zq_up (h : zq_R k l w b I P I' P') (hc : l.contains c = true) (h96 : c = 96 → w ≤ i ∧ ∀ r, l.contains (1000 + r) = false → ¬ fr_g r i) (h9 : c = 95 → ¬ ((4 ≤ i ∧ i ≤ 6) ∨ i = k ∨ i = 30)) : zq_R k l w b I P (lf_up I' c i v) P' := by
  refine ⟨lf_fq_up h.1 hc h96, fun j a => ?_⟩
  by_cases y : c = 95
  · have := h9 y
    subst y
    exact (lf_up_i (show j ≠ i from fun q => this (q ▸ a))).trans (h.2 j a)
  · exact (lf_up_c (fun q => y q.symm)).trans (h.2 j a)
theorem zq_295_p120 {Q : Int → lf_Z → Prop} {x3 : Int} {s : lf_Z} (hQ : ∀ (r : Int) (s' : lf_Z), iv_A s'.1 s'.2.2 → zq_E 31 29 [95, 104, 107, 111, 112] 1000000 true s.1 s.2.2 s'.1 s'.2.2 → ((-1) ≤ r ∧ r ≤ 4095) → Q r s') (hI : iv_A s.1 s.2.2) (bx3 : (-1) ≤ x3 ∧ x3 ≤ 4095) : fm_295_p120 Q x3 s := by
  unfold fm_295_p120
  have hI8 : iv_A (lf_up s.1 95 29 0) s.2.2 := iv_w95_29 hI (by omega)
  have fr9 : zq_R 31 [95, 104, 107, 111, 112] 1000000 true s.1 s.2.2 (lf_up s.1 95 29 0) s.2.2 := zq_up (zq_rf) rfl (fun h => absurd h (by decide)) (fun _ => by decide)
  exact hQ x3 (lf_up s.1 95 29 0, s.2.1, s.2.2) hI8 ⟨fr9, zu_s⟩ (show (-1 : Int) ≤ x3 ∧ x3 ≤ (4095 : Int) from by omega)
theorem zq_295_p114 {X30 : Int → Int → lf_Z → Prop} {Q : Int → lf_Z → Prop} {x1 : Int} {x3 : Int} {x4 : Int} {s : lf_Z} (hQ : ∀ (r : Int) (s' : lf_Z), iv_A s'.1 s'.2.2 → zq_E 31 29 [95, 104, 107, 111, 112] 1000000 true s.1 s.2.2 s'.1 s'.2.2 → ((-1) ≤ r ∧ r ≤ 4095) → Q r s') {M30 : Nat} (hX30 : ∀ (x3 : Int) (x4 : Int) (s' : lf_Z), iv_A s'.1 s'.2.2 → zq_R 31 [95, 104, 107, 111, 112] 1000000 true s.1 s.2.2 s'.1 s'.2.2 → (-1) ≤ x3 ∧ x3 ≤ 4095 → 0 ≤ x4 ∧ x4 ≤ 4 → (4 - x4).toNat < M30 → X30 x3 x4 s') (hM30 : (4 - x4).toNat ≤ M30) (hI : iv_A s.1 s.2.2) (bx1 : 0 ≤ x1 ∧ x1 ≤ 3) (bx3 : (-1) ≤ x3 ∧ x3 ≤ 4095) (bx4 : 0 ≤ x4 ∧ x4 ≤ 3) : fm_295_p114 X30 Q x1 x3 x4 s := by
  unfold fm_295_p114
  exact hX30 (x3) (x4 + 1) s hI (zq_rf) (show (-1 : Int) ≤ x3 ∧ x3 ≤ (4095 : Int) from by omega) (show (0 : Int) ≤ x4 + 1 ∧ x4 + 1 ≤ (4 : Int) from by omega) (show (4 - (x4 + 1)).toNat < M30 from by omega)
theorem zq_295_p108 {X30 : Int → Int → lf_Z → Prop} {X43 : Int → Int → lf_Z → Prop} {Q : Int → lf_Z → Prop} {x1 : Int} {x3 : Int} {x4 : Int} {x5 : Int} {s : lf_Z} (hQ : ∀ (r : Int) (s' : lf_Z), iv_A s'.1 s'.2.2 → zq_E 31 29 [95, 104, 107, 111, 112] 1000000 true s.1 s.2.2 s'.1 s'.2.2 → ((-1) ≤ r ∧ r ≤ 4095) → Q r s') {M30 : Nat} (hX30 : ∀ (x3 : Int) (x4 : Int) (s' : lf_Z), iv_A s'.1 s'.2.2 → zq_R 31 [95, 104, 107, 111, 112] 1000000 true s.1 s.2.2 s'.1 s'.2.2 → (-1) ≤ x3 ∧ x3 ≤ 4095 → 0 ≤ x4 ∧ x4 ≤ 4 → (4 - x4).toNat < M30 → X30 x3 x4 s') (hM30 : (4 - x4).toNat ≤ M30) {M43 : Nat} (hX43 : ∀ (x3 : Int) (x5 : Int) (s' : lf_Z), iv_A s'.1 s'.2.2 → zq_R 31 [95, 104, 107, 111, 112] 1000000 true s.1 s.2.2 s'.1 s'.2.2 → (-1) ≤ x3 ∧ x3 ≤ 4095 → 0 ≤ x5 ∧ x5 ≤ 2147483647 → (2147483647 - x5).toNat < M43 → X43 x3 x5 s') (hM43 : (2147483647 - x5).toNat ≤ M43) (hI : iv_A s.1 s.2.2) (bx1 : 0 ≤ x1 ∧ x1 ≤ 3) (bx3 : (-1) ≤ x3 ∧ x3 ≤ 4095) (bx4 : 0 ≤ x4 ∧ x4 ≤ 3) (bx5 : 0 ≤ x5 ∧ x5 ≤ 2147483646) : fm_295_p108 X30 X43 Q x1 x3 x4 x5 s := by
  unfold fm_295_p108
  exact hX43 (x3) (x5 + 1) s hI (zq_rf) (show (-1 : Int) ≤ x3 ∧ x3 ≤ (4095 : Int) from by omega) (show (0 : Int) ≤ x5 + 1 ∧ x5 + 1 ≤ (2147483647 : Int) from by omega) (show (2147483647 - (x5 + 1)).toNat < M43 from by omega)
theorem zq_295_p43 {X30 : Int → Int → lf_Z → Prop} {X43 : Int → Int → lf_Z → Prop} {Q : Int → lf_Z → Prop} {x1 : Int} {x3 : Int} {x4 : Int} {x5 : Int} {s : lf_Z} (hQ : ∀ (r : Int) (s' : lf_Z), iv_A s'.1 s'.2.2 → zq_E 31 29 [95, 104, 107, 111, 112] 1000000 true s.1 s.2.2 s'.1 s'.2.2 → ((-1) ≤ r ∧ r ≤ 4095) → Q r s') {M30 : Nat} (hX30 : ∀ (x3 : Int) (x4 : Int) (s' : lf_Z), iv_A s'.1 s'.2.2 → zq_R 31 [95, 104, 107, 111, 112] 1000000 true s.1 s.2.2 s'.1 s'.2.2 → (-1) ≤ x3 ∧ x3 ≤ 4095 → 0 ≤ x4 ∧ x4 ≤ 4 → (4 - x4).toNat < M30 → X30 x3 x4 s') (hM30 : (4 - x4).toNat ≤ M30) {M43 : Nat} (hX43 : ∀ (x3 : Int) (x5 : Int) (s' : lf_Z), iv_A s'.1 s'.2.2 → zq_R 31 [95, 104, 107, 111, 112] 1000000 true s.1 s.2.2 s'.1 s'.2.2 → (-1) ≤ x3 ∧ x3 ≤ 4095 → 0 ≤ x5 ∧ x5 ≤ 2147483647 → (2147483647 - x5).toNat < M43 → X43 x3 x5 s') (hM43 : (2147483647 - x5).toNat ≤ M43) (hI : iv_A s.1 s.2.2) (bx1 : 0 ≤ x1 ∧ x1 ≤ 3) (bx3 : (-1) ≤ x3 ∧ x3 ≤ 4095) (bx4 : 0 ≤ x4 ∧ x4 ≤ 3) (bx5 : 0 ≤ x5 ∧ x5 ≤ 2147483647) : fm_295_p43 X30 Q x1 x4 X43 x3 x5 s := by
  unfold fm_295_p43
  have b11 : 0 ≤ s.1 96 0 ∧ s.1 96 0 ≤ 12 := iv_rd96 hI (iv_f3e1fa21c (by omega))
  have b12 : 1 ≤ lf_shl 1 (s.1 96 0) ∧ lf_shl 1 (s.1 96 0) ≤ 4096 := lf_shl1 (m := 12) (by omega) (by omega) (by decide)
  refine ⟨(show lf_R x5 from lf_Rof (by omega)), ?_⟩
  refine ⟨fun c13 => ?_, fun c13 => ?_⟩
  · skip
    replace c13 : lf_shl 1 (s.1 96 0) ≤ x5 := c13
    exact zq_295_p114 hQ hX30 (show (4 - x4).toNat ≤ M30 from by omega) hI (show (0 : Int) ≤ x1 ∧ x1 ≤ (3 : Int) from by omega) (show (-1 : Int) ≤ x3 ∧ x3 ≤ (4095 : Int) from by omega) (show (0 : Int) ≤ x4 ∧ x4 ≤ (3 : Int) from by omega)
  · skip
    replace c13 : ¬ (lf_shl 1 (s.1 96 0) ≤ x5) := c13
    refine ⟨(show lf_R x3 from lf_Rof (by omega)), ?_⟩
    refine ⟨fun c14 => ?_, fun c14 => ?_⟩
    · skip
      replace c14 : 0 ≤ x3 := c14
      exact zq_295_p114 hQ hX30 (show (4 - x4).toNat ≤ M30 from by omega) hI (show (0 : Int) ≤ x1 ∧ x1 ≤ (3 : Int) from by omega) (show (-1 : Int) ≤ x3 ∧ x3 ≤ (4095 : Int) from by omega) (show (0 : Int) ≤ x4 ∧ x4 ≤ (3 : Int) from by omega)
    · skip
      replace c14 : ¬ (0 ≤ x3) := c14
      refine sm_188 hI (show (-2147483648 : Int) ≤ x5 ∧ x5 ≤ (2147483647 : Int) from by omega) (fun r30 ps16 q15 => ?_)
      replace ps16 : r30 = lf_bt (x5) 16 := ps16
      refine ⟨(show lf_R r30 from lf_Rof (by omega)), ?_⟩
      refine ⟨(show lf_R x4 from lf_Rof (by omega)), ?_⟩
      refine ⟨fun c17 => ?_, fun c17 => ?_⟩
      · skip
        replace c17 : r30 ≠ x4 := c17
        exact zq_295_p108 hQ hX30 (show (4 - x4).toNat ≤ M30 from by omega) hX43 (show (2147483647 - x5).toNat ≤ M43 from by omega) hI (show (0 : Int) ≤ x1 ∧ x1 ≤ (3 : Int) from by omega) (show (-1 : Int) ≤ x3 ∧ x3 ≤ (4095 : Int) from by omega) (show (0 : Int) ≤ x4 ∧ x4 ≤ (3 : Int) from by omega) (show (0 : Int) ≤ x5 ∧ x5 ≤ (2147483646 : Int) from by omega)
      · skip
        replace c17 : ¬ (r30 ≠ x4) := c17
        refine sm_255 hI (show (0 : Int) ≤ x1 ∧ x1 ≤ (3 : Int) from by omega) (fun r34 q18 => ?_)
        refine sm_210 hI (show (-2147483648 : Int) ≤ x5 ∧ x5 ≤ (2147483647 : Int) from by omega) (show (-1 : Int) ≤ r34 ∧ r34 ≤ (15 : Int) from by omega) (fun z36 q19 => ?_)
        refine ⟨fun c20 => ?_, fun c20 => ?_⟩
        · skip
          have dc20 := q19.2 c20
          have hI21 : iv_A (lf_up s.1 95 29 x5) s.2.2 := iv_w95_29 hI (by omega)
          have fr22 : zq_R 31 [95, 104, 107, 111, 112] 1000000 true s.1 s.2.2 (lf_up s.1 95 29 x5) s.2.2 := zq_up (zq_rf) rfl (fun h => absurd h (by decide)) (fun _ => by decide)
          refine sm_294 hI21 (show (0 : Int) ≤ x1 ∧ x1 ≤ (3 : Int) from by omega) (fun r38 s37 hI24 fr23 q25 => ?_)
          have fr26 : zq_R 31 [95, 104, 107, 111, 112] 1000000 true s.1 s.2.2 s37.1 s37.2.2 := zq_tr fr22 (zq_wk fr23 rfl (by decide) (by decide) rfl)
          refine sm_296 hI24 (show (-2147483648 : Int) ≤ r38 ∧ r38 ≤ (2147483647 : Int) from by omega) (show (0 : Int) ≤ 2 ∧ 2 ≤ (3 : Int) from by omega) (fun r40 q27 => ?_)
          refine ⟨(show lf_R r40 from lf_Rof (by omega)), ?_⟩
          refine ⟨fun c28 => ?_, fun c28 => ?_⟩
          · skip
            replace c28 : r40 ≠ 0 := c28
            exact zq_295_p108 (fun r9 t9 i9 f9 => hQ r9 t9 i9 (zq_te fr26 f9)) (fun p0 p1 t9 i9 f9 => hX30 p0 p1 t9 i9 (zq_tr fr26 f9)) (show (4 - x4).toNat ≤ M30 from by omega) (fun p0 p1 t9 i9 f9 => hX43 p0 p1 t9 i9 (zq_tr fr26 f9)) (show (2147483647 - x5).toNat ≤ M43 from by omega) hI24 (show (0 : Int) ≤ x1 ∧ x1 ≤ (3 : Int) from by omega) (show (-1 : Int) ≤ x3 ∧ x3 ≤ (4095 : Int) from by omega) (show (0 : Int) ≤ x4 ∧ x4 ≤ (3 : Int) from by omega) (show (0 : Int) ≤ x5 ∧ x5 ≤ (2147483646 : Int) from by omega)
          · skip
            replace c28 : ¬ (r40 ≠ 0) := c28
            exact zq_295_p108 (fun r9 t9 i9 f9 => hQ r9 t9 i9 (zq_te fr26 f9)) (fun p0 p1 t9 i9 f9 => hX30 p0 p1 t9 i9 (zq_tr fr26 f9)) (show (4 - x4).toNat ≤ M30 from by omega) (fun p0 p1 t9 i9 f9 => hX43 p0 p1 t9 i9 (zq_tr fr26 f9)) (show (2147483647 - x5).toNat ≤ M43 from by omega) hI24 (show (0 : Int) ≤ x1 ∧ x1 ≤ (3 : Int) from by omega) (show (-1 : Int) ≤ x5 ∧ x5 ≤ (4095 : Int) from by omega) (show (0 : Int) ≤ x4 ∧ x4 ≤ (3 : Int) from by omega) (show (0 : Int) ≤ x5 ∧ x5 ≤ (2147483646 : Int) from by omega)
        · skip
          have dc20 := q19.1 c20
          exact zq_295_p108 hQ hX30 (show (4 - x4).toNat ≤ M30 from by omega) hX43 (show (2147483647 - x5).toNat ≤ M43 from by omega) hI (show (0 : Int) ≤ x1 ∧ x1 ≤ (3 : Int) from by omega) (show (-1 : Int) ≤ x3 ∧ x3 ≤ (4095 : Int) from by omega) (show (0 : Int) ≤ x4 ∧ x4 ≤ (3 : Int) from by omega) (show (0 : Int) ≤ x5 ∧ x5 ≤ (2147483646 : Int) from by omega)
theorem zq_295_p43L {X30 : Int → Int → lf_Z → Prop} {Q : Int → lf_Z → Prop} {x1 : Int} {x3 : Int} {x4 : Int} {x5 : Int} {s : lf_Z} (hQ : ∀ (r : Int) (s' : lf_Z), iv_A s'.1 s'.2.2 → zq_E 31 29 [95, 104, 107, 111, 112] 1000000 true s.1 s.2.2 s'.1 s'.2.2 → ((-1) ≤ r ∧ r ≤ 4095) → Q r s') {M30 : Nat} (hX30 : ∀ (x3 : Int) (x4 : Int) (s' : lf_Z), iv_A s'.1 s'.2.2 → zq_R 31 [95, 104, 107, 111, 112] 1000000 true s.1 s.2.2 s'.1 s'.2.2 → (-1) ≤ x3 ∧ x3 ≤ 4095 → 0 ≤ x4 ∧ x4 ≤ 4 → (4 - x4).toNat < M30 → X30 x3 x4 s') (hM30 : (4 - x4).toNat ≤ M30) (hI : iv_A s.1 s.2.2) (bx1 : 0 ≤ x1 ∧ x1 ≤ 3) (bx3 : (-1) ≤ x3 ∧ x3 ≤ 4095) (bx4 : 0 ≤ x4 ∧ x4 ≤ 3) (bx5 : 0 ≤ x5 ∧ x5 ≤ 2147483647) : fm_295_p43L X30 Q x1 x3 x4 x5 s := by
  intro X43 hX
  have key : ∀ (m9 : Nat) (x3 : Int) (x5 : Int) (s' : lf_Z), iv_A s'.1 s'.2.2 → zq_R 31 [95, 104, 107, 111, 112] 1000000 true s.1 s.2.2 s'.1 s'.2.2 → (-1) ≤ x3 ∧ x3 ≤ 4095 → 0 ≤ x5 ∧ x5 ≤ 2147483647 → (2147483647 - x5).toNat < m9 → X43 x3 x5 s' := by
    intro m9
    induction m9 with
    | zero => intro x3 x5 s' _ _ bx3 bx5 h9; exact absurd h9 (Nat.not_lt_zero _)
    | succ m9 ih => intro x3 x5 s' i7 f7 bx3 bx5 h9; exact hX _ _ _ (zq_295_p43 (fun r9 t9 i9 f9 => hQ r9 t9 i9 (zq_te f7 f9))  (fun p0 p1 t9 i9 f9 => hX30 p0 p1 t9 i9 (zq_tr f7 f9)) hM30 (fun x3' x5' t8 i8 f8 bx3' bx5' h8 => ih x3' x5' t8 i8 (zq_tr f7 f8) bx3' bx5' (by omega)) (Nat.le_refl _)  i7  bx1 bx3 bx4 bx5  )
  exact key _ _ _ s hI zq_rf bx3 bx5 (Nat.lt_succ_self _)
theorem zq_295_p30 {X30 : Int → Int → lf_Z → Prop} {Q : Int → lf_Z → Prop} {x1 : Int} {x3 : Int} {x4 : Int} {s : lf_Z} (hQ : ∀ (r : Int) (s' : lf_Z), iv_A s'.1 s'.2.2 → zq_E 31 29 [95, 104, 107, 111, 112] 1000000 true s.1 s.2.2 s'.1 s'.2.2 → ((-1) ≤ r ∧ r ≤ 4095) → Q r s') {M30 : Nat} (hX30 : ∀ (x3 : Int) (x4 : Int) (s' : lf_Z), iv_A s'.1 s'.2.2 → zq_R 31 [95, 104, 107, 111, 112] 1000000 true s.1 s.2.2 s'.1 s'.2.2 → (-1) ≤ x3 ∧ x3 ≤ 4095 → 0 ≤ x4 ∧ x4 ≤ 4 → (4 - x4).toNat < M30 → X30 x3 x4 s') (hM30 : (4 - x4).toNat ≤ M30) (hI : iv_A s.1 s.2.2) (bx1 : 0 ≤ x1 ∧ x1 ≤ 3) (bx3 : (-1) ≤ x3 ∧ x3 ≤ 4095) (bx4 : 0 ≤ x4 ∧ x4 ≤ 4) : fm_295_p30 Q x1 X30 x3 x4 s := by
  unfold fm_295_p30
  refine ⟨(show lf_R x4 from lf_Rof (by omega)), ?_⟩
  refine ⟨fun c7 => ?_, fun c7 => ?_⟩
  · skip
    replace c7 : 3 < x4 := c7
    exact zq_295_p120 hQ hI (show (-1 : Int) ≤ x3 ∧ x3 ≤ (4095 : Int) from by omega)
  · skip
    replace c7 : ¬ (3 < x4) := c7
    refine ⟨(show lf_R x3 from lf_Rof (by omega)), ?_⟩
    refine ⟨fun c10 => ?_, fun c10 => ?_⟩
    · skip
      replace c10 : 0 ≤ x3 := c10
      exact zq_295_p120 hQ hI (show (-1 : Int) ≤ x3 ∧ x3 ≤ (4095 : Int) from by omega)
    · skip
      replace c10 : ¬ (0 ≤ x3) := c10
      exact zq_295_p43L hQ hX30 (show (4 - x4).toNat ≤ M30 from by omega) hI (show (0 : Int) ≤ x1 ∧ x1 ≤ (3 : Int) from by omega) (show (-1 : Int) ≤ x3 ∧ x3 ≤ (4095 : Int) from by omega) (show (0 : Int) ≤ x4 ∧ x4 ≤ (3 : Int) from by omega) (show (0 : Int) ≤ 0 ∧ 0 ≤ (2147483647 : Int) from by omega)
theorem zq_295_p30L {Q : Int → lf_Z → Prop} {x1 : Int} {x3 : Int} {x4 : Int} {s : lf_Z} (hQ : ∀ (r : Int) (s' : lf_Z), iv_A s'.1 s'.2.2 → zq_E 31 29 [95, 104, 107, 111, 112] 1000000 true s.1 s.2.2 s'.1 s'.2.2 → ((-1) ≤ r ∧ r ≤ 4095) → Q r s') (hI : iv_A s.1 s.2.2) (bx1 : 0 ≤ x1 ∧ x1 ≤ 3) (bx3 : (-1) ≤ x3 ∧ x3 ≤ 4095) (bx4 : 0 ≤ x4 ∧ x4 ≤ 4) : fm_295_p30L Q x1 x3 x4 s := by
  intro X30 hX
  have key : ∀ (m9 : Nat) (x3 : Int) (x4 : Int) (s' : lf_Z), iv_A s'.1 s'.2.2 → zq_R 31 [95, 104, 107, 111, 112] 1000000 true s.1 s.2.2 s'.1 s'.2.2 → (-1) ≤ x3 ∧ x3 ≤ 4095 → 0 ≤ x4 ∧ x4 ≤ 4 → (4 - x4).toNat < m9 → X30 x3 x4 s' := by
    intro m9
    induction m9 with
    | zero => intro x3 x4 s' _ _ bx3 bx4 h9; exact absurd h9 (Nat.not_lt_zero _)
    | succ m9 ih => intro x3 x4 s' i7 f7 bx3 bx4 h9; exact hX _ _ _ (zq_295_p30 (fun r9 t9 i9 f9 => hQ r9 t9 i9 (zq_te f7 f9))   (fun x3' x4' t8 i8 f8 bx3' bx4' h8 => ih x3' x4' t8 i8 (zq_tr f7 f8) bx3' bx4' (by omega)) (Nat.le_refl _)  i7  bx1 bx3 bx4  )
  exact key _ _ _ s hI zq_rf bx3 bx4 (Nat.lt_succ_self _)
theorem zr_295 {a1 : Int} {a2 : Int} {Q : Int → lf_Z → Prop} {s : lf_Z} (hI : iv_A s.1 s.2.2) (h0 : zq_9 s.1) (ba1 : (-2147483648) ≤ a1 ∧ a1 ≤ 2147483647) (ba2 : (-2147483648) ≤ a2 ∧ a2 ≤ 2147483647) (hQ : ∀ (r : Int) (s' : lf_Z), iv_A s'.1 s'.2.2 → lf_fq [95, 104, 107, 111, 112] 1000000 true s.1 s.2.2 s'.1 s'.2.2 → ((∀ i : Int, 4 ≤ i → i ≤ 6 → s'.1 95 i = s.1 95 i) ∧ zq_9 s'.1) → ((-1) ≤ r ∧ r ≤ 4095) → Q r s') : fm_295 a1 a2 Q s := by
  unfold fm_295
  refine sm_254 hI (show (-2147483648 : Int) ≤ a1 ∧ a1 ≤ (2147483647 : Int) from by omega) (fun z22 q1 => ?_)
  refine ⟨fun c2 => ?_, fun c2 => ?_⟩
  · skip
    have dc2 := q1.2 c2
    exact hQ (-1) s hI (lf_fq_rf) ⟨fun _ _ _ => rfl, h0⟩ (show (-1 : Int) ≤ (-1) ∧ (-1) ≤ (4095 : Int) from by omega)
  · skip
    have dc2 := q1.1 c2
    refine sm_183 hI (show (-2147483648 : Int) ≤ a2 ∧ a2 ≤ (2147483647 : Int) from by omega) (show (-1 : Int) ≤ 0 ∧ 0 ≤ (97 : Int) from by omega) (show (-1 : Int) ≤ 9 ∧ 9 ≤ (9999 : Int) from by omega) (fun z24 q3 => ?_)
    refine ⟨fun c4 => ?_, fun c4 => ?_⟩
    · skip
      have dc4 := q3.1 c4
      have hI5 : iv_A (lf_up s.1 95 30 a2) s.2.2 := iv_w95_30 hI (by omega)
      have fr6 : lf_fq [95, 104, 107, 111, 112] 1000000 true s.1 s.2.2 (lf_up s.1 95 30 a2) s.2.2 := lf_fq_up (lf_fq_rf) rfl (fun h => absurd h (by decide))
      exact zq_295_p30L (fun r9 t9 i9 f9 b9 => hQ r9 t9 i9 (lf_fq_tr fr6 f9.1.1) ⟨fun i j0 j1 => (f9.1.2 i (Or.inl ⟨j0, j1⟩)).trans (zu_i (by omega)), f9.2, (f9.1.2 31 (by decide)).trans ((zu_i (by decide)).trans h0.2.1), by rw [show t9.1 95 30 = a2 from (f9.1.2 30 (by decide)).trans zu_s]; omega⟩ b9) hI5 (show (0 : Int) ≤ a1 ∧ a1 ≤ (3 : Int) from by omega) (show (-1 : Int) ≤ (-1) ∧ (-1) ≤ (4095 : Int) from by omega) (show (0 : Int) ≤ 0 ∧ 0 ≤ (4 : Int) from by omega)
    · skip
      have dc4 := q3.2 c4
      exact hQ (-1) s hI (lf_fq_rf) ⟨fun _ _ _ => rfl, h0⟩ (show (-1 : Int) ≤ (-1) ∧ (-1) ≤ (4095 : Int) from by omega)
theorem zq_297_p176 {Q : Int → lf_Z → Prop} {x2 : Int} {s : lf_Z} (hQ : ∀ (r : Int) (s' : lf_Z), iv_A s'.1 s'.2.2 → zq_E 29 31 [95, 104, 107, 111, 112] 1000000 true s.1 s.2.2 s'.1 s'.2.2 → ((-1) ≤ r ∧ r ≤ 65535) → Q r s') (hI : iv_A s.1 s.2.2) (bx2 : (-1) ≤ x2 ∧ x2 ≤ 65535) : fm_297_p176 Q x2 s := by
  unfold fm_297_p176
  have hI7 : iv_A (lf_up s.1 95 31 0) s.2.2 := iv_w95_31 hI (by omega)
  have fr8 : zq_R 29 [95, 104, 107, 111, 112] 1000000 true s.1 s.2.2 (lf_up s.1 95 31 0) s.2.2 := zq_up (zq_rf) rfl (fun h => absurd h (by decide)) (fun _ => by decide)
  exact hQ x2 (lf_up s.1 95 31 0, s.2.1, s.2.2) hI7 ⟨fr8, zu_s⟩ (show (-1 : Int) ≤ x2 ∧ x2 ≤ (65535 : Int) from by omega)
theorem zq_297_p170 {X66 : Int → Int → lf_Z → Prop} {Q : Int → lf_Z → Prop} {x1 : Int} {x2 : Int} {x3 : Int} {x4 : Int} {s : lf_Z} (hQ : ∀ (r : Int) (s' : lf_Z), iv_A s'.1 s'.2.2 → zq_E 29 31 [95, 104, 107, 111, 112] 1000000 true s.1 s.2.2 s'.1 s'.2.2 → ((-1) ≤ r ∧ r ≤ 65535) → Q r s') {M66 : Nat} (hX66 : ∀ (x2 : Int) (x4 : Int) (s' : lf_Z), iv_A s'.1 s'.2.2 → zq_R 29 [95, 104, 107, 111, 112] 1000000 true s.1 s.2.2 s'.1 s'.2.2 → (-1) ≤ x2 ∧ x2 ≤ 65535 → 0 ≤ x4 ∧ x4 ≤ 4 → (4 - x4).toNat < M66 → X66 x2 x4 s') (hM66 : (4 - x4).toNat ≤ M66) (hI : iv_A s.1 s.2.2) (bx1 : 0 ≤ x1 ∧ x1 ≤ 3) (bx2 : (-1) ≤ x2 ∧ x2 ≤ 65535) (bx3 : (-2147483648) ≤ x3 ∧ x3 ≤ 2147483647) (bx4 : 0 ≤ x4 ∧ x4 ≤ 3) : fm_297_p170 X66 Q x1 x2 x3 x4 s := by
  unfold fm_297_p170
  exact hX66 (x2) (x4 + 1) s hI (zq_rf) (show (-1 : Int) ≤ x2 ∧ x2 ≤ (65535 : Int) from by omega) (show (0 : Int) ≤ x4 + 1 ∧ x4 + 1 ≤ (4 : Int) from by omega) (show (4 - (x4 + 1)).toNat < M66 from by omega)
theorem zq_297_p164 {X66 : Int → Int → lf_Z → Prop} {X79 : Int → Int → lf_Z → Prop} {Q : Int → lf_Z → Prop} {x1 : Int} {x2 : Int} {x3 : Int} {x4 : Int} {x5 : Int} {s : lf_Z} (hQ : ∀ (r : Int) (s' : lf_Z), iv_A s'.1 s'.2.2 → zq_E 29 31 [95, 104, 107, 111, 112] 1000000 true s.1 s.2.2 s'.1 s'.2.2 → ((-1) ≤ r ∧ r ≤ 65535) → Q r s') {M66 : Nat} (hX66 : ∀ (x2 : Int) (x4 : Int) (s' : lf_Z), iv_A s'.1 s'.2.2 → zq_R 29 [95, 104, 107, 111, 112] 1000000 true s.1 s.2.2 s'.1 s'.2.2 → (-1) ≤ x2 ∧ x2 ≤ 65535 → 0 ≤ x4 ∧ x4 ≤ 4 → (4 - x4).toNat < M66 → X66 x2 x4 s') (hM66 : (4 - x4).toNat ≤ M66) {M79 : Nat} (hX79 : ∀ (x2 : Int) (x5 : Int) (s' : lf_Z), iv_A s'.1 s'.2.2 → zq_R 29 [95, 104, 107, 111, 112] 1000000 true s.1 s.2.2 s'.1 s'.2.2 → (-1) ≤ x2 ∧ x2 ≤ 65535 → 0 ≤ x5 ∧ x5 ≤ 2147483647 → (2147483647 - x5).toNat < M79 → X79 x2 x5 s') (hM79 : (2147483647 - x5).toNat ≤ M79) (hI : iv_A s.1 s.2.2) (bx1 : 0 ≤ x1 ∧ x1 ≤ 3) (bx2 : (-1) ≤ x2 ∧ x2 ≤ 65535) (bx3 : (-2147483648) ≤ x3 ∧ x3 ≤ 2147483647) (bx4 : 0 ≤ x4 ∧ x4 ≤ 3) (bx5 : 0 ≤ x5 ∧ x5 ≤ 2147483646) : fm_297_p164 X66 X79 Q x1 x2 x3 x4 x5 s := by
  unfold fm_297_p164
  exact hX79 (x2) (x5 + 1) s hI (zq_rf) (show (-1 : Int) ≤ x2 ∧ x2 ≤ (65535 : Int) from by omega) (show (0 : Int) ≤ x5 + 1 ∧ x5 + 1 ≤ (2147483647 : Int) from by omega) (show (2147483647 - (x5 + 1)).toNat < M79 from by omega)
theorem zq_297_p79 {X66 : Int → Int → lf_Z → Prop} {X79 : Int → Int → lf_Z → Prop} {Q : Int → lf_Z → Prop} {x1 : Int} {x2 : Int} {x3 : Int} {x4 : Int} {x5 : Int} {s : lf_Z} (hQ : ∀ (r : Int) (s' : lf_Z), iv_A s'.1 s'.2.2 → zq_E 29 31 [95, 104, 107, 111, 112] 1000000 true s.1 s.2.2 s'.1 s'.2.2 → ((-1) ≤ r ∧ r ≤ 65535) → Q r s') {M66 : Nat} (hX66 : ∀ (x2 : Int) (x4 : Int) (s' : lf_Z), iv_A s'.1 s'.2.2 → zq_R 29 [95, 104, 107, 111, 112] 1000000 true s.1 s.2.2 s'.1 s'.2.2 → (-1) ≤ x2 ∧ x2 ≤ 65535 → 0 ≤ x4 ∧ x4 ≤ 4 → (4 - x4).toNat < M66 → X66 x2 x4 s') (hM66 : (4 - x4).toNat ≤ M66) {M79 : Nat} (hX79 : ∀ (x2 : Int) (x5 : Int) (s' : lf_Z), iv_A s'.1 s'.2.2 → zq_R 29 [95, 104, 107, 111, 112] 1000000 true s.1 s.2.2 s'.1 s'.2.2 → (-1) ≤ x2 ∧ x2 ≤ 65535 → 0 ≤ x5 ∧ x5 ≤ 2147483647 → (2147483647 - x5).toNat < M79 → X79 x2 x5 s') (hM79 : (2147483647 - x5).toNat ≤ M79) (hI : iv_A s.1 s.2.2) (bx1 : 0 ≤ x1 ∧ x1 ≤ 3) (bx2 : (-1) ≤ x2 ∧ x2 ≤ 65535) (bx3 : (-2147483648) ≤ x3 ∧ x3 ≤ 2147483647) (bx4 : 0 ≤ x4 ∧ x4 ≤ 3) (bx5 : 0 ≤ x5 ∧ x5 ≤ 2147483647) : fm_297_p79 X66 Q x1 x3 x4 X79 x2 x5 s := by
  unfold fm_297_p79
  have b10 : 0 ≤ s.1 96 1 ∧ s.1 96 1 ≤ 16 := iv_rd96 hI (iv_fd6ad3e54 (by omega))
  have b11 : s.1 96 1 ≤ 0 ∨ 0 < s.1 96 0 := (show s.1 96 1 ≤ 0 ∨ 0 < s.1 96 0 from iv_l96_1 hI)
  have b12 : 1 ≤ lf_shl 1 (s.1 96 1) ∧ lf_shl 1 (s.1 96 1) ≤ 65536 := lf_shl1 (m := 16) (by omega) (by omega) (by decide)
  refine ⟨(show lf_R x5 from lf_Rof (by omega)), ?_⟩
  refine ⟨fun c13 => ?_, fun c13 => ?_⟩
  · skip
    replace c13 : lf_shl 1 (s.1 96 1) ≤ x5 := c13
    exact zq_297_p170 hQ hX66 (show (4 - x4).toNat ≤ M66 from by omega) hI (show (0 : Int) ≤ x1 ∧ x1 ≤ (3 : Int) from by omega) (show (-1 : Int) ≤ x2 ∧ x2 ≤ (65535 : Int) from by omega) (show (-2147483648 : Int) ≤ x3 ∧ x3 ≤ (2147483647 : Int) from by omega) (show (0 : Int) ≤ x4 ∧ x4 ≤ (3 : Int) from by omega)
  · skip
    replace c13 : ¬ (lf_shl 1 (s.1 96 1) ≤ x5) := c13
    refine ⟨(show lf_R x2 from lf_Rof (by omega)), ?_⟩
    refine ⟨fun c14 => ?_, fun c14 => ?_⟩
    · skip
      replace c14 : 0 ≤ x2 := c14
      exact zq_297_p170 hQ hX66 (show (4 - x4).toNat ≤ M66 from by omega) hI (show (0 : Int) ≤ x1 ∧ x1 ≤ (3 : Int) from by omega) (show (-1 : Int) ≤ x2 ∧ x2 ≤ (65535 : Int) from by omega) (show (-2147483648 : Int) ≤ x3 ∧ x3 ≤ (2147483647 : Int) from by omega) (show (0 : Int) ≤ x4 ∧ x4 ≤ (3 : Int) from by omega)
    · skip
      replace c14 : ¬ (0 ≤ x2) := c14
      refine sm_188 hI (show (-2147483648 : Int) ≤ x5 ∧ x5 ≤ (2147483647 : Int) from by omega) (fun r30 ps16 q15 => ?_)
      replace ps16 : r30 = lf_bt (x5) 16 := ps16
      refine ⟨(show lf_R r30 from lf_Rof (by omega)), ?_⟩
      refine ⟨(show lf_R x4 from lf_Rof (by omega)), ?_⟩
      refine ⟨fun c17 => ?_, fun c17 => ?_⟩
      · skip
        replace c17 : r30 ≠ x4 := c17
        exact zq_297_p164 hQ hX66 (show (4 - x4).toNat ≤ M66 from by omega) hX79 (show (2147483647 - x5).toNat ≤ M79 from by omega) hI (show (0 : Int) ≤ x1 ∧ x1 ≤ (3 : Int) from by omega) (show (-1 : Int) ≤ x2 ∧ x2 ≤ (65535 : Int) from by omega) (show (-2147483648 : Int) ≤ x3 ∧ x3 ≤ (2147483647 : Int) from by omega) (show (0 : Int) ≤ x4 ∧ x4 ≤ (3 : Int) from by omega) (show (0 : Int) ≤ x5 ∧ x5 ≤ (2147483646 : Int) from by omega)
      · skip
        replace c17 : ¬ (r30 ≠ x4) := c17
        have b18 : (-2147483648) ≤ lf_xor x3 (-1) ∧ lf_xor x3 (-1) ≤ 2147483647 := lf_xorB
        have b19 : 0 ≤ lf_and x5 (lf_xor x3 (-1)) ∧ lf_and x5 (lf_xor x3 (-1)) ≤ 65535 := lf_andBl (by omega) (by omega)
        refine ⟨fun c20 => ?_, fun c20 => ?_⟩
        · skip
          replace c20 : lf_and x5 (lf_xor x3 (-1)) = 0 := c20
          have hI21 : iv_A (lf_up s.1 95 31 x5) s.2.2 := iv_w95_31 hI (by omega)
          have fr22 : zq_R 29 [95, 104, 107, 111, 112] 1000000 true s.1 s.2.2 (lf_up s.1 95 31 x5) s.2.2 := zq_up (zq_rf) rfl (fun h => absurd h (by decide)) (fun _ => by decide)
          refine sm_294 hI21 (show (0 : Int) ≤ x1 ∧ x1 ≤ (3 : Int) from by omega) (fun r34 s33 hI24 fr23 q25 => ?_)
          have fr26 : zq_R 29 [95, 104, 107, 111, 112] 1000000 true s.1 s.2.2 s33.1 s33.2.2 := zq_tr fr22 (zq_wk fr23 rfl (by decide) (by decide) rfl)
          refine sm_296 hI24 (show (-2147483648 : Int) ≤ r34 ∧ r34 ≤ (2147483647 : Int) from by omega) (show (0 : Int) ≤ 3 ∧ 3 ≤ (3 : Int) from by omega) (fun r36 q27 => ?_)
          refine ⟨(show lf_R r36 from lf_Rof (by omega)), ?_⟩
          refine ⟨fun c28 => ?_, fun c28 => ?_⟩
          · skip
            replace c28 : r36 = 0 := c28
            exact zq_297_p164 (fun r9 t9 i9 f9 => hQ r9 t9 i9 (zq_te fr26 f9)) (fun p0 p1 t9 i9 f9 => hX66 p0 p1 t9 i9 (zq_tr fr26 f9)) (show (4 - x4).toNat ≤ M66 from by omega) (fun p0 p1 t9 i9 f9 => hX79 p0 p1 t9 i9 (zq_tr fr26 f9)) (show (2147483647 - x5).toNat ≤ M79 from by omega) hI24 (show (0 : Int) ≤ x1 ∧ x1 ≤ (3 : Int) from by omega) (show (-1 : Int) ≤ x2 ∧ x2 ≤ (65535 : Int) from by omega) (show (-2147483648 : Int) ≤ x3 ∧ x3 ≤ (2147483647 : Int) from by omega) (show (0 : Int) ≤ x4 ∧ x4 ≤ (3 : Int) from by omega) (show (0 : Int) ≤ x5 ∧ x5 ≤ (2147483646 : Int) from by omega)
          · skip
            replace c28 : ¬ (r36 = 0) := c28
            refine sm_296 hI24 (show (-2147483648 : Int) ≤ r34 ∧ r34 ≤ (2147483647 : Int) from by omega) (show (0 : Int) ≤ 1 ∧ 1 ≤ (3 : Int) from by omega) (fun r39 q29 => ?_)
            refine ⟨(show lf_R r39 from lf_Rof (by omega)), ?_⟩
            refine ⟨fun c30 => ?_, fun c30 => ?_⟩
            · skip
              replace c30 : r39 ≠ 0 := c30
              exact zq_297_p164 (fun r9 t9 i9 f9 => hQ r9 t9 i9 (zq_te fr26 f9)) (fun p0 p1 t9 i9 f9 => hX66 p0 p1 t9 i9 (zq_tr fr26 f9)) (show (4 - x4).toNat ≤ M66 from by omega) (fun p0 p1 t9 i9 f9 => hX79 p0 p1 t9 i9 (zq_tr fr26 f9)) (show (2147483647 - x5).toNat ≤ M79 from by omega) hI24 (show (0 : Int) ≤ x1 ∧ x1 ≤ (3 : Int) from by omega) (show (-1 : Int) ≤ x2 ∧ x2 ≤ (65535 : Int) from by omega) (show (-2147483648 : Int) ≤ x3 ∧ x3 ≤ (2147483647 : Int) from by omega) (show (0 : Int) ≤ x4 ∧ x4 ≤ (3 : Int) from by omega) (show (0 : Int) ≤ x5 ∧ x5 ≤ (2147483646 : Int) from by omega)
            · skip
              replace c30 : ¬ (r39 ≠ 0) := c30
              refine sm_296 hI24 (show (-2147483648 : Int) ≤ r34 ∧ r34 ≤ (2147483647 : Int) from by omega) (show (0 : Int) ≤ 2 ∧ 2 ≤ (3 : Int) from by omega) (fun r42 q31 => ?_)
              refine ⟨(show lf_R r42 from lf_Rof (by omega)), ?_⟩
              refine ⟨fun c32 => ?_, fun c32 => ?_⟩
              · skip
                replace c32 : r42 ≠ 0 := c32
                exact zq_297_p164 (fun r9 t9 i9 f9 => hQ r9 t9 i9 (zq_te fr26 f9)) (fun p0 p1 t9 i9 f9 => hX66 p0 p1 t9 i9 (zq_tr fr26 f9)) (show (4 - x4).toNat ≤ M66 from by omega) (fun p0 p1 t9 i9 f9 => hX79 p0 p1 t9 i9 (zq_tr fr26 f9)) (show (2147483647 - x5).toNat ≤ M79 from by omega) hI24 (show (0 : Int) ≤ x1 ∧ x1 ≤ (3 : Int) from by omega) (show (-1 : Int) ≤ x2 ∧ x2 ≤ (65535 : Int) from by omega) (show (-2147483648 : Int) ≤ x3 ∧ x3 ≤ (2147483647 : Int) from by omega) (show (0 : Int) ≤ x4 ∧ x4 ≤ (3 : Int) from by omega) (show (0 : Int) ≤ x5 ∧ x5 ≤ (2147483646 : Int) from by omega)
              · skip
                replace c32 : ¬ (r42 ≠ 0) := c32
                exact zq_297_p164 (fun r9 t9 i9 f9 => hQ r9 t9 i9 (zq_te fr26 f9)) (fun p0 p1 t9 i9 f9 => hX66 p0 p1 t9 i9 (zq_tr fr26 f9)) (show (4 - x4).toNat ≤ M66 from by omega) (fun p0 p1 t9 i9 f9 => hX79 p0 p1 t9 i9 (zq_tr fr26 f9)) (show (2147483647 - x5).toNat ≤ M79 from by omega) hI24 (show (0 : Int) ≤ x1 ∧ x1 ≤ (3 : Int) from by omega) (show (-1 : Int) ≤ x5 ∧ x5 ≤ (65535 : Int) from by omega) (show (-2147483648 : Int) ≤ x3 ∧ x3 ≤ (2147483647 : Int) from by omega) (show (0 : Int) ≤ x4 ∧ x4 ≤ (3 : Int) from by omega) (show (0 : Int) ≤ x5 ∧ x5 ≤ (2147483646 : Int) from by omega)
        · skip
          replace c20 : ¬ (lf_and x5 (lf_xor x3 (-1)) = 0) := c20
          exact zq_297_p164 hQ hX66 (show (4 - x4).toNat ≤ M66 from by omega) hX79 (show (2147483647 - x5).toNat ≤ M79 from by omega) hI (show (0 : Int) ≤ x1 ∧ x1 ≤ (3 : Int) from by omega) (show (-1 : Int) ≤ x2 ∧ x2 ≤ (65535 : Int) from by omega) (show (-2147483648 : Int) ≤ x3 ∧ x3 ≤ (2147483647 : Int) from by omega) (show (0 : Int) ≤ x4 ∧ x4 ≤ (3 : Int) from by omega) (show (0 : Int) ≤ x5 ∧ x5 ≤ (2147483646 : Int) from by omega)
theorem zq_297_p79L {X66 : Int → Int → lf_Z → Prop} {Q : Int → lf_Z → Prop} {x1 : Int} {x2 : Int} {x3 : Int} {x4 : Int} {x5 : Int} {s : lf_Z} (hQ : ∀ (r : Int) (s' : lf_Z), iv_A s'.1 s'.2.2 → zq_E 29 31 [95, 104, 107, 111, 112] 1000000 true s.1 s.2.2 s'.1 s'.2.2 → ((-1) ≤ r ∧ r ≤ 65535) → Q r s') {M66 : Nat} (hX66 : ∀ (x2 : Int) (x4 : Int) (s' : lf_Z), iv_A s'.1 s'.2.2 → zq_R 29 [95, 104, 107, 111, 112] 1000000 true s.1 s.2.2 s'.1 s'.2.2 → (-1) ≤ x2 ∧ x2 ≤ 65535 → 0 ≤ x4 ∧ x4 ≤ 4 → (4 - x4).toNat < M66 → X66 x2 x4 s') (hM66 : (4 - x4).toNat ≤ M66) (hI : iv_A s.1 s.2.2) (bx1 : 0 ≤ x1 ∧ x1 ≤ 3) (bx2 : (-1) ≤ x2 ∧ x2 ≤ 65535) (bx3 : (-2147483648) ≤ x3 ∧ x3 ≤ 2147483647) (bx4 : 0 ≤ x4 ∧ x4 ≤ 3) (bx5 : 0 ≤ x5 ∧ x5 ≤ 2147483647) : fm_297_p79L X66 Q x1 x2 x3 x4 x5 s := by
  intro X79 hX
  have key : ∀ (m9 : Nat) (x2 : Int) (x5 : Int) (s' : lf_Z), iv_A s'.1 s'.2.2 → zq_R 29 [95, 104, 107, 111, 112] 1000000 true s.1 s.2.2 s'.1 s'.2.2 → (-1) ≤ x2 ∧ x2 ≤ 65535 → 0 ≤ x5 ∧ x5 ≤ 2147483647 → (2147483647 - x5).toNat < m9 → X79 x2 x5 s' := by
    intro m9
    induction m9 with
    | zero => intro x2 x5 s' _ _ bx2 bx5 h9; exact absurd h9 (Nat.not_lt_zero _)
    | succ m9 ih => intro x2 x5 s' i7 f7 bx2 bx5 h9; exact hX _ _ _ (zq_297_p79 (fun r9 t9 i9 f9 => hQ r9 t9 i9 (zq_te f7 f9))  (fun p0 p1 t9 i9 f9 => hX66 p0 p1 t9 i9 (zq_tr f7 f9)) hM66 (fun x2' x5' t8 i8 f8 bx2' bx5' h8 => ih x2' x5' t8 i8 (zq_tr f7 f8) bx2' bx5' (by omega)) (Nat.le_refl _)  i7  bx1 bx2 bx3 bx4 bx5  )
  exact key _ _ _ s hI zq_rf bx2 bx5 (Nat.lt_succ_self _)
theorem zq_297_p66 {X66 : Int → Int → lf_Z → Prop} {Q : Int → lf_Z → Prop} {x1 : Int} {x2 : Int} {x3 : Int} {x4 : Int} {s : lf_Z} (hQ : ∀ (r : Int) (s' : lf_Z), iv_A s'.1 s'.2.2 → zq_E 29 31 [95, 104, 107, 111, 112] 1000000 true s.1 s.2.2 s'.1 s'.2.2 → ((-1) ≤ r ∧ r ≤ 65535) → Q r s') {M66 : Nat} (hX66 : ∀ (x2 : Int) (x4 : Int) (s' : lf_Z), iv_A s'.1 s'.2.2 → zq_R 29 [95, 104, 107, 111, 112] 1000000 true s.1 s.2.2 s'.1 s'.2.2 → (-1) ≤ x2 ∧ x2 ≤ 65535 → 0 ≤ x4 ∧ x4 ≤ 4 → (4 - x4).toNat < M66 → X66 x2 x4 s') (hM66 : (4 - x4).toNat ≤ M66) (hI : iv_A s.1 s.2.2) (bx1 : 0 ≤ x1 ∧ x1 ≤ 3) (bx2 : (-1) ≤ x2 ∧ x2 ≤ 65535) (bx3 : (-2147483648) ≤ x3 ∧ x3 ≤ 2147483647) (bx4 : 0 ≤ x4 ∧ x4 ≤ 4) : fm_297_p66 Q x1 x3 X66 x2 x4 s := by
  unfold fm_297_p66
  refine ⟨(show lf_R x4 from lf_Rof (by omega)), ?_⟩
  refine ⟨fun c6 => ?_, fun c6 => ?_⟩
  · skip
    replace c6 : 3 < x4 := c6
    exact zq_297_p176 hQ hI (show (-1 : Int) ≤ x2 ∧ x2 ≤ (65535 : Int) from by omega)
  · skip
    replace c6 : ¬ (3 < x4) := c6
    refine ⟨(show lf_R x2 from lf_Rof (by omega)), ?_⟩
    refine ⟨fun c9 => ?_, fun c9 => ?_⟩
    · skip
      replace c9 : 0 ≤ x2 := c9
      exact zq_297_p176 hQ hI (show (-1 : Int) ≤ x2 ∧ x2 ≤ (65535 : Int) from by omega)
    · skip
      replace c9 : ¬ (0 ≤ x2) := c9
      exact zq_297_p79L hQ hX66 (show (4 - x4).toNat ≤ M66 from by omega) hI (show (0 : Int) ≤ x1 ∧ x1 ≤ (3 : Int) from by omega) (show (-1 : Int) ≤ x2 ∧ x2 ≤ (65535 : Int) from by omega) (show (-2147483648 : Int) ≤ x3 ∧ x3 ≤ (2147483647 : Int) from by omega) (show (0 : Int) ≤ x4 ∧ x4 ≤ (3 : Int) from by omega) (show (0 : Int) ≤ 0 ∧ 0 ≤ (2147483647 : Int) from by omega)
theorem zq_297_p66L {Q : Int → lf_Z → Prop} {x1 : Int} {x2 : Int} {x3 : Int} {x4 : Int} {s : lf_Z} (hQ : ∀ (r : Int) (s' : lf_Z), iv_A s'.1 s'.2.2 → zq_E 29 31 [95, 104, 107, 111, 112] 1000000 true s.1 s.2.2 s'.1 s'.2.2 → ((-1) ≤ r ∧ r ≤ 65535) → Q r s') (hI : iv_A s.1 s.2.2) (bx1 : 0 ≤ x1 ∧ x1 ≤ 3) (bx2 : (-1) ≤ x2 ∧ x2 ≤ 65535) (bx3 : (-2147483648) ≤ x3 ∧ x3 ≤ 2147483647) (bx4 : 0 ≤ x4 ∧ x4 ≤ 4) : fm_297_p66L Q x1 x2 x3 x4 s := by
  intro X66 hX
  have key : ∀ (m9 : Nat) (x2 : Int) (x4 : Int) (s' : lf_Z), iv_A s'.1 s'.2.2 → zq_R 29 [95, 104, 107, 111, 112] 1000000 true s.1 s.2.2 s'.1 s'.2.2 → (-1) ≤ x2 ∧ x2 ≤ 65535 → 0 ≤ x4 ∧ x4 ≤ 4 → (4 - x4).toNat < m9 → X66 x2 x4 s' := by
    intro m9
    induction m9 with
    | zero => intro x2 x4 s' _ _ bx2 bx4 h9; exact absurd h9 (Nat.not_lt_zero _)
    | succ m9 ih => intro x2 x4 s' i7 f7 bx2 bx4 h9; exact hX _ _ _ (zq_297_p66 (fun r9 t9 i9 f9 => hQ r9 t9 i9 (zq_te f7 f9))   (fun x2' x4' t8 i8 f8 bx2' bx4' h8 => ih x2' x4' t8 i8 (zq_tr f7 f8) bx2' bx4' (by omega)) (Nat.le_refl _)  i7  bx1 bx2 bx3 bx4  )
  exact key _ _ _ s hI zq_rf bx2 bx4 (Nat.lt_succ_self _)
theorem zq_297_p55 {X17 : Int → Int → lf_Z → Prop} {Q : Int → lf_Z → Prop} {x1 : Int} {x2 : Int} {x4 : Int} {y0 : Int} {y1 : Int} {s : lf_Z} (hQ : ∀ (r : Int) (s' : lf_Z), iv_A s'.1 s'.2.2 → zq_E 29 31 [95, 104, 107, 111, 112] 1000000 true s.1 s.2.2 s'.1 s'.2.2 → ((-1) ≤ r ∧ r ≤ 65535) → Q r s') {M17 : Nat} (hX17 : ∀ (x3 : Int) (x4 : Int) (s' : lf_Z), iv_A s'.1 s'.2.2 → zq_R 29 [95, 104, 107, 111, 112] 1000000 true s.1 s.2.2 s'.1 s'.2.2 → (-2147483648) ≤ x3 ∧ x3 ≤ 2147483647 → 0 ≤ x4 ∧ x4 ≤ 16 → (16 - x4).toNat < M17 → X17 x3 x4 s') (hM17 : (16 - x4).toNat ≤ M17) (hI : iv_A s.1 s.2.2) (bx1 : 0 ≤ x1 ∧ x1 ≤ 3) (bx2 : (-1) ≤ x2 ∧ x2 ≤ (-1)) (bx4 : 0 ≤ x4 ∧ x4 ≤ 15) (by0 : (-2147483648) ≤ y0 ∧ y0 ≤ 2147483647) (by1 : 0 ≤ y1 ∧ y1 ≤ 32768) : fm_297_p55 X17 Q x1 x2 x4 y0 y1 s := by
  unfold fm_297_p55
  have b35 : (-2147483648) ≤ lf_or y0 y1 ∧ lf_or y0 y1 ≤ 2147483647 := lf_orB
  exact hX17 (lf_or y0 y1) (x4 + 1) s hI (zq_rf) (show (-2147483648 : Int) ≤ lf_or y0 y1 ∧ lf_or y0 y1 ≤ (2147483647 : Int) from by omega) (show (0 : Int) ≤ x4 + 1 ∧ x4 + 1 ≤ (16 : Int) from by omega) (show (16 - (x4 + 1)).toNat < M17 from by omega)
theorem zq_297_p54 {X17 : Int → Int → lf_Z → Prop} {Q : Int → lf_Z → Prop} {x1 : Int} {x2 : Int} {x4 : Int} {y0 : Int} {s : lf_Z} (hQ : ∀ (r : Int) (s' : lf_Z), iv_A s'.1 s'.2.2 → zq_E 29 31 [95, 104, 107, 111, 112] 1000000 true s.1 s.2.2 s'.1 s'.2.2 → ((-1) ≤ r ∧ r ≤ 65535) → Q r s') {M17 : Nat} (hX17 : ∀ (x3 : Int) (x4 : Int) (s' : lf_Z), iv_A s'.1 s'.2.2 → zq_R 29 [95, 104, 107, 111, 112] 1000000 true s.1 s.2.2 s'.1 s'.2.2 → (-2147483648) ≤ x3 ∧ x3 ≤ 2147483647 → 0 ≤ x4 ∧ x4 ≤ 16 → (16 - x4).toNat < M17 → X17 x3 x4 s') (hM17 : (16 - x4).toNat ≤ M17) (hI : iv_A s.1 s.2.2) (bx1 : 0 ≤ x1 ∧ x1 ≤ 3) (bx2 : (-1) ≤ x2 ∧ x2 ≤ (-1)) (bx4 : 0 ≤ x4 ∧ x4 ≤ 15) (by0 : (-2147483648) ≤ y0 ∧ y0 ≤ 2147483647) : fm_297_p54 X17 Q x1 x2 x4 y0 s := by
  unfold fm_297_p54
  exact zq_297_p55 hQ hX17 (show (16 - x4).toNat ≤ M17 from by omega) hI (show (0 : Int) ≤ x1 ∧ x1 ≤ (3 : Int) from by omega) (show (-1 : Int) ≤ x2 ∧ x2 ≤ (-1 : Int) from by omega) (show (0 : Int) ≤ x4 ∧ x4 ≤ (15 : Int) from by omega) (show (-2147483648 : Int) ≤ y0 ∧ y0 ≤ (2147483647 : Int) from by omega) (show (0 : Int) ≤ 0 ∧ 0 ≤ (32768 : Int) from by omega)
theorem zq_297_p17 {X17 : Int → Int → lf_Z → Prop} {Q : Int → lf_Z → Prop} {x1 : Int} {x2 : Int} {x3 : Int} {x4 : Int} {s : lf_Z} (hQ : ∀ (r : Int) (s' : lf_Z), iv_A s'.1 s'.2.2 → zq_E 29 31 [95, 104, 107, 111, 112] 1000000 true s.1 s.2.2 s'.1 s'.2.2 → ((-1) ≤ r ∧ r ≤ 65535) → Q r s') {M17 : Nat} (hX17 : ∀ (x3 : Int) (x4 : Int) (s' : lf_Z), iv_A s'.1 s'.2.2 → zq_R 29 [95, 104, 107, 111, 112] 1000000 true s.1 s.2.2 s'.1 s'.2.2 → (-2147483648) ≤ x3 ∧ x3 ≤ 2147483647 → 0 ≤ x4 ∧ x4 ≤ 16 → (16 - x4).toNat < M17 → X17 x3 x4 s') (hM17 : (16 - x4).toNat ≤ M17) (hI : iv_A s.1 s.2.2) (bx1 : 0 ≤ x1 ∧ x1 ≤ 3) (bx2 : (-1) ≤ x2 ∧ x2 ≤ (-1)) (bx3 : (-2147483648) ≤ x3 ∧ x3 ≤ 2147483647) (bx4 : 0 ≤ x4 ∧ x4 ≤ 16) : fm_297_p17 Q x1 x2 X17 x3 x4 s := by
  unfold fm_297_p17
  have b3 : 0 ≤ s.1 96 1 ∧ s.1 96 1 ≤ 16 := iv_rd96 hI (iv_fd6ad3e54 (by omega))
  have b4 : s.1 96 1 ≤ 0 ∨ 0 < s.1 96 0 := (show s.1 96 1 ≤ 0 ∨ 0 < s.1 96 0 from iv_l96_1 hI)
  refine ⟨(show lf_R x4 from lf_Rof (by omega)), ?_⟩
  refine ⟨(show lf_R (s.1 96 1) from lf_Rof (by omega)), ?_⟩
  refine ⟨fun c5 => ?_, fun c5 => ?_⟩
  · skip
    replace c5 : s.1 96 1 ≤ x4 := c5
    exact zq_297_p66L hQ hI (show (0 : Int) ≤ x1 ∧ x1 ≤ (3 : Int) from by omega) (show (-1 : Int) ≤ x2 ∧ x2 ≤ (65535 : Int) from by omega) (show (-2147483648 : Int) ≤ x3 ∧ x3 ≤ (2147483647 : Int) from by omega) (show (0 : Int) ≤ 0 ∧ 0 ≤ (4 : Int) from by omega)
  · skip
    replace c5 : ¬ (s.1 96 1 ≤ x4) := c5
    refine sm_245 hI (show (0 : Int) ≤ x4 ∧ x4 ≤ (15 : Int) from by omega) (fun z45 => ?_)
    refine ⟨fun c34 => ?_, fun c34 => ?_⟩
    · skip
      exact zq_297_p54 hQ hX17 (show (16 - x4).toNat ≤ M17 from by omega) hI (show (0 : Int) ≤ x1 ∧ x1 ≤ (3 : Int) from by omega) (show (-1 : Int) ≤ x2 ∧ x2 ≤ (-1 : Int) from by omega) (show (0 : Int) ≤ x4 ∧ x4 ≤ (15 : Int) from by omega) (show (-2147483648 : Int) ≤ x3 ∧ x3 ≤ (2147483647 : Int) from by omega)
    · skip
      refine sm_252 hI (show (0 : Int) ≤ x4 ∧ x4 ≤ (15 : Int) from by omega) (fun z47 => ?_)
      refine ⟨fun c37 => ?_, fun c37 => ?_⟩
      · skip
        exact zq_297_p54 hQ hX17 (show (16 - x4).toNat ≤ M17 from by omega) hI (show (0 : Int) ≤ x1 ∧ x1 ≤ (3 : Int) from by omega) (show (-1 : Int) ≤ x2 ∧ x2 ≤ (-1 : Int) from by omega) (show (0 : Int) ≤ x4 ∧ x4 ≤ (15 : Int) from by omega) (show (-2147483648 : Int) ≤ x3 ∧ x3 ≤ (2147483647 : Int) from by omega)
      · skip
        have b38 : 1 ≤ lf_shl 1 x4 ∧ lf_shl 1 x4 ≤ 32768 := lf_shl1 (m := 15) (by omega) (by omega) (by decide)
        exact zq_297_p55 hQ hX17 (show (16 - x4).toNat ≤ M17 from by omega) hI (show (0 : Int) ≤ x1 ∧ x1 ≤ (3 : Int) from by omega) (show (-1 : Int) ≤ x2 ∧ x2 ≤ (-1 : Int) from by omega) (show (0 : Int) ≤ x4 ∧ x4 ≤ (15 : Int) from by omega) (show (-2147483648 : Int) ≤ x3 ∧ x3 ≤ (2147483647 : Int) from by omega) (show (0 : Int) ≤ lf_shl 1 x4 ∧ lf_shl 1 x4 ≤ (32768 : Int) from by omega)
theorem zq_297_p17L {Q : Int → lf_Z → Prop} {x1 : Int} {x2 : Int} {x3 : Int} {x4 : Int} {s : lf_Z} (hQ : ∀ (r : Int) (s' : lf_Z), iv_A s'.1 s'.2.2 → zq_E 29 31 [95, 104, 107, 111, 112] 1000000 true s.1 s.2.2 s'.1 s'.2.2 → ((-1) ≤ r ∧ r ≤ 65535) → Q r s') (hI : iv_A s.1 s.2.2) (bx1 : 0 ≤ x1 ∧ x1 ≤ 3) (bx2 : (-1) ≤ x2 ∧ x2 ≤ (-1)) (bx3 : (-2147483648) ≤ x3 ∧ x3 ≤ 2147483647) (bx4 : 0 ≤ x4 ∧ x4 ≤ 16) : fm_297_p17L Q x1 x2 x3 x4 s := by
  intro X17 hX
  have key : ∀ (m9 : Nat) (x3 : Int) (x4 : Int) (s' : lf_Z), iv_A s'.1 s'.2.2 → zq_R 29 [95, 104, 107, 111, 112] 1000000 true s.1 s.2.2 s'.1 s'.2.2 → (-2147483648) ≤ x3 ∧ x3 ≤ 2147483647 → 0 ≤ x4 ∧ x4 ≤ 16 → (16 - x4).toNat < m9 → X17 x3 x4 s' := by
    intro m9
    induction m9 with
    | zero => intro x3 x4 s' _ _ bx3 bx4 h9; exact absurd h9 (Nat.not_lt_zero _)
    | succ m9 ih => intro x3 x4 s' i7 f7 bx3 bx4 h9; exact hX _ _ _ (zq_297_p17 (fun r9 t9 i9 f9 => hQ r9 t9 i9 (zq_te f7 f9))   (fun x3' x4' t8 i8 f8 bx3' bx4' h8 => ih x3' x4' t8 i8 (zq_tr f7 f8) bx3' bx4' (by omega)) (Nat.le_refl _)  i7  bx1 bx2 bx3 bx4  )
  exact key _ _ _ s hI zq_rf bx3 bx4 (Nat.lt_succ_self _)
theorem zr_297 {a1 : Int} {Q : Int → lf_Z → Prop} {s : lf_Z} (hI : iv_A s.1 s.2.2) (h0 : zq_9 s.1) (ba1 : (-2147483648) ≤ a1 ∧ a1 ≤ 2147483647) (hQ : ∀ (r : Int) (s' : lf_Z), iv_A s'.1 s'.2.2 → lf_fq [95, 104, 107, 111, 112] 1000000 true s.1 s.2.2 s'.1 s'.2.2 → ((∀ i : Int, 4 ≤ i → i ≤ 6 → s'.1 95 i = s.1 95 i) ∧ zq_9 s'.1) → ((-1) ≤ r ∧ r ≤ 65535) → Q r s') : fm_297 a1 Q s := by
  unfold fm_297
  refine sm_254 hI (show (-2147483648 : Int) ≤ a1 ∧ a1 ≤ (2147483647 : Int) from by omega) (fun z22 q1 => ?_)
  refine ⟨fun c2 => ?_, fun c2 => ?_⟩
  · skip
    have dc2 := q1.1 c2
    exact zq_297_p17L (fun r9 t9 i9 f9 b9 => hQ r9 t9 i9 f9.1.1 ⟨fun i j0 j1 => f9.1.2 i (Or.inl ⟨j0, j1⟩), (f9.1.2 29 (by decide)).trans h0.1, f9.2, by rw [f9.1.2 30 (by decide)]; exact h0.2.2⟩ b9) hI (show (0 : Int) ≤ a1 ∧ a1 ≤ (3 : Int) from by omega) (show (-1 : Int) ≤ (-1) ∧ (-1) ≤ (-1 : Int) from by omega) (show (-2147483648 : Int) ≤ 0 ∧ 0 ≤ (2147483647 : Int) from by omega) (show (0 : Int) ≤ 0 ∧ 0 ≤ (16 : Int) from by omega)
  · skip
    have dc2 := q1.2 c2
    exact hQ (-1) s hI (lf_fq_rf) ⟨fun _ _ _ => rfl, h0⟩ (show (-1 : Int) ≤ (-1) ∧ (-1) ≤ (65535 : Int) from by omega)
end ZQ
