theorem cj_200_p12 {Q1 Q2 Q3 : Bool → lf_Z → Prop} {x0 : Int} {s : lf_Z} (hQ : ∀ (r : Bool) (s : lf_Z), Q1 r s → Q2 r s → Q3 r s) (h1 : fm_200_p12 Q1 x0 s) (h2 : fw_200_p12 Q2 x0 s) : fm_200_p12 Q3 x0 s := by
  unfold fm_200_p12 at h1 ⊢
  unfold fw_200_p12 at h2
  exact ⟨h1.1, ⟨(fun c2 => hQ _ _  (h1.2.1 c2) ((h2 h1.1).1 c2)), (fun c2 => ⟨(fun c4 => hQ _ _  ((h1.2.2 c2).1 c4) (((h2 h1.1).2 c2).1 c4)), (fun c4 => hQ _ _  ((h1.2.2 c2).2 c4) (((h2 h1.1).2 c2).2 c4))⟩)⟩⟩
def fw_200 (a0 : Int) (Q : Bool → lf_Z → Prop) (s : lf_Z) : Prop := lf_R a0 → ((a0 < 97 → (fw_200_p12 Q a0 s)) ∧ (¬ (a0 < 97) → ((a0 ≤ 122 → (Q true s)) ∧ (¬ (a0 ≤ 122) → (fw_200_p12 Q a0 s)))))
theorem cj_200 {Q1 Q2 Q3 : Bool → lf_Z → Prop} {a0 : Int} {s : lf_Z} (hQ : ∀ (r : Bool) (s : lf_Z), Q1 r s → Q2 r s → Q3 r s) (h1 : fm_200 a0 Q1 s) (h2 : fw_200 a0 Q2 s) : fm_200 a0 Q3 s := by
  unfold fm_200 at h1 ⊢
  unfold fw_200 at h2
  exact ⟨h1.1, ⟨(fun c2 => cj_200_p12 hQ (h1.2.1 c2) ((h2 h1.1).1 c2)), (fun c2 => ⟨(fun c4 => hQ _ _  ((h1.2.2 c2).1 c4) (((h2 h1.1).2 c2).1 c4)), (fun c4 => cj_200_p12 hQ ((h1.2.2 c2).2 c4) (((h2 h1.1).2 c2).2 c4))⟩)⟩⟩
def fw_201 (a0 : Int) (Q : Bool → lf_Z → Prop) (s : lf_Z) : Prop := lf_R a0 → ((a0 < 35 ∨ 62 < a0 → (Q false s)) ∧ (a0 = 35 → (Q true s)) ∧ (a0 = 36 → (Q false s)) ∧ (a0 = 37 → (Q false s)) ∧ (a0 = 38 → (Q false s)) ∧ (a0 = 39 → (Q false s)) ∧ (a0 = 40 → (Q true s)) ∧ (a0 = 41 → (Q true s)) ∧ (a0 = 42 → (Q true s)) ∧ (a0 = 43 → (Q true s)) ∧ (a0 = 44 → (Q false s)) ∧ (a0 = 45 → (Q true s)) ∧ (a0 = 46 → (Q false s)) ∧ (a0 = 47 → (Q true s)) ∧ (a0 = 48 → (Q false s)) ∧ (a0 = 49 → (Q false s)) ∧ (a0 = 50 → (Q false s)) ∧ (a0 = 51 → (Q false s)) ∧ (a0 = 52 → (Q false s)) ∧ (a0 = 53 → (Q false s)) ∧ (a0 = 54 → (Q false s)) ∧ (a0 = 55 → (Q false s)) ∧ (a0 = 56 → (Q false s)) ∧ (a0 = 57 → (Q false s)) ∧ (a0 = 58 → (Q false s)) ∧ (a0 = 59 → (Q true s)) ∧ (a0 = 60 → (Q true s)) ∧ (a0 = 61 → (Q true s)) ∧ (a0 = 62 → (Q true s)))
theorem cj_201 {Q1 Q2 Q3 : Bool → lf_Z → Prop} {a0 : Int} {s : lf_Z} (hQ : ∀ (r : Bool) (s : lf_Z), Q1 r s → Q2 r s → Q3 r s) (h1 : fm_201 a0 Q1 s) (h2 : fw_201 a0 Q2 s) : fm_201 a0 Q3 s := by
  unfold fm_201 at h1 ⊢
  unfold fw_201 at h2
  exact ⟨h1.1, ⟨(fun c2 => hQ _ _  (h1.2.1 c2) ((h2 h1.1).1 c2)), (fun c2 => hQ _ _  (h1.2.2.1 c2) ((h2 h1.1).2.1 c2)), (fun c2 => hQ _ _  (h1.2.2.2.1 c2) ((h2 h1.1).2.2.1 c2)), (fun c2 => hQ _ _  (h1.2.2.2.2.1 c2) ((h2 h1.1).2.2.2.1 c2)), (fun c2 => hQ _ _  (h1.2.2.2.2.2.1 c2) ((h2 h1.1).2.2.2.2.1 c2)), (fun c2 => hQ _ _  (h1.2.2.2.2.2.2.1 c2) ((h2 h1.1).2.2.2.2.2.1 c2)), (fun c2 => hQ _ _  (h1.2.2.2.2.2.2.2.1 c2) ((h2 h1.1).2.2.2.2.2.2.1 c2)), (fun c2 => hQ _ _  (h1.2.2.2.2.2.2.2.2.1 c2) ((h2 h1.1).2.2.2.2.2.2.2.1 c2)), (fun c2 => hQ _ _  (h1.2.2.2.2.2.2.2.2.2.1 c2) ((h2 h1.1).2.2.2.2.2.2.2.2.1 c2)), (fun c2 => hQ _ _  (h1.2.2.2.2.2.2.2.2.2.2.1 c2) ((h2 h1.1).2.2.2.2.2.2.2.2.2.1 c2)), (fun c2 => hQ _ _  (h1.2.2.2.2.2.2.2.2.2.2.2.1 c2) ((h2 h1.1).2.2.2.2.2.2.2.2.2.2.1 c2)), (fun c2 => hQ _ _  (h1.2.2.2.2.2.2.2.2.2.2.2.2.1 c2) ((h2 h1.1).2.2.2.2.2.2.2.2.2.2.2.1 c2)), (fun c2 => hQ _ _  (h1.2.2.2.2.2.2.2.2.2.2.2.2.2.1 c2) ((h2 h1.1).2.2.2.2.2.2.2.2.2.2.2.2.1 c2)), (fun c2 => hQ _ _  (h1.2.2.2.2.2.2.2.2.2.2.2.2.2.2.1 c2) ((h2 h1.1).2.2.2.2.2.2.2.2.2.2.2.2.2.1 c2)), (fun c2 => hQ _ _  (h1.2.2.2.2.2.2.2.2.2.2.2.2.2.2.2.1 c2) ((h2 h1.1).2.2.2.2.2.2.2.2.2.2.2.2.2.2.1 c2)), (fun c2 => hQ _ _  (h1.2.2.2.2.2.2.2.2.2.2.2.2.2.2.2.2.1 c2) ((h2 h1.1).2.2.2.2.2.2.2.2.2.2.2.2.2.2.2.1 c2)), (fun c2 => hQ _ _  (h1.2.2.2.2.2.2.2.2.2.2.2.2.2.2.2.2.2.1 c2) ((h2 h1.1).2.2.2.2.2.2.2.2.2.2.2.2.2.2.2.2.1 c2)), (fun c2 => hQ _ _  (h1.2.2.2.2.2.2.2.2.2.2.2.2.2.2.2.2.2.2.1 c2) ((h2 h1.1).2.2.2.2.2.2.2.2.2.2.2.2.2.2.2.2.2.1 c2)), (fun c2 => hQ _ _  (h1.2.2.2.2.2.2.2.2.2.2.2.2.2.2.2.2.2.2.2.1 c2) ((h2 h1.1).2.2.2.2.2.2.2.2.2.2.2.2.2.2.2.2.2.2.1 c2)), (fun c2 => hQ _ _  (h1.2.2.2.2.2.2.2.2.2.2.2.2.2.2.2.2.2.2.2.2.1 c2) ((h2 h1.1).2.2.2.2.2.2.2.2.2.2.2.2.2.2.2.2.2.2.2.1 c2)), (fun c2 => hQ _ _  (h1.2.2.2.2.2.2.2.2.2.2.2.2.2.2.2.2.2.2.2.2.2.1 c2) ((h2 h1.1).2.2.2.2.2.2.2.2.2.2.2.2.2.2.2.2.2.2.2.2.1 c2)), (fun c2 => hQ _ _  (h1.2.2.2.2.2.2.2.2.2.2.2.2.2.2.2.2.2.2.2.2.2.2.1 c2) ((h2 h1.1).2.2.2.2.2.2.2.2.2.2.2.2.2.2.2.2.2.2.2.2.2.1 c2)), (fun c2 => hQ _ _  (h1.2.2.2.2.2.2.2.2.2.2.2.2.2.2.2.2.2.2.2.2.2.2.2.1 c2) ((h2 h1.1).2.2.2.2.2.2.2.2.2.2.2.2.2.2.2.2.2.2.2.2.2.2.1 c2)), (fun c2 => hQ _ _  (h1.2.2.2.2.2.2.2.2.2.2.2.2.2.2.2.2.2.2.2.2.2.2.2.2.1 c2) ((h2 h1.1).2.2.2.2.2.2.2.2.2.2.2.2.2.2.2.2.2.2.2.2.2.2.2.1 c2)), (fun c2 => hQ _ _  (h1.2.2.2.2.2.2.2.2.2.2.2.2.2.2.2.2.2.2.2.2.2.2.2.2.2.1 c2) ((h2 h1.1).2.2.2.2.2.2.2.2.2.2.2.2.2.2.2.2.2.2.2.2.2.2.2.2.1 c2)), (fun c2 => hQ _ _  (h1.2.2.2.2.2.2.2.2.2.2.2.2.2.2.2.2.2.2.2.2.2.2.2.2.2.2.1 c2) ((h2 h1.1).2.2.2.2.2.2.2.2.2.2.2.2.2.2.2.2.2.2.2.2.2.2.2.2.2.1 c2)), (fun c2 => hQ _ _  (h1.2.2.2.2.2.2.2.2.2.2.2.2.2.2.2.2.2.2.2.2.2.2.2.2.2.2.2.1 c2) ((h2 h1.1).2.2.2.2.2.2.2.2.2.2.2.2.2.2.2.2.2.2.2.2.2.2.2.2.2.2.1 c2)), (fun c2 => hQ _ _  (h1.2.2.2.2.2.2.2.2.2.2.2.2.2.2.2.2.2.2.2.2.2.2.2.2.2.2.2.2.1 c2) ((h2 h1.1).2.2.2.2.2.2.2.2.2.2.2.2.2.2.2.2.2.2.2.2.2.2.2.2.2.2.2.1 c2)), (fun c2 => hQ _ _  (h1.2.2.2.2.2.2.2.2.2.2.2.2.2.2.2.2.2.2.2.2.2.2.2.2.2.2.2.2.2 c2) ((h2 h1.1).2.2.2.2.2.2.2.2.2.2.2.2.2.2.2.2.2.2.2.2.2.2.2.2.2.2.2.2 c2))⟩⟩
def fw_197_p26 (X0 : lf_Z → Prop) (Q : lf_Z → Prop) (s : lf_Z) : Prop := X0 (lf_up s.1 95 7 ((s.1 95 7) + 1), s.2.1, s.2.2)
theorem cj_197_p26 {X01 X02 X03 : lf_Z → Prop} {Q1 Q2 Q3 : lf_Z → Prop} {s : lf_Z} (hX0 : ∀ (v0 : lf_Z), X01 v0 → X02 v0 → X03 v0) (hQ : ∀ (s : lf_Z), Q1 s → Q2 s → Q3 s) (h1 : fm_197_p26 X01 Q1 s) (h2 : fw_197_p26 X02 Q2 s) : fm_197_p26 X03 Q3 s := by
  unfold fm_197_p26 at h1 ⊢
  unfold fw_197_p26 at h2
  exact hX0 _  h1 h2
def fw_197_p297 (Q : lf_Z → Prop) (y1 : Int) (s : lf_Z) : Prop := Q (lf_up (lf_up s.1 95 9 y1) 95 7 ((s.1 95 7) + 1), s.2.1, s.2.2)
theorem cj_197_p297 {Q1 Q2 Q3 : lf_Z → Prop} {y1 : Int} {s : lf_Z} (hQ : ∀ (s : lf_Z), Q1 s → Q2 s → Q3 s) (h1 : fm_197_p297 Q1 y1 s) (h2 : fw_197_p297 Q2 y1 s) : fm_197_p297 Q3 y1 s := by
  unfold fm_197_p297 at h1 ⊢
  unfold fw_197_p297 at h2
  exact hQ _  h1 h2
def fw_197_p272 (Q : lf_Z → Prop) (x1 : Int) (s : lf_Z) : Prop := fw_198 (s.1 95 7) (fun r38 s37 => (lf_R r38 → ((r38 ≠ 61 → (Q s37)) ∧ (¬ (r38 ≠ 61) → (lf_R x1 → ((x1 ≠ 60 → (fw_197_p297 Q 5 s37)) ∧ (¬ (x1 ≠ 60) → (fw_197_p297 Q 4 s37)))))))) s
theorem cj_197_p272 {Q1 Q2 Q3 : lf_Z → Prop} {x1 : Int} {s : lf_Z} (hQ : ∀ (s : lf_Z), Q1 s → Q2 s → Q3 s) (h1 : fm_197_p272 Q1 x1 s) (h2 : fw_197_p272 Q2 x1 s) : fm_197_p272 Q3 x1 s := by
  unfold fm_197_p272 at h1 ⊢
  unfold fw_197_p272 at h2
  exact cj_198 (fun r38 s37 k1 l1 => ⟨k1.1, ⟨(fun c3 => hQ _  (k1.2.1 c3) ((l1 k1.1).1 c3)), (fun c3 => ⟨(k1.2.2 c3).1, ⟨(fun c6 => cj_197_p297 hQ ((k1.2.2 c3).2.1 c6) ((((l1 k1.1).2 c3) (k1.2.2 c3).1).1 c6)), (fun c6 => cj_197_p297 hQ ((k1.2.2 c3).2.2 c6) ((((l1 k1.1).2 c3) (k1.2.2 c3).1).2 c6))⟩⟩)⟩⟩) h1 h2
def fw_197_p247 (Q : lf_Z → Prop) (x1 : Int) (y1 : Int) (s : lf_Z) : Prop := lf_R x1 → ((x1 = 60 → (fw_197_p272 Q x1 (lf_up (lf_up s.1 95 9 y1) 95 7 ((s.1 95 7) + 1), s.2.1, s.2.2))) ∧ (¬ (x1 = 60) → ((x1 ≠ 62 → (Q (lf_up (lf_up s.1 95 9 y1) 95 7 ((s.1 95 7) + 1), s.2.1, s.2.2))) ∧ (¬ (x1 ≠ 62) → (fw_197_p272 Q x1 (lf_up (lf_up s.1 95 9 y1) 95 7 ((s.1 95 7) + 1), s.2.1, s.2.2))))))
theorem cj_197_p247 {Q1 Q2 Q3 : lf_Z → Prop} {x1 : Int} {y1 : Int} {s : lf_Z} (hQ : ∀ (s : lf_Z), Q1 s → Q2 s → Q3 s) (h1 : fm_197_p247 Q1 x1 y1 s) (h2 : fw_197_p247 Q2 x1 y1 s) : fm_197_p247 Q3 x1 y1 s := by
  unfold fm_197_p247 at h1 ⊢
  unfold fw_197_p247 at h2
  exact ⟨h1.1, ⟨(fun c2 => cj_197_p272 hQ (h1.2.1 c2) ((h2 h1.1).1 c2)), (fun c2 => ⟨(fun c4 => hQ _  ((h1.2.2 c2).1 c4) (((h2 h1.1).2 c2).1 c4)), (fun c4 => cj_197_p272 hQ ((h1.2.2 c2).2 c4) (((h2 h1.1).2 c2).2 c4))⟩)⟩⟩
def fw_197_p218 (X168 : lf_Z → Prop) (Q : lf_Z → Prop) (y1 : Int) (s : lf_Z) : Prop := X168 (lf_up s.1 95 7 ((s.1 95 7) + 1), lf_up s.2.1 95 11 (lf_wl y1), s.2.2)
theorem cj_197_p218 {X1681 X1682 X1683 : lf_Z → Prop} {Q1 Q2 Q3 : lf_Z → Prop} {y1 : Int} {s : lf_Z} (hX168 : ∀ (v0 : lf_Z), X1681 v0 → X1682 v0 → X1683 v0) (hQ : ∀ (s : lf_Z), Q1 s → Q2 s → Q3 s) (h1 : fm_197_p218 X1681 Q1 y1 s) (h2 : fw_197_p218 X1682 Q2 y1 s) : fm_197_p218 X1683 Q3 y1 s := by
  unfold fm_197_p218 at h1 ⊢
  unfold fw_197_p218 at h2
  exact hX168 _  h1 h2
def fw_197_p168 (Q : lf_Z → Prop) (X168 : lf_Z → Prop) (s : lf_Z) : Prop := fw_198 (s.1 95 7) (fun r42 s41 => (fw_200 r42 (fun z44 s43 => ((z44 = false → (Q s43)) ∧ (z44 = true → ((lf_lshr (lf_wl (s43.2.1 95 11)) 48 = 0 → (fw_198 (s43.1 95 7) (fun r46 s45 => (lf_R r46 → (fw_197_p218 X168 Q (lf_lor (lf_lshl (lf_wl (s43.2.1 95 11)) 8) r46) s45))) s43)) ∧ (¬ (lf_lshr (lf_wl (s43.2.1 95 11)) 48 = 0) → (fw_197_p218 X168 Q 1152921504606846976 s43)))))) s41)) s
theorem cj_197_p168 {X1681 X1682 X1683 : lf_Z → Prop} {Q1 Q2 Q3 : lf_Z → Prop} {s : lf_Z} (hX168 : ∀ (v0 : lf_Z), X1681 v0 → X1682 v0 → X1683 v0) (hQ : ∀ (s : lf_Z), Q1 s → Q2 s → Q3 s) (h1 : fm_197_p168 Q1 X1681 s) (h2 : fw_197_p168 Q2 X1682 s) : fm_197_p168 Q3 X1683 s := by
  unfold fm_197_p168 at h1 ⊢
  unfold fw_197_p168 at h2
  exact cj_198 (fun r42 s41 k1 l1 => cj_200 (fun z44 s43 k2 l2 => ⟨(fun c3 => hQ _  (k2.1 c3) (l2.1 c3)), (fun c3 => ⟨(fun c5 => cj_198 (fun r46 s45 k6 l6 => ⟨k6.1, cj_197_p218 hX168 hQ k6.2 (l6 k6.1)⟩) ((k2.2 c3).1 c5) ((l2.2 c3).1 c5)), (fun c5 => cj_197_p218 hX168 hQ ((k2.2 c3).2 c5) ((l2.2 c3).2 c5))⟩)⟩) k1 l1) h1 h2
def fw_197_p168L (Q : lf_Z → Prop) (s : lf_Z) : Prop := ∃ X168 : lf_Z → Prop, (∀ (s : lf_Z), X168 s → fw_197_p168 Q X168 s) ∧ X168 s
theorem cj_197_p168L {Q1 Q2 Q3 : lf_Z → Prop} {s : lf_Z} (hQ : ∀ (s : lf_Z), Q1 s → Q2 s → Q3 s) (h1 : fm_197_p168L Q1 s) (h2 : fw_197_p168L Q2 s) : fm_197_p168L Q3 s := by
  intro X0 hX0
  obtain ⟨Y, hY, hY0⟩ := h2
  exact h1 (fun  s => Y  s → X0  s) (fun  s hb hy => hX0  s (cj_197_p168 (X1681 := fun  s => Y  s → X0  s) (X1682 := Y) (X1683 := X0) (hX168 := fun  s a b => a b) hQ hb (hY  s hy))) hY0
def fw_197_p135 (X85 : lf_Z → Prop) (Q : lf_Z → Prop) (y1 : Int) (s : lf_Z) : Prop := X85 (lf_up (lf_up s.1 95 10 y1) 95 7 ((s.1 95 7) + 1), s.2.1, s.2.2)
theorem cj_197_p135 {X851 X852 X853 : lf_Z → Prop} {Q1 Q2 Q3 : lf_Z → Prop} {y1 : Int} {s : lf_Z} (hX85 : ∀ (v0 : lf_Z), X851 v0 → X852 v0 → X853 v0) (hQ : ∀ (s : lf_Z), Q1 s → Q2 s → Q3 s) (h1 : fm_197_p135 X851 Q1 y1 s) (h2 : fw_197_p135 X852 Q2 y1 s) : fm_197_p135 X853 Q3 y1 s := by
  unfold fm_197_p135 at h1 ⊢
  unfold fw_197_p135 at h2
  exact hX85 _  h1 h2
def fw_197_p85 (Q : lf_Z → Prop) (X85 : lf_Z → Prop) (s : lf_Z) : Prop := fw_198 (s.1 95 7) (fun r49 s48 => (fw_199 r49 (fun z51 s50 => ((z51 = false → (Q s50)) ∧ (z51 = true → (lf_R (s50.1 95 10) → ((s50.1 95 10 ≤ 99999 → (fw_198 (s50.1 95 7) (fun r54 s53 => (fw_197_p135 X85 Q (lf_w ((lf_w ((lf_w (10 * (s50.1 95 10))) + r54)) - 48)) s53)) s50)) ∧ (¬ (s50.1 95 10 ≤ 99999) → (fw_197_p135 X85 Q (s50.1 95 10) s50))))))) s48)) s
theorem cj_197_p85 {X851 X852 X853 : lf_Z → Prop} {Q1 Q2 Q3 : lf_Z → Prop} {s : lf_Z} (hX85 : ∀ (v0 : lf_Z), X851 v0 → X852 v0 → X853 v0) (hQ : ∀ (s : lf_Z), Q1 s → Q2 s → Q3 s) (h1 : fm_197_p85 Q1 X851 s) (h2 : fw_197_p85 Q2 X852 s) : fm_197_p85 Q3 X853 s := by
  unfold fm_197_p85 at h1 ⊢
  unfold fw_197_p85 at h2
  exact cj_198 (fun r49 s48 k1 l1 => cj_199 (fun z51 s50 k2 l2 => ⟨(fun c3 => hQ _  (k2.1 c3) (l2.1 c3)), (fun c3 => ⟨(k2.2 c3).1, ⟨(fun c6 => cj_198 (fun r54 s53 k7 l7 => cj_197_p135 hX85 hQ k7 l7) ((k2.2 c3).2.1 c6) (((l2.2 c3) (k2.2 c3).1).1 c6)), (fun c6 => cj_197_p135 hX85 hQ ((k2.2 c3).2.2 c6) (((l2.2 c3) (k2.2 c3).1).2 c6))⟩⟩)⟩) k1 l1) h1 h2
def fw_197_p85L (Q : lf_Z → Prop) (s : lf_Z) : Prop := ∃ X85 : lf_Z → Prop, (∀ (s : lf_Z), X85 s → fw_197_p85 Q X85 s) ∧ X85 s
theorem cj_197_p85L {Q1 Q2 Q3 : lf_Z → Prop} {s : lf_Z} (hQ : ∀ (s : lf_Z), Q1 s → Q2 s → Q3 s) (h1 : fm_197_p85L Q1 s) (h2 : fw_197_p85L Q2 s) : fm_197_p85L Q3 s := by
  intro X0 hX0
  obtain ⟨Y, hY, hY0⟩ := h2
  exact h1 (fun  s => Y  s → X0  s) (fun  s hb hy => hX0  s (cj_197_p85 (X851 := fun  s => Y  s → X0  s) (X852 := Y) (X853 := X0) (hX85 := fun  s a b => a b) hQ hb (hY  s hy))) hY0
def fw_197_p0 (Q : lf_Z → Prop) (X0 : lf_Z → Prop) (s : lf_Z) : Prop := fw_198 (s.1 95 7) (fun r22 s21 => (lf_R r22 → ((r22 = 32 → (fw_197_p26 X0 Q s21)) ∧ (¬ (r22 = 32) → (fw_198 (s21.1 95 7) (fun r25 s24 => (lf_R r25 → ((r25 ≠ 10 → (fw_198 (s24.1 95 7) (fun r28 s27 => (lf_R r28 → ((0 ≤ r28 → (fw_199 r28 (fun z31 s30 => ((z31 = false → (fw_200 r28 (fun z33 s32 => ((z33 = false → (fw_201 r28 (fun z35 s34 => ((z35 = false → (fw_197_p247 Q r28 3 s34)) ∧ (z35 = true → (fw_197_p247 Q r28 r28 s34)))) s32)) ∧ (z33 = true → (fw_197_p168L Q (lf_up s32.1 95 9 2, lf_up s32.2.1 95 11 0, s32.2.2))))) s30)) ∧ (z31 = true → (fw_197_p85L Q (lf_up (lf_up s30.1 95 9 1) 95 10 0, s30.2.1, s30.2.2))))) s27)) ∧ (¬ (0 ≤ r28) → (Q (lf_up s27.1 95 9 0, s27.2.1, s27.2.2)))))) (lf_up s24.1 95 8 (s24.1 95 7), s24.2.1, s24.2.2))) ∧ (¬ (r25 ≠ 10) → (fw_197_p26 X0 Q s24))))) s21))))) s
theorem cj_197_p0 {X01 X02 X03 : lf_Z → Prop} {Q1 Q2 Q3 : lf_Z → Prop} {s : lf_Z} (hX0 : ∀ (v0 : lf_Z), X01 v0 → X02 v0 → X03 v0) (hQ : ∀ (s : lf_Z), Q1 s → Q2 s → Q3 s) (h1 : fm_197_p0 Q1 X01 s) (h2 : fw_197_p0 Q2 X02 s) : fm_197_p0 Q3 X03 s := by
  unfold fm_197_p0 at h1 ⊢
  unfold fw_197_p0 at h2
  exact cj_198 (fun r22 s21 k1 l1 => ⟨k1.1, ⟨(fun c3 => cj_197_p26 hX0 hQ (k1.2.1 c3) ((l1 k1.1).1 c3)), (fun c3 => cj_198 (fun r25 s24 k5 l5 => ⟨k5.1, ⟨(fun c7 => cj_198 (fun r28 s27 k8 l8 => ⟨k8.1, ⟨(fun c10 => cj_199 (fun z31 s30 k11 l11 => ⟨(fun c12 => cj_200 (fun z33 s32 k13 l13 => ⟨(fun c14 => cj_201 (fun z35 s34 k15 l15 => ⟨(fun c16 => cj_197_p247 hQ (k15.1 c16) (l15.1 c16)), (fun c16 => cj_197_p247 hQ (k15.2 c16) (l15.2 c16))⟩) (k13.1 c14) (l13.1 c14)), (fun c14 => cj_197_p168L hQ (k13.2 c14) (l13.2 c14))⟩) (k11.1 c12) (l11.1 c12)), (fun c12 => cj_197_p85L hQ (k11.2 c12) (l11.2 c12))⟩) (k8.2.1 c10) ((l8 k8.1).1 c10)), (fun c10 => hQ _  (k8.2.2 c10) ((l8 k8.1).2 c10))⟩⟩) (k5.2.1 c7) ((l5 k5.1).1 c7)), (fun c7 => cj_197_p26 hX0 hQ (k5.2.2 c7) ((l5 k5.1).2 c7))⟩⟩) (k1.2.2 c3) ((l1 k1.1).2 c3))⟩⟩) h1 h2
def fw_197_p0L (Q : lf_Z → Prop) (s : lf_Z) : Prop := ∃ X0 : lf_Z → Prop, (∀ (s : lf_Z), X0 s → fw_197_p0 Q X0 s) ∧ X0 s
theorem cj_197_p0L {Q1 Q2 Q3 : lf_Z → Prop} {s : lf_Z} (hQ : ∀ (s : lf_Z), Q1 s → Q2 s → Q3 s) (h1 : fm_197_p0L Q1 s) (h2 : fw_197_p0L Q2 s) : fm_197_p0L Q3 s := by
  intro X0 hX0
  obtain ⟨Y, hY, hY0⟩ := h2
  exact h1 (fun  s => Y  s → X0  s) (fun  s hb hy => hX0  s (cj_197_p0 (X01 := fun  s => Y  s → X0  s) (X02 := Y) (X03 := X0) (hX0 := fun  s a b => a b) hQ hb (hY  s hy))) hY0
def fw_197 (Q : lf_Z → Prop) (s : lf_Z) : Prop := fw_197_p0L Q s
theorem cj_197 {Q1 Q2 Q3 : lf_Z → Prop} {s : lf_Z} (hQ : ∀ (s : lf_Z), Q1 s → Q2 s → Q3 s) (h1 : fm_197 Q1 s) (h2 : fw_197 Q2 s) : fm_197 Q3 s := by
  unfold fm_197 at h1 ⊢
  unfold fw_197 at h2
  exact cj_197_p0L hQ h1 h2
def fw_206 (a0 : Int) (a1 : Int) (Q : Int → lf_Z → Prop) (s : lf_Z) : Prop := lf_R a0 → (lf_R a1 → (Q (lf_lor (lf_lshl a0 8) a1) s))
theorem cj_206 {Q1 Q2 Q3 : Int → lf_Z → Prop} {a0 : Int} {a1 : Int} {s : lf_Z} (hQ : ∀ (r : Int) (s : lf_Z), Q1 r s → Q2 r s → Q3 r s) (h1 : fm_206 a0 a1 Q1 s) (h2 : fw_206 a0 a1 Q2 s) : fm_206 a0 a1 Q3 s := by
  unfold fm_206 at h1 ⊢
  unfold fw_206 at h2
  exact ⟨h1.1, ⟨h1.2.1, hQ _ _  h1.2.2 ((h2 h1.1) h1.2.1)⟩⟩
def fw_205 (a0 : Int) (a1 : Int) (a2 : Int) (Q : Int → lf_Z → Prop) (s : lf_Z) : Prop := fw_206 a0 a1 (fun r22 s21 => (lf_R a2 → (Q (lf_lor (lf_lshl (lf_wl r22) 8) a2) s21))) s
theorem cj_205 {Q1 Q2 Q3 : Int → lf_Z → Prop} {a0 : Int} {a1 : Int} {a2 : Int} {s : lf_Z} (hQ : ∀ (r : Int) (s : lf_Z), Q1 r s → Q2 r s → Q3 r s) (h1 : fm_205 a0 a1 a2 Q1 s) (h2 : fw_205 a0 a1 a2 Q2 s) : fm_205 a0 a1 a2 Q3 s := by
  unfold fm_205 at h1 ⊢
  unfold fw_205 at h2
  exact cj_206 (fun r22 s21 k1 l1 => ⟨k1.1, hQ _ _  k1.2 (l1 k1.1)⟩) h1 h2
def fw_204 (a0 : Int) (a1 : Int) (a2 : Int) (a3 : Int) (Q : Int → lf_Z → Prop) (s : lf_Z) : Prop := fw_205 a0 a1 a2 (fun r22 s21 => (lf_R a3 → (Q (lf_lor (lf_lshl (lf_wl r22) 8) a3) s21))) s
theorem cj_204 {Q1 Q2 Q3 : Int → lf_Z → Prop} {a0 : Int} {a1 : Int} {a2 : Int} {a3 : Int} {s : lf_Z} (hQ : ∀ (r : Int) (s : lf_Z), Q1 r s → Q2 r s → Q3 r s) (h1 : fm_204 a0 a1 a2 a3 Q1 s) (h2 : fw_204 a0 a1 a2 a3 Q2 s) : fm_204 a0 a1 a2 a3 Q3 s := by
  unfold fm_204 at h1 ⊢
  unfold fw_204 at h2
  exact cj_205 (fun r22 s21 k1 l1 => ⟨k1.1, hQ _ _  k1.2 (l1 k1.1)⟩) h1 h2
def fw_207 (a1 : Int) (Q : Bool → lf_Z → Prop) (s : lf_Z) : Prop := lf_R (s.1 95 9) → ((s.1 95 9 ≠ 2 → (Q false s)) ∧ (¬ (s.1 95 9 ≠ 2) → ((lf_wl (s.2.1 95 11) ≠ lf_wl a1 → (Q false s)) ∧ (¬ (lf_wl (s.2.1 95 11) ≠ lf_wl a1) → (Q true s)))))
theorem cj_207 {Q1 Q2 Q3 : Bool → lf_Z → Prop} {a1 : Int} {s : lf_Z} (hQ : ∀ (r : Bool) (s : lf_Z), Q1 r s → Q2 r s → Q3 r s) (h1 : fm_207 a1 Q1 s) (h2 : fw_207 a1 Q2 s) : fm_207 a1 Q3 s := by
  unfold fm_207 at h1 ⊢
  unfold fw_207 at h2
  exact ⟨h1.1, ⟨(fun c2 => hQ _ _  (h1.2.1 c2) ((h2 h1.1).1 c2)), (fun c2 => ⟨(fun c4 => hQ _ _  ((h1.2.2 c2).1 c4) (((h2 h1.1).2 c2).1 c4)), (fun c4 => hQ _ _  ((h1.2.2 c2).2 c4) (((h2 h1.1).2 c2).2 c4))⟩)⟩⟩
def fw_208 (a0 : Int) (a1 : Int) (a2 : Int) (a3 : Int) (a4 : Int) (Q : Int → lf_Z → Prop) (s : lf_Z) : Prop := fw_204 a0 a1 a2 a3 (fun r22 s21 => (lf_R a4 → (Q (lf_lor (lf_lshl (lf_wl r22) 8) a4) s21))) s
theorem cj_208 {Q1 Q2 Q3 : Int → lf_Z → Prop} {a0 : Int} {a1 : Int} {a2 : Int} {a3 : Int} {a4 : Int} {s : lf_Z} (hQ : ∀ (r : Int) (s : lf_Z), Q1 r s → Q2 r s → Q3 r s) (h1 : fm_208 a0 a1 a2 a3 a4 Q1 s) (h2 : fw_208 a0 a1 a2 a3 a4 Q2 s) : fm_208 a0 a1 a2 a3 a4 Q3 s := by
  unfold fm_208 at h1 ⊢
  unfold fw_208 at h2
  exact cj_204 (fun r22 s21 k1 l1 => ⟨k1.1, hQ _ _  k1.2 (l1 k1.1)⟩) h1 h2
def fw_209 (a0 : Int) (a1 : Int) (a2 : Int) (a3 : Int) (a4 : Int) (a5 : Int) (Q : Int → lf_Z → Prop) (s : lf_Z) : Prop := fw_208 a0 a1 a2 a3 a4 (fun r22 s21 => (lf_R a5 → (Q (lf_lor (lf_lshl (lf_wl r22) 8) a5) s21))) s
theorem cj_209 {Q1 Q2 Q3 : Int → lf_Z → Prop} {a0 : Int} {a1 : Int} {a2 : Int} {a3 : Int} {a4 : Int} {a5 : Int} {s : lf_Z} (hQ : ∀ (r : Int) (s : lf_Z), Q1 r s → Q2 r s → Q3 r s) (h1 : fm_209 a0 a1 a2 a3 a4 a5 Q1 s) (h2 : fw_209 a0 a1 a2 a3 a4 a5 Q2 s) : fm_209 a0 a1 a2 a3 a4 a5 Q3 s := by
  unfold fm_209 at h1 ⊢
  unfold fw_209 at h2
  exact cj_208 (fun r22 s21 k1 l1 => ⟨k1.1, hQ _ _  k1.2 (l1 k1.1)⟩) h1 h2
def fw_203 (Q : Int → lf_Z → Prop) (s : lf_Z) : Prop := fw_204 112 97 99 101 (fun r22 s21 => (fw_207 (lf_wl r22) (fun z24 s23 => ((z24 = false → (fw_208 116 97 107 101 115 (fun r26 s25 => (fw_207 (lf_wl r26) (fun z28 s27 => ((z28 = false → (fw_204 112 97 121 115 (fun r30 s29 => (fw_207 (lf_wl r30) (fun z32 s31 => ((z32 = false → (fw_205 115 116 114 (fun r34 s33 => (fw_204 101 116 99 104 (fun r36 s35 => (fw_207 (lf_lor (lf_lshl (lf_wl r34) 32) (lf_wl r36)) (fun z38 s37 => ((z38 = false → (fw_205 119 97 121 (fun r40 s39 => (fw_207 (lf_wl r40) (fun z42 s41 => ((z42 = false → (fw_204 112 97 116 104 (fun r44 s43 => (fw_207 (lf_wl r44) (fun z46 s45 => ((z46 = false → (fw_205 111 110 101 (fun r48 s47 => (fw_207 (lf_wl r48) (fun z50 s49 => ((z50 = false → (fw_208 115 116 114 97 121 (fun r52 s51 => (fw_207 (lf_wl r52) (fun z54 s53 => ((z54 = false → (fw_204 115 101 110 100 (fun r56 s55 => (fw_207 (lf_wl r56) (fun z58 s57 => ((z58 = false → (fw_204 115 104 117 116 (fun r60 s59 => (fw_207 (lf_wl r60) (fun z62 s61 => ((z62 = false → (fw_204 111 112 101 110 (fun r64 s63 => (fw_207 (lf_wl r64) (fun z66 s65 => ((z66 = false → (fw_208 115 112 108 105 116 (fun r68 s67 => (fw_207 (lf_wl r68) (fun z70 s69 => ((z70 = false → (fw_209 109 105 110 117 116 101 (fun r72 s71 => (fw_207 (lf_wl r72) (fun z74 s73 => ((z74 = false → (Q (-1) s73)) ∧ (z74 = true → (Q 12 s73)))) s71)) s69)) ∧ (z70 = true → (Q 11 s69)))) s67)) s65)) ∧ (z66 = true → (Q 10 s65)))) s63)) s61)) ∧ (z62 = true → (Q 9 s61)))) s59)) s57)) ∧ (z58 = true → (Q 8 s57)))) s55)) s53)) ∧ (z54 = true → (Q 7 s53)))) s51)) s49)) ∧ (z50 = true → (Q 6 s49)))) s47)) s45)) ∧ (z46 = true → (Q 5 s45)))) s43)) s41)) ∧ (z42 = true → (Q 4 s41)))) s39)) s37)) ∧ (z38 = true → (Q 3 s37)))) s35)) s33)) s31)) ∧ (z32 = true → (Q 2 s31)))) s29)) s27)) ∧ (z28 = true → (Q 1 s27)))) s25)) s23)) ∧ (z24 = true → (Q 0 s23)))) s21)) s
theorem cj_203 {Q1 Q2 Q3 : Int → lf_Z → Prop} {s : lf_Z} (hQ : ∀ (r : Int) (s : lf_Z), Q1 r s → Q2 r s → Q3 r s) (h1 : fm_203 Q1 s) (h2 : fw_203 Q2 s) : fm_203 Q3 s := by
  unfold fm_203 at h1 ⊢
  unfold fw_203 at h2
  exact cj_204 (fun r22 s21 k1 l1 => cj_207 (fun z24 s23 k2 l2 => ⟨(fun c3 => cj_208 (fun r26 s25 k4 l4 => cj_207 (fun z28 s27 k5 l5 => ⟨(fun c6 => cj_204 (fun r30 s29 k7 l7 => cj_207 (fun z32 s31 k8 l8 => ⟨(fun c9 => cj_205 (fun r34 s33 k10 l10 => cj_204 (fun r36 s35 k11 l11 => cj_207 (fun z38 s37 k12 l12 => ⟨(fun c13 => cj_205 (fun r40 s39 k14 l14 => cj_207 (fun z42 s41 k15 l15 => ⟨(fun c16 => cj_204 (fun r44 s43 k17 l17 => cj_207 (fun z46 s45 k18 l18 => ⟨(fun c19 => cj_205 (fun r48 s47 k20 l20 => cj_207 (fun z50 s49 k21 l21 => ⟨(fun c22 => cj_208 (fun r52 s51 k23 l23 => cj_207 (fun z54 s53 k24 l24 => ⟨(fun c25 => cj_204 (fun r56 s55 k26 l26 => cj_207 (fun z58 s57 k27 l27 => ⟨(fun c28 => cj_204 (fun r60 s59 k29 l29 => cj_207 (fun z62 s61 k30 l30 => ⟨(fun c31 => cj_204 (fun r64 s63 k32 l32 => cj_207 (fun z66 s65 k33 l33 => ⟨(fun c34 => cj_208 (fun r68 s67 k35 l35 => cj_207 (fun z70 s69 k36 l36 => ⟨(fun c37 => cj_209 (fun r72 s71 k38 l38 => cj_207 (fun z74 s73 k39 l39 => ⟨(fun c40 => hQ _ _  (k39.1 c40) (l39.1 c40)), (fun c40 => hQ _ _  (k39.2 c40) (l39.2 c40))⟩) k38 l38) (k36.1 c37) (l36.1 c37)), (fun c37 => hQ _ _  (k36.2 c37) (l36.2 c37))⟩) k35 l35) (k33.1 c34) (l33.1 c34)), (fun c34 => hQ _ _  (k33.2 c34) (l33.2 c34))⟩) k32 l32) (k30.1 c31) (l30.1 c31)), (fun c31 => hQ _ _  (k30.2 c31) (l30.2 c31))⟩) k29 l29) (k27.1 c28) (l27.1 c28)), (fun c28 => hQ _ _  (k27.2 c28) (l27.2 c28))⟩) k26 l26) (k24.1 c25) (l24.1 c25)), (fun c25 => hQ _ _  (k24.2 c25) (l24.2 c25))⟩) k23 l23) (k21.1 c22) (l21.1 c22)), (fun c22 => hQ _ _  (k21.2 c22) (l21.2 c22))⟩) k20 l20) (k18.1 c19) (l18.1 c19)), (fun c19 => hQ _ _  (k18.2 c19) (l18.2 c19))⟩) k17 l17) (k15.1 c16) (l15.1 c16)), (fun c16 => hQ _ _  (k15.2 c16) (l15.2 c16))⟩) k14 l14) (k12.1 c13) (l12.1 c13)), (fun c13 => hQ _ _  (k12.2 c13) (l12.2 c13))⟩) k11 l11) k10 l10) (k8.1 c9) (l8.1 c9)), (fun c9 => hQ _ _  (k8.2 c9) (l8.2 c9))⟩) k7 l7) (k5.1 c6) (l5.1 c6)), (fun c6 => hQ _ _  (k5.2 c6) (l5.2 c6))⟩) k4 l4) (k2.1 c3) (l2.1 c3)), (fun c3 => hQ _ _  (k2.2 c3) (l2.2 c3))⟩) k1 l1) h1 h2
def fw_230 (Q : Int → lf_Z → Prop) (s : lf_Z) : Prop := lf_R (s.1 95 9) → ((s.1 95 9 = 2 → (fw_204 115 105 122 101 (fun r23 s22 => ((lf_wl (s.2.1 95 11) ≠ lf_wl r23 → (fw_208 112 108 97 99 101 (fun r25 s24 => ((lf_wl (s22.2.1 95 11) ≠ lf_wl r25 → (fw_204 107 105 110 100 (fun r27 s26 => ((lf_wl (s24.2.1 95 11) ≠ lf_wl r27 → (fw_204 104 101 114 101 (fun r29 s28 => ((lf_wl (s26.2.1 95 11) ≠ lf_wl r29 → (fw_209 98 101 104 105 110 100 (fun r31 s30 => ((lf_wl (s28.2.1 95 11) ≠ lf_wl r31 → (fw_208 97 104 101 97 100 (fun r33 s32 => ((lf_wl (s30.2.1 95 11) ≠ lf_wl r33 → (fw_208 115 116 111 111 100 (fun r35 s34 => ((lf_wl (s32.2.1 95 11) ≠ lf_wl r35 → (fw_209 98 117 99 107 101 116 (fun r37 s36 => ((lf_wl (s34.2.1 95 11) ≠ lf_wl r37 → (fw_204 98 97 99 107 (fun r39 s38 => ((lf_wl (s36.2.1 95 11) ≠ lf_wl r39 → (fw_205 119 97 121 (fun r41 s40 => ((lf_wl (s38.2.1 95 11) ≠ lf_wl r41 → (fw_204 100 111 110 101 (fun r43 s42 => ((lf_wl (s40.2.1 95 11) ≠ lf_wl r43 → (Q (-1) s42)) ∧ (¬ (lf_wl (s40.2.1 95 11) ≠ lf_wl r43) → (Q 10 s42)))) s40)) ∧ (¬ (lf_wl (s38.2.1 95 11) ≠ lf_wl r41) → (Q 9 s40)))) s38)) ∧ (¬ (lf_wl (s36.2.1 95 11) ≠ lf_wl r39) → (Q 8 s38)))) s36)) ∧ (¬ (lf_wl (s34.2.1 95 11) ≠ lf_wl r37) → (Q 7 s36)))) s34)) ∧ (¬ (lf_wl (s32.2.1 95 11) ≠ lf_wl r35) → (Q 6 s34)))) s32)) ∧ (¬ (lf_wl (s30.2.1 95 11) ≠ lf_wl r33) → (Q 5 s32)))) s30)) ∧ (¬ (lf_wl (s28.2.1 95 11) ≠ lf_wl r31) → (Q 4 s30)))) s28)) ∧ (¬ (lf_wl (s26.2.1 95 11) ≠ lf_wl r29) → (Q 3 s28)))) s26)) ∧ (¬ (lf_wl (s24.2.1 95 11) ≠ lf_wl r27) → (Q 2 s26)))) s24)) ∧ (¬ (lf_wl (s22.2.1 95 11) ≠ lf_wl r25) → (Q 1 s24)))) s22)) ∧ (¬ (lf_wl (s.2.1 95 11) ≠ lf_wl r23) → (Q 0 s22)))) s)) ∧ (¬ (s.1 95 9 = 2) → (Q (-1) s)))
theorem cj_230 {Q1 Q2 Q3 : Int → lf_Z → Prop} {s : lf_Z} (hQ : ∀ (r : Int) (s : lf_Z), Q1 r s → Q2 r s → Q3 r s) (h1 : fm_230 Q1 s) (h2 : fw_230 Q2 s) : fm_230 Q3 s := by
  unfold fm_230 at h1 ⊢
  unfold fw_230 at h2
  exact ⟨h1.1, ⟨(fun c2 => cj_204 (fun r23 s22 k3 l3 => ⟨(fun c4 => cj_208 (fun r25 s24 k5 l5 => ⟨(fun c6 => cj_204 (fun r27 s26 k7 l7 => ⟨(fun c8 => cj_204 (fun r29 s28 k9 l9 => ⟨(fun c10 => cj_209 (fun r31 s30 k11 l11 => ⟨(fun c12 => cj_208 (fun r33 s32 k13 l13 => ⟨(fun c14 => cj_208 (fun r35 s34 k15 l15 => ⟨(fun c16 => cj_209 (fun r37 s36 k17 l17 => ⟨(fun c18 => cj_204 (fun r39 s38 k19 l19 => ⟨(fun c20 => cj_205 (fun r41 s40 k21 l21 => ⟨(fun c22 => cj_204 (fun r43 s42 k23 l23 => ⟨(fun c24 => hQ _ _  (k23.1 c24) (l23.1 c24)), (fun c24 => hQ _ _  (k23.2 c24) (l23.2 c24))⟩) (k21.1 c22) (l21.1 c22)), (fun c22 => hQ _ _  (k21.2 c22) (l21.2 c22))⟩) (k19.1 c20) (l19.1 c20)), (fun c20 => hQ _ _  (k19.2 c20) (l19.2 c20))⟩) (k17.1 c18) (l17.1 c18)), (fun c18 => hQ _ _  (k17.2 c18) (l17.2 c18))⟩) (k15.1 c16) (l15.1 c16)), (fun c16 => hQ _ _  (k15.2 c16) (l15.2 c16))⟩) (k13.1 c14) (l13.1 c14)), (fun c14 => hQ _ _  (k13.2 c14) (l13.2 c14))⟩) (k11.1 c12) (l11.1 c12)), (fun c12 => hQ _ _  (k11.2 c12) (l11.2 c12))⟩) (k9.1 c10) (l9.1 c10)), (fun c10 => hQ _ _  (k9.2 c10) (l9.2 c10))⟩) (k7.1 c8) (l7.1 c8)), (fun c8 => hQ _ _  (k7.2 c8) (l7.2 c8))⟩) (k5.1 c6) (l5.1 c6)), (fun c6 => hQ _ _  (k5.2 c6) (l5.2 c6))⟩) (k3.1 c4) (l3.1 c4)), (fun c4 => hQ _ _  (k3.2 c4) (l3.2 c4))⟩) (h1.2.1 c2) ((h2 h1.1).1 c2)), (fun c2 => hQ _ _  (h1.2.2 c2) ((h2 h1.1).2 c2))⟩⟩
def fw_232 (Q : Int → lf_Z → Prop) (s : lf_Z) : Prop := lf_R (s.1 95 9) → ((s.1 95 9 ≠ 2 → (Q (-1) s)) ∧ (¬ (s.1 95 9 ≠ 2) → (lf_R ((s.1 95 7) - (s.1 95 8)) → (((s.1 95 7) - (s.1 95 8) ≠ 1 → (Q (-1) s)) ∧ (¬ ((s.1 95 7) - (s.1 95 8) ≠ 1) → (fw_198 (s.1 95 8) (fun r24 s23 => (fw_183 r24 97 122 (fun z26 s25 => ((z26 = false → (Q (-1) s25)) ∧ (z26 = true → (fw_198 (s25.1 95 8) (fun r28 s27 => (Q (r28 - 97) s27)) s25)))) s23)) s))))))
theorem cj_232 {Q1 Q2 Q3 : Int → lf_Z → Prop} {s : lf_Z} (hQ : ∀ (r : Int) (s : lf_Z), Q1 r s → Q2 r s → Q3 r s) (h1 : fm_232 Q1 s) (h2 : fw_232 Q2 s) : fm_232 Q3 s := by
  unfold fm_232 at h1 ⊢
  unfold fw_232 at h2
  exact ⟨h1.1, ⟨(fun c2 => hQ _ _  (h1.2.1 c2) ((h2 h1.1).1 c2)), (fun c2 => ⟨(h1.2.2 c2).1, ⟨(fun c5 => hQ _ _  ((h1.2.2 c2).2.1 c5) ((((h2 h1.1).2 c2) (h1.2.2 c2).1).1 c5)), (fun c5 => cj_198 (fun r24 s23 k7 l7 => cj_183 (fun z26 s25 k8 l8 => ⟨(fun c9 => hQ _ _  (k8.1 c9) (l8.1 c9)), (fun c9 => cj_198 (fun r28 s27 k11 l11 => hQ _ _  k11 l11) (k8.2 c9) (l8.2 c9))⟩) k7 l7) ((h1.2.2 c2).2.2 c5) ((((h2 h1.1).2 c2) (h1.2.2 c2).1).2 c5))⟩⟩)⟩⟩
def fw_225 (a1 : Int) (a2 : Int) (Q : lf_Z → Prop) (s : lf_Z) : Prop := (0 ≤ ((s.1 95 12) + 97) + (2 * (s.1 95 13)) ∧ ((s.1 95 12) + 97) + (2 * (s.1 95 13)) < 2820) → ((0 ≤ (((s.1 95 12) + 97) + (2 * (s.1 95 13))) + 1 ∧ (((s.1 95 12) + 97) + (2 * (s.1 95 13))) + 1 < 2820) → (Q (lf_up (lf_up (lf_up s.1 98 (((s.1 95 12) + 97) + (2 * (s.1 95 13))) a1) 98 ((((s.1 95 12) + 97) + (2 * (s.1 95 13))) + 1) a2) 95 13 ((s.1 95 13) + 1), s.2.1, s.2.2)))
theorem cj_225 {Q1 Q2 Q3 : lf_Z → Prop} {a1 : Int} {a2 : Int} {s : lf_Z} (hQ : ∀ (s : lf_Z), Q1 s → Q2 s → Q3 s) (h1 : fm_225 a1 a2 Q1 s) (h2 : fw_225 a1 a2 Q2 s) : fm_225 a1 a2 Q3 s := by
  unfold fm_225 at h1 ⊢
  unfold fw_225 at h2
  exact ⟨h1.1, ⟨h1.2.1, hQ _  h1.2.2 ((h2 h1.1) h1.2.1)⟩⟩
def fw_222 (a0 : Int) (Q : Int → lf_Z → Prop) (s : lf_Z) : Prop := lf_R a0 → ((a0 < 40 → ((a0 ≠ 22 → ((a0 ≠ 21 → ((a0 ≠ 20 → ((a0 < 10 → ((a0 ≠ 3 → ((a0 < 6 → (Q 5 s)) ∧ (¬ (a0 < 6) → (Q 6 s)))) ∧ (¬ (a0 ≠ 3) → (Q 7 s)))) ∧ (¬ (a0 < 10) → (Q 4 s)))) ∧ (¬ (a0 ≠ 20) → (Q 3 s)))) ∧ (¬ (a0 ≠ 21) → (Q 2 s)))) ∧ (¬ (a0 ≠ 22) → (Q 1 s)))) ∧ (¬ (a0 < 40) → (Q 0 s)))
theorem cj_222 {Q1 Q2 Q3 : Int → lf_Z → Prop} {a0 : Int} {s : lf_Z} (hQ : ∀ (r : Int) (s : lf_Z), Q1 r s → Q2 r s → Q3 r s) (h1 : fm_222 a0 Q1 s) (h2 : fw_222 a0 Q2 s) : fm_222 a0 Q3 s := by
  unfold fm_222 at h1 ⊢
  unfold fw_222 at h2
  exact ⟨h1.1, ⟨(fun c2 => ⟨(fun c3 => ⟨(fun c4 => ⟨(fun c5 => ⟨(fun c6 => ⟨(fun c7 => ⟨(fun c8 => hQ _ _  (((((((h1.2.1 c2).1 c3).1 c4).1 c5).1 c6).1 c7).1 c8) ((((((((h2 h1.1).1 c2).1 c3).1 c4).1 c5).1 c6).1 c7).1 c8)), (fun c8 => hQ _ _  (((((((h1.2.1 c2).1 c3).1 c4).1 c5).1 c6).1 c7).2 c8) ((((((((h2 h1.1).1 c2).1 c3).1 c4).1 c5).1 c6).1 c7).2 c8))⟩), (fun c7 => hQ _ _  ((((((h1.2.1 c2).1 c3).1 c4).1 c5).1 c6).2 c7) (((((((h2 h1.1).1 c2).1 c3).1 c4).1 c5).1 c6).2 c7))⟩), (fun c6 => hQ _ _  (((((h1.2.1 c2).1 c3).1 c4).1 c5).2 c6) ((((((h2 h1.1).1 c2).1 c3).1 c4).1 c5).2 c6))⟩), (fun c5 => hQ _ _  ((((h1.2.1 c2).1 c3).1 c4).2 c5) (((((h2 h1.1).1 c2).1 c3).1 c4).2 c5))⟩), (fun c4 => hQ _ _  (((h1.2.1 c2).1 c3).2 c4) ((((h2 h1.1).1 c2).1 c3).2 c4))⟩), (fun c3 => hQ _ _  ((h1.2.1 c2).2 c3) (((h2 h1.1).1 c2).2 c3))⟩), (fun c2 => hQ _ _  (h1.2.2 c2) ((h2 h1.1).2 c2))⟩⟩
def fw_224_p76 (X0 : lf_Z → Prop) (Q : lf_Z → Prop) (x1 : Int) (s : lf_Z) : Prop := X0 (lf_up s.1 95 20 ((s.1 95 20) - 1), s.2.1, s.2.2)
theorem cj_224_p76 {X01 X02 X03 : lf_Z → Prop} {Q1 Q2 Q3 : lf_Z → Prop} {x1 : Int} {s : lf_Z} (hX0 : ∀ (v0 : lf_Z), X01 v0 → X02 v0 → X03 v0) (hQ : ∀ (s : lf_Z), Q1 s → Q2 s → Q3 s) (h1 : fm_224_p76 X01 Q1 x1 s) (h2 : fw_224_p76 X02 Q2 x1 s) : fm_224_p76 X03 Q3 x1 s := by
  unfold fm_224_p76 at h1 ⊢
  unfold fw_224_p76 at h2
  exact hX0 _  h1 h2
def fw_224_p0 (Q : lf_Z → Prop) (x1 : Int) (X0 : lf_Z → Prop) (s : lf_Z) : Prop := lf_R (s.1 95 19) → ((s.1 95 19 ≤ 0 → (Q s)) ∧ (¬ (s.1 95 19 ≤ 0) → ((0 ≤ (s.1 95 19) - 1 ∧ (s.1 95 19) - 1 < 160) → (fw_222 (s.1 100 ((s.1 95 19) - 1)) (fun r24 s23 => (lf_R r24 → (lf_R x1 → ((r24 < x1 → (Q s23)) ∧ (¬ (r24 < x1) → ((0 ≤ (s23.1 95 19) - 1 ∧ (s23.1 95 19) - 1 < 160) → (fw_225 (s23.1 100 ((s23.1 95 19) - 1)) 0 (fun s28 => ((0 ≤ s28.1 95 19 ∧ s28.1 95 19 < 160) → (lf_R (s28.1 100 (s28.1 95 19)) → ((s28.1 100 (s28.1 95 19) = 3 → (fw_224_p76 X0 Q x1 s28)) ∧ (¬ (s28.1 100 (s28.1 95 19) = 3) → ((s28.1 100 (s28.1 95 19) ≠ 20 → (X0 s28)) ∧ (¬ (s28.1 100 (s28.1 95 19) ≠ 20) → (fw_224_p76 X0 Q x1 s28)))))))) (lf_up s23.1 95 19 ((s23.1 95 19) - 1), s23.2.1, s23.2.2)))))))) s))))
theorem cj_224_p0 {X01 X02 X03 : lf_Z → Prop} {Q1 Q2 Q3 : lf_Z → Prop} {x1 : Int} {s : lf_Z} (hX0 : ∀ (v0 : lf_Z), X01 v0 → X02 v0 → X03 v0) (hQ : ∀ (s : lf_Z), Q1 s → Q2 s → Q3 s) (h1 : fm_224_p0 Q1 x1 X01 s) (h2 : fw_224_p0 Q2 x1 X02 s) : fm_224_p0 Q3 x1 X03 s := by
  unfold fm_224_p0 at h1 ⊢
  unfold fw_224_p0 at h2
  exact ⟨h1.1, ⟨(fun c2 => hQ _  (h1.2.1 c2) ((h2 h1.1).1 c2)), (fun c2 => ⟨(h1.2.2 c2).1, cj_222 (fun r24 s23 k5 l5 => ⟨k5.1, ⟨k5.2.1, ⟨(fun c8 => hQ _  (k5.2.2.1 c8) (((l5 k5.1) k5.2.1).1 c8)), (fun c8 => ⟨(k5.2.2.2 c8).1, cj_225 (fun s28 k11 l11 => ⟨k11.1, ⟨k11.2.1, ⟨(fun c14 => cj_224_p76 hX0 hQ (k11.2.2.1 c14) (((l11 k11.1) k11.2.1).1 c14)), (fun c14 => ⟨(fun c16 => hX0 _  ((k11.2.2.2 c14).1 c16) ((((l11 k11.1) k11.2.1).2 c14).1 c16)), (fun c16 => cj_224_p76 hX0 hQ ((k11.2.2.2 c14).2 c16) ((((l11 k11.1) k11.2.1).2 c14).2 c16))⟩)⟩⟩⟩) (k5.2.2.2 c8).2 ((((l5 k5.1) k5.2.1).2 c8) (k5.2.2.2 c8).1)⟩)⟩⟩⟩) (h1.2.2 c2).2 (((h2 h1.1).2 c2) (h1.2.2 c2).1)⟩)⟩⟩
def fw_224_p0L (Q : lf_Z → Prop) (x1 : Int) (s : lf_Z) : Prop := ∃ X0 : lf_Z → Prop, (∀ (s : lf_Z), X0 s → fw_224_p0 Q x1 X0 s) ∧ X0 s
theorem cj_224_p0L {Q1 Q2 Q3 : lf_Z → Prop} {x1 : Int} {s : lf_Z} (hQ : ∀ (s : lf_Z), Q1 s → Q2 s → Q3 s) (h1 : fm_224_p0L Q1 x1 s) (h2 : fw_224_p0L Q2 x1 s) : fm_224_p0L Q3 x1 s := by
  intro X0 hX0
  obtain ⟨Y, hY, hY0⟩ := h2
  exact h1 (fun  s => Y  s → X0  s) (fun  s hb hy => hX0  s (cj_224_p0 (X01 := fun  s => Y  s → X0  s) (X02 := Y) (X03 := X0) (hX0 := fun  s a b => a b) hQ hb (hY  s hy))) hY0
def fw_224 (a1 : Int) (Q : lf_Z → Prop) (s : lf_Z) : Prop := fw_224_p0L Q a1 s
theorem cj_224 {Q1 Q2 Q3 : lf_Z → Prop} {a1 : Int} {s : lf_Z} (hQ : ∀ (s : lf_Z), Q1 s → Q2 s → Q3 s) (h1 : fm_224 a1 Q1 s) (h2 : fw_224 a1 Q2 s) : fm_224 a1 Q3 s := by
  unfold fm_224 at h1 ⊢
  unfold fw_224 at h2
  exact cj_224_p0L hQ h1 h2
def fw_233 (a1 : Int) (a2 : Int) (Q : lf_Z → Prop) (s : lf_Z) : Prop := fw_225 a1 a2 (fun s21 => (fw_197 (fun s22 => (fw_224 7 (fun s23 => (Q s23)) (lf_up s22.1 95 23 1, s22.2.1, s22.2.2))) s21)) s
theorem cj_233 {Q1 Q2 Q3 : lf_Z → Prop} {a1 : Int} {a2 : Int} {s : lf_Z} (hQ : ∀ (s : lf_Z), Q1 s → Q2 s → Q3 s) (h1 : fm_233 a1 a2 Q1 s) (h2 : fw_233 a1 a2 Q2 s) : fm_233 a1 a2 Q3 s := by
  unfold fm_233 at h1 ⊢
  unfold fw_233 at h2
  exact cj_225 (fun s21 k1 l1 => cj_197 (fun s22 k2 l2 => cj_224 (fun s23 k3 l3 => hQ _  k3 l3) k2 l2) k1 l1) h1 h2
def fw_220_p7 (Q : Int → lf_Z → Prop) (X7 : Int → lf_Z → Prop) (x1 : Int) (s : lf_Z) : Prop := lf_R x1 → ((x1 < 0 → (Q x1 s)) ∧ (¬ (x1 < 0) → ((0 ≤ x1 ∧ x1 < 160) → (lf_R (s.1 100 x1) → ((40 ≤ s.1 100 x1 → (Q x1 s)) ∧ (¬ (40 ≤ s.1 100 x1) → (X7 (x1 + (-1)) s)))))))
theorem cj_220_p7 {X71 X72 X73 : Int → lf_Z → Prop} {Q1 Q2 Q3 : Int → lf_Z → Prop} {x1 : Int} {s : lf_Z} (hX7 : ∀ (v0 : Int) (v1 : lf_Z), X71 v0 v1 → X72 v0 v1 → X73 v0 v1) (hQ : ∀ (r : Int) (s : lf_Z), Q1 r s → Q2 r s → Q3 r s) (h1 : fm_220_p7 Q1 X71 x1 s) (h2 : fw_220_p7 Q2 X72 x1 s) : fm_220_p7 Q3 X73 x1 s := by
  unfold fm_220_p7 at h1 ⊢
  unfold fw_220_p7 at h2
  exact ⟨h1.1, ⟨(fun c2 => hQ _ _  (h1.2.1 c2) ((h2 h1.1).1 c2)), (fun c2 => ⟨(h1.2.2 c2).1, ⟨(h1.2.2 c2).2.1, ⟨(fun c6 => hQ _ _  ((h1.2.2 c2).2.2.1 c6) (((((h2 h1.1).2 c2) (h1.2.2 c2).1) (h1.2.2 c2).2.1).1 c6)), (fun c6 => hX7 _ _  ((h1.2.2 c2).2.2.2 c6) (((((h2 h1.1).2 c2) (h1.2.2 c2).1) (h1.2.2 c2).2.1).2 c6))⟩⟩⟩)⟩⟩
def fw_220_p7L (Q : Int → lf_Z → Prop) (x1 : Int) (s : lf_Z) : Prop := ∃ X7 : Int → lf_Z → Prop, (∀ (x1 : Int) (s : lf_Z), X7 x1 s → fw_220_p7 Q X7 x1 s) ∧ X7 x1 s
theorem cj_220_p7L {Q1 Q2 Q3 : Int → lf_Z → Prop} {x1 : Int} {s : lf_Z} (hQ : ∀ (r : Int) (s : lf_Z), Q1 r s → Q2 r s → Q3 r s) (h1 : fm_220_p7L Q1 x1 s) (h2 : fw_220_p7L Q2 x1 s) : fm_220_p7L Q3 x1 s := by
  intro X0 hX0
  obtain ⟨Y, hY, hY0⟩ := h2
  exact h1 (fun v0 s => Y v0 s → X0 v0 s) (fun v0 s hb hy => hX0 v0 s (cj_220_p7 (X71 := fun v0 s => Y v0 s → X0 v0 s) (X72 := Y) (X73 := X0) (hX7 := fun v0 s a b => a b) hQ hb (hY v0 s hy))) hY0
def fw_220 (Q : Int → lf_Z → Prop) (s : lf_Z) : Prop := fw_220_p7L Q ((s.1 95 19) - 1) s
theorem cj_220 {Q1 Q2 Q3 : Int → lf_Z → Prop} {s : lf_Z} (hQ : ∀ (r : Int) (s : lf_Z), Q1 r s → Q2 r s → Q3 r s) (h1 : fm_220 Q1 s) (h2 : fw_220 Q2 s) : fm_220 Q3 s := by
  unfold fm_220 at h1 ⊢
  unfold fw_220 at h2
  exact cj_220_p7L hQ h1 h2
def fw_219 (Q : Int → lf_Z → Prop) (s : lf_Z) : Prop := fw_220 (fun r22 s21 => (lf_R r22 → ((0 ≤ r22 → (fw_220 (fun r25 s24 => ((0 ≤ r25 ∧ r25 < 160) → (Q (s24.1 100 r25) s24))) s21)) ∧ (¬ (0 ≤ r22) → (Q (-1) s21))))) s
theorem cj_219 {Q1 Q2 Q3 : Int → lf_Z → Prop} {s : lf_Z} (hQ : ∀ (r : Int) (s : lf_Z), Q1 r s → Q2 r s → Q3 r s) (h1 : fm_219 Q1 s) (h2 : fw_219 Q2 s) : fm_219 Q3 s := by
  unfold fm_219 at h1 ⊢
  unfold fw_219 at h2
  exact cj_220 (fun r22 s21 k1 l1 => ⟨k1.1, ⟨(fun c3 => cj_220 (fun r25 s24 k4 l4 => ⟨k4.1, hQ _ _  k4.2 (l4 k4.1)⟩) (k1.2.1 c3) ((l1 k1.1).1 c3)), (fun c3 => hQ _ _  (k1.2.2 c3) ((l1 k1.1).2 c3))⟩⟩) h1 h2
def fw_235 (Q : Bool → lf_Z → Prop) (s : lf_Z) : Prop := fw_219 (fun r22 s21 => (lf_R r22 → ((r22 ≠ 41 → (Q false s21)) ∧ (¬ (r22 ≠ 41) → ((0 ≤ (s21.1 95 19) - 1 ∧ (s21.1 95 19) - 1 < 160) → (lf_R (s21.1 100 ((s21.1 95 19) - 1)) → ((s21.1 100 ((s21.1 95 19) - 1) = 41 → (Q true s21)) ∧ (¬ (s21.1 100 ((s21.1 95 19) - 1) = 41) → (fw_222 (s21.1 100 ((s21.1 95 19) - 1)) (fun r27 s26 => (fw_183 r27 1 3 (fun z29 s28 => ((z29 = false → (Q false s28)) ∧ (z29 = true → (Q true s28)))) s26)) s21))))))))) s
theorem cj_235 {Q1 Q2 Q3 : Bool → lf_Z → Prop} {s : lf_Z} (hQ : ∀ (r : Bool) (s : lf_Z), Q1 r s → Q2 r s → Q3 r s) (h1 : fm_235 Q1 s) (h2 : fw_235 Q2 s) : fm_235 Q3 s := by
  unfold fm_235 at h1 ⊢
  unfold fw_235 at h2
  exact cj_219 (fun r22 s21 k1 l1 => ⟨k1.1, ⟨(fun c3 => hQ _ _  (k1.2.1 c3) ((l1 k1.1).1 c3)), (fun c3 => ⟨(k1.2.2 c3).1, ⟨(k1.2.2 c3).2.1, ⟨(fun c7 => hQ _ _  ((k1.2.2 c3).2.2.1 c7) (((((l1 k1.1).2 c3) (k1.2.2 c3).1) (k1.2.2 c3).2.1).1 c7)), (fun c7 => cj_222 (fun r27 s26 k9 l9 => cj_183 (fun z29 s28 k10 l10 => ⟨(fun c11 => hQ _ _  (k10.1 c11) (l10.1 c11)), (fun c11 => hQ _ _  (k10.2 c11) (l10.2 c11))⟩) k9 l9) ((k1.2.2 c3).2.2.2 c7) (((((l1 k1.1).2 c3) (k1.2.2 c3).1) (k1.2.2 c3).2.1).2 c7))⟩⟩⟩)⟩⟩) h1 h2
def fw_234 (a1 : Int) (Q : Int → lf_Z → Prop) (s : lf_Z) : Prop := lf_R (s.1 95 20) → ((s.1 95 20 ≠ 8 → ((0 ≤ s.1 95 19 ∧ s.1 95 19 < 160) → (fw_197 (fun s23 => (lf_R a1 → ((a1 = 44 → (fw_232 (fun r26 s25 => (lf_R r26 → ((0 ≤ r26 → (fw_232 (fun r29 s28 => ((0 ≤ s25.1 95 21 ∧ s25.1 95 21 < 10) → (fw_197 (fun s31 => (fw_206 98 101 (fun r33 s32 => (fw_207 (lf_wl r33) (fun z35 s34 => ((z35 = true → (fw_197 (fun s36 => (Q 0 s36)) s34)) ∧ (z35 = false → (Q 1 s34)))) s32)) s31)) (lf_up (lf_up s28.1 101 (s25.1 95 21) r29) 95 21 ((s28.1 95 21) + 1), s28.2.1, s28.2.2)))) s25)) ∧ (¬ (0 ≤ r26) → (Q 1 s25))))) s23)) ∧ (¬ (a1 = 44) → (Q 0 s23))))) (lf_up (lf_up (lf_up s.1 95 20 ((s.1 95 20) + 1)) 100 (s.1 95 19) a1) 95 19 ((s.1 95 19) + 1), s.2.1, s.2.2)))) ∧ (¬ (s.1 95 20 ≠ 8) → (Q 3 s)))
theorem cj_234 {Q1 Q2 Q3 : Int → lf_Z → Prop} {a1 : Int} {s : lf_Z} (hQ : ∀ (r : Int) (s : lf_Z), Q1 r s → Q2 r s → Q3 r s) (h1 : fm_234 a1 Q1 s) (h2 : fw_234 a1 Q2 s) : fm_234 a1 Q3 s := by
  unfold fm_234 at h1 ⊢
  unfold fw_234 at h2
  exact ⟨h1.1, ⟨(fun c2 => ⟨(h1.2.1 c2).1, cj_197 (fun s23 k4 l4 => ⟨k4.1, ⟨(fun c6 => cj_232 (fun r26 s25 k7 l7 => ⟨k7.1, ⟨(fun c9 => cj_232 (fun r29 s28 k10 l10 => ⟨k10.1, cj_197 (fun s31 k12 l12 => cj_206 (fun r33 s32 k13 l13 => cj_207 (fun z35 s34 k14 l14 => ⟨(fun c15 => cj_197 (fun s36 k16 l16 => hQ _ _  k16 l16) (k14.1 c15) (l14.1 c15)), (fun c15 => hQ _ _  (k14.2 c15) (l14.2 c15))⟩) k13 l13) k12 l12) k10.2 (l10 k10.1)⟩) (k7.2.1 c9) ((l7 k7.1).1 c9)), (fun c9 => hQ _ _  (k7.2.2 c9) ((l7 k7.1).2 c9))⟩⟩) (k4.2.1 c6) ((l4 k4.1).1 c6)), (fun c6 => hQ _ _  (k4.2.2 c6) ((l4 k4.1).2 c6))⟩⟩) (h1.2.1 c2).2 (((h2 h1.1).1 c2) (h1.2.1 c2).1)⟩), (fun c2 => hQ _ _  (h1.2.2 c2) ((h2 h1.1).2 c2))⟩⟩
def fw_231 (a1 : Int) (Q : Bool → lf_Z → Prop) (s : lf_Z) : Prop := lf_R a1 → ((a1 < 4 → (Q true s)) ∧ (¬ (a1 < 4) → ((a1 ≠ 4 → ((a1 ≠ 10 → (lf_R (s.1 95 14) → ((s.1 95 14 ≠ 1 → (Q false s)) ∧ (¬ (s.1 95 14 ≠ 1) → (Q true s))))) ∧ (¬ (a1 ≠ 10) → (lf_R (s.1 95 14) → ((s.1 95 14 ≠ 2 → (Q false s)) ∧ (¬ (s.1 95 14 ≠ 2) → (Q true s))))))) ∧ (¬ (a1 ≠ 4) → (lf_R (s.1 95 14) → ((s.1 95 14 ≠ 0 → (Q false s)) ∧ (¬ (s.1 95 14 ≠ 0) → (Q true s))))))))
theorem cj_231 {Q1 Q2 Q3 : Bool → lf_Z → Prop} {a1 : Int} {s : lf_Z} (hQ : ∀ (r : Bool) (s : lf_Z), Q1 r s → Q2 r s → Q3 r s) (h1 : fm_231 a1 Q1 s) (h2 : fw_231 a1 Q2 s) : fm_231 a1 Q3 s := by
  unfold fm_231 at h1 ⊢
  unfold fw_231 at h2
  exact ⟨h1.1, ⟨(fun c2 => hQ _ _  (h1.2.1 c2) ((h2 h1.1).1 c2)), (fun c2 => ⟨(fun c4 => ⟨(fun c5 => ⟨(((h1.2.2 c2).1 c4).1 c5).1, ⟨(fun c7 => hQ _ _  ((((h1.2.2 c2).1 c4).1 c5).2.1 c7) ((((((h2 h1.1).2 c2).1 c4).1 c5) (((h1.2.2 c2).1 c4).1 c5).1).1 c7)), (fun c7 => hQ _ _  ((((h1.2.2 c2).1 c4).1 c5).2.2 c7) ((((((h2 h1.1).2 c2).1 c4).1 c5) (((h1.2.2 c2).1 c4).1 c5).1).2 c7))⟩⟩), (fun c5 => ⟨(((h1.2.2 c2).1 c4).2 c5).1, ⟨(fun c11 => hQ _ _  ((((h1.2.2 c2).1 c4).2 c5).2.1 c11) ((((((h2 h1.1).2 c2).1 c4).2 c5) (((h1.2.2 c2).1 c4).2 c5).1).1 c11)), (fun c11 => hQ _ _  ((((h1.2.2 c2).1 c4).2 c5).2.2 c11) ((((((h2 h1.1).2 c2).1 c4).2 c5) (((h1.2.2 c2).1 c4).2 c5).1).2 c11))⟩⟩)⟩), (fun c4 => ⟨((h1.2.2 c2).2 c4).1, ⟨(fun c15 => hQ _ _  (((h1.2.2 c2).2 c4).2.1 c15) (((((h2 h1.1).2 c2).2 c4) ((h1.2.2 c2).2 c4).1).1 c15)), (fun c15 => hQ _ _  (((h1.2.2 c2).2 c4).2.2 c15) (((((h2 h1.1).2 c2).2 c4) ((h1.2.2 c2).2 c4).1).2 c15))⟩⟩)⟩)⟩⟩
def fw_229_p79 (Q : Int → lf_Z → Prop) (x1 : Int) (s : lf_Z) : Prop := lf_R (s.1 95 9) → ((s.1 95 9 ≠ 1 → (lf_R x1 → ((x1 < 0 → (fw_232 (fun r32 s31 => ((0 ≤ r32 ∧ r32 < 26) → (fw_233 31 (s31.1 103 r32) (fun s34 => (Q 0 s34)) s31))) s)) ∧ (¬ (x1 < 0) → (fw_233 1 x1 (fun s35 => (Q 0 s35)) s))))) ∧ (¬ (s.1 95 9 ≠ 1) → (fw_233 0 (s.1 95 10) (fun s36 => (Q 0 s36)) s)))
theorem cj_229_p79 {Q1 Q2 Q3 : Int → lf_Z → Prop} {x1 : Int} {s : lf_Z} (hQ : ∀ (r : Int) (s : lf_Z), Q1 r s → Q2 r s → Q3 r s) (h1 : fm_229_p79 Q1 x1 s) (h2 : fw_229_p79 Q2 x1 s) : fm_229_p79 Q3 x1 s := by
  unfold fm_229_p79 at h1 ⊢
  unfold fw_229_p79 at h2
  exact ⟨h1.1, ⟨(fun c2 => ⟨(h1.2.1 c2).1, ⟨(fun c4 => cj_232 (fun r32 s31 k5 l5 => ⟨k5.1, cj_233 (fun s34 k7 l7 => hQ _ _  k7 l7) k5.2 (l5 k5.1)⟩) ((h1.2.1 c2).2.1 c4) ((((h2 h1.1).1 c2) (h1.2.1 c2).1).1 c4)), (fun c4 => cj_233 (fun s35 k9 l9 => hQ _ _  k9 l9) ((h1.2.1 c2).2.2 c4) ((((h2 h1.1).1 c2) (h1.2.1 c2).1).2 c4))⟩⟩), (fun c2 => cj_233 (fun s36 k11 l11 => hQ _ _  k11 l11) (h1.2.2 c2) ((h2 h1.1).2 c2))⟩⟩
def fw_229_p60 (Q : Int → lf_Z → Prop) (x1 : Int) (s : lf_Z) : Prop := lf_R (s.1 95 9) → ((s.1 95 9 = 1 → (fw_229_p79 Q x1 s)) ∧ (¬ (s.1 95 9 = 1) → (lf_R x1 → ((0 ≤ x1 → (fw_229_p79 Q x1 s)) ∧ (¬ (0 ≤ x1) → (fw_232 (fun r39 s38 => (lf_R r39 → ((r39 < 0 → (lf_R (s38.1 95 9) → ((s38.1 95 9 ≠ 40 → ((s38.1 95 9 ≠ 45 → (fw_206 105 102 (fun r43 s42 => (fw_207 (lf_wl r43) (fun z45 s44 => ((z45 = false → (fw_205 108 101 116 (fun r47 s46 => (fw_207 (lf_wl r47) (fun z49 s48 => ((z49 = false → (fw_205 110 111 116 (fun r51 s50 => (fw_207 (lf_wl r51) (fun z53 s52 => ((z53 = false → (Q 1 s52)) ∧ (z53 = true → (fw_235 (fun z55 s54 => ((z55 = false → (Q 1 s54)) ∧ (z55 = true → (fw_234 20 (fun r57 s56 => (Q r57 s56)) s54)))) s52)))) s50)) s48)) ∧ (z49 = true → (fw_234 44 (fun r59 s58 => (Q r59 s58)) s48)))) s46)) s44)) ∧ (z45 = true → (fw_234 41 (fun r61 s60 => (Q r61 s60)) s44)))) s42)) s38)) ∧ (¬ (s38.1 95 9 ≠ 45) → (fw_234 3 (fun r63 s62 => (Q r63 s62)) s38)))) ∧ (¬ (s38.1 95 9 ≠ 40) → (fw_234 40 (fun r65 s64 => (Q r65 s64)) s38))))) ∧ (¬ (r39 < 0) → (fw_229_p79 Q x1 s38))))) s))))))
theorem cj_229_p60 {Q1 Q2 Q3 : Int → lf_Z → Prop} {x1 : Int} {s : lf_Z} (hQ : ∀ (r : Int) (s : lf_Z), Q1 r s → Q2 r s → Q3 r s) (h1 : fm_229_p60 Q1 x1 s) (h2 : fw_229_p60 Q2 x1 s) : fm_229_p60 Q3 x1 s := by
  unfold fm_229_p60 at h1 ⊢
  unfold fw_229_p60 at h2
  exact ⟨h1.1, ⟨(fun c2 => cj_229_p79 hQ (h1.2.1 c2) ((h2 h1.1).1 c2)), (fun c2 => ⟨(h1.2.2 c2).1, ⟨(fun c5 => cj_229_p79 hQ ((h1.2.2 c2).2.1 c5) ((((h2 h1.1).2 c2) (h1.2.2 c2).1).1 c5)), (fun c5 => cj_232 (fun r39 s38 k7 l7 => ⟨k7.1, ⟨(fun c9 => ⟨(k7.2.1 c9).1, ⟨(fun c11 => ⟨(fun c12 => cj_206 (fun r43 s42 k13 l13 => cj_207 (fun z45 s44 k14 l14 => ⟨(fun c15 => cj_205 (fun r47 s46 k16 l16 => cj_207 (fun z49 s48 k17 l17 => ⟨(fun c18 => cj_205 (fun r51 s50 k19 l19 => cj_207 (fun z53 s52 k20 l20 => ⟨(fun c21 => hQ _ _  (k20.1 c21) (l20.1 c21)), (fun c21 => cj_235 (fun z55 s54 k23 l23 => ⟨(fun c24 => hQ _ _  (k23.1 c24) (l23.1 c24)), (fun c24 => cj_234 (fun r57 s56 k26 l26 => hQ _ _  k26 l26) (k23.2 c24) (l23.2 c24))⟩) (k20.2 c21) (l20.2 c21))⟩) k19 l19) (k17.1 c18) (l17.1 c18)), (fun c18 => cj_234 (fun r59 s58 k28 l28 => hQ _ _  k28 l28) (k17.2 c18) (l17.2 c18))⟩) k16 l16) (k14.1 c15) (l14.1 c15)), (fun c15 => cj_234 (fun r61 s60 k30 l30 => hQ _ _  k30 l30) (k14.2 c15) (l14.2 c15))⟩) k13 l13) (((k7.2.1 c9).2.1 c11).1 c12) (((((l7 k7.1).1 c9) (k7.2.1 c9).1).1 c11).1 c12)), (fun c12 => cj_234 (fun r63 s62 k32 l32 => hQ _ _  k32 l32) (((k7.2.1 c9).2.1 c11).2 c12) (((((l7 k7.1).1 c9) (k7.2.1 c9).1).1 c11).2 c12))⟩), (fun c11 => cj_234 (fun r65 s64 k34 l34 => hQ _ _  k34 l34) ((k7.2.1 c9).2.2 c11) ((((l7 k7.1).1 c9) (k7.2.1 c9).1).2 c11))⟩⟩), (fun c9 => cj_229_p79 hQ (k7.2.2 c9) ((l7 k7.1).2 c9))⟩⟩) ((h1.2.2 c2).2.2 c5) ((((h2 h1.1).2 c2) (h1.2.2 c2).1).2 c5))⟩⟩)⟩⟩
def fw_229_p39 (Q : Int → lf_Z → Prop) (x1 : Int) (s : lf_Z) : Prop := fw_232 (fun r26 s25 => (lf_R r26 → ((r26 < 0 → (fw_229_p60 Q x1 s25)) ∧ (¬ (r26 < 0) → (fw_232 (fun r67 s66 => ((0 ≤ r67 ∧ r67 < 26) → (lf_R (s66.1 103 r67) → ((0 ≤ s66.1 103 r67 → (fw_229_p60 Q x1 s66)) ∧ (¬ (0 ≤ s66.1 103 r67) → (Q 5 s66)))))) s25))))) s
theorem cj_229_p39 {Q1 Q2 Q3 : Int → lf_Z → Prop} {x1 : Int} {s : lf_Z} (hQ : ∀ (r : Int) (s : lf_Z), Q1 r s → Q2 r s → Q3 r s) (h1 : fm_229_p39 Q1 x1 s) (h2 : fw_229_p39 Q2 x1 s) : fm_229_p39 Q3 x1 s := by
  unfold fm_229_p39 at h1 ⊢
  unfold fw_229_p39 at h2
  exact cj_232 (fun r26 s25 k1 l1 => ⟨k1.1, ⟨(fun c3 => cj_229_p60 hQ (k1.2.1 c3) ((l1 k1.1).1 c3)), (fun c3 => cj_232 (fun r67 s66 k5 l5 => ⟨k5.1, ⟨k5.2.1, ⟨(fun c8 => cj_229_p60 hQ (k5.2.2.1 c8) (((l5 k5.1) k5.2.1).1 c8)), (fun c8 => hQ _ _  (k5.2.2.2 c8) (((l5 k5.1) k5.2.1).2 c8))⟩⟩⟩) (k1.2.2 c3) ((l1 k1.1).2 c3))⟩⟩) h1 h2
def fw_229_p20 (Q : Int → lf_Z → Prop) (s : lf_Z) : Prop := fw_230 (fun r23 s22 => (lf_R r23 → ((r23 < 0 → (fw_229_p39 Q r23 s22)) ∧ (¬ (r23 < 0) → (fw_231 r23 (fun z71 s70 => ((z71 = true → (fw_229_p39 Q r23 s70)) ∧ (z71 = false → (Q 5 s70)))) s22))))) s
theorem cj_229_p20 {Q1 Q2 Q3 : Int → lf_Z → Prop} {s : lf_Z} (hQ : ∀ (r : Int) (s : lf_Z), Q1 r s → Q2 r s → Q3 r s) (h1 : fm_229_p20 Q1 s) (h2 : fw_229_p20 Q2 s) : fm_229_p20 Q3 s := by
  unfold fm_229_p20 at h1 ⊢
  unfold fw_229_p20 at h2
  exact cj_230 (fun r23 s22 k1 l1 => ⟨k1.1, ⟨(fun c3 => cj_229_p39 hQ (k1.2.1 c3) ((l1 k1.1).1 c3)), (fun c3 => cj_231 (fun z71 s70 k5 l5 => ⟨(fun c6 => cj_229_p39 hQ (k5.1 c6) (l5.1 c6)), (fun c6 => hQ _ _  (k5.2 c6) (l5.2 c6))⟩) (k1.2.2 c3) ((l1 k1.1).2 c3))⟩⟩) h1 h2
def fw_229 (Q : Int → lf_Z → Prop) (s : lf_Z) : Prop := lf_R (s.1 95 9) → ((s.1 95 9 ≠ 1 → (fw_229_p20 Q s)) ∧ (¬ (s.1 95 9 ≠ 1) → (lf_R (s.1 95 10) → ((s.1 95 10 ≤ 9999 → (fw_229_p20 Q s)) ∧ (¬ (s.1 95 10 ≤ 9999) → (Q 2 s))))))
theorem cj_229 {Q1 Q2 Q3 : Int → lf_Z → Prop} {s : lf_Z} (hQ : ∀ (r : Int) (s : lf_Z), Q1 r s → Q2 r s → Q3 r s) (h1 : fm_229 Q1 s) (h2 : fw_229 Q2 s) : fm_229 Q3 s := by
  unfold fm_229 at h1 ⊢
  unfold fw_229 at h2
  exact ⟨h1.1, ⟨(fun c2 => cj_229_p20 hQ (h1.2.1 c2) ((h2 h1.1).1 c2)), (fun c2 => ⟨(h1.2.2 c2).1, ⟨(fun c5 => cj_229_p20 hQ ((h1.2.2 c2).2.1 c5) ((((h2 h1.1).2 c2) (h1.2.2 c2).1).1 c5)), (fun c5 => hQ _ _  ((h1.2.2 c2).2.2 c5) ((((h2 h1.1).2 c2) (h1.2.2 c2).1).2 c5))⟩⟩)⟩⟩
def fw_221_p30 (Q : Bool → lf_Z → Prop) (x1 : Int) (s : lf_Z) : Prop := lf_R x1 → ((x1 < 0 → (Q false s)) ∧ (¬ (x1 < 0) → ((0 ≤ x1 ∧ x1 < 160) → (fw_222 (s.1 100 x1) (fun r25 s24 => (lf_R r25 → ((r25 ≠ 4 → (Q false s24)) ∧ (¬ (r25 ≠ 4) → (Q true s24))))) s))))
theorem cj_221_p30 {Q1 Q2 Q3 : Bool → lf_Z → Prop} {x1 : Int} {s : lf_Z} (hQ : ∀ (r : Bool) (s : lf_Z), Q1 r s → Q2 r s → Q3 r s) (h1 : fm_221_p30 Q1 x1 s) (h2 : fw_221_p30 Q2 x1 s) : fm_221_p30 Q3 x1 s := by
  unfold fm_221_p30 at h1 ⊢
  unfold fw_221_p30 at h2
  exact ⟨h1.1, ⟨(fun c2 => hQ _ _  (h1.2.1 c2) ((h2 h1.1).1 c2)), (fun c2 => ⟨(h1.2.2 c2).1, cj_222 (fun r25 s24 k5 l5 => ⟨k5.1, ⟨(fun c7 => hQ _ _  (k5.2.1 c7) ((l5 k5.1).1 c7)), (fun c7 => hQ _ _  (k5.2.2 c7) ((l5 k5.1).2 c7))⟩⟩) (h1.2.2 c2).2 (((h2 h1.1).2 c2) (h1.2.2 c2).1)⟩)⟩⟩
def fw_221_p7 (Q : Bool → lf_Z → Prop) (X7 : Int → lf_Z → Prop) (x1 : Int) (s : lf_Z) : Prop := lf_R x1 → ((x1 < 0 → (fw_221_p30 Q x1 s)) ∧ (¬ (x1 < 0) → ((0 ≤ x1 ∧ x1 < 160) → (fw_222 (s.1 100 x1) (fun r29 s28 => (lf_R r29 → ((r29 ≤ 4 → (fw_221_p30 Q x1 s28)) ∧ (¬ (r29 ≤ 4) → (X7 (x1 + (-1)) s28))))) s))))
theorem cj_221_p7 {X71 X72 X73 : Int → lf_Z → Prop} {Q1 Q2 Q3 : Bool → lf_Z → Prop} {x1 : Int} {s : lf_Z} (hX7 : ∀ (v0 : Int) (v1 : lf_Z), X71 v0 v1 → X72 v0 v1 → X73 v0 v1) (hQ : ∀ (r : Bool) (s : lf_Z), Q1 r s → Q2 r s → Q3 r s) (h1 : fm_221_p7 Q1 X71 x1 s) (h2 : fw_221_p7 Q2 X72 x1 s) : fm_221_p7 Q3 X73 x1 s := by
  unfold fm_221_p7 at h1 ⊢
  unfold fw_221_p7 at h2
  exact ⟨h1.1, ⟨(fun c2 => cj_221_p30 hQ (h1.2.1 c2) ((h2 h1.1).1 c2)), (fun c2 => ⟨(h1.2.2 c2).1, cj_222 (fun r29 s28 k5 l5 => ⟨k5.1, ⟨(fun c7 => cj_221_p30 hQ (k5.2.1 c7) ((l5 k5.1).1 c7)), (fun c7 => hX7 _ _  (k5.2.2 c7) ((l5 k5.1).2 c7))⟩⟩) (h1.2.2 c2).2 (((h2 h1.1).2 c2) (h1.2.2 c2).1)⟩)⟩⟩
def fw_221_p7L (Q : Bool → lf_Z → Prop) (x1 : Int) (s : lf_Z) : Prop := ∃ X7 : Int → lf_Z → Prop, (∀ (x1 : Int) (s : lf_Z), X7 x1 s → fw_221_p7 Q X7 x1 s) ∧ X7 x1 s
theorem cj_221_p7L {Q1 Q2 Q3 : Bool → lf_Z → Prop} {x1 : Int} {s : lf_Z} (hQ : ∀ (r : Bool) (s : lf_Z), Q1 r s → Q2 r s → Q3 r s) (h1 : fm_221_p7L Q1 x1 s) (h2 : fw_221_p7L Q2 x1 s) : fm_221_p7L Q3 x1 s := by
  intro X0 hX0
  obtain ⟨Y, hY, hY0⟩ := h2
  exact h1 (fun v0 s => Y v0 s → X0 v0 s) (fun v0 s hb hy => hX0 v0 s (cj_221_p7 (X71 := fun v0 s => Y v0 s → X0 v0 s) (X72 := Y) (X73 := X0) (hX7 := fun v0 s a b => a b) hQ hb (hY v0 s hy))) hY0
def fw_221 (Q : Bool → lf_Z → Prop) (s : lf_Z) : Prop := fw_221_p7L Q ((s.1 95 19) - 1) s
theorem cj_221 {Q1 Q2 Q3 : Bool → lf_Z → Prop} {s : lf_Z} (hQ : ∀ (r : Bool) (s : lf_Z), Q1 r s → Q2 r s → Q3 r s) (h1 : fm_221 Q1 s) (h2 : fw_221 Q2 s) : fm_221 Q3 s := by
  unfold fm_221 at h1 ⊢
  unfold fw_221 at h2
  exact cj_221_p7L hQ h1 h2
def fw_223 (Q : Int → lf_Z → Prop) (s : lf_Z) : Prop := lf_R (s.1 95 9) → ((s.1 95 9 ≠ 60 → ((s.1 95 9 ≠ 4 → ((s.1 95 9 ≠ 62 → ((s.1 95 9 ≠ 5 → ((s.1 95 9 ≠ 61 → ((s.1 95 9 ≠ 35 → (Q (-1) s)) ∧ (¬ (s.1 95 9 ≠ 35) → (Q 15 s)))) ∧ (¬ (s.1 95 9 ≠ 61) → (Q 14 s)))) ∧ (¬ (s.1 95 9 ≠ 5) → (Q 13 s)))) ∧ (¬ (s.1 95 9 ≠ 62) → (Q 12 s)))) ∧ (¬ (s.1 95 9 ≠ 4) → (Q 11 s)))) ∧ (¬ (s.1 95 9 ≠ 60) → (Q 10 s)))
theorem cj_223 {Q1 Q2 Q3 : Int → lf_Z → Prop} {s : lf_Z} (hQ : ∀ (r : Int) (s : lf_Z), Q1 r s → Q2 r s → Q3 r s) (h1 : fm_223 Q1 s) (h2 : fw_223 Q2 s) : fm_223 Q3 s := by
  unfold fm_223 at h1 ⊢
  unfold fw_223 at h2
  exact ⟨h1.1, ⟨(fun c2 => ⟨(fun c3 => ⟨(fun c4 => ⟨(fun c5 => ⟨(fun c6 => ⟨(fun c7 => hQ _ _  ((((((h1.2.1 c2).1 c3).1 c4).1 c5).1 c6).1 c7) (((((((h2 h1.1).1 c2).1 c3).1 c4).1 c5).1 c6).1 c7)), (fun c7 => hQ _ _  ((((((h1.2.1 c2).1 c3).1 c4).1 c5).1 c6).2 c7) (((((((h2 h1.1).1 c2).1 c3).1 c4).1 c5).1 c6).2 c7))⟩), (fun c6 => hQ _ _  (((((h1.2.1 c2).1 c3).1 c4).1 c5).2 c6) ((((((h2 h1.1).1 c2).1 c3).1 c4).1 c5).2 c6))⟩), (fun c5 => hQ _ _  ((((h1.2.1 c2).1 c3).1 c4).2 c5) (((((h2 h1.1).1 c2).1 c3).1 c4).2 c5))⟩), (fun c4 => hQ _ _  (((h1.2.1 c2).1 c3).2 c4) ((((h2 h1.1).1 c2).1 c3).2 c4))⟩), (fun c3 => hQ _ _  ((h1.2.1 c2).2 c3) (((h2 h1.1).1 c2).2 c3))⟩), (fun c2 => hQ _ _  (h1.2.2 c2) ((h2 h1.1).2 c2))⟩⟩
def fw_218 (Q : Int → lf_Z → Prop) (s : lf_Z) : Prop := lf_R (s.1 95 9) → ((s.1 95 9 ≠ 43 → ((s.1 95 9 ≠ 45 → ((s.1 95 9 ≠ 42 → ((s.1 95 9 ≠ 47 → (fw_219 (fun r23 s22 => (lf_R r23 → ((r23 = 41 → (fw_221 (fun z26 s25 => ((z26 = true → (fw_205 97 110 100 (fun r28 s27 => (fw_207 (lf_wl r28) (fun z30 s29 => ((z30 = false → (fw_206 111 114 (fun r32 s31 => (fw_207 (lf_wl r32) (fun z34 s33 => ((z34 = false → (Q (-1) s33)) ∧ (z34 = true → (Q 22 s33)))) s31)) s29)) ∧ (z30 = true → (Q 21 s29)))) s27)) s25)) ∧ (z26 = false → (fw_223 (fun r36 s35 => (Q r36 s35)) s25)))) s22)) ∧ (¬ (r23 = 41) → (Q (-1) s22))))) s)) ∧ (¬ (s.1 95 9 ≠ 47) → (Q 7 s)))) ∧ (¬ (s.1 95 9 ≠ 42) → (Q 6 s)))) ∧ (¬ (s.1 95 9 ≠ 45) → (Q 5 s)))) ∧ (¬ (s.1 95 9 ≠ 43) → (Q 4 s)))
theorem cj_218 {Q1 Q2 Q3 : Int → lf_Z → Prop} {s : lf_Z} (hQ : ∀ (r : Int) (s : lf_Z), Q1 r s → Q2 r s → Q3 r s) (h1 : fm_218 Q1 s) (h2 : fw_218 Q2 s) : fm_218 Q3 s := by
  unfold fm_218 at h1 ⊢
  unfold fw_218 at h2
  exact ⟨h1.1, ⟨(fun c2 => ⟨(fun c3 => ⟨(fun c4 => ⟨(fun c5 => cj_219 (fun r23 s22 k6 l6 => ⟨k6.1, ⟨(fun c8 => cj_221 (fun z26 s25 k9 l9 => ⟨(fun c10 => cj_205 (fun r28 s27 k11 l11 => cj_207 (fun z30 s29 k12 l12 => ⟨(fun c13 => cj_206 (fun r32 s31 k14 l14 => cj_207 (fun z34 s33 k15 l15 => ⟨(fun c16 => hQ _ _  (k15.1 c16) (l15.1 c16)), (fun c16 => hQ _ _  (k15.2 c16) (l15.2 c16))⟩) k14 l14) (k12.1 c13) (l12.1 c13)), (fun c13 => hQ _ _  (k12.2 c13) (l12.2 c13))⟩) k11 l11) (k9.1 c10) (l9.1 c10)), (fun c10 => cj_223 (fun r36 s35 k20 l20 => hQ _ _  k20 l20) (k9.2 c10) (l9.2 c10))⟩) (k6.2.1 c8) ((l6 k6.1).1 c8)), (fun c8 => hQ _ _  (k6.2.2 c8) ((l6 k6.1).2 c8))⟩⟩) ((((h1.2.1 c2).1 c3).1 c4).1 c5) (((((h2 h1.1).1 c2).1 c3).1 c4).1 c5)), (fun c5 => hQ _ _  ((((h1.2.1 c2).1 c3).1 c4).2 c5) (((((h2 h1.1).1 c2).1 c3).1 c4).2 c5))⟩), (fun c4 => hQ _ _  (((h1.2.1 c2).1 c3).2 c4) ((((h2 h1.1).1 c2).1 c3).2 c4))⟩), (fun c3 => hQ _ _  ((h1.2.1 c2).2 c3) (((h2 h1.1).1 c2).2 c3))⟩), (fun c2 => hQ _ _  (h1.2.2 c2) ((h2 h1.1).2 c2))⟩⟩
def fw_226 (a1 : Int) (Q : Int → lf_Z → Prop) (s : lf_Z) : Prop := lf_R a1 → ((a1 ≠ (-1) ∧ a1 ≠ 40 ∧ a1 ≠ 41 ∧ a1 ≠ 42 ∧ a1 ≠ 44 → (fw_205 101 110 100 (fun r23 s22 => (fw_207 (lf_wl r23) (fun z25 s24 => ((z25 = false → (Q (-1) s24)) ∧ (z25 = true → (Q 0 s24)))) s22)) s)) ∧ (a1 = (-1) → (Q (-1) s)) ∧ (a1 = 40 → (lf_R (s.1 95 9) → ((s.1 95 9 ≠ 41 → (Q (-1) s)) ∧ (¬ (s.1 95 9 ≠ 41) → (Q 0 s))))) ∧ (a1 = 41 → (fw_204 116 104 101 110 (fun r28 s27 => (fw_207 (lf_wl r28) (fun z30 s29 => ((z30 = false → (Q (-1) s29)) ∧ (z30 = true → (fw_221 (fun z32 s31 => ((z32 = false → (Q (-1) s31)) ∧ (z32 = true → (Q 42 s31)))) s29)))) s27)) s)) ∧ (a1 = 42 → (fw_204 101 108 115 101 (fun r34 s33 => (fw_207 (lf_wl r34) (fun z36 s35 => ((z36 = false → (Q (-1) s35)) ∧ (z36 = true → (Q 43 s35)))) s33)) s)) ∧ (a1 = 44 → (fw_206 105 110 (fun r38 s37 => (fw_207 (lf_wl r38) (fun z40 s39 => ((z40 = false → (Q (-1) s39)) ∧ (z40 = true → (Q 45 s39)))) s37)) s)))
theorem cj_226 {Q1 Q2 Q3 : Int → lf_Z → Prop} {a1 : Int} {s : lf_Z} (hQ : ∀ (r : Int) (s : lf_Z), Q1 r s → Q2 r s → Q3 r s) (h1 : fm_226 a1 Q1 s) (h2 : fw_226 a1 Q2 s) : fm_226 a1 Q3 s := by
  unfold fm_226 at h1 ⊢
  unfold fw_226 at h2
  exact ⟨h1.1, ⟨(fun c2 => cj_205 (fun r23 s22 k3 l3 => cj_207 (fun z25 s24 k4 l4 => ⟨(fun c5 => hQ _ _  (k4.1 c5) (l4.1 c5)), (fun c5 => hQ _ _  (k4.2 c5) (l4.2 c5))⟩) k3 l3) (h1.2.1 c2) ((h2 h1.1).1 c2)), (fun c2 => hQ _ _  (h1.2.2.1 c2) ((h2 h1.1).2.1 c2)), (fun c2 => ⟨(h1.2.2.2.1 c2).1, ⟨(fun c10 => hQ _ _  ((h1.2.2.2.1 c2).2.1 c10) ((((h2 h1.1).2.2.1 c2) (h1.2.2.2.1 c2).1).1 c10)), (fun c10 => hQ _ _  ((h1.2.2.2.1 c2).2.2 c10) ((((h2 h1.1).2.2.1 c2) (h1.2.2.2.1 c2).1).2 c10))⟩⟩), (fun c2 => cj_204 (fun r28 s27 k13 l13 => cj_207 (fun z30 s29 k14 l14 => ⟨(fun c15 => hQ _ _  (k14.1 c15) (l14.1 c15)), (fun c15 => cj_221 (fun z32 s31 k17 l17 => ⟨(fun c18 => hQ _ _  (k17.1 c18) (l17.1 c18)), (fun c18 => hQ _ _  (k17.2 c18) (l17.2 c18))⟩) (k14.2 c15) (l14.2 c15))⟩) k13 l13) (h1.2.2.2.2.1 c2) ((h2 h1.1).2.2.2.1 c2)), (fun c2 => cj_204 (fun r34 s33 k21 l21 => cj_207 (fun z36 s35 k22 l22 => ⟨(fun c23 => hQ _ _  (k22.1 c23) (l22.1 c23)), (fun c23 => hQ _ _  (k22.2 c23) (l22.2 c23))⟩) k21 l21) (h1.2.2.2.2.2.1 c2) ((h2 h1.1).2.2.2.2.1 c2)), (fun c2 => cj_206 (fun r38 s37 k26 l26 => cj_207 (fun z40 s39 k27 l27 => ⟨(fun c28 => hQ _ _  (k27.1 c28) (l27.1 c28)), (fun c28 => hQ _ _  (k27.2 c28) (l27.2 c28))⟩) k26 l26) (h1.2.2.2.2.2.2 c2) ((h2 h1.1).2.2.2.2.2 c2))⟩⟩
def fw_228_p32 (Q : lf_Z → Prop) (x1 : Int) (s : lf_Z) : Prop := lf_R x1 → ((x1 ≠ 45 → (Q s)) ∧ (¬ (x1 ≠ 45) → ((0 ≤ (s.1 95 21) - 1 ∧ (s.1 95 21) - 1 < 10) → ((0 ≤ s.1 101 ((s.1 95 21) - 1) ∧ s.1 101 ((s.1 95 21) - 1) < 26) → (Q (lf_up (lf_up s.1 95 21 ((s.1 95 21) - 1)) 103 (s.1 101 ((s.1 95 21) - 1)) (s.1 102 ((s.1 95 21) - 1)), s.2.1, s.2.2))))))
theorem cj_228_p32 {Q1 Q2 Q3 : lf_Z → Prop} {x1 : Int} {s : lf_Z} (hQ : ∀ (s : lf_Z), Q1 s → Q2 s → Q3 s) (h1 : fm_228_p32 Q1 x1 s) (h2 : fw_228_p32 Q2 x1 s) : fm_228_p32 Q3 x1 s := by
  unfold fm_228_p32 at h1 ⊢
  unfold fw_228_p32 at h2
  exact ⟨h1.1, ⟨(fun c2 => hQ _  (h1.2.1 c2) ((h2 h1.1).1 c2)), (fun c2 => ⟨(h1.2.2 c2).1, ⟨(h1.2.2 c2).2.1, hQ _  (h1.2.2 c2).2.2 ((((h2 h1.1).2 c2) (h1.2.2 c2).1) (h1.2.2 c2).2.1)⟩⟩)⟩⟩
def fw_228 (a1 : Int) (Q : lf_Z → Prop) (s : lf_Z) : Prop := lf_R a1 → ((a1 ≠ 43 → (fw_228_p32 Q a1 (lf_up (lf_up s.1 95 19 ((s.1 95 19) - 1)) 95 20 ((s.1 95 20) - 1), s.2.1, s.2.2))) ∧ (¬ (a1 ≠ 43) → (fw_225 2 0 (fun s25 => (fw_228_p32 Q a1 s25)) (lf_up (lf_up s.1 95 19 ((s.1 95 19) - 1)) 95 20 ((s.1 95 20) - 1), s.2.1, s.2.2))))
theorem cj_228 {Q1 Q2 Q3 : lf_Z → Prop} {a1 : Int} {s : lf_Z} (hQ : ∀ (s : lf_Z), Q1 s → Q2 s → Q3 s) (h1 : fm_228 a1 Q1 s) (h2 : fw_228 a1 Q2 s) : fm_228 a1 Q3 s := by
  unfold fm_228 at h1 ⊢
  unfold fw_228 at h2
  exact ⟨h1.1, ⟨(fun c2 => cj_228_p32 hQ (h1.2.1 c2) ((h2 h1.1).1 c2)), (fun c2 => cj_225 (fun s25 k4 l4 => cj_228_p32 hQ k4 l4) (h1.2.2 c2) ((h2 h1.1).2 c2))⟩⟩
def fw_227 (Q : lf_Z → Prop) (s : lf_Z) : Prop := (0 ≤ (s.1 95 21) - 1 ∧ (s.1 95 21) - 1 < 10) → ((0 ≤ s.1 101 ((s.1 95 21) - 1) ∧ s.1 101 ((s.1 95 21) - 1) < 26) → (fw_225 30 (s.1 95 22) (fun s23 => (Q (lf_up s23.1 95 22 ((s23.1 95 22) + 1), s23.2.1, s23.2.2))) (lf_up (lf_up s.1 102 ((s.1 95 21) - 1) (s.1 103 (s.1 101 ((s.1 95 21) - 1)))) 103 (s.1 101 ((s.1 95 21) - 1)) (s.1 95 22), s.2.1, s.2.2)))
theorem cj_227 {Q1 Q2 Q3 : lf_Z → Prop} {s : lf_Z} (hQ : ∀ (s : lf_Z), Q1 s → Q2 s → Q3 s) (h1 : fm_227 Q1 s) (h2 : fw_227 Q2 s) : fm_227 Q3 s := by
  unfold fm_227 at h1 ⊢
  unfold fw_227 at h2
  exact ⟨h1.1, ⟨h1.2.1, cj_225 (fun s23 k3 l3 => hQ _  k3 l3) h1.2.2 ((h2 h1.1) h1.2.1)⟩⟩
def fw_217_p99 (Q : Bool → lf_Z → Prop) (s : lf_Z) : Prop := fw_197 (fun s36 => (Q true s36)) s
theorem cj_217_p99 {Q1 Q2 Q3 : Bool → lf_Z → Prop} {s : lf_Z} (hQ : ∀ (r : Bool) (s : lf_Z), Q1 r s → Q2 r s → Q3 r s) (h1 : fm_217_p99 Q1 s) (h2 : fw_217_p99 Q2 s) : fm_217_p99 Q3 s := by
  unfold fm_217_p99 at h1 ⊢
  unfold fw_217_p99 at h2
  exact cj_197 (fun s36 k1 l1 => hQ _ _  k1 l1) h1 h2
def fw_217 (Q : Bool → lf_Z → Prop) (s : lf_Z) : Prop := fw_218 (fun r22 s21 => (lf_R r22 → ((r22 < 0 → (fw_219 (fun r25 s24 => (fw_226 r25 (fun r27 s26 => (lf_R r27 → ((0 ≤ r27 → (fw_224 1 (fun s29 => ((r27 ≤ 0 → (fw_228 r25 (fun s30 => (fw_197 (fun s31 => (fw_224 7 (fun s32 => (Q true s32)) s31)) s30)) s29)) ∧ (¬ (r27 ≤ 0) → (fw_220 (fun r34 s33 => ((0 ≤ r34 ∧ r34 < 160) → ((r27 ≠ 45 → (fw_217_p99 Q (lf_up (lf_up s33.1 100 r34 r27) 95 23 0, s33.2.1, s33.2.2))) ∧ (¬ (r27 ≠ 45) → (fw_227 (fun s37 => (fw_217_p99 Q s37)) (lf_up (lf_up s33.1 100 r34 r27) 95 23 0, s33.2.1, s33.2.2)))))) s29)))) s26)) ∧ (¬ (0 ≤ r27) → (Q false s26))))) s24)) s21)) ∧ (¬ (r22 < 0) → (fw_222 r22 (fun r39 s38 => (fw_224 r39 (fun s40 => ((0 ≤ s40.1 95 19 ∧ s40.1 95 19 < 160) → (fw_197 (fun s42 => (Q true s42)) (lf_up (lf_up (lf_up s40.1 100 (s40.1 95 19) r22) 95 19 ((s40.1 95 19) + 1)) 95 23 0, s40.2.1, s40.2.2)))) s38)) s21))))) s
theorem cj_217 {Q1 Q2 Q3 : Bool → lf_Z → Prop} {s : lf_Z} (hQ : ∀ (r : Bool) (s : lf_Z), Q1 r s → Q2 r s → Q3 r s) (h1 : fm_217 Q1 s) (h2 : fw_217 Q2 s) : fm_217 Q3 s := by
  unfold fm_217 at h1 ⊢
  unfold fw_217 at h2
  exact cj_218 (fun r22 s21 k1 l1 => ⟨k1.1, ⟨(fun c3 => cj_219 (fun r25 s24 k4 l4 => cj_226 (fun r27 s26 k5 l5 => ⟨k5.1, ⟨(fun c7 => cj_224 (fun s29 k8 l8 => ⟨(fun c9 => cj_228 (fun s30 k10 l10 => cj_197 (fun s31 k11 l11 => cj_224 (fun s32 k12 l12 => hQ _ _  k12 l12) k11 l11) k10 l10) (k8.1 c9) (l8.1 c9)), (fun c9 => cj_220 (fun r34 s33 k14 l14 => ⟨k14.1, ⟨(fun c16 => cj_217_p99 hQ (k14.2.1 c16) ((l14 k14.1).1 c16)), (fun c16 => cj_227 (fun s37 k18 l18 => cj_217_p99 hQ k18 l18) (k14.2.2 c16) ((l14 k14.1).2 c16))⟩⟩) (k8.2 c9) (l8.2 c9))⟩) (k5.2.1 c7) ((l5 k5.1).1 c7)), (fun c7 => hQ _ _  (k5.2.2 c7) ((l5 k5.1).2 c7))⟩⟩) k4 l4) (k1.2.1 c3) ((l1 k1.1).1 c3)), (fun c3 => cj_222 (fun r39 s38 k21 l21 => cj_224 (fun s40 k22 l22 => ⟨k22.1, cj_197 (fun s42 k24 l24 => hQ _ _  k24 l24) k22.2 (l22 k22.1)⟩) k21 l21) (k1.2.2 c3) ((l1 k1.1).2 c3))⟩⟩) h1 h2
def fw_216_p46 (Q : Int → lf_Z → Prop) (X46 : lf_Z → Prop) (s : lf_Z) : Prop := lf_R (s.1 95 23) → ((s.1 95 23 = 0 → (fw_229 (fun r24 s23 => (lf_R r24 → ((r24 = 0 → (X46 s23)) ∧ (¬ (r24 = 0) → (Q r24 s23))))) s)) ∧ (¬ (s.1 95 23 = 0) → (fw_217 (fun z27 s26 => ((z27 = false → (fw_219 (fun r29 s28 => (lf_R r29 → ((r29 < 0 → (fw_224 1 (fun s31 => (Q 0 s31)) s28)) ∧ (¬ (r29 < 0) → (Q 1 s28))))) s26)) ∧ (z27 = true → (X46 s26)))) s)))
theorem cj_216_p46 {X461 X462 X463 : lf_Z → Prop} {Q1 Q2 Q3 : Int → lf_Z → Prop} {s : lf_Z} (hX46 : ∀ (v0 : lf_Z), X461 v0 → X462 v0 → X463 v0) (hQ : ∀ (r : Int) (s : lf_Z), Q1 r s → Q2 r s → Q3 r s) (h1 : fm_216_p46 Q1 X461 s) (h2 : fw_216_p46 Q2 X462 s) : fm_216_p46 Q3 X463 s := by
  unfold fm_216_p46 at h1 ⊢
  unfold fw_216_p46 at h2
  exact ⟨h1.1, ⟨(fun c2 => cj_229 (fun r24 s23 k3 l3 => ⟨k3.1, ⟨(fun c5 => hX46 _  (k3.2.1 c5) ((l3 k3.1).1 c5)), (fun c5 => hQ _ _  (k3.2.2 c5) ((l3 k3.1).2 c5))⟩⟩) (h1.2.1 c2) ((h2 h1.1).1 c2)), (fun c2 => cj_217 (fun z27 s26 k8 l8 => ⟨(fun c9 => cj_219 (fun r29 s28 k10 l10 => ⟨k10.1, ⟨(fun c12 => cj_224 (fun s31 k13 l13 => hQ _ _  k13 l13) (k10.2.1 c12) ((l10 k10.1).1 c12)), (fun c12 => hQ _ _  (k10.2.2 c12) ((l10 k10.1).2 c12))⟩⟩) (k8.1 c9) (l8.1 c9)), (fun c9 => hX46 _  (k8.2 c9) (l8.2 c9))⟩) (h1.2.2 c2) ((h2 h1.1).2 c2))⟩⟩
def fw_216_p46L (Q : Int → lf_Z → Prop) (s : lf_Z) : Prop := ∃ X46 : lf_Z → Prop, (∀ (s : lf_Z), X46 s → fw_216_p46 Q X46 s) ∧ X46 s
theorem cj_216_p46L {Q1 Q2 Q3 : Int → lf_Z → Prop} {s : lf_Z} (hQ : ∀ (r : Int) (s : lf_Z), Q1 r s → Q2 r s → Q3 r s) (h1 : fm_216_p46L Q1 s) (h2 : fw_216_p46L Q2 s) : fm_216_p46L Q3 s := by
  intro X0 hX0
  obtain ⟨Y, hY, hY0⟩ := h2
  exact h1 (fun  s => Y  s → X0  s) (fun  s hb hy => hX0  s (cj_216_p46 (X461 := fun  s => Y  s → X0  s) (X462 := Y) (X463 := X0) (hX46 := fun  s a b => a b) hQ hb (hY  s hy))) hY0
def fw_216_p22 (Q : Int → lf_Z → Prop) (X22 : Int → lf_Z → Prop) (x1 : Int) (s : lf_Z) : Prop := lf_R x1 → ((26 ≤ x1 → (fw_216_p46L Q (lf_up s.1 95 23 0, s.2.1, s.2.2))) ∧ (¬ (26 ≤ x1) → ((0 ≤ x1 ∧ x1 < 26) → (X22 (x1 + 1) (lf_up s.1 103 x1 (-1), s.2.1, s.2.2)))))
theorem cj_216_p22 {X221 X222 X223 : Int → lf_Z → Prop} {Q1 Q2 Q3 : Int → lf_Z → Prop} {x1 : Int} {s : lf_Z} (hX22 : ∀ (v0 : Int) (v1 : lf_Z), X221 v0 v1 → X222 v0 v1 → X223 v0 v1) (hQ : ∀ (r : Int) (s : lf_Z), Q1 r s → Q2 r s → Q3 r s) (h1 : fm_216_p22 Q1 X221 x1 s) (h2 : fw_216_p22 Q2 X222 x1 s) : fm_216_p22 Q3 X223 x1 s := by
  unfold fm_216_p22 at h1 ⊢
  unfold fw_216_p22 at h2
  exact ⟨h1.1, ⟨(fun c2 => cj_216_p46L hQ (h1.2.1 c2) ((h2 h1.1).1 c2)), (fun c2 => ⟨(h1.2.2 c2).1, hX22 _ _  (h1.2.2 c2).2 (((h2 h1.1).2 c2) (h1.2.2 c2).1)⟩)⟩⟩
def fw_216_p22L (Q : Int → lf_Z → Prop) (x1 : Int) (s : lf_Z) : Prop := ∃ X22 : Int → lf_Z → Prop, (∀ (x1 : Int) (s : lf_Z), X22 x1 s → fw_216_p22 Q X22 x1 s) ∧ X22 x1 s
theorem cj_216_p22L {Q1 Q2 Q3 : Int → lf_Z → Prop} {x1 : Int} {s : lf_Z} (hQ : ∀ (r : Int) (s : lf_Z), Q1 r s → Q2 r s → Q3 r s) (h1 : fm_216_p22L Q1 x1 s) (h2 : fw_216_p22L Q2 x1 s) : fm_216_p22L Q3 x1 s := by
  intro X0 hX0
  obtain ⟨Y, hY, hY0⟩ := h2
  exact h1 (fun v0 s => Y v0 s → X0 v0 s) (fun v0 s hb hy => hX0 v0 s (cj_216_p22 (X221 := fun v0 s => Y v0 s → X0 v0 s) (X222 := Y) (X223 := X0) (hX22 := fun v0 s a b => a b) hQ hb (hY v0 s hy))) hY0
def fw_216 (Q : Int → lf_Z → Prop) (s : lf_Z) : Prop := fw_216_p22L Q 0 (lf_up (lf_up (lf_up (lf_up s.1 95 19 0) 95 20 0) 95 21 0) 95 22 0, s.2.1, s.2.2)
theorem cj_216 {Q1 Q2 Q3 : Int → lf_Z → Prop} {s : lf_Z} (hQ : ∀ (r : Int) (s : lf_Z), Q1 r s → Q2 r s → Q3 r s) (h1 : fm_216 Q1 s) (h2 : fw_216 Q2 s) : fm_216 Q3 s := by
  unfold fm_216 at h1 ⊢
  unfold fw_216 at h2
  exact cj_216_p22L hQ h1 h2
def fw_215 (a1 : Int) (Q : Int → lf_Z → Prop) (s : lf_Z) : Prop := (0 ≤ a1 + 1 ∧ a1 + 1 < 2820) → (fw_216 (fun r23 s22 => ((0 ≤ a1 + 2 ∧ a1 + 2 < 2820) → (Q r23 (lf_up s22.1 98 (a1 + 2) (s22.1 95 13), s22.2.1, s22.2.2)))) (lf_up s.1 98 (a1 + 1) (s.1 95 13), s.2.1, s.2.2))
theorem cj_215 {Q1 Q2 Q3 : Int → lf_Z → Prop} {a1 : Int} {s : lf_Z} (hQ : ∀ (r : Int) (s : lf_Z), Q1 r s → Q2 r s → Q3 r s) (h1 : fm_215 a1 Q1 s) (h2 : fw_215 a1 Q2 s) : fm_215 a1 Q3 s := by
  unfold fm_215 at h1 ⊢
  unfold fw_215 at h2
  exact ⟨h1.1, cj_216 (fun r23 s22 k2 l2 => ⟨k2.1, hQ _ _  k2.2 (l2 k2.1)⟩) h1.2 (h2 h1.1)⟩
def fw_213 (a1 : Int) (a2 : Int) (a3 : Int) (Q : Int → lf_Z → Prop) (s : lf_Z) : Prop := lf_R (s.1 95 9) → ((s.1 95 9 = 1 → (fw_183 (s.1 95 10) a2 a3 (fun z23 s22 => ((z23 = true → ((0 ≤ a1 ∧ a1 < 2820) → (fw_197 (fun s25 => (Q 0 s25)) (lf_up s22.1 98 a1 (s22.1 95 10), s22.2.1, s22.2.2)))) ∧ (z23 = false → (Q 2 s22)))) s)) ∧ (¬ (s.1 95 9 = 1) → (Q 1 s)))
theorem cj_213 {Q1 Q2 Q3 : Int → lf_Z → Prop} {a1 : Int} {a2 : Int} {a3 : Int} {s : lf_Z} (hQ : ∀ (r : Int) (s : lf_Z), Q1 r s → Q2 r s → Q3 r s) (h1 : fm_213 a1 a2 a3 Q1 s) (h2 : fw_213 a1 a2 a3 Q2 s) : fm_213 a1 a2 a3 Q3 s := by
  unfold fm_213 at h1 ⊢
  unfold fw_213 at h2
  exact ⟨h1.1, ⟨(fun c2 => cj_183 (fun z23 s22 k3 l3 => ⟨(fun c4 => ⟨(k3.1 c4).1, cj_197 (fun s25 k6 l6 => hQ _ _  k6 l6) (k3.1 c4).2 ((l3.1 c4) (k3.1 c4).1)⟩), (fun c4 => hQ _ _  (k3.2 c4) (l3.2 c4))⟩) (h1.2.1 c2) ((h2 h1.1).1 c2)), (fun c2 => hQ _ _  (h1.2.2 c2) ((h2 h1.1).2 c2))⟩⟩
def fw_214 (a1 : Int) (a2 : Int) (a3 : Int) (a4 : Int) (Q : Int → lf_Z → Prop) (s : lf_Z) : Prop := fw_207 (lf_wl a1) (fun z22 s21 => ((z22 = true → (fw_197 (fun s23 => (fw_213 a2 a3 a4 (fun r25 s24 => (Q r25 s24)) s23)) s21)) ∧ (z22 = false → (Q 1 s21)))) s
theorem cj_214 {Q1 Q2 Q3 : Int → lf_Z → Prop} {a1 : Int} {a2 : Int} {a3 : Int} {a4 : Int} {s : lf_Z} (hQ : ∀ (r : Int) (s : lf_Z), Q1 r s → Q2 r s → Q3 r s) (h1 : fm_214 a1 a2 a3 a4 Q1 s) (h2 : fw_214 a1 a2 a3 a4 Q2 s) : fm_214 a1 a2 a3 a4 Q3 s := by
  unfold fm_214 at h1 ⊢
  unfold fw_214 at h2
  exact cj_207 (fun z22 s21 k1 l1 => ⟨(fun c2 => cj_197 (fun s23 k3 l3 => cj_213 (fun r25 s24 k4 l4 => hQ _ _  k4 l4) k3 l3) (k1.1 c2) (l1.1 c2)), (fun c2 => hQ _ _  (k1.2 c2) (l1.2 c2))⟩) h1 h2
def fw_212 (a1 : Int) (a2 : Int) (a3 : Int) (a4 : Int) (a5 : Int) (a6 : Int) (Q : Int → lf_Z → Prop) (s : lf_Z) : Prop := fw_213 (a1 + 1) a2 a3 (fun r22 s21 => (lf_R r22 → ((r22 = 0 → (fw_214 (lf_wl a4) (a1 + 2) a5 a6 (fun r25 s24 => (Q r25 s24)) s21)) ∧ (¬ (r22 = 0) → (Q r22 s21))))) s
theorem cj_212 {Q1 Q2 Q3 : Int → lf_Z → Prop} {a1 : Int} {a2 : Int} {a3 : Int} {a4 : Int} {a5 : Int} {a6 : Int} {s : lf_Z} (hQ : ∀ (r : Int) (s : lf_Z), Q1 r s → Q2 r s → Q3 r s) (h1 : fm_212 a1 a2 a3 a4 a5 a6 Q1 s) (h2 : fw_212 a1 a2 a3 a4 a5 a6 Q2 s) : fm_212 a1 a2 a3 a4 a5 a6 Q3 s := by
  unfold fm_212 at h1 ⊢
  unfold fw_212 at h2
  exact cj_213 (fun r22 s21 k1 l1 => ⟨k1.1, ⟨(fun c3 => cj_214 (fun r25 s24 k4 l4 => hQ _ _  k4 l4) (k1.2.1 c3) ((l1 k1.1).1 c3)), (fun c3 => hQ _ _  (k1.2.2 c3) ((l1 k1.1).2 c3))⟩⟩) h1 h2
def fw_211 (a1 : Int) (a2 : Int) (Q : Int → lf_Z → Prop) (s : lf_Z) : Prop := lf_R a1 → ((a1 < 3 ∨ 12 < a1 → (fw_215 a2 (fun r23 s22 => (Q r23 s22)) s)) ∧ (a1 = 3 → (fw_204 104 97 114 109 (fun r25 s24 => (fw_212 a2 0 3 (lf_wl r25) 0 99 (fun r27 s26 => (Q r27 s26)) s24)) s)) ∧ (a1 = 4 → (fw_206 116 111 (fun r29 s28 => (fw_212 a2 0 11 (lf_wl r29) 0 11 (fun r31 s30 => (Q r31 s30)) s28)) s)) ∧ (a1 = 5 → (fw_206 116 111 (fun r33 s32 => (fw_212 a2 0 11 (lf_wl r33) 0 11 (fun r35 s34 => (Q r35 s34)) s32)) s)) ∧ (a1 = 6 → (fw_206 97 116 (fun r37 s36 => (fw_212 a2 0 9 (lf_wl r37) 0 11 (fun r39 s38 => (Q r39 s38)) s36)) s)) ∧ (a1 = 7 → (fw_206 97 116 (fun r41 s40 => (fw_212 a2 1 24 (lf_wl r41) 0 11 (fun r43 s42 => (Q r43 s42)) s40)) s)) ∧ (a1 = 8 → (fw_206 116 111 (fun r45 s44 => (fw_212 a2 0 5 (lf_wl r45) 0 11 (fun r47 s46 => (Q r47 s46)) s44)) s)) ∧ (a1 = 9 → (fw_213 (a2 + 1) 0 15 (fun r49 s48 => (Q r49 s48)) s)) ∧ (a1 = 10 → (fw_213 (a2 + 1) 0 15 (fun r51 s50 => (Q r51 s50)) s)) ∧ (a1 = 11 → (fw_206 98 121 (fun r53 s52 => (fw_212 a2 0 3 (lf_wl r53) 1 24 (fun r55 s54 => (Q r55 s54)) s52)) s)) ∧ (a1 = 12 → (fw_213 (a2 + 1) 1 60 (fun r57 s56 => (Q r57 s56)) s)))
theorem cj_211 {Q1 Q2 Q3 : Int → lf_Z → Prop} {a1 : Int} {a2 : Int} {s : lf_Z} (hQ : ∀ (r : Int) (s : lf_Z), Q1 r s → Q2 r s → Q3 r s) (h1 : fm_211 a1 a2 Q1 s) (h2 : fw_211 a1 a2 Q2 s) : fm_211 a1 a2 Q3 s := by
  unfold fm_211 at h1 ⊢
  unfold fw_211 at h2
  exact ⟨h1.1, ⟨(fun c2 => cj_215 (fun r23 s22 k3 l3 => hQ _ _  k3 l3) (h1.2.1 c2) ((h2 h1.1).1 c2)), (fun c2 => cj_204 (fun r25 s24 k5 l5 => cj_212 (fun r27 s26 k6 l6 => hQ _ _  k6 l6) k5 l5) (h1.2.2.1 c2) ((h2 h1.1).2.1 c2)), (fun c2 => cj_206 (fun r29 s28 k8 l8 => cj_212 (fun r31 s30 k9 l9 => hQ _ _  k9 l9) k8 l8) (h1.2.2.2.1 c2) ((h2 h1.1).2.2.1 c2)), (fun c2 => cj_206 (fun r33 s32 k11 l11 => cj_212 (fun r35 s34 k12 l12 => hQ _ _  k12 l12) k11 l11) (h1.2.2.2.2.1 c2) ((h2 h1.1).2.2.2.1 c2)), (fun c2 => cj_206 (fun r37 s36 k14 l14 => cj_212 (fun r39 s38 k15 l15 => hQ _ _  k15 l15) k14 l14) (h1.2.2.2.2.2.1 c2) ((h2 h1.1).2.2.2.2.1 c2)), (fun c2 => cj_206 (fun r41 s40 k17 l17 => cj_212 (fun r43 s42 k18 l18 => hQ _ _  k18 l18) k17 l17) (h1.2.2.2.2.2.2.1 c2) ((h2 h1.1).2.2.2.2.2.1 c2)), (fun c2 => cj_206 (fun r45 s44 k20 l20 => cj_212 (fun r47 s46 k21 l21 => hQ _ _  k21 l21) k20 l20) (h1.2.2.2.2.2.2.2.1 c2) ((h2 h1.1).2.2.2.2.2.2.1 c2)), (fun c2 => cj_213 (fun r49 s48 k23 l23 => hQ _ _  k23 l23) (h1.2.2.2.2.2.2.2.2.1 c2) ((h2 h1.1).2.2.2.2.2.2.2.1 c2)), (fun c2 => cj_213 (fun r51 s50 k25 l25 => hQ _ _  k25 l25) (h1.2.2.2.2.2.2.2.2.2.1 c2) ((h2 h1.1).2.2.2.2.2.2.2.2.1 c2)), (fun c2 => cj_206 (fun r53 s52 k27 l27 => cj_212 (fun r55 s54 k28 l28 => hQ _ _  k28 l28) k27 l27) (h1.2.2.2.2.2.2.2.2.2.2.1 c2) ((h2 h1.1).2.2.2.2.2.2.2.2.2.1 c2)), (fun c2 => cj_213 (fun r57 s56 k30 l30 => hQ _ _  k30 l30) (h1.2.2.2.2.2.2.2.2.2.2.2 c2) ((h2 h1.1).2.2.2.2.2.2.2.2.2.2 c2))⟩⟩
def fw_210 (a0 : Int) (a1 : Int) (Q : Bool → lf_Z → Prop) (s : lf_Z) : Prop := (lf_and (lf_shr a0 a1) 1 ≠ 1 → (Q false s)) ∧ (¬ (lf_and (lf_shr a0 a1) 1 ≠ 1) → (Q true s))
theorem cj_210 {Q1 Q2 Q3 : Bool → lf_Z → Prop} {a0 : Int} {a1 : Int} {s : lf_Z} (hQ : ∀ (r : Bool) (s : lf_Z), Q1 r s → Q2 r s → Q3 r s) (h1 : fm_210 a0 a1 Q1 s) (h2 : fw_210 a0 a1 Q2 s) : fm_210 a0 a1 Q3 s := by
  unfold fm_210 at h1 ⊢
  unfold fw_210 at h2
  exact ⟨(fun c1 => hQ _ _  (h1.1 c1) (h2.1 c1)), (fun c1 => hQ _ _  (h1.2 c1) (h2.2 c1))⟩
def fw_202_p65 (Q : Int → lf_Z → Prop) (x1 : Int) (x2 : Int) (s : lf_Z) : Prop := fw_197 (fun s27 => ((0 ≤ ((s27.1 95 12) + 1) + (4 * x2) ∧ ((s27.1 95 12) + 1) + (4 * x2) < 2820) → (fw_211 x1 (((s27.1 95 12) + 1) + (4 * x2)) (fun r30 s29 => (lf_R r30 → ((r30 = 0 → ((0 ≤ s29.1 95 12 ∧ s29.1 95 12 < 2820) → (lf_R (s29.1 95 9) → ((s29.1 95 9 = 59 → (fw_197 (fun s34 => (Q 0 s34)) (lf_up s29.1 98 (s29.1 95 12) ((s29.1 98 (s29.1 95 12)) + 1), s29.2.1, s29.2.2))) ∧ (¬ (s29.1 95 9 = 59) → (Q 1 (lf_up s29.1 98 (s29.1 95 12) ((s29.1 98 (s29.1 95 12)) + 1), s29.2.1, s29.2.2))))))) ∧ (¬ (r30 = 0) → (Q r30 s29))))) (lf_up s27.1 98 (((s27.1 95 12) + 1) + (4 * x2)) x1, s27.2.1, s27.2.2)))) (lf_up s.1 95 14 x1, s.2.1, s.2.2)
theorem cj_202_p65 {Q1 Q2 Q3 : Int → lf_Z → Prop} {x1 : Int} {x2 : Int} {s : lf_Z} (hQ : ∀ (r : Int) (s : lf_Z), Q1 r s → Q2 r s → Q3 r s) (h1 : fm_202_p65 Q1 x1 x2 s) (h2 : fw_202_p65 Q2 x1 x2 s) : fm_202_p65 Q3 x1 x2 s := by
  unfold fm_202_p65 at h1 ⊢
  unfold fw_202_p65 at h2
  exact cj_197 (fun s27 k1 l1 => ⟨k1.1, cj_211 (fun r30 s29 k3 l3 => ⟨k3.1, ⟨(fun c5 => ⟨(k3.2.1 c5).1, ⟨(k3.2.1 c5).2.1, ⟨(fun c8 => cj_197 (fun s34 k9 l9 => hQ _ _  k9 l9) ((k3.2.1 c5).2.2.1 c8) (((((l3 k3.1).1 c5) (k3.2.1 c5).1) (k3.2.1 c5).2.1).1 c8)), (fun c8 => hQ _ _  ((k3.2.1 c5).2.2.2 c8) (((((l3 k3.1).1 c5) (k3.2.1 c5).1) (k3.2.1 c5).2.1).2 c8))⟩⟩⟩), (fun c5 => hQ _ _  (k3.2.2 c5) ((l3 k3.1).2 c5))⟩⟩) k1.2 (l1 k1.1)⟩) h1 h2
def fw_202_p29 (Q : Int → lf_Z → Prop) (x1 : Int) (s : lf_Z) : Prop := (0 ≤ s.1 95 12 ∧ s.1 95 12 < 2820) → (lf_R (s.1 98 (s.1 95 12)) → ((s.1 98 (s.1 95 12) ≠ 24 → (lf_R x1 → ((2 < x1 → (fw_202_p65 Q x1 (s.1 98 (s.1 95 12)) s)) ∧ (¬ (2 < x1) → (fw_202_p65 Q x1 (s.1 98 (s.1 95 12)) (lf_up s.1 95 24 (lf_or (s.1 95 24) (lf_shl 1 x1)), s.2.1, s.2.2)))))) ∧ (¬ (s.1 98 (s.1 95 12) ≠ 24) → (Q 6 s))))
theorem cj_202_p29 {Q1 Q2 Q3 : Int → lf_Z → Prop} {x1 : Int} {s : lf_Z} (hQ : ∀ (r : Int) (s : lf_Z), Q1 r s → Q2 r s → Q3 r s) (h1 : fm_202_p29 Q1 x1 s) (h2 : fw_202_p29 Q2 x1 s) : fm_202_p29 Q3 x1 s := by
  unfold fm_202_p29 at h1 ⊢
  unfold fw_202_p29 at h2
  exact ⟨h1.1, ⟨h1.2.1, ⟨(fun c3 => ⟨(h1.2.2.1 c3).1, ⟨(fun c5 => cj_202_p65 hQ ((h1.2.2.1 c3).2.1 c5) (((((h2 h1.1) h1.2.1).1 c3) (h1.2.2.1 c3).1).1 c5)), (fun c5 => cj_202_p65 hQ ((h1.2.2.1 c3).2.2 c5) (((((h2 h1.1) h1.2.1).1 c3) (h1.2.2.1 c3).1).2 c5))⟩⟩), (fun c3 => hQ _ _  (h1.2.2.2 c3) (((h2 h1.1) h1.2.1).2 c3))⟩⟩⟩
def fw_202 (Q : Int → lf_Z → Prop) (s : lf_Z) : Prop := fw_203 (fun r22 s21 => (lf_R r22 → ((0 ≤ r22 → ((2 < r22 → (fw_202_p29 Q r22 s21)) ∧ (¬ (2 < r22) → (fw_210 (s21.1 95 24) r22 (fun z36 s35 => ((z36 = false → (fw_202_p29 Q r22 s35)) ∧ (z36 = true → (Q 4 s35)))) s21)))) ∧ (¬ (0 ≤ r22) → (Q 1 s21))))) s
theorem cj_202 {Q1 Q2 Q3 : Int → lf_Z → Prop} {s : lf_Z} (hQ : ∀ (r : Int) (s : lf_Z), Q1 r s → Q2 r s → Q3 r s) (h1 : fm_202 Q1 s) (h2 : fw_202 Q2 s) : fm_202 Q3 s := by
  unfold fm_202 at h1 ⊢
  unfold fw_202 at h2
  exact cj_203 (fun r22 s21 k1 l1 => ⟨k1.1, ⟨(fun c3 => ⟨(fun c4 => cj_202_p29 hQ ((k1.2.1 c3).1 c4) (((l1 k1.1).1 c3).1 c4)), (fun c4 => cj_210 (fun z36 s35 k6 l6 => ⟨(fun c7 => cj_202_p29 hQ (k6.1 c7) (l6.1 c7)), (fun c7 => hQ _ _  (k6.2 c7) (l6.2 c7))⟩) ((k1.2.1 c3).2 c4) (((l1 k1.1).1 c3).2 c4))⟩), (fun c3 => hQ _ _  (k1.2.2 c3) ((l1 k1.1).2 c3))⟩⟩) h1 h2
def fw_196_p44 (Q : Int → lf_Z → Prop) (X44 : lf_Z → Prop) (s : lf_Z) : Prop := lf_R (s.1 95 9) → ((s.1 95 9 = 0 → (Q 0 s)) ∧ (¬ (s.1 95 9 = 0) → (fw_202 (fun r25 s24 => (lf_R r25 → ((r25 = 0 → (X44 s24)) ∧ (¬ (r25 = 0) → (Q r25 s24))))) s)))
theorem cj_196_p44 {X441 X442 X443 : lf_Z → Prop} {Q1 Q2 Q3 : Int → lf_Z → Prop} {s : lf_Z} (hX44 : ∀ (v0 : lf_Z), X441 v0 → X442 v0 → X443 v0) (hQ : ∀ (r : Int) (s : lf_Z), Q1 r s → Q2 r s → Q3 r s) (h1 : fm_196_p44 Q1 X441 s) (h2 : fw_196_p44 Q2 X442 s) : fm_196_p44 Q3 X443 s := by
  unfold fm_196_p44 at h1 ⊢
  unfold fw_196_p44 at h2
  exact ⟨h1.1, ⟨(fun c2 => hQ _ _  (h1.2.1 c2) ((h2 h1.1).1 c2)), (fun c2 => cj_202 (fun r25 s24 k4 l4 => ⟨k4.1, ⟨(fun c6 => hX44 _  (k4.2.1 c6) ((l4 k4.1).1 c6)), (fun c6 => hQ _ _  (k4.2.2 c6) ((l4 k4.1).2 c6))⟩⟩) (h1.2.2 c2) ((h2 h1.1).2 c2))⟩⟩
def fw_196_p44L (Q : Int → lf_Z → Prop) (s : lf_Z) : Prop := ∃ X44 : lf_Z → Prop, (∀ (s : lf_Z), X44 s → fw_196_p44 Q X44 s) ∧ X44 s
theorem cj_196_p44L {Q1 Q2 Q3 : Int → lf_Z → Prop} {s : lf_Z} (hQ : ∀ (r : Int) (s : lf_Z), Q1 r s → Q2 r s → Q3 r s) (h1 : fm_196_p44L Q1 s) (h2 : fw_196_p44L Q2 s) : fm_196_p44L Q3 s := by
  intro X0 hX0
  obtain ⟨Y, hY, hY0⟩ := h2
  exact h1 (fun  s => Y  s → X0  s) (fun  s hb hy => hX0  s (cj_196_p44 (X441 := fun  s => Y  s → X0  s) (X442 := Y) (X443 := X0) (hX44 := fun  s a b => a b) hQ hb (hY  s hy))) hY0
def fw_196 (Q : Int → lf_Z → Prop) (s : lf_Z) : Prop := (0 ≤ 705 * (s.1 96 7) ∧ 705 * (s.1 96 7) < 2820) → (fw_197 (fun s22 => (fw_196_p44L Q s22)) (lf_up (lf_up (lf_up (lf_up (lf_up s.1 95 12 (705 * (s.1 96 7))) 98 (705 * (s.1 96 7)) 0) 95 13 0) 95 24 0) 95 7 0, s.2.1, s.2.2))
theorem cj_196 {Q1 Q2 Q3 : Int → lf_Z → Prop} {s : lf_Z} (hQ : ∀ (r : Int) (s : lf_Z), Q1 r s → Q2 r s → Q3 r s) (h1 : fm_196 Q1 s) (h2 : fw_196 Q2 s) : fm_196 Q3 s := by
  unfold fm_196 at h1 ⊢
  unfold fw_196 at h2
  exact ⟨h1.1, cj_197 (fun s22 k2 l2 => cj_196_p44L hQ k2 l2) h1.2 (h2 h1.1)⟩
def fw_195_p37 (Q : Int → lf_Z → Prop) (y1 : Int) (s : lf_Z) : Prop := lf_R (s.1 95 5) → ((s.1 95 5 = 0 → (Q (((s.1 96 7) + 1) - 1) (lf_up (lf_up (lf_up s.1 95 6 y1) 95 4 0) 96 7 ((s.1 96 7) + 1), s.2.1, s.2.2))) ∧ (¬ (s.1 95 5 = 0) → (Q (-1) (lf_up (lf_up s.1 95 6 y1) 95 4 0, s.2.1, s.2.2))))
theorem cj_195_p37 {Q1 Q2 Q3 : Int → lf_Z → Prop} {y1 : Int} {s : lf_Z} (hQ : ∀ (r : Int) (s : lf_Z), Q1 r s → Q2 r s → Q3 r s) (h1 : fm_195_p37 Q1 y1 s) (h2 : fw_195_p37 Q2 y1 s) : fm_195_p37 Q3 y1 s := by
  unfold fm_195_p37 at h1 ⊢
  unfold fw_195_p37 at h2
  exact ⟨h1.1, ⟨(fun c2 => hQ _ _  (h1.2.1 c2) ((h2 h1.1).1 c2)), (fun c2 => hQ _ _  (h1.2.2 c2) ((h2 h1.1).2 c2))⟩⟩
def fw_195 (Q : Int → lf_Z → Prop) (s : lf_Z) : Prop := lf_R (s.1 96 7) → ((s.1 96 7 ≠ 4 → (fw_196 (fun r23 s22 => (lf_R r23 → ((r23 ≠ 0 → (fw_195_p37 Q (s22.1 95 8) (lf_up s22.1 95 5 r23, s22.2.1, s22.2.2))) ∧ (¬ (r23 ≠ 0) → (fw_195_p37 Q (-1) (lf_up s22.1 95 5 r23, s22.2.1, s22.2.2)))))) s)) ∧ (¬ (s.1 96 7 ≠ 4) → (Q (-1) s)))
theorem cj_195 {Q1 Q2 Q3 : Int → lf_Z → Prop} {s : lf_Z} (hQ : ∀ (r : Int) (s : lf_Z), Q1 r s → Q2 r s → Q3 r s) (h1 : fm_195 Q1 s) (h2 : fw_195 Q2 s) : fm_195 Q3 s := by
  unfold fm_195 at h1 ⊢
  unfold fw_195 at h2
  exact ⟨h1.1, ⟨(fun c2 => cj_196 (fun r23 s22 k3 l3 => ⟨k3.1, ⟨(fun c5 => cj_195_p37 hQ (k3.2.1 c5) ((l3 k3.1).1 c5)), (fun c5 => cj_195_p37 hQ (k3.2.2 c5) ((l3 k3.1).2 c5))⟩⟩) (h1.2.1 c2) ((h2 h1.1).1 c2)), (fun c2 => hQ _ _  (h1.2.2 c2) ((h2 h1.1).2 c2))⟩⟩
def fw_62_p28 (Q : Option Nat → lf_Z → Prop) (s : lf_Z) : Prop := Q none s
theorem cj_62_p28 {Q1 Q2 Q3 : Option Nat → lf_Z → Prop} {s : lf_Z} (hQ : ∀ (r : Option Nat) (s : lf_Z), Q1 r s → Q2 r s → Q3 r s) (h1 : fm_62_p28 Q1 s) (h2 : fw_62_p28 Q2 s) : fm_62_p28 Q3 s := by
  unfold fm_62_p28 at h1 ⊢
  unfold fw_62_p28 at h2
  exact hQ _ _  h1 h2
def fw_62 (a1 : Int) (Q : Option Nat → lf_Z → Prop) (s : lf_Z) : Prop := fw_15 a1 0 ((s.1 0 11) - 1) (fun z22 s21 => ((z22 = false → (fw_62_p28 Q s21)) ∧ (z22 = true → (lf_R a1 → ((4 ≤ a1 → (fw_62_p28 Q s21)) ∧ (¬ (4 ≤ a1) → ((0 ≤ a1 ∧ a1 < 4) → (∀ t25 : Nat, t25 = (a1).toNat → (Q (some t25) s21))))))))) s
theorem cj_62 {Q1 Q2 Q3 : Option Nat → lf_Z → Prop} {a1 : Int} {s : lf_Z} (hQ : ∀ (r : Option Nat) (s : lf_Z), Q1 r s → Q2 r s → Q3 r s) (h1 : fm_62 a1 Q1 s) (h2 : fw_62 a1 Q2 s) : fm_62 a1 Q3 s := by
  unfold fm_62 at h1 ⊢
  unfold fw_62 at h2
  exact cj_15 (fun z22 s21 k1 l1 => ⟨(fun c2 => cj_62_p28 hQ (k1.1 c2) (l1.1 c2)), (fun c2 => ⟨(k1.2 c2).1, ⟨(fun c5 => cj_62_p28 hQ ((k1.2 c2).2.1 c5) (((l1.2 c2) (k1.2 c2).1).1 c5)), (fun c5 => ⟨((k1.2 c2).2.2 c5).1, fun t25 et25 => hQ _ _  (((k1.2 c2).2.2 c5).2 t25 et25) (((((l1.2 c2) (k1.2 c2).1).2 c5) ((k1.2 c2).2.2 c5).1) t25 et25)⟩)⟩⟩)⟩) h1 h2
def fw_61 (a1 : Int) (Q : lf_Z → Prop) (s : lf_Z) : Prop := fw_62 a1 (fun r23 s21 => ((r23 = none → (Q (s21.1, s21.2.1, lf_ur s21.2.2 3 none))) ∧ (∀ t22 : Nat, r23 = some t22 → t22 < 4 → (Q (s21.1, s21.2.1, lf_ur s21.2.2 3 (some t22)))))) (lf_up s.1 0 12 a1, s.2.1, s.2.2)
theorem cj_61 {Q1 Q2 Q3 : lf_Z → Prop} {a1 : Int} {s : lf_Z} (hQ : ∀ (s : lf_Z), Q1 s → Q2 s → Q3 s) (h1 : fm_61 a1 Q1 s) (h2 : fw_61 a1 Q2 s) : fm_61 a1 Q3 s := by
  unfold fm_61 at h1 ⊢
  unfold fw_61 at h2
  exact cj_62 (fun r23 s21 k1 l1 => ⟨(fun c2 => hQ _  (k1.1 c2) (l1.1 c2)), (fun t22 et22 => ⟨(k1.2 t22 et22).1, hQ _  (k1.2 t22 et22).2 (l1.2 t22 et22 (k1.2 t22 et22).1)⟩)⟩) h1 h2
def fw_60 (a1 : Int) (Q : Bool → lf_Z → Prop) (s : lf_Z) : Prop := fw_15 a1 (-1) ((s.1 0 11) - 1) (fun z22 s21 => ((z22 = true → (fw_61 a1 (fun s23 => (Q true s23)) s21)) ∧ (z22 = false → (Q false s21)))) s
theorem cj_60 {Q1 Q2 Q3 : Bool → lf_Z → Prop} {a1 : Int} {s : lf_Z} (hQ : ∀ (r : Bool) (s : lf_Z), Q1 r s → Q2 r s → Q3 r s) (h1 : fm_60 a1 Q1 s) (h2 : fw_60 a1 Q2 s) : fm_60 a1 Q3 s := by
  unfold fm_60 at h1 ⊢
  unfold fw_60 at h2
  exact cj_15 (fun z22 s21 k1 l1 => ⟨(fun c2 => cj_61 (fun s23 k3 l3 => hQ _ _  k3 l3) (k1.1 c2) (l1.1 c2)), (fun c2 => hQ _ _  (k1.2 c2) (l1.2 c2))⟩) h1 h2
def fw_237 (a1 : Int) (Q : Bool → lf_Z → Prop) (s : lf_Z) : Prop := fw_183 a1 (-1) ((s.1 96 7) - 1) (fun z22 s21 => ((z22 = true → (Q true (lf_up s21.1 96 8 a1, s21.2.1, s21.2.2))) ∧ (z22 = false → (Q false s21)))) s
theorem cj_237 {Q1 Q2 Q3 : Bool → lf_Z → Prop} {a1 : Int} {s : lf_Z} (hQ : ∀ (r : Bool) (s : lf_Z), Q1 r s → Q2 r s → Q3 r s) (h1 : fm_237 a1 Q1 s) (h2 : fw_237 a1 Q2 s) : fm_237 a1 Q3 s := by
  unfold fm_237 at h1 ⊢
  unfold fw_237 at h2
  exact cj_183 (fun z22 s21 k1 l1 => ⟨(fun c2 => hQ _ _  (k1.1 c2) (l1.1 c2)), (fun c2 => hQ _ _  (k1.2 c2) (l1.2 c2))⟩) h1 h2
