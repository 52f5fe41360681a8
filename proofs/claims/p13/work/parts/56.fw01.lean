theorem cj_200_p12 {Q1 Q2 Q3 : Bool → lf_Z → Prop} {x0 : Int} {s : lf_Z} (hQ : ∀ (r : Bool) (s : lf_Z), Q1 r s → Q2 r s → Q3 r s) (h1 : fm_200_p12 Q1 x0 s) (h2 : fw_200_p12 Q2 x0 s) : fm_200_p12 Q3 x0 s := by
  unfold fm_200_p12 at h1 ⊢
  unfold fw_200_p12 at h2
  exact ⟨h1.1, ⟨(fun c2 => hQ _ _  (h1.2.1 c2) ((h2 h1.1).1 c2)), (fun c2 => ⟨(fun c4 => hQ _ _  ((h1.2.2 c2).1 c4) (((h2 h1.1).2 c2).1 c4)), (fun c4 => hQ _ _  ((h1.2.2 c2).2 c4) (((h2 h1.1).2 c2).2 c4))⟩)⟩⟩
def fw_200 (a0 : Int) (Q : Bool → lf_Z → Prop) (s : lf_Z) : Prop := lf_R a0 → ((a0 < 97 → (fw_200_p12 Q a0 s)) ∧ (¬ (a0 < 97) → ((a0 ≤ 122 → (Q true s)) ∧ (¬ (a0 ≤ 122) → (fw_200_p12 Q a0 s)))))
theorem cj_200 {Q1 Q2 Q3 : Bool → lf_Z → Prop} {a0 : Int} {s : lf_Z} (hQ : ∀ (r : Bool) (s : lf_Z), Q1 r s → Q2 r s → Q3 r s) (h1 : fm_200 a0 Q1 s) (h2 : fw_200 a0 Q2 s) : fm_200 a0 Q3 s := by
  unfold fm_200 at h1 ⊢
  unfold fw_200 at h2
  exact ⟨h1.1, ⟨(fun c2 => cj_200_p12 hQ (h1.2.1 c2) ((h2 h1.1).1 c2)), (fun c2 => ⟨(fun c4 => hQ _ _  ((h1.2.2 c2).1 c4) (((h2 h1.1).2 c2).1 c4)), (fun c4 => cj_200_p12 hQ ((h1.2.2 c2).2 c4) (((h2 h1.1).2 c2).2 c4))⟩)⟩⟩
def fw_201 (a0 : Int) (Q : Bool → lf_Z → Prop) (s : lf_Z) : Prop := lf_R a0 → ((a0 < 35 ∨ 62 < a0 → (Q false s)) ∧ (a0 = 35 → (Q true s)) ∧ (a0 = 36 → (Q false s)) ∧ (a0 = 37 → (Q false s)) ∧ (a0 = 38 → (Q false s)) ∧ (a0 = 39 → (Q false s)) ∧ (a0 = 40 → (Q true s)) ∧ (a0 = 41 → (Q true s)) ∧ (a0 = 42 → (Q true s)) ∧ (a0 = 43 → (Q true s)) ∧ (a0 = 44 → (Q false s)) ∧ (a0 = 45 → (Q true s)) ∧ (a0 = 46 → (Q false s)) ∧ (a0 = 47 → (Q true s)) ∧ (a0 = 48 → (Q false s)) ∧ (a0 = 49 → (Q false s)) ∧ (a0 = 50 → (Q false s)) ∧ (a0 = 51 → (Q false s)) ∧ (a0 = 52 → (Q false s)) ∧ (a0 = 53 → (Q false s)) ∧ (a0 = 54 → (Q false s)) ∧ (a0 = 55 → (Q false s)) ∧ (a0 = 56 → (Q false s)) ∧ (a0 = 57 → (Q false s)) ∧ (a0 = 58 → (Q false s)) ∧ (a0 = 59 → (Q true s)) ∧ (a0 = 60 → (Q true s)) ∧ (a0 = 61 → (Q true s)) ∧ (a0 = 62 → (Q true s)))
theorem cj_201 {Q1 Q2 Q3 : Bool → lf_Z → Prop} {a0 : Int} {s : lf_Z} (hQ : ∀ (r : Bool) (s : lf_Z), Q1 r s → Q2 r s → Q3 r s) (h1 : fm_201 a0 Q1 s) (h2 : fw_201 a0 Q2 s) : fm_201 a0 Q3 s := by
  unfold fm_201 at h1 ⊢
  unfold fw_201 at h2
  exact ⟨h1.1, ⟨(fun c2 => hQ _ _  (h1.2.1 c2) ((h2 h1.1).1 c2)), (fun c2 => hQ _ _  (h1.2.2.1 c2) ((h2 h1.1).2.1 c2)), (fun c2 => hQ _ _  (h1.2.2.2.1 c2) ((h2 h1.1).2.2.1 c2)), (fun c2 => hQ _ _  (h1.2.2.2.2.1 c2) ((h2 h1.1).2.2.2.1 c2)), (fun c2 => hQ _ _  (h1.2.2.2.2.2.1 c2) ((h2 h1.1).2.2.2.2.1 c2)), (fun c2 => hQ _ _  (h1.2.2.2.2.2.2.1 c2) ((h2 h1.1).2.2.2.2.2.1 c2)), (fun c2 => hQ _ _  (h1.2.2.2.2.2.2.2.1 c2) ((h2 h1.1).2.2.2.2.2.2.1 c2)), (fun c2 => hQ _ _  (h1.2.2.2.2.2.2.2.2.1 c2) ((h2 h1.1).2.2.2.2.2.2.2.1 c2)), (fun c2 => hQ _ _  (h1.2.2.2.2.2.2.2.2.2.1 c2) ((h2 h1.1).2.2.2.2.2.2.2.2.1 c2)), (fun c2 => hQ _ _  (h1.2.2.2.2.2.2.2.2.2.2.1 c2) ((h2 h1.1).2.2.2.2.2.2.2.2.2.1 c2)), (fun c2 => hQ _ _  (h1.2.2.2.2.2.2.2.2.2.2.2.1 c2) ((h2 h1.1).2.2.2.2.2.2.2.2.2.2.1 c2)), (fun c2 => hQ _ _  (h1.2.2.2.2.2.2.2.2.2.2.2.2.1 c2) ((h2 h1.1).2.2.2.2.2.2.2.2.2.2.2.1 c2)), (fun c2 => hQ _ _  (h1.2.2.2.2.2.2.2.2.2.2.2.2.2.1 c2) ((h2 h1.1).2.2.2.2.2.2.2.2.2.2.2.2.1 c2)), (fun c2 => hQ _ _  (h1.2.2.2.2.2.2.2.2.2.2.2.2.2.2.1 c2) ((h2 h1.1).2.2.2.2.2.2.2.2.2.2.2.2.2.1 c2)), (fun c2 => hQ _ _  (h1.2.2.2.2.2.2.2.2.2.2.2.2.2.2.2.1 c2) ((h2 h1.1).2.2.2.2.2.2.2.2.2.2.2.2.2.2.1 c2)), (fun c2 => hQ _ _  (h1.2.2.2.2.2.2.2.2.2.2.2.2.2.2.2.2.1 c2) ((h2 h1.1).2.2.2.2.2.2.2.2.2.2.2.2.2.2.2.1 c2)), (fun c2 => hQ _ _  (h1.2.2.2.2.2.2.2.2.2.2.2.2.2.2.2.2.2.1 c2) ((h2 h1.1).2.2.2.2.2.2.2.2.2.2.2.2.2.2.2.2.1 c2)), (fun c2 => hQ _ _  (h1.2.2.2.2.2.2.2.2.2.2.2.2.2.2.2.2.2.2.1 c2) ((h2 h1.1).2.2.2.2.2.2.2.2.2.2.2.2.2.2.2.2.2.1 c2)), (fun c2 => hQ _ _  (h1.2.2.2.2.2.2.2.2.2.2.2.2.2.2.2.2.2.2.2.1 c2) ((h2 h1.1).2.2.2.2.2.2.2.2.2.2.2.2.2.2.2.2.2.2.1 c2)), (fun c2 => hQ _ _  (h1.2.2.2.2.2.2.2.2.2.2.2.2.2.2.2.2.2.2.2.2.1 c2) ((h2 h1.1).2.2.2.2.2.2.2.2.2.2.2.2.2.2.2.2.2.2.2.1 c2)), (fun c2 => hQ _ _  (h1.2.2.2.2.2.2.2.2.2.2.2.2.2.2.2.2.2.2.2.2.2.1 c2) ((h2 h1.1).2.2.2.2.2.2.2.2.2.2.2.2.2.2.2.2.2.2.2.2.1 c2)), (fun c2 => hQ _ _  (h1.2.2.2.2.2.2.2.2.2.2.2.2.2.2.2.2.2.2.2.2.2.2.1 c2) ((h2 h1.1).2.2.2.2.2.2.2.2.2.2.2.2.2.2.2.2.2.2.2.2.2.1 c2)), (fun c2 => hQ _ _  (h1.2.2.2.2.2.2.2.2.2.2.2.2.2.2.2.2.2.2.2.2.2.2.2.1 c2) ((h2 h1.1).2.2.2.2.2.2.2.2.2.2.2.2.2.2.2.2.2.2.2.2.2.2.1 c2)), (fun c2 => hQ _ _  (h1.2.2.2.2.2.2.2.2.2.2.2.2.2.2.2.2.2.2.2.2.2.2.2.2.1 c2) ((h2 h1.1).2.2.2.2.2.2.2.2.2.2.2.2.2.2.2.2.2.2.2.2.2.2.2.1 c2)), (fun c2 => hQ _ _  (h1.2.2.2.2.2.2.2.2.2.2.2.2.2.2.2.2.2.2.2.2.2.2.2.2.2.1 c2) ((h2 h1.1).2.2.2.2.2.2.2.2.2.2.2.2.2.2.2.2.2.2.2.2.2.2.2.2.1 c2)), (fun c2 => hQ _ _  (h1.2.2.2.2.2.2.2.2.2.2.2.2.2.2.2.2.2.2.2.2.2.2.2.2.2.2.1 c2) ((h2 h1.1).2.2.2.2.2.2.2.2.2.2.2.2.2.2.2.2.2.2.2.2.2.2.2.2.2.1 c2)), (fun c2 => hQ _ _  (h1.2.2.2.2.2.2.2.2.2.2.2.2.2.2.2.2.2.2.2.2.2.2.2.2.2.2.2.1 c2) ((h2 h1.1).2.2.2.2.2.2.2.2.2.2.2.2.2.2.2.2.2.2.2.2.2.2.2.2.2.2.1 c2)), (fun c2 => hQ _ _  (h1.2.2.2.2.2.2.2.2.2.2.2.2.2.2.2.2.2.2.2.2.2.2.2.2.2.2.2.2.1 c2) ((h2 h1.1).2.2.2.2.2.2.2.2.2.2.2.2.2.2.2.2.2.2.2.2.2.2.2.2.2.2.2.1 c2)), (fun c2 => hQ _ _  (h1.2.2.2.2.2.2.2.2.2.2.2.2.2.2.2.2.2.2.2.2.2.2.2.2.2.2.2.2.2 c2) ((h2 h1.1).2.2.2.2.2.2.2.2.2.2.2.2.2.2.2.2.2.2.2.2.2.2.2.2.2.2.2.2 c2))⟩⟩
def fw_197_p26 (X0 : lf_Z → Prop) (Q : lf_Z → Prop) (s : lf_Z) : Prop := X0 (lf_up s.1 95 7 ((s.1 95 7) + 1), s.2.1, s.2.2)
theorem cj_197_p26 {X01 X02 X03 : lf_Z → Prop} {Q1 Q2 Q3 : lf_Z → Prop} {s : lf_Z} (hX0 : ∀ (v0 : lf_Z), X01 v0 → X02 v0 → X03 v0) (hQ : ∀ (s : lf_Z), Q1 s → Q2 s → Q3 s) (h1 : fm_197_p26 X01 Q1 s) (h2 : fw_197_p26 X02 Q2 s) : fm_197_p26 X03 Q3 s := by
  unfold fm_197_p26 at h1 ⊢
  unfold fw_197_p26 at h2
  exact hX0 _  h1 h2
def fw_197_p297 (Q : lf_Z → Prop) (y1 : Int) (s : lf_Z) : Prop := Q (lf_up (lf_up s.1 95 9 y1) 95 7 ((s.1 95 7) + 1), s.2.1, s.2.2)
theorem cj_197_p297 {Q1 Q2 Q3 : lf_Z → Prop} {y1 : Int} {s : lf_Z} (hQ : ∀ (s : lf_Z), Q1 s → Q2 s → Q3 s) (h1 : fm_197_p297 Q1 y1 s) (h2 : fw_197_p297 Q2 y1 s) : fm_197_p297 Q3 y1 s := by
  unfold fm_197_p297 at h1 ⊢
  unfold fw_197_p297 at h2
  exact hQ _  h1 h2
def fw_197_p272 (Q : lf_Z → Prop) (x1 : Int) (s : lf_Z) : Prop := fw_198 (s.1 95 7) (fun r38 s37 => (lf_R r38 → ((r38 ≠ 61 → (Q s37)) ∧ (¬ (r38 ≠ 61) → (lf_R x1 → ((x1 ≠ 60 → (fw_197_p297 Q 5 s37)) ∧ (¬ (x1 ≠ 60) → (fw_197_p297 Q 4 s37)))))))) s
theorem cj_197_p272 {Q1 Q2 Q3 : lf_Z → Prop} {x1 : Int} {s : lf_Z} (hQ : ∀ (s : lf_Z), Q1 s → Q2 s → Q3 s) (h1 : fm_197_p272 Q1 x1 s) (h2 : fw_197_p272 Q2 x1 s) : fm_197_p272 Q3 x1 s := by
  unfold fm_197_p272 at h1 ⊢
  unfold fw_197_p272 at h2
  exact cj_198 (fun r38 s37 k1 l1 => ⟨k1.1, ⟨(fun c3 => hQ _  (k1.2.1 c3) ((l1 k1.1).1 c3)), (fun c3 => ⟨(k1.2.2 c3).1, ⟨(fun c6 => cj_197_p297 hQ ((k1.2.2 c3).2.1 c6) ((((l1 k1.1).2 c3) (k1.2.2 c3).1).1 c6)), (fun c6 => cj_197_p297 hQ ((k1.2.2 c3).2.2 c6) ((((l1 k1.1).2 c3) (k1.2.2 c3).1).2 c6))⟩⟩)⟩⟩) h1 h2
def fw_197_p247 (Q : lf_Z → Prop) (x1 : Int) (y1 : Int) (s : lf_Z) : Prop := lf_R x1 → ((x1 = 60 → (fw_197_p272 Q x1 (lf_up (lf_up s.1 95 9 y1) 95 7 ((s.1 95 7) + 1), s.2.1, s.2.2))) ∧ (¬ (x1 = 60) → ((x1 ≠ 62 → (Q (lf_up (lf_up s.1 95 9 y1) 95 7 ((s.1 95 7) + 1), s.2.1, s.2.2))) ∧ (¬ (x1 ≠ 62) → (fw_197_p272 Q x1 (lf_up (lf_up s.1 95 9 y1) 95 7 ((s.1 95 7) + 1), s.2.1, s.2.2))))))
theorem cj_197_p247 {Q1 Q2 Q3 : lf_Z → Prop} {x1 : Int} {y1 : Int} {s : lf_Z} (hQ : ∀ (s : lf_Z), Q1 s → Q2 s → Q3 s) (h1 : fm_197_p247 Q1 x1 y1 s) (h2 : fw_197_p247 Q2 x1 y1 s) : fm_197_p247 Q3 x1 y1 s := by
  unfold fm_197_p247 at h1 ⊢
  unfold fw_197_p247 at h2
  exact ⟨h1.1, ⟨(fun c2 => cj_197_p272 hQ (h1.2.1 c2) ((h2 h1.1).1 c2)), (fun c2 => ⟨(fun c4 => hQ _  ((h1.2.2 c2).1 c4) (((h2 h1.1).2 c2).1 c4)), (fun c4 => cj_197_p272 hQ ((h1.2.2 c2).2 c4) (((h2 h1.1).2 c2).2 c4))⟩)⟩⟩
def fw_197_p218 (X168 : lf_Z → Prop) (Q : lf_Z → Prop) (y1 : Int) (s : lf_Z) : Prop := X168 (lf_up s.1 95 7 ((s.1 95 7) + 1), lf_up s.2.1 95 11 (lf_wl y1), s.2.2)
theorem cj_197_p218 {X1681 X1682 X1683 : lf_Z → Prop} {Q1 Q2 Q3 : lf_Z → Prop} {y1 : Int} {s : lf_Z} (hX168 : ∀ (v0 : lf_Z), X1681 v0 → X1682 v0 → X1683 v0) (hQ : ∀ (s : lf_Z), Q1 s → Q2 s → Q3 s) (h1 : fm_197_p218 X1681 Q1 y1 s) (h2 : fw_197_p218 X1682 Q2 y1 s) : fm_197_p218 X1683 Q3 y1 s := by
  unfold fm_197_p218 at h1 ⊢
  unfold fw_197_p218 at h2
  exact hX168 _  h1 h2
def fw_197_p168 (Q : lf_Z → Prop) (X168 : lf_Z → Prop) (s : lf_Z) : Prop := fw_198 (s.1 95 7) (fun r42 s41 => (fw_200 r42 (fun z44 s43 => ((z44 = false → (Q s43)) ∧ (z44 = true → ((lf_lshr (lf_wl (s43.2.1 95 11)) 48 = 0 → (fw_198 (s43.1 95 7) (fun r46 s45 => (lf_R r46 → (fw_197_p218 X168 Q (lf_lor (lf_lshl (lf_wl (s43.2.1 95 11)) 8) r46) s45))) s43)) ∧ (¬ (lf_lshr (lf_wl (s43.2.1 95 11)) 48 = 0) → (fw_197_p218 X168 Q 1152921504606846976 s43)))))) s41)) s
theorem cj_197_p168 {X1681 X1682 X1683 : lf_Z → Prop} {Q1 Q2 Q3 : lf_Z → Prop} {s : lf_Z} (hX168 : ∀ (v0 : lf_Z), X1681 v0 → X1682 v0 → X1683 v0) (hQ : ∀ (s : lf_Z), Q1 s → Q2 s → Q3 s) (h1 : fm_197_p168 Q1 X1681 s) (h2 : fw_197_p168 Q2 X1682 s) : fm_197_p168 Q3 X1683 s := by
  unfold fm_197_p168 at h1 ⊢
  unfold fw_197_p168 at h2
  exact cj_198 (fun r42 s41 k1 l1 => cj_200 (fun z44 s43 k2 l2 => ⟨(fun c3 => hQ _  (k2.1 c3) (l2.1 c3)), (fun c3 => ⟨(fun c5 => cj_198 (fun r46 s45 k6 l6 => ⟨k6.1, cj_197_p218 hX168 hQ k6.2 (l6 k6.1)⟩) ((k2.2 c3).1 c5) ((l2.2 c3).1 c5)), (fun c5 => cj_197_p218 hX168 hQ ((k2.2 c3).2 c5) ((l2.2 c3).2 c5))⟩)⟩) k1 l1) h1 h2
def fw_197_p168L (Q : lf_Z → Prop) (s : lf_Z) : Prop := ∃ X168 : lf_Z → Prop, (∀ (s : lf_Z), X168 s → fw_197_p168 Q X168 s) ∧ X168 s
theorem cj_197_p168L {Q1 Q2 Q3 : lf_Z → Prop} {s : lf_Z} (hQ : ∀ (s : lf_Z), Q1 s → Q2 s → Q3 s) (h1 : fm_197_p168L Q1 s) (h2 : fw_197_p168L Q2 s) : fm_197_p168L Q3 s := by
  intro X0 hX0
  obtain ⟨Y, hY, hY0⟩ := h2
  exact h1 (fun  s => Y  s → X0  s) (fun  s hb hy => hX0  s (cj_197_p168 (X1681 := fun  s => Y  s → X0  s) (X1682 := Y) (X1683 := X0) (hX168 := fun  s a b => a b) hQ hb (hY  s hy))) hY0
def fw_197_p135 (X85 : lf_Z → Prop) (Q : lf_Z → Prop) (y1 : Int) (s : lf_Z) : Prop := X85 (lf_up (lf_up s.1 95 10 y1) 95 7 ((s.1 95 7) + 1), s.2.1, s.2.2)
theorem cj_197_p135 {X851 X852 X853 : lf_Z → Prop} {Q1 Q2 Q3 : lf_Z → Prop} {y1 : Int} {s : lf_Z} (hX85 : ∀ (v0 : lf_Z), X851 v0 → X852 v0 → X853 v0) (hQ : ∀ (s : lf_Z), Q1 s → Q2 s → Q3 s) (h1 : fm_197_p135 X851 Q1 y1 s) (h2 : fw_197_p135 X852 Q2 y1 s) : fm_197_p135 X853 Q3 y1 s := by
  unfold fm_197_p135 at h1 ⊢
  unfold fw_197_p135 at h2
  exact hX85 _  h1 h2
def fw_197_p85 (Q : lf_Z → Prop) (X85 : lf_Z → Prop) (s : lf_Z) : Prop := fw_198 (s.1 95 7) (fun r49 s48 => (fw_199 r49 (fun z51 s50 => ((z51 = false → (Q s50)) ∧ (z51 = true → (lf_R (s50.1 95 10) → ((s50.1 95 10 ≤ 99999 → (fw_198 (s50.1 95 7) (fun r54 s53 => (fw_197_p135 X85 Q (lf_w ((lf_w ((lf_w (10 * (s50.1 95 10))) + r54)) - 48)) s53)) s50)) ∧ (¬ (s50.1 95 10 ≤ 99999) → (fw_197_p135 X85 Q (s50.1 95 10) s50))))))) s48)) s
theorem cj_197_p85 {X851 X852 X853 : lf_Z → Prop} {Q1 Q2 Q3 : lf_Z → Prop} {s : lf_Z} (hX85 : ∀ (v0 : lf_Z), X851 v0 → X852 v0 → X853 v0) (hQ : ∀ (s : lf_Z), Q1 s → Q2 s → Q3 s) (h1 : fm_197_p85 Q1 X851 s) (h2 : fw_197_p85 Q2 X852 s) : fm_197_p85 Q3 X853 s := by
  unfold fm_197_p85 at h1 ⊢
  unfold fw_197_p85 at h2
  exact cj_198 (fun r49 s48 k1 l1 => cj_199 (fun z51 s50 k2 l2 => ⟨(fun c3 => hQ _  (k2.1 c3) (l2.1 c3)), (fun c3 => ⟨(k2.2 c3).1, ⟨(fun c6 => cj_198 (fun r54 s53 k7 l7 => cj_197_p135 hX85 hQ k7 l7) ((k2.2 c3).2.1 c6) (((l2.2 c3) (k2.2 c3).1).1 c6)), (fun c6 => cj_197_p135 hX85 hQ ((k2.2 c3).2.2 c6) (((l2.2 c3) (k2.2 c3).1).2 c6))⟩⟩)⟩) k1 l1) h1 h2
def fw_197_p85L (Q : lf_Z → Prop) (s : lf_Z) : Prop := ∃ X85 : lf_Z → Prop, (∀ (s : lf_Z), X85 s → fw_197_p85 Q X85 s) ∧ X85 s
theorem cj_197_p85L {Q1 Q2 Q3 : lf_Z → Prop} {s : lf_Z} (hQ : ∀ (s : lf_Z), Q1 s → Q2 s → Q3 s) (h1 : fm_197_p85L Q1 s) (h2 : fw_197_p85L Q2 s) : fm_197_p85L Q3 s := by
  intro X0 hX0
  obtain ⟨Y, hY, hY0⟩ := h2
  exact h1 (fun  s => Y  s → X0  s) (fun  s hb hy => hX0  s (cj_197_p85 (X851 := fun  s => Y  s → X0  s) (X852 := Y) (X853 := X0) (hX85 := fun  s a b => a b) hQ hb (hY  s hy))) hY0
def fw_197_p0 (Q : lf_Z → Prop) (X0 : lf_Z → Prop) (s : lf_Z) : Prop := fw_198 (s.1 95 7) (fun r22 s21 => (lf_R r22 → ((r22 = 32 → (fw_197_p26 X0 Q s21)) ∧ (¬ (r22 = 32) → (fw_198 (s21.1 95 7) (fun r25 s24 => (lf_R r25 → ((r25 ≠ 10 → (fw_198 (s24.1 95 7) (fun r28 s27 => (lf_R r28 → ((0 ≤ r28 → (fw_199 r28 (fun z31 s30 => ((z31 = false → (fw_200 r28 (fun z33 s32 => ((z33 = false → (fw_201 r28 (fun z35 s34 => ((z35 = false → (fw_197_p247 Q r28 3 s34)) ∧ (z35 = true → (fw_197_p247 Q r28 r28 s34)))) s32)) ∧ (z33 = true → (fw_197_p168L Q (lf_up s32.1 95 9 2, lf_up s32.2.1 95 11 0, s32.2.2))))) s30)) ∧ (z31 = true → (fw_197_p85L Q (lf_up (lf_up s30.1 95 9 1) 95 10 0, s30.2.1, s30.2.2))))) s27)) ∧ (¬ (0 ≤ r28) → (Q (lf_up s27.1 95 9 0, s27.2.1, s27.2.2)))))) (lf_up s24.1 95 8 (s24.1 95 7), s24.2.1, s24.2.2))) ∧ (¬ (r25 ≠ 10) → (fw_197_p26 X0 Q s24))))) s21))))) s
theorem cj_197_p0 {X01 X02 X03 : lf_Z → Prop} {Q1 Q2 Q3 : lf_Z → Prop} {s : lf_Z} (hX0 : ∀ (v0 : lf_Z), X01 v0 → X02 v0 → X03 v0) (hQ : ∀ (s : lf_Z), Q1 s → Q2 s → Q3 s) (h1 : fm_197_p0 Q1 X01 s) (h2 : fw_197_p0 Q2 X02 s) : fm_197_p0 Q3 X03 s := by
  unfold fm_197_p0 at h1 ⊢
  unfold fw_197_p0 at h2
  exact cj_198 (fun r22 s21 k1 l1 => ⟨k1.1, ⟨(fun c3 => cj_197_p26 hX0 hQ (k1.2.1 c3) ((l1 k1.1).1 c3)), (fun c3 => cj_198 (fun r25 s24 k5 l5 => ⟨k5.1, ⟨(fun c7 => cj_198 (fun r28 s27 k8 l8 => ⟨k8.1, ⟨(fun c10 => cj_199 (fun z31 s30 k11 l11 => ⟨(fun c12 => cj_200 (fun z33 s32 k13 l13 => ⟨(fun c14 => cj_201 (fun z35 s34 k15 l15 => ⟨(fun c16 => cj_197_p247 hQ (k15.1 c16) (l15.1 c16)), (fun c16 => cj_197_p247 hQ (k15.2 c16) (l15.2 c16))⟩) (k13.1 c14) (l13.1 c14)), (fun c14 => cj_197_p168L hQ (k13.2 c14) (l13.2 c14))⟩) (k11.1 c12) (l11.1 c12)), (fun c12 => cj_197_p85L hQ (k11.2 c12) (l11.2 c12))⟩) (k8.2.1 c10) ((l8 k8.1).1 c10)), (fun c10 => hQ _  (k8.2.2 c10) ((l8 k8.1).2 c10))⟩⟩) (k5.2.1 c7) ((l5 k5.1).1 c7)), (fun c7 => cj_197_p26 hX0 hQ (k5.2.2 c7) ((l5 k5.1).2 c7))⟩⟩) (k1.2.2 c3) ((l1 k1.1).2 c3))⟩⟩) h1 h2
def fw_197_p0L (Q : lf_Z → Prop) (s : lf_Z) : Prop := ∃ X0 : lf_Z → Prop, (∀ (s : lf_Z), X0 s → fw_197_p0 Q X0 s) ∧ X0 s
theorem cj_197_p0L {Q1 Q2 Q3 : lf_Z → Prop} {s : lf_Z} (hQ : ∀ (s : lf_Z), Q1 s → Q2 s → Q3 s) (h1 : fm_197_p0L Q1 s) (h2 : fw_197_p0L Q2 s) : fm_197_p0L Q3 s := by
  intro X0 hX0
  obtain ⟨Y, hY, hY0⟩ := h2
  exact h1 (fun  s => Y  s → X0  s) (fun  s hb hy => hX0  s (cj_197_p0 (X01 := fun  s => Y  s → X0  s) (X02 := Y) (X03 := X0) (hX0 := fun  s a b => a b) hQ hb (hY  s hy))) hY0
def fw_197 (Q : lf_Z → Prop) (s : lf_Z) : Prop := fw_197_p0L Q s
theorem cj_197 {Q1 Q2 Q3 : lf_Z → Prop} {s : lf_Z} (hQ : ∀ (s : lf_Z), Q1 s → Q2 s → Q3 s) (h1 : fm_197 Q1 s) (h2 : fw_197 Q2 s) : fm_197 Q3 s := by
  unfold fm_197 at h1 ⊢
  unfold fw_197 at h2
  exact cj_197_p0L hQ h1 h2
def fw_206 (a0 : Int) (a1 : Int) (Q : Int → lf_Z → Prop) (s : lf_Z) : Prop := lf_R a0 → (lf_R a1 → (Q (lf_lor (lf_lshl a0 8) a1) s))
theorem cj_206 {Q1 Q2 Q3 : Int → lf_Z → Prop} {a0 : Int} {a1 : Int} {s : lf_Z} (hQ : ∀ (r : Int) (s : lf_Z), Q1 r s → Q2 r s → Q3 r s) (h1 : fm_206 a0 a1 Q1 s) (h2 : fw_206 a0 a1 Q2 s) : fm_206 a0 a1 Q3 s := by
  unfold fm_206 at h1 ⊢
  unfold fw_206 at h2
  exact ⟨h1.1, ⟨h1.2.1, hQ _ _  h1.2.2 ((h2 h1.1) h1.2.1)⟩⟩
def fw_205 (a0 : Int) (a1 : Int) (a2 : Int) (Q : Int → lf_Z → Prop) (s : lf_Z) : Prop := fw_206 a0 a1 (fun r22 s21 => (lf_R a2 → (Q (lf_lor (lf_lshl (lf_wl r22) 8) a2) s21))) s
theorem cj_205 {Q1 Q2 Q3 : Int → lf_Z → Prop} {a0 : Int} {a1 : Int} {a2 : Int} {s : lf_Z} (hQ : ∀ (r : Int) (s : lf_Z), Q1 r s → Q2 r s → Q3 r s) (h1 : fm_205 a0 a1 a2 Q1 s) (h2 : fw_205 a0 a1 a2 Q2 s) : fm_205 a0 a1 a2 Q3 s := by
  unfold fm_205 at h1 ⊢
  unfold fw_205 at h2
  exact cj_206 (fun r22 s21 k1 l1 => ⟨k1.1, hQ _ _  k1.2 (l1 k1.1)⟩) h1 h2
def fw_204 (a0 : Int) (a1 : Int) (a2 : Int) (a3 : Int) (Q : Int → lf_Z → Prop) (s : lf_Z) : Prop := fw_205 a0 a1 a2 (fun r22 s21 => (lf_R a3 → (Q (lf_lor (lf_lshl (lf_wl r22) 8) a3) s21))) s
theorem cj_204 {Q1 Q2 Q3 : Int → lf_Z → Prop} {a0 : Int} {a1 : Int} {a2 : Int} {a3 : Int} {s : lf_Z} (hQ : ∀ (r : Int) (s : lf_Z), Q1 r s → Q2 r s → Q3 r s) (h1 : fm_204 a0 a1 a2 a3 Q1 s) (h2 : fw_204 a0 a1 a2 a3 Q2 s) : fm_204 a0 a1 a2 a3 Q3 s := by
  unfold fm_204 at h1 ⊢
  unfold fw_204 at h2
  exact cj_205 (fun r22 s21 k1 l1 => ⟨k1.1, hQ _ _  k1.2 (l1 k1.1)⟩) h1 h2
def fw_207 (a1 : Int) (Q : Bool → lf_Z → Prop) (s : lf_Z) : Prop := lf_R (s.1 95 9) → ((s.1 95 9 ≠ 2 → (Q false s)) ∧ (¬ (s.1 95 9 ≠ 2) → ((lf_wl (s.2.1 95 11) ≠ lf_wl a1 → (Q false s)) ∧ (¬ (lf_wl (s.2.1 95 11) ≠ lf_wl a1) → (Q true s)))))
theorem cj_207 {Q1 Q2 Q3 : Bool → lf_Z → Prop} {a1 : Int} {s : lf_Z} (hQ : ∀ (r : Bool) (s : lf_Z), Q1 r s → Q2 r s → Q3 r s) (h1 : fm_207 a1 Q1 s) (h2 : fw_207 a1 Q2 s) : fm_207 a1 Q3 s := by
  unfold fm_207 at h1 ⊢
  unfold fw_207 at h2
  exact ⟨h1.1, ⟨(fun c2 => hQ _ _  (h1.2.1 c2) ((h2 h1.1).1 c2)), (fun c2 => ⟨(fun c4 => hQ _ _  ((h1.2.2 c2).1 c4) (((h2 h1.1).2 c2).1 c4)), (fun c4 => hQ _ _  ((h1.2.2 c2).2 c4) (((h2 h1.1).2 c2).2 c4))⟩)⟩⟩
def fw_208 (a0 : Int) (a1 : Int) (a2 : Int) (a3 : Int) (a4 : Int) (Q : Int → lf_Z → Prop) (s : lf_Z) : Prop := fw_204 a0 a1 a2 a3 (fun r22 s21 => (lf_R a4 → (Q (lf_lor (lf_lshl (lf_wl r22) 8) a4) s21))) s
theorem cj_208 {Q1 Q2 Q3 : Int → lf_Z → Prop} {a0 : Int} {a1 : Int} {a2 : Int} {a3 : Int} {a4 : Int} {s : lf_Z} (hQ : ∀ (r : Int) (s : lf_Z), Q1 r s → Q2 r s → Q3 r s) (h1 : fm_208 a0 a1 a2 a3 a4 Q1 s) (h2 : fw_208 a0 a1 a2 a3 a4 Q2 s) : fm_208 a0 a1 a2 a3 a4 Q3 s := by
  unfold fm_208 at h1 ⊢
  unfold fw_208 at h2
  exact cj_204 (fun r22 s21 k1 l1 => ⟨k1.1, hQ _ _  k1.2 (l1 k1.1)⟩) h1 h2
def fw_209 (a0 : Int) (a1 : Int) (a2 : Int) (a3 : Int) (a4 : Int) (a5 : Int) (Q : Int → lf_Z → Prop) (s : lf_Z) : Prop := fw_208 a0 a1 a2 a3 a4 (fun r22 s21 => (lf_R a5 → (Q (lf_lor (lf_lshl (lf_wl r22) 8) a5) s21))) s
theorem cj_209 {Q1 Q2 Q3 : Int → lf_Z → Prop} {a0 : Int} {a1 : Int} {a2 : Int} {a3 : Int} {a4 : Int} {a5 : Int} {s : lf_Z} (hQ : ∀ (r : Int) (s : lf_Z), Q1 r s → Q2 r s → Q3 r s) (h1 : fm_209 a0 a1 a2 a3 a4 a5 Q1 s) (h2 : fw_209 a0 a1 a2 a3 a4 a5 Q2 s) : fm_209 a0 a1 a2 a3 a4 a5 Q3 s := by
  unfold fm_209 at h1 ⊢
  unfold fw_209 at h2
  exact cj_208 (fun r22 s21 k1 l1 => ⟨k1.1, hQ _ _  k1.2 (l1 k1.1)⟩) h1 h2
def fw_203 (Q : Int → lf_Z → Prop) (s : lf_Z) : Prop := fw_204 112 97 99 101 (fun r22 s21 => (fw_207 (lf_wl r22) (fun z24 s23 => ((z24 = false → (fw_208 116 97 107 101 115 (fun r26 s25 => (fw_207 (lf_wl r26) (fun z28 s27 => ((z28 = false → (fw_204 112 97 121 115 (fun r30 s29 => (fw_207 (lf_wl r30) (fun z32 s31 => ((z32 = false → (fw_205 115 116 114 (fun r34 s33 => (fw_204 101 116 99 104 (fun r36 s35 => (fw_207 (lf_lor (lf_lshl (lf_wl r34) 32) (lf_wl r36)) (fun z38 s37 => ((z38 = false → (fw_205 119 97 121 (fun r40 s39 => (fw_207 (lf_wl r40) (fun z42 s41 => ((z42 = false → (fw_204 112 97 116 104 (fun r44 s43 => (fw_207 (lf_wl r44) (fun z46 s45 => ((z46 = false → (fw_205 111 110 101 (fun r48 s47 => (fw_207 (lf_wl r48) (fun z50 s49 => ((z50 = false → (fw_208 115 116 114 97 121 (fun r52 s51 => (fw_207 (lf_wl r52) (fun z54 s53 => ((z54 = false → (fw_204 115 101 110 100 (fun r56 s55 => (fw_207 (lf_wl r56) (fun z58 s57 => ((z58 = false → (fw_204 115 104 117 116 (fun r60 s59 => (fw_207 (lf_wl r60) (fun z62 s61 => ((z62 = false → (fw_204 111 112 101 110 (fun r64 s63 => (fw_207 (lf_wl r64) (fun z66 s65 => ((z66 = false → (fw_208 115 112 108 105 116 (fun r68 s67 => (fw_207 (lf_wl r68) (fun z70 s69 => ((z70 = false → (fw_209 109 105 110 117 116 101 (fun r72 s71 => (fw_207 (lf_wl r72) (fun z74 s73 => ((z74 = false → (Q (-1) s73)) ∧ (z74 = true → (Q 12 s73)))) s71)) s69)) ∧ (z70 = true → (Q 11 s69)))) s67)) s65)) ∧ (z66 = true → (Q 10 s65)))) s63)) s61)) ∧ (z62 = true → (Q 9 s61)))) s59)) s57)) ∧ (z58 = true → (Q 8 s57)))) s55)) s53)) ∧ (z54 = true → (Q 7 s53)))) s51)) s49)) ∧ (z50 = true → (Q 6 s49)))) s47)) s45)) ∧ (z46 = true → (Q 5 s45)))) s43)) s41)) ∧ (z42 = true → (Q 4 s41)))) s39)) s37)) ∧ (z38 = true → (Q 3 s37)))) s35)) s33)) s31)) ∧ (z32 = true → (Q 2 s31)))) s29)) s27)) ∧ (z28 = true → (Q 1 s27)))) s25)) s23)) ∧ (z24 = true → (Q 0 s23)))) s21)) s
theorem cj_203 {Q1 Q2 Q3 : Int → lf_Z → Prop} {s : lf_Z} (hQ : ∀ (r : Int) (s : lf_Z), Q1 r s → Q2 r s → Q3 r s) (h1 : fm_203 Q1 s) (h2 : fw_203 Q2 s) : fm_203 Q3 s := by
  unfold fm_203 at h1 ⊢
  unfold fw_203 at h2
  exact cj_204 (fun r22 s21 k1 l1 => cj_207 (fun z24 s23 k2 l2 => ⟨(fun c3 => cj_208 (fun r26 s25 k4 l4 => cj_207 (fun z28 s27 k5 l5 => ⟨(fun c6 => cj_204 (fun r30 s29 k7 l7 => cj_207 (fun z32 s31 k8 l8 => ⟨(fun c9 => cj_205 (fun r34 s33 k10 l10 => cj_204 (fun r36 s35 k11 l11 => cj_207 (fun z38 s37 k12 l12 => ⟨(fun c13 => cj_205 (fun r40 s39 k14 l14 => cj_207 (fun z42 s41 k15 l15 => ⟨(fun c16 => cj_204 (fun r44 s43 k17 l17 => cj_207 (fun z46 s45 k18 l18 => ⟨(fun c19 => cj_205 (fun r48 s47 k20 l20 => cj_207 (fun z50 s49 k21 l21 => ⟨(fun c22 => cj_208 (fun r52 s51 k23 l23 => cj_207 (fun z54 s53 k24 l24 => ⟨(fun c25 => cj_204 (fun r56 s55 k26 l26 => cj_207 (fun z58 s57 k27 l27 => ⟨(fun c28 => cj_204 (fun r60 s59 k29 l29 => cj_207 (fun z62 s61 k30 l30 => ⟨(fun c31 => cj_204 (fun r64 s63 k32 l32 => cj_207 (fun z66 s65 k33 l33 => ⟨(fun c34 => cj_208 (fun r68 s67 k35 l35 => cj_207 (fun z70 s69 k36 l36 => ⟨(fun c37 => cj_209 (fun r72 s71 k38 l38 => cj_207 (fun z74 s73 k39 l39 => ⟨(fun c40 => hQ _ _  (k39.1 c40) (l39.1 c40)), (fun c40 => hQ _ _  (k39.2 c40) (l39.2 c40))⟩) k38 l38) (k36.1 c37) (l36.1 c37)), (fun c37 => hQ _ _  (k36.2 c37) (l36.2 c37))⟩) k35 l35) (k33.1 c34) (l33.1 c34)), (fun c34 => hQ _ _  (k33.2 c34) (l33.2 c34))⟩) k32 l32) (k30.1 c31) (l30.1 c31)), (fun c31 => hQ _ _  (k30.2 c31) (l30.2 c31))⟩) k29 l29) (k27.1 c28) (l27.1 c28)), (fun c28 => hQ _ _  (k27.2 c28) (l27.2 c28))⟩) k26 l26) (k24.1 c25) (l24.1 c25)), (fun c25 => hQ _ _  (k24.2 c25) (l24.2 c25))⟩) k23 l23) (k21.1 c22) (l21.1 c22)), (fun c22 => hQ _ _  (k21.2 c22) (l21.2 c22))⟩) k20 l20) (k18.1 c19) (l18.1 c19)), (fun c19 => hQ _ _  (k18.2 c19) (l18.2 c19))⟩) k17 l17) (k15.1 c16) (l15.1 c16)), (fun c16 => hQ _ _  (k15.2 c16) (l15.2 c16))⟩) k14 l14) (k12.1 c13) (l12.1 c13)), (fun c13 => hQ _ _  (k12.2 c13) (l12.2 c13))⟩) k11 l11) k10 l10) (k8.1 c9) (l8.1 c9)), (fun c9 => hQ _ _  (k8.2 c9) (l8.2 c9))⟩) k7 l7) (k5.1 c6) (l5.1 c6)), (fun c6 => hQ _ _  (k5.2 c6) (l5.2 c6))⟩) k4 l4) (k2.1 c3) (l2.1 c3)), (fun c3 => hQ _ _  (k2.2 c3) (l2.2 c3))⟩) k1 l1) h1 h2
def fw_230 (Q : Int → lf_Z → Prop) (s : lf_Z) : Prop := lf_R (s.1 95 9) → ((s.1 95 9 = 2 → (fw_204 115 105 122 101 (fun r23 s22 => ((lf_wl (s.2.1 95 11) ≠ lf_wl r23 → (fw_208 112 108 97 99 101 (fun r25 s24 => ((lf_wl (s22.2.1 95 11) ≠ lf_wl r25 → (fw_204 107 105 110 100 (fun r27 s26 => ((lf_wl (s24.2.1 95 11) ≠ lf_wl r27 → (fw_204 104 101 114 101 (fun r29 s28 => ((lf_wl (s26.2.1 95 11) ≠ lf_wl r29 → (fw_209 98 101 104 105 110 100 (fun r31 s30 => ((lf_wl (s28.2.1 95 11) ≠ lf_wl r31 → (fw_208 97 104 101 97 100 (fun r33 s32 => ((lf_wl (s30.2.1 95 11) ≠ lf_wl r33 → (fw_208 115 116 111 111 100 (fun r35 s34 => ((lf_wl (s32.2.1 95 11) ≠ lf_wl r35 → (fw_209 98 117 99 107 101 116 (fun r37 s36 => ((lf_wl (s34.2.1 95 11) ≠ lf_wl r37 → (fw_204 98 97 99 107 (fun r39 s38 => ((lf_wl (s36.2.1 95 11) ≠ lf_wl r39 → (fw_205 119 97 121 (fun r41 s40 => ((lf_wl (s38.2.1 95 11) ≠ lf_wl r41 → (fw_204 100 111 110 101 (fun r43 s42 => ((lf_wl (s40.2.1 95 11) ≠ lf_wl r43 → (Q (-1) s42)) ∧ (¬ (lf_wl (s40.2.1 95 11) ≠ lf_wl r43) → (Q 10 s42)))) s40)) ∧ (¬ (lf_wl (s38.2.1 95 11) ≠ lf_wl r41) → (Q 9 s40)))) s38)) ∧ (¬ (lf_wl (s36.2.1 95 11) ≠ lf_wl r39) → (Q 8 s38)))) s36)) ∧ (¬ (lf_wl (s34.2.1 95 11) ≠ lf_wl r37) → (Q 7 s36)))) s34)) ∧ (¬ (lf_wl (s32.2.1 95 11) ≠ lf_wl r35) → (Q 6 s34)))) s32)) ∧ (¬ (lf_wl (s30.2.1 95 11) ≠ lf_wl r33) → (Q 5 s32)))) s30)) ∧ (¬ (lf_wl (s28.2.1 95 11) ≠ lf_wl r31) → (Q 4 s30)))) s28)) ∧ (¬ (lf_wl (s26.2.1 95 11) ≠ lf_wl r29) → (Q 3 s28)))) s26)) ∧ (¬ (lf_wl (s24.2.1 95 11) ≠ lf_wl r27) → (Q 2 s26)))) s24)) ∧ (¬ (lf_wl (s22.2.1 95 11) ≠ lf_wl r25) → (Q 1 s24)))) s22)) ∧ (¬ (lf_wl (s.2.1 95 11) ≠ lf_wl r23) → (Q 0 s22)))) s)) ∧ (¬ (s.1 95 9 = 2) → (Q (-1) s)))
theorem cj_230 {Q1 Q2 Q3 : Int → lf_Z → Prop} {s : lf_Z} (hQ : ∀ (r : Int) (s : lf_Z), Q1 r s → Q2 r s → Q3 r s) (h1 : fm_230 Q1 s) (h2 : fw_230 Q2 s) : fm_230 Q3 s := by
  unfold fm_230 at h1 ⊢
  unfold fw_230 at h2
  exact ⟨h1.1, ⟨(fun c2 => cj_204 (fun r23 s22 k3 l3 => ⟨(fun c4 => cj_208 (fun r25 s24 k5 l5 => ⟨(fun c6 => cj_204 (fun r27 s26 k7 l7 => ⟨(fun c8 => cj_204 (fun r29 s28 k9 l9 => ⟨(fun c10 => cj_209 (fun r31 s30 k11 l11 => ⟨(fun c12 => cj_208 (fun r33 s32 k13 l13 => ⟨(fun c14 => cj_208 (fun r35 s34 k15 l15 => ⟨(fun c16 => cj_209 (fun r37 s36 k17 l17 => ⟨(fun c18 => cj_204 (fun r39 s38 k19 l19 => ⟨(fun c20 => cj_205 (fun r41 s40 k21 l21 => ⟨(fun c22 => cj_204 (fun r43 s42 k23 l23 => ⟨(fun c24 => hQ _ _  (k23.1 c24) (l23.1 c24)), (fun c24 => hQ _ _  (k23.2 c24) (l23.2 c24))⟩) (k21.1 c22) (l21.1 c22)), (fun c22 => hQ _ _  (k21.2 c22) (l21.2 c22))⟩) (k19.1 c20) (l19.1 c20)), (fun c20 => hQ _ _  (k19.2 c20) (l19.2 c20))⟩) (k17.1 c18) (l17.1 c18)), (fun c18 => hQ _ _  (k17.2 c18) (l17.2 c18))⟩) (k15.1 c16) (l15.1 c16)), (fun c16 => hQ _ _  (k15.2 c16) (l15.2 c16))⟩) (k13.1 c14) (l13.1 c14)), (fun c14 => hQ _ _  (k13.2 c14) (l13.2 c14))⟩) (k11.1 c12) (l11.1 c12)), (fun c12 => hQ _ _  (k11.2 c12) (l11.2 c12))⟩) (k9.1 c10) (l9.1 c10)), (fun c10 => hQ _ _  (k9.2 c10) (l9.2 c10))⟩) (k7.1 c8) (l7.1 c8)), (fun c8 => hQ _ _  (k7.2 c8) (l7.2 c8))⟩) (k5.1 c6) (l5.1 c6)), (fun c6 => hQ _ _  (k5.2 c6) (l5.2 c6))⟩) (k3.1 c4) (l3.1 c4)), (fun c4 => hQ _ _  (k3.2 c4) (l3.2 c4))⟩) (h1.2.1 c2) ((h2 h1.1).1 c2)), (fun c2 => hQ _ _  (h1.2.2 c2) ((h2 h1.1).2 c2))⟩⟩
def fw_232 (Q : Int → lf_Z → Prop) (s : lf_Z) : Prop := lf_R (s.1 95 9) → ((s.1 95 9 ≠ 2 → (Q (-1) s)) ∧ (¬ (s.1 95 9 ≠ 2) → (lf_R ((s.1 95 7) - (s.1 95 8)) → (((s.1 95 7) - (s.1 95 8) ≠ 1 → (Q (-1) s)) ∧ (¬ ((s.1 95 7) - (s.1 95 8) ≠ 1) → (fw_198 (s.1 95 8) (fun r24 s23 => (fw_183 r24 97 122 (fun z26 s25 => ((z26 = false → (Q (-1) s25)) ∧ (z26 = true → (fw_198 (s25.1 95 8) (fun r28 s27 => (Q (r28 - 97) s27)) s25)))) s23)) s))))))
theorem cj_232 {Q1 Q2 Q3 : Int → lf_Z → Prop} {s : lf_Z} (hQ : ∀ (r : Int) (s : lf_Z), Q1 r s → Q2 r s → Q3 r s) (h1 : fm_232 Q1 s) (h2 : fw_232 Q2 s) : fm_232 Q3 s := by
  unfold fm_232 at h1 ⊢
  unfold fw_232 at h2
  exact ⟨h1.1, ⟨(fun c2 => hQ _ _  (h1.2.1 c2) ((h2 h1.1).1 c2)), (fun c2 => ⟨(h1.2.2 c2).1, ⟨(fun c5 => hQ _ _  ((h1.2.2 c2).2.1 c5) ((((h2 h1.1).2 c2) (h1.2.2 c2).1).1 c5)), (fun c5 => cj_198 (fun r24 s23 k7 l7 => cj_183 (fun z26 s25 k8 l8 => ⟨(fun c9 => hQ _ _  (k8.1 c9) (l8.1 c9)), (fun c9 => cj_198 (fun r28 s27 k11 l11 => hQ _ _  k11 l11) (k8.2 c9) (l8.2 c9))⟩) k7 l7) ((h1.2.2 c2).2.2 c5) ((((h2 h1.1).2 c2) (h1.2.2 c2).1).2 c5))⟩⟩)⟩⟩
def fw_225 (a1 : Int) (a2 : Int) (Q : lf_Z → Prop) (s : lf_Z) : Prop := (0 ≤ ((s.1 95 12) + 97) + (2 * (s.1 95 13)) ∧ ((s.1 95 12) + 97) + (2 * (s.1 95 13)) < 2820) → ((0 ≤ (((s.1 95 12) + 97) + (2 * (s.1 95 13))) + 1 ∧ (((s.1 95 12) + 97) + (2 * (s.1 95 13))) + 1 < 2820) → (Q (lf_up (lf_up (lf_up s.1 98 (((s.1 95 12) + 97) + (2 * (s.1 95 13))) a1) 98 ((((s.1 95 12) + 97) + (2 * (s.1 95 13))) + 1) a2) 95 13 ((s.1 95 13) + 1), s.2.1, s.2.2)))
theorem cj_225 {Q1 Q2 Q3 : lf_Z → Prop} {a1 : Int} {a2 : Int} {s : lf_Z} (hQ : ∀ (s : lf_Z), Q1 s → Q2 s → Q3 s) (h1 : fm_225 a1 a2 Q1 s) (h2 : fw_225 a1 a2 Q2 s) : fm_225 a1 a2 Q3 s := by
  unfold fm_225 at h1 ⊢
  unfold fw_225 at h2
  exact ⟨h1.1, ⟨h1.2.1, hQ _  h1.2.2 ((h2 h1.1) h1.2.1)⟩⟩
def fw_222 (a0 : Int) (Q : Int → lf_Z → Prop) (s : lf_Z) : Prop := lf_R a0 → ((a0 < 40 → ((a0 ≠ 22 → ((a0 ≠ 21 → ((a0 ≠ 20 → ((a0 < 10 → ((a0 ≠ 3 → ((a0 < 6 → (Q 5 s)) ∧ (¬ (a0 < 6) → (Q 6 s)))) ∧ (¬ (a0 ≠ 3) → (Q 7 s)))) ∧ (¬ (a0 < 10) → (Q 4 s)))) ∧ (¬ (a0 ≠ 20) → (Q 3 s)))) ∧ (¬ (a0 ≠ 21) → (Q 2 s)))) ∧ (¬ (a0 ≠ 22) → (Q 1 s)))) ∧ (¬ (a0 < 40) → (Q 0 s)))
theorem cj_222 {Q1 Q2 Q3 : Int → lf_Z → Prop} {a0 : Int} {s : lf_Z} (hQ : ∀ (r : Int) (s : lf_Z), Q1 r s → Q2 r s → Q3 r s) (h1 : fm_222 a0 Q1 s) (h2 : fw_222 a0 Q2 s) : fm_222 a0 Q3 s := by
  unfold fm_222 at h1 ⊢
  unfold fw_222 at h2
  exact ⟨h1.1, ⟨(fun c2 => ⟨(fun c3 => ⟨(fun c4 => ⟨(fun c5 => ⟨(fun c6 => ⟨(fun c7 => ⟨(fun c8 => hQ _ _  (((((((h1.2.1 c2).1 c3).1 c4).1 c5).1 c6).1 c7).1 c8) ((((((((h2 h1.1).1 c2).1 c3).1 c4).1 c5).1 c6).1 c7).1 c8)), (fun c8 => hQ _ _  (((((((h1.2.1 c2).1 c3).1 c4).1 c5).1 c6).1 c7).2 c8) ((((((((h2 h1.1).1 c2).1 c3).1 c4).1 c5).1 c6).1 c7).2 c8))⟩), (fun c7 => hQ _ _  ((((((h1.2.1 c2).1 c3).1 c4).1 c5).1 c6).2 c7) (((((((h2 h1.1).1 c2).1 c3).1 c4).1 c5).1 c6).2 c7))⟩), (fun c6 => hQ _ _  (((((h1.2.1 c2).1 c3).1 c4).1 c5).2 c6) ((((((h2 h1.1).1 c2).1 c3).1 c4).1 c5).2 c6))⟩), (fun c5 => hQ _ _  ((((h1.2.1 c2).1 c3).1 c4).2 c5) (((((h2 h1.1).1 c2).1 c3).1 c4).2 c5))⟩), (fun c4 => hQ _ _  (((h1.2.1 c2).1 c3).2 c4) ((((h2 h1.1).1 c2).1 c3).2 c4))⟩), (fun c3 => hQ _ _  ((h1.2.1 c2).2 c3) (((h2 h1.1).1 c2).2 c3))⟩), (fun c2 => hQ _ _  (h1.2.2 c2) ((h2 h1.1).2 c2))⟩⟩
def fw_224_p76 (X0 : lf_Z → Prop) (Q : lf_Z → Prop) (x1 : Int) (s : lf_Z) : Prop := X0 (lf_up s.1 95 20 ((s.1 95 20) - 1), s.2.1, s.2.2)
theorem cj_224_p76 {X01 X02 X03 : lf_Z → Prop} {Q1 Q2 Q3 : lf_Z → Prop} {x1 : Int} {s : lf_Z} (hX0 : ∀ (v0 : lf_Z), X01 v0 → X02 v0 → X03 v0) (hQ : ∀ (s : lf_Z), Q1 s → Q2 s → Q3 s) (h1 : fm_224_p76 X01 Q1 x1 s) (h2 : fw_224_p76 X02 Q2 x1 s) : fm_224_p76 X03 Q3 x1 s := by
  unfold fm_224_p76 at h1 ⊢
  unfold fw_224_p76 at h2
  exact hX0 _  h1 h2
def fw_224_p0 (Q : lf_Z → Prop) (x1 : Int) (X0 : lf_Z → Prop) (s : lf_Z) : Prop := lf_R (s.1 95 19) → ((s.1 95 19 ≤ 0 → (Q s)) ∧ (¬ (s.1 95 19 ≤ 0) → ((0 ≤ (s.1 95 19) - 1 ∧ (s.1 95 19) - 1 < 160) → (fw_222 (s.1 100 ((s.1 95 19) - 1)) (fun r24 s23 => (lf_R r24 → (lf_R x1 → ((r24 < x1 → (Q s23)) ∧ (¬ (r24 < x1) → ((0 ≤ (s23.1 95 19) - 1 ∧ (s23.1 95 19) - 1 < 160) → (fw_225 (s23.1 100 ((s23.1 95 19) - 1)) 0 (fun s28 => ((0 ≤ s28.1 95 19 ∧ s28.1 95 19 < 160) → (lf_R (s28.1 100 (s28.1 95 19)) → ((s28.1 100 (s28.1 95 19) = 3 → (fw_224_p76 X0 Q x1 s28)) ∧ (¬ (s28.1 100 (s28.1 95 19) = 3) → ((s28.1 100 (s28.1 95 19) ≠ 20 → (X0 s28)) ∧ (¬ (s28.1 100 (s28.1 95 19) ≠ 20) → (fw_224_p76 X0 Q x1 s28)))))))) (lf_up s23.1 95 19 ((s23.1 95 19) - 1), s23.2.1, s23.2.2)))))))) s))))
theorem cj_224_p0 {X01 X02 X03 : lf_Z → Prop} {Q1 Q2 Q3 : lf_Z → Prop} {x1 : Int} {s : lf_Z} (hX0 : ∀ (v0 : lf_Z), X01 v0 → X02 v0 → X03 v0) (hQ : ∀ (s : lf_Z), Q1 s → Q2 s → Q3 s) (h1 : fm_224_p0 Q1 x1 X01 s) (h2 : fw_224_p0 Q2 x1 X02 s) : fm_224_p0 Q3 x1 X03 s := by
  unfold fm_224_p0 at h1 ⊢
  unfold fw_224_p0 at h2
  exact ⟨h1.1, ⟨(fun c2 => hQ _  (h1.2.1 c2) ((h2 h1.1).1 c2)), (fun c2 => ⟨(h1.2.2 c2).1, cj_222 (fun r24 s23 k5 l5 => ⟨k5.1, ⟨k5.2.1, ⟨(fun c8 => hQ _  (k5.2.2.1 c8) (((l5 k5.1) k5.2.1).1 c8)), (fun c8 => ⟨(k5.2.2.2 c8).1, cj_225 (fun s28 k11 l11 => ⟨k11.1, ⟨k11.2.1, ⟨(fun c14 => cj_224_p76 hX0 hQ (k11.2.2.1 c14) (((l11 k11.1) k11.2.1).1 c14)), (fun c14 => ⟨(fun c16 => hX0 _  ((k11.2.2.2 c14).1 c16) ((((l11 k11.1) k11.2.1).2 c14).1 c16)), (fun c16 => cj_224_p76 hX0 hQ ((k11.2.2.2 c14).2 c16) ((((l11 k11.1) k11.2.1).2 c14).2 c16))⟩)⟩⟩⟩) (k5.2.2.2 c8).2 ((((l5 k5.1) k5.2.1).2 c8) (k5.2.2.2 c8).1)⟩)⟩⟩⟩) (h1.2.2 c2).2 (((h2 h1.1).2 c2) (h1.2.2 c2).1)⟩)⟩⟩
def fw_224_p0L (Q : lf_Z → Prop) (x1 : Int) (s : lf_Z) : Prop := ∃ X0 : lf_Z → Prop, (∀ (s : lf_Z), X0 s → fw_224_p0 Q x1 X0 s) ∧ X0 s
theorem cj_224_p0L {Q1 Q2 Q3 : lf_Z → Prop} {x1 : Int} {s : lf_Z} (hQ : ∀ (s : lf_Z), Q1 s → Q2 s → Q3 s) (h1 : fm_224_p0L Q1 x1 s) (h2 : fw_224_p0L Q2 x1 s) : fm_224_p0L Q3 x1 s := by
  intro X0 hX0
  obtain ⟨Y, hY, hY0⟩ := h2
  exact h1 (fun  s => Y  s → X0  s) (fun  s hb hy => hX0  s (cj_224_p0 (X01 := fun  s => Y  s → X0  s) (X02 := Y) (X03 := X0) (hX0 := fun  s a b => a b) hQ hb (hY  s hy))) hY0
def fw_224 (a1 : Int) (Q : lf_Z → Prop) (s : lf_Z) : Prop := fw_224_p0L Q a1 s
theorem cj_224 {Q1 Q2 Q3 : lf_Z → Prop} {a1 : Int} {s : lf_Z} (hQ : ∀ (s : lf_Z), Q1 s → Q2 s → Q3 s) (h1 : fm_224 a1 Q1 s) (h2 : fw_224 a1 Q2 s) : fm_224 a1 Q3 s := by
  unfold fm_224 at h1 ⊢
  unfold fw_224 at h2
  exact cj_224_p0L hQ h1 h2
def fw_233 (a1 : Int) (a2 : Int) (Q : lf_Z → Prop) (s : lf_Z) : Prop := fw_225 a1 a2 (fun s21 => (fw_197 (fun s22 => (fw_224 7 (fun s23 => (Q s23)) (lf_up s22.1 95 23 1, s22.2.1, s22.2.2))) s21)) s
theorem cj_233 {Q1 Q2 Q3 : lf_Z → Prop} {a1 : Int} {a2 : Int} {s : lf_Z} (hQ : ∀ (s : lf_Z), Q1 s → Q2 s → Q3 s) (h1 : fm_233 a1 a2 Q1 s) (h2 : fw_233 a1 a2 Q2 s) : fm_233 a1 a2 Q3 s := by
  unfold fm_233 at h1 ⊢
  unfold fw_233 at h2
  exact cj_225 (fun s21 k1 l1 => cj_197 (fun s22 k2 l2 => cj_224 (fun s23 k3 l3 => hQ _  k3 l3) k2 l2) k1 l1) h1 h2
def fw_220_p7 (Q : Int → lf_Z → Prop) (X7 : Int → lf_Z → Prop) (x1 : Int) (s : lf_Z) : Prop := lf_R x1 → ((x1 < 0 → (Q x1 s)) ∧ (¬ (x1 < 0) → ((0 ≤ x1 ∧ x1 < 160) → (lf_R (s.1 100 x1) → ((40 ≤ s.1 100 x1 → (Q x1 s)) ∧ (¬ (40 ≤ s.1 100 x1) → (X7 (x1 + (-1)) s)))))))
theorem cj_220_p7 {X71 X72 X73 : Int → lf_Z → Prop} {Q1 Q2 Q3 : Int → lf_Z → Prop} {x1 : Int} {s : lf_Z} (hX7 : ∀ (v0 : Int) (v1 : lf_Z), X71 v0 v1 → X72 v0 v1 → X73 v0 v1) (hQ : ∀ (r : Int) (s : lf_Z), Q1 r s → Q2 r s → Q3 r s) (h1 : fm_220_p7 Q1 X71 x1 s) (h2 : fw_220_p7 Q2 X72 x1 s) : fm_220_p7 Q3 X73 x1 s := by
  unfold fm_220_p7 at h1 ⊢
  unfold fw_220_p7 at h2
  exact ⟨h1.1, ⟨(fun c2 => hQ _ _  (h1.2.1 c2) ((h2 h1.1).1 c2)), (fun c2 => ⟨(h1.2.2 c2).1, ⟨(h1.2.2 c2).2.1, ⟨(fun c6 => hQ _ _  ((h1.2.2 c2).2.2.1 c6) (((((h2 h1.1).2 c2) (h1.2.2 c2).1) (h1.2.2 c2).2.1).1 c6)), (fun c6 => hX7 _ _  ((h1.2.2 c2).2.2.2 c6) (((((h2 h1.1).2 c2) (h1.2.2 c2).1) (h1.2.2 c2).2.1).2 c6))⟩⟩⟩)⟩⟩
def fw_220_p7L (Q : Int → lf_Z → Prop) (x1 : Int) (s : lf_Z) : Prop := ∃ X7 : Int → lf_Z → Prop, (∀ (x1 : Int) (s : lf_Z), X7 x1 s → fw_220_p7 Q X7 x1 s) ∧ X7 x1 s
theorem cj_220_p7L {Q1 Q2 Q3 : Int → lf_Z → Prop} {x1 : Int} {s : lf_Z} (hQ : ∀ (r : Int) (s : lf_Z), Q1 r s → Q2 r s → Q3 r s) (h1 : fm_220_p7L Q1 x1 s) (h2 : fw_220_p7L Q2 x1 s) : fm_220_p7L Q3 x1 s := by
  intro X0 hX0
  obtain ⟨Y, hY, hY0⟩ := h2
  exact h1 (fun v0 s => Y v0 s → X0 v0 s) (fun v0 s hb hy => hX0 v0 s (cj_220_p7 (X71 := fun v0 s => Y v0 s → X0 v0 s) (X72 := Y) (X73 := X0) (hX7 := fun v0 s a b => a b) hQ hb (hY v0 s hy))) hY0
def fw_220 (Q : Int → lf_Z → Prop) (s : lf_Z) : Prop := fw_220_p7L Q ((s.1 95 19) - 1) s
theorem cj_220 {Q1 Q2 Q3 : Int → lf_Z → Prop} {s : lf_Z} (hQ : ∀ (r : Int) (s : lf_Z), Q1 r s → Q2 r s → Q3 r s) (h1 : fm_220 Q1 s) (h2 : fw_220 Q2 s) : fm_220 Q3 s := by
  unfold fm_220 at h1 ⊢
  unfold fw_220 at h2
  exact cj_220_p7L hQ h1 h2
def fw_219 (Q : Int → lf_Z → Prop) (s : lf_Z) : Prop := fw_220 (fun r22 s21 => (lf_R r22 → ((0 ≤ r22 → (fw_220 (fun r25 s24 => ((0 ≤ r25 ∧ r25 < 160) → (Q (s24.1 100 r25) s24))) s21)) ∧ (¬ (0 ≤ r22) → (Q (-1) s21))))) s
theorem cj_219 {Q1 Q2 Q3 : Int → lf_Z → Prop} {s : lf_Z} (hQ : ∀ (r : Int) (s : lf_Z), Q1 r s → Q2 r s → Q3 r s) (h1 : fm_219 Q1 s) (h2 : fw_219 Q2 s) : fm_219 Q3 s := by
  unfold fm_219 at h1 ⊢
  unfold fw_219 at h2
  exact cj_220 (fun r22 s21 k1 l1 => ⟨k1.1, ⟨(fun c3 => cj_220 (fun r25 s24 k4 l4 => ⟨k4.1, hQ _ _  k4.2 (l4 k4.1)⟩) (k1.2.1 c3) ((l1 k1.1).1 c3)), (fun c3 => hQ _ _  (k1.2.2 c3) ((l1 k1.1).2 c3))⟩⟩) h1 h2
def fw_235 (Q : Bool → lf_Z → Prop) (s : lf_Z) : Prop := fw_219 (fun r22 s21 => (lf_R r22 → ((r22 ≠ 41 → (Q false s21)) ∧ (¬ (r22 ≠ 41) → ((0 ≤ (s21.1 95 19) - 1 ∧ (s21.1 95 19) - 1 < 160) → (lf_R (s21.1 100 ((s21.1 95 19) - 1)) → ((s21.1 100 ((s21.1 95 19) - 1) = 41 → (Q true s21)) ∧ (¬ (s21.1 100 ((s21.1 95 19) - 1) = 41) → (fw_222 (s21.1 100 ((s21.1 95 19) - 1)) (fun r27 s26 => (fw_183 r27 1 3 (fun z29 s28 => ((z29 = false → (Q false s28)) ∧ (z29 = true → (Q true s28)))) s26)) s21))))))))) s
theorem cj_235 {Q1 Q2 Q3 : Bool → lf_Z → Prop} {s : lf_Z} (hQ : ∀ (r : Bool) (s : lf_Z), Q1 r s → Q2 r s → Q3 r s) (h1 : fm_235 Q1 s) (h2 : fw_235 Q2 s) : fm_235 Q3 s := by
  unfold fm_235 at h1 ⊢
  unfold fw_235 at h2
  exact cj_219 (fun r22 s21 k1 l1 => ⟨k1.1, ⟨(fun c3 => hQ _ _  (k1.2.1 c3) ((l1 k1.1).1 c3)), (fun c3 => ⟨(k1.2.2 c3).1, ⟨(k1.2.2 c3).2.1, ⟨(fun c7 => hQ _ _  ((k1.2.2 c3).2.2.1 c7) (((((l1 k1.1).2 c3) (k1.2.2 c3).1) (k1.2.2 c3).2.1).1 c7)), (fun c7 => cj_222 (fun r27 s26 k9 l9 => cj_183 (fun z29 s28 k10 l10 => ⟨(fun c11 => hQ _ _  (k10.1 c11) (l10.1 c11)), (fun c11 => hQ _ _  (k10.2 c11) (l10.2 c11))⟩) k9 l9) ((k1.2.2 c3).2.2.2 c7) (((((l1 k1.1).2 c3) (k1.2.2 c3).1) (k1.2.2 c3).2.1).2 c7))⟩⟩⟩)⟩⟩) h1 h2
def fw_234 (a1 : Int) (Q : Int → lf_Z → Prop) (s : lf_Z) : Prop := lf_R (s.1 95 20) → ((s.1 95 20 ≠ 8 → ((0 ≤ s.1 95 19 ∧ s.1 95 19 < 160) → (fw_197 (fun s23 => (lf_R a1 → ((a1 = 44 → (fw_232 (fun r26 s25 => (lf_R r26 → ((0 ≤ r26 → (fw_232 (fun r29 s28 => ((0 ≤ s25.1 95 21 ∧ s25.1 95 21 < 10) → (fw_197 (fun s31 => (fw_206 98 101 (fun r33 s32 => (fw_207 (lf_wl r33) (fun z35 s34 => ((z35 = true → (fw_197 (fun s36 => (Q 0 s36)) s34)) ∧ (z35 = false → (Q 1 s34)))) s32)) s31)) (lf_up (lf_up s28.1 101 (s25.1 95 21) r29) 95 21 ((s28.1 95 21) + 1), s28.2.1, s28.2.2)))) s25)) ∧ (¬ (0 ≤ r26) → (Q 1 s25))))) s23)) ∧ (¬ (a1 = 44) → (Q 0 s23))))) (lf_up (lf_up (lf_up s.1 95 20 ((s.1 95 20) + 1)) 100 (s.1 95 19) a1) 95 19 ((s.1 95 19) + 1), s.2.1, s.2.2)))) ∧ (¬ (s.1 95 20 ≠ 8) → (Q 3 s)))
theorem cj_234 {Q1 Q2 Q3 : Int → lf_Z → Prop} {a1 : Int} {s : lf_Z} (hQ : ∀ (r : Int) (s : lf_Z), Q1 r s → Q2 r s → Q3 r s) (h1 : fm_234 a1 Q1 s) (h2 : fw_234 a1 Q2 s) : fm_234 a1 Q3 s := by
  unfold fm_234 at h1 ⊢
  unfold fw_234 at h2
  exact ⟨h1.1, ⟨(fun c2 => ⟨(h1.2.1 c2).1, cj_197 (fun s23 k4 l4 => ⟨k4.1, ⟨(fun c6 => cj_232 (fun r26 s25 k7 l7 => ⟨k7.1, ⟨(fun c9 => cj_232 (fun r29 s28 k10 l10 => ⟨k10.1, cj_197 (fun s31 k12 l12 => cj_206 (fun r33 s32 k13 l13 => cj_207 (fun z35 s34 k14 l14 => ⟨(fun c15 => cj_197 (fun s36 k16 l16 => hQ _ _  k16 l16) (k14.1 c15) (l14.1 c15)), (fun c15 => hQ _ _  (k14.2 c15) (l14.2 c15))⟩) k13 l13) k12 l12) k10.2 (l10 k10.1)⟩) (k7.2.1 c9) ((l7 k7.1).1 c9)), (fun c9 => hQ _ _  (k7.2.2 c9) ((l7 k7.1).2 c9))⟩⟩) (k4.2.1 c6) ((l4 k4.1).1 c6)), (fun c6 => hQ _ _  (k4.2.2 c6) ((l4 k4.1).2 c6))⟩⟩) (h1.2.1 c2).2 (((h2 h1.1).1 c2) (h1.2.1 c2).1)⟩), (fun c2 => hQ _ _  (h1.2.2 c2) ((h2 h1.1).2 c2))⟩⟩
def fw_231 (a1 : Int) (Q : Bool → lf_Z → Prop) (s : lf_Z) : Prop := lf_R a1 → ((a1 < 4 → (Q true s)) ∧ (¬ (a1 < 4) → ((a1 ≠ 4 → ((a1 ≠ 10 → (lf_R (s.1 95 14) → ((s.1 95 14 ≠ 1 → (Q false s)) ∧ (¬ (s.1 95 14 ≠ 1) → (Q true s))))) ∧ (¬ (a1 ≠ 10) → (lf_R (s.1 95 14) → ((s.1 95 14 ≠ 2 → (Q false s)) ∧ (¬ (s.1 95 14 ≠ 2) → (Q true s))))))) ∧ (¬ (a1 ≠ 4) → (lf_R (s.1 95 14) → ((s.1 95 14 ≠ 0 → (Q false s)) ∧ (¬ (s.1 95 14 ≠ 0) → (Q true s))))))))
theorem cj_231 {Q1 Q2 Q3 : Bool → lf_Z → Prop} {a1 : Int} {s : lf_Z} (hQ : ∀ (r : Bool) (s : lf_Z), Q1 r s → Q2 r s → Q3 r s) (h1 : fm_231 a1 Q1 s) (h2 : fw_231 a1 Q2 s) : fm_231 a1 Q3 s := by
  unfold fm_231 at h1 ⊢
  unfold fw_231 at h2
  exact ⟨h1.1, ⟨(fun c2 => hQ _ _  (h1.2.1 c2) ((h2 h1.1).1 c2)), (fun c2 => ⟨(fun c4 => ⟨(fun c5 => ⟨(((h1.2.2 c2).1 c4).1 c5).1, ⟨(fun c7 => hQ _ _  ((((h1.2.2 c2).1 c4).1 c5).2.1 c7) ((((((h2 h1.1).2 c2).1 c4).1 c5) (((h1.2.2 c2).1 c4).1 c5).1).1 c7)), (fun c7 => hQ _ _  ((((h1.2.2 c2).1 c4).1 c5).2.2 c7) ((((((h2 h1.1).2 c2).1 c4).1 c5) (((h1.2.2 c2).1 c4).1 c5).1).2 c7))⟩⟩), (fun c5 => ⟨(((h1.2.2 c2).1 c4).2 c5).1, ⟨(fun c11 => hQ _ _  ((((h1.2.2 c2).1 c4).2 c5).2.1 c11) ((((((h2 h1.1).2 c2).1 c4).2 c5) (((h1.2.2 c2).1 c4).2 c5).1).1 c11)), (fun c11 => hQ _ _  ((((h1.2.2 c2).1 c4).2 c5).2.2 c11) ((((((h2 h1.1).2 c2).1 c4).2 c5) (((h1.2.2 c2).1 c4).2 c5).1).2 c11))⟩⟩)⟩), (fun c4 => ⟨((h1.2.2 c2).2 c4).1, ⟨(fun c15 => hQ _ _  (((h1.2.2 c2).2 c4).2.1 c15) (((((h2 h1.1).2 c2).2 c4) ((h1.2.2 c2).2 c4).1).1 c15)), (fun c15 => hQ _ _  (((h1.2.2 c2).2 c4).2.2 c15) (((((h2 h1.1).2 c2).2 c4) ((h1.2.2 c2).2 c4).1).2 c15))⟩⟩)⟩)⟩⟩
def fw_229_p79 (Q : Int → lf_Z → Prop) (x1 : Int) (s : lf_Z) : Prop := lf_R (s.1 95 9) → ((s.1 95 9 ≠ 1 → (lf_R x1 → ((x1 < 0 → (fw_232 (fun r32 s31 => ((0 ≤ r32 ∧ r32 < 26) → (fw_233 31 (s31.1 103 r32) (fun s34 => (Q 0 s34)) s31))) s)) ∧ (¬ (x1 < 0) → (fw_233 1 x1 (fun s35 => (Q 0 s35)) s))))) ∧ (¬ (s.1 95 9 ≠ 1) → (fw_233 0 (s.1 95 10) (fun s36 => (Q 0 s36)) s)))
theorem cj_229_p79 {Q1 Q2 Q3 : Int → lf_Z → Prop} {x1 : Int} {s : lf_Z} (hQ : ∀ (r : Int) (s : lf_Z), Q1 r s → Q2 r s → Q3 r s) (h1 : fm_229_p79 Q1 x1 s) (h2 : fw_229_p79 Q2 x1 s) : fm_229_p79 Q3 x1 s := by
  unfold fm_229_p79 at h1 ⊢
  unfold fw_229_p79 at h2
  exact ⟨h1.1, ⟨(fun c2 => ⟨(h1.2.1 c2).1, ⟨(fun c4 => cj_232 (fun r32 s31 k5 l5 => ⟨k5.1, cj_233 (fun s34 k7 l7 => hQ _ _  k7 l7) k5.2 (l5 k5.1)⟩) ((h1.2.1 c2).2.1 c4) ((((h2 h1.1).1 c2) (h1.2.1 c2).1).1 c4)), (fun c4 => cj_233 (fun s35 k9 l9 => hQ _ _  k9 l9) ((h1.2.1 c2).2.2 c4) ((((h2 h1.1).1 c2) (h1.2.1 c2).1).2 c4))⟩⟩), (fun c2 => cj_233 (fun s36 k11 l11 => hQ _ _  k11 l11) (h1.2.2 c2) ((h2 h1.1).2 c2))⟩⟩
def fw_229_p60 (Q : Int → lf_Z → Prop) (x1 : Int) (s : lf_Z) : Prop := lf_R (s.1 95 9) → ((s.1 95 9 = 1 → (fw_229_p79 Q x1 s)) ∧ (¬ (s.1 95 9 = 1) → (lf_R x1 → ((0 ≤ x1 → (fw_229_p79 Q x1 s)) ∧ (¬ (0 ≤ x1) → (fw_232 (fun r39 s38 => (lf_R r39 → ((r39 < 0 → (lf_R (s38.1 95 9) → ((s38.1 95 9 ≠ 40 → ((s38.1 95 9 ≠ 45 → (fw_206 105 102 (fun r43 s42 => (fw_207 (lf_wl r43) (fun z45 s44 => ((z45 = false → (fw_205 108 101 116 (fun r47 s46 => (fw_207 (lf_wl r47) (fun z49 s48 => ((z49 = false → (fw_205 110 111 116 (fun r51 s50 => (fw_207 (lf_wl r51) (fun z53 s52 => ((z53 = false → (Q 1 s52)) ∧ (z53 = true → (fw_235 (fun z55 s54 => ((z55 = false → (Q 1 s54)) ∧ (z55 = true → (fw_234 20 (fun r57 s56 => (Q r57 s56)) s54)))) s52)))) s50)) s48)) ∧ (z49 = true → (fw_234 44 (fun r59 s58 => (Q r59 s58)) s48)))) s46)) s44)) ∧ (z45 = true → (fw_234 41 (fun r61 s60 => (Q r61 s60)) s44)))) s42)) s38)) ∧ (¬ (s38.1 95 9 ≠ 45) → (fw_234 3 (fun r63 s62 => (Q r63 s62)) s38)))) ∧ (¬ (s38.1 95 9 ≠ 40) → (fw_234 40 (fun r65 s64 => (Q r65 s64)) s38))))) ∧ (¬ (r39 < 0) → (fw_229_p79 Q x1 s38))))) s))))))
theorem cj_229_p60 {Q1 Q2 Q3 : Int → lf_Z → Prop} {x1 : Int} {s : lf_Z} (hQ : ∀ (r : Int) (s : lf_Z), Q1 r s → Q2 r s → Q3 r s) (h1 : fm_229_p60 Q1 x1 s) (h2 : fw_229_p60 Q2 x1 s) : fm_229_p60 Q3 x1 s := by
  unfold fm_229_p60 at h1 ⊢
  unfold fw_229_p60 at h2
  exact ⟨h1.1, ⟨(fun c2 => cj_229_p79 hQ (h1.2.1 c2) ((h2 h1.1).1 c2)), (fun c2 => ⟨(h1.2.2 c2).1, ⟨(fun c5 => cj_229_p79 hQ ((h1.2.2 c2).2.1 c5) ((((h2 h1.1).2 c2) (h1.2.2 c2).1).1 c5)), (fun c5 => cj_232 (fun r39 s38 k7 l7 => ⟨k7.1, ⟨(fun c9 => ⟨(k7.2.1 c9).1, ⟨(fun c11 => ⟨(fun c12 => cj_206 (fun r43 s42 k13 l13 => cj_207 (fun z45 s44 k14 l14 => ⟨(fun c15 => cj_205 (fun r47 s46 k16 l16 => cj_207 (fun z49 s48 k17 l17 => ⟨(fun c18 => cj_205 (fun r51 s50 k19 l19 => cj_207 (fun z53 s52 k20 l20 => ⟨(fun c21 => hQ _ _  (k20.1 c21) (l20.1 c21)), (fun c21 => cj_235 (fun z55 s54 k23 l23 => ⟨(fun c24 => hQ _ _  (k23.1 c24) (l23.1 c24)), (fun c24 => cj_234 (fun r57 s56 k26 l26 => hQ _ _  k26 l26) (k23.2 c24) (l23.2 c24))⟩) (k20.2 c21) (l20.2 c21))⟩) k19 l19) (k17.1 c18) (l17.1 c18)), (fun c18 => cj_234 (fun r59 s58 k28 l28 => hQ _ _  k28 l28) (k17.2 c18) (l17.2 c18))⟩) k16 l16) (k14.1 c15) (l14.1 c15)), (fun c15 => cj_234 (fun r61 s60 k30 l30 => hQ _ _  k30 l30) (k14.2 c15) (l14.2 c15))⟩) k13 l13) (((k7.2.1 c9).2.1 c11).1 c12) (((((l7 k7.1).1 c9) (k7.2.1 c9).1).1 c11).1 c12)), (fun c12 => cj_234 (fun r63 s62 k32 l32 => hQ _ _  k32 l32) (((k7.2.1 c9).2.1 c11).2 c12) (((((l7 k7.1).1 c9) (k7.2.1 c9).1).1 c11).2 c12))⟩), (fun c11 => cj_234 (fun r65 s64 k34 l34 => hQ _ _  k34 l34) ((k7.2.1 c9).2.2 c11) ((((l7 k7.1).1 c9) (k7.2.1 c9).1).2 c11))⟩⟩), (fun c9 => cj_229_p79 hQ (k7.2.2 c9) ((l7 k7.1).2 c9))⟩⟩) ((h1.2.2 c2).2.2 c5) ((((h2 h1.1).2 c2) (h1.2.2 c2).1).2 c5))⟩⟩)⟩⟩
def fw_229_p39 (Q : Int → lf_Z → Prop) (x1 : Int) (s : lf_Z) : Prop := fw_232 (fun r26 s25 => (lf_R r26 → ((r26 < 0 → (fw_229_p60 Q x1 s25)) ∧ (¬ (r26 < 0) → (fw_232 (fun r67 s66 => ((0 ≤ r67 ∧ r67 < 26) → (lf_R (s66.1 103 r67) → ((0 ≤ s66.1 103 r67 → (fw_229_p60 Q x1 s66)) ∧ (¬ (0 ≤ s66.1 103 r67) → (Q 5 s66)))))) s25))))) s
theorem cj_229_p39 {Q1 Q2 Q3 : Int → lf_Z → Prop} {x1 : Int} {s : lf_Z} (hQ : ∀ (r : Int) (s : lf_Z), Q1 r s → Q2 r s → Q3 r s) (h1 : fm_229_p39 Q1 x1 s) (h2 : fw_229_p39 Q2 x1 s) : fm_229_p39 Q3 x1 s := by
  unfold fm_229_p39 at h1 ⊢
  unfold fw_229_p39 at h2
  exact cj_232 (fun r26 s25 k1 l1 => ⟨k1.1, ⟨(fun c3 => cj_229_p60 hQ (k1.2.1 c3) ((l1 k1.1).1 c3)), (fun c3 => cj_232 (fun r67 s66 k5 l5 => ⟨k5.1, ⟨k5.2.1, ⟨(fun c8 => cj_229_p60 hQ (k5.2.2.1 c8) (((l5 k5.1) k5.2.1).1 c8)), (fun c8 => hQ _ _  (k5.2.2.2 c8) (((l5 k5.1) k5.2.1).2 c8))⟩⟩⟩) (k1.2.2 c3) ((l1 k1.1).2 c3))⟩⟩) h1 h2
def fw_229_p20 (Q : Int → lf_Z → Prop) (s : lf_Z) : Prop := fw_230 (fun r23 s22 => (lf_R r23 → ((r23 < 0 → (fw_229_p39 Q r23 s22)) ∧ (¬ (r23 < 0) → (fw_231 r23 (fun z71 s70 => ((z71 = true → (fw_229_p39 Q r23 s70)) ∧ (z71 = false → (Q 5 s70)))) s22))))) s
theorem cj_229_p20 {Q1 Q2 Q3 : Int → lf_Z → Prop} {s : lf_Z} (hQ : ∀ (r : Int) (s : lf_Z), Q1 r s → Q2 r s → Q3 r s) (h1 : fm_229_p20 Q1 s) (h2 : fw_229_p20 Q2 s) : fm_229_p20 Q3 s := by
  unfold fm_229_p20 at h1 ⊢
  unfold fw_229_p20 at h2
  exact cj_230 (fun r23 s22 k1 l1 => ⟨k1.1, ⟨(fun c3 => cj_229_p39 hQ (k1.2.1 c3) ((l1 k1.1).1 c3)), (fun c3 => cj_231 (fun z71 s70 k5 l5 => ⟨(fun c6 => cj_229_p39 hQ (k5.1 c6) (l5.1 c6)), (fun c6 => hQ _ _  (k5.2 c6) (l5.2 c6))⟩) (k1.2.2 c3) ((l1 k1.1).2 c3))⟩⟩) h1 h2
def fw_229 (Q : Int → lf_Z → Prop) (s : lf_Z) : Prop := lf_R (s.1 95 9) → ((s.1 95 9 ≠ 1 → (fw_229_p20 Q s)) ∧ (¬ (s.1 95 9 ≠ 1) → (lf_R (s.1 95 10) → ((s.1 95 10 ≤ 9999 → (fw_229_p20 Q s)) ∧ (¬ (s.1 95 10 ≤ 9999) → (Q 2 s))))))
theorem cj_229 {Q1 Q2 Q3 : Int → lf_Z → Prop} {s : lf_Z} (hQ : ∀ (r : Int) (s : lf_Z), Q1 r s → Q2 r s → Q3 r s) (h1 : fm_229 Q1 s) (h2 : fw_229 Q2 s) : fm_229 Q3 s := by
  unfold fm_229 at h1 ⊢
  unfold fw_229 at h2
  exact ⟨h1.1, ⟨(fun c2 => cj_229_p20 hQ (h1.2.1 c2) ((h2 h1.1).1 c2)), (fun c2 => ⟨(h1.2.2 c2).1, ⟨(fun c5 => cj_229_p20 hQ ((h1.2.2 c2).2.1 c5) ((((h2 h1.1).2 c2) (h1.2.2 c2).1).1 c5)), (fun c5 => hQ _ _  ((h1.2.2 c2).2.2 c5) ((((h2 h1.1).2 c2) (h1.2.2 c2).1).2 c5))⟩⟩)⟩⟩
def fw_221_p30 (Q : Bool → lf_Z → Prop) (x1 : Int) (s : lf_Z) : Prop := lf_R x1 → ((x1 < 0 → (Q false s)) ∧ (¬ (x1 < 0) → ((0 ≤ x1 ∧ x1 < 160) → (fw_222 (s.1 100 x1) (fun r25 s24 => (lf_R r25 → ((r25 ≠ 4 → (Q false s24)) ∧ (¬ (r25 ≠ 4) → (Q true s24))))) s))))
theorem cj_221_p30 {Q1 Q2 Q3 : Bool → lf_Z → Prop} {x1 : Int} {s : lf_Z} (hQ : ∀ (r : Bool) (s : lf_Z), Q1 r s → Q2 r s → Q3 r s) (h1 : fm_221_p30 Q1 x1 s) (h2 : fw_221_p30 Q2 x1 s) : fm_221_p30 Q3 x1 s := by
  unfold fm_221_p30 at h1 ⊢
  unfold fw_221_p30 at h2
  exact ⟨h1.1, ⟨(fun c2 => hQ _ _  (h1.2.1 c2) ((h2 h1.1).1 c2)), (fun c2 => ⟨(h1.2.2 c2).1, cj_222 (fun r25 s24 k5 l5 => ⟨k5.1, ⟨(fun c7 => hQ _ _  (k5.2.1 c7) ((l5 k5.1).1 c7)), (fun c7 => hQ _ _  (k5.2.2 c7) ((l5 k5.1).2 c7))⟩⟩) (h1.2.2 c2).2 (((h2 h1.1).2 c2) (h1.2.2 c2).1)⟩)⟩⟩
def fw_221_p7 (Q : Bool → lf_Z → Prop) (X7 : Int → lf_Z → Prop) (x1 : Int) (s : lf_Z) : Prop := lf_R x1 → ((x1 < 0 → (fw_221_p30 Q x1 s)) ∧ (¬ (x1 < 0) → ((0 ≤ x1 ∧ x1 < 160) → (fw_222 (s.1 100 x1) (fun r29 s28 => (lf_R r29 → ((r29 ≤ 4 → (fw_221_p30 Q x1 s28)) ∧ (¬ (r29 ≤ 4) → (X7 (x1 + (-1)) s28))))) s))))
theorem cj_221_p7 {X71 X72 X73 : Int → lf_Z → Prop} {Q1 Q2 Q3 : Bool → lf_Z → Prop} {x1 : Int} {s : lf_Z} (hX7 : ∀ (v0 : Int) (v1 : lf_Z), X71 v0 v1 → X72 v0 v1 → X73 v0 v1) (hQ : ∀ (r : Bool) (s : lf_Z), Q1 r s → Q2 r s → Q3 r s) (h1 : fm_221_p7 Q1 X71 x1 s) (h2 : fw_221_p7 Q2 X72 x1 s) : fm_221_p7 Q3 X73 x1 s := by
  unfold fm_221_p7 at h1 ⊢
  unfold fw_221_p7 at h2
  exact ⟨h1.1, ⟨(fun c2 => cj_221_p30 hQ (h1.2.1 c2) ((h2 h1.1).1 c2)), (fun c2 => ⟨(h1.2.2 c2).1, cj_222 (fun r29 s28 k5 l5 => ⟨k5.1, ⟨(fun c7 => cj_221_p30 hQ (k5.2.1 c7) ((l5 k5.1).1 c7)), (fun c7 => hX7 _ _  (k5.2.2 c7) ((l5 k5.1).2 c7))⟩⟩) (h1.2.2 c2).2 (((h2 h1.1).2 c2) (h1.2.2 c2).1)⟩)⟩⟩
def fw_221_p7L (Q : Bool → lf_Z → Prop) (x1 : Int) (s : lf_Z) : Prop := ∃ X7 : Int → lf_Z → Prop, (∀ (x1 : Int) (s : lf_Z), X7 x1 s → fw_221_p7 Q X7 x1 s) ∧ X7 x1 s
theorem cj_221_p7L {Q1 Q2 Q3 : Bool → lf_Z → Prop} {x1 : Int} {s : lf_Z} (hQ : ∀ (r : Bool) (s : lf_Z), Q1 r s → Q2 r s → Q3 r s) (h1 : fm_221_p7L Q1 x1 s) (h2 : fw_221_p7L Q2 x1 s) : fm_221_p7L Q3 x1 s := by
  intro X0 hX0
  obtain ⟨Y, hY, hY0⟩ := h2
  exact h1 (fun v0 s => Y v0 s → X0 v0 s) (fun v0 s hb hy => hX0 v0 s (cj_221_p7 (X71 := fun v0 s => Y v0 s → X0 v0 s) (X72 := Y) (X73 := X0) (hX7 := fun v0 s a b => a b) hQ hb (hY v0 s hy))) hY0
def fw_221 (Q : Bool → lf_Z → Prop) (s : lf_Z) : Prop := fw_221_p7L Q ((s.1 95 19) - 1) s
theorem cj_221 {Q1 Q2 Q3 : Bool → lf_Z → Prop} {s : lf_Z} (hQ : ∀ (r : Bool) (s : lf_Z), Q1 r s → Q2 r s → Q3 r s) (h1 : fm_221 Q1 s) (h2 : fw_221 Q2 s) : fm_221 Q3 s := by
  unfold fm_221 at h1 ⊢
  unfold fw_221 at h2
  exact cj_221_p7L hQ h1 h2
def fw_223 (Q : Int → lf_Z → Prop) (s : lf_Z) : Prop := lf_R (s.1 95 9) → ((s.1 95 9 ≠ 60 → ((s.1 95 9 ≠ 4 → ((s.1 95 9 ≠ 62 → ((s.1 95 9 ≠ 5 → ((s.1 95 9 ≠ 61 → ((s.1 95 9 ≠ 35 → (Q (-1) s)) ∧ (¬ (s.1 95 9 ≠ 35) → (Q 15 s)))) ∧ (¬ (s.1 95 9 ≠ 61) → (Q 14 s)))) ∧ (¬ (s.1 95 9 ≠ 5) → (Q 13 s)))) ∧ (¬ (s.1 95 9 ≠ 62) → (Q 12 s)))) ∧ (¬ (s.1 95 9 ≠ 4) → (Q 11 s)))) ∧ (¬ (s.1 95 9 ≠ 60) → (Q 10 s)))
theorem cj_223 {Q1 Q2 Q3 : Int → lf_Z → Prop} {s : lf_Z} (hQ : ∀ (r : Int) (s : lf_Z), Q1 r s → Q2 r s → Q3 r s) (h1 : fm_223 Q1 s) (h2 : fw_223 Q2 s) : fm_223 Q3 s := by
  unfold fm_223 at h1 ⊢
  unfold fw_223 at h2
  exact ⟨h1.1, ⟨(fun c2 => ⟨(fun c3 => ⟨(fun c4 => ⟨(fun c5 => ⟨(fun c6 => ⟨(fun c7 => hQ _ _  ((((((h1.2.1 c2).1 c3).1 c4).1 c5).1 c6).1 c7) (((((((h2 h1.1).1 c2).1 c3).1 c4).1 c5).1 c6).1 c7)), (fun c7 => hQ _ _  ((((((h1.2.1 c2).1 c3).1 c4).1 c5).1 c6).2 c7) (((((((h2 h1.1).1 c2).1 c3).1 c4).1 c5).1 c6).2 c7))⟩), (fun c6 => hQ _ _  (((((h1.2.1 c2).1 c3).1 c4).1 c5).2 c6) ((((((h2 h1.1).1 c2).1 c3).1 c4).1 c5).2 c6))⟩), (fun c5 => hQ _ _  ((((h1.2.1 c2).1 c3).1 c4).2 c5) (((((h2 h1.1).1 c2).1 c3).1 c4).2 c5))⟩), (fun c4 => hQ _ _  (((h1.2.1 c2).1 c3).2 c4) ((((h2 h1.1).1 c2).1 c3).2 c4))⟩), (fun c3 => hQ _ _  ((h1.2.1 c2).2 c3) (((h2 h1.1).1 c2).2 c3))⟩), (fun c2 => hQ _ _  (h1.2.2 c2) ((h2 h1.1).2 c2))⟩⟩
def fw_218 (Q : Int → lf_Z → Prop) (s : lf_Z) : Prop := lf_R (s.1 95 9) → ((s.1 95 9 ≠ 43 → ((s.1 95 9 ≠ 45 → ((s.1 95 9 ≠ 42 → ((s.1 95 9 ≠ 47 → (fw_219 (fun r23 s22 => (lf_R r23 → ((r23 = 41 → (fw_221 (fun z26 s25 => ((z26 = true → (fw_205 97 110 100 (fun r28 s27 => (fw_207 (lf_wl r28) (fun z30 s29 => ((z30 = false → (fw_206 111 114 (fun r32 s31 => (fw_207 (lf_wl r32) (fun z34 s33 => ((z34 = false → (Q (-1) s33)) ∧ (z34 = true → (Q 22 s33)))) s31)) s29)) ∧ (z30 = true → (Q 21 s29)))) s27)) s25)) ∧ (z26 = false → (fw_223 (fun r36 s35 => (Q r36 s35)) s25)))) s22)) ∧ (¬ (r23 = 41) → (Q (-1) s22))))) s)) ∧ (¬ (s.1 95 9 ≠ 47) → (Q 7 s)))) ∧ (¬ (s.1 95 9 ≠ 42) → (Q 6 s)))) ∧ (¬ (s.1 95 9 ≠ 45) → (Q 5 s)))) ∧ (¬ (s.1 95 9 ≠ 43) → (Q 4 s)))
theorem cj_218 {Q1 Q2 Q3 : Int → lf_Z → Prop} {s : lf_Z} (hQ : ∀ (r : Int) (s : lf_Z), Q1 r s → Q2 r s → Q3 r s) (h1 : fm_218 Q1 s) (h2 : fw_218 Q2 s) : fm_218 Q3 s := by
  unfold fm_218 at h1 ⊢
  unfold fw_218 at h2
  exact ⟨h1.1, ⟨(fun c2 => ⟨(fun c3 => ⟨(fun c4 => ⟨(fun c5 => cj_219 (fun r23 s22 k6 l6 => ⟨k6.1, ⟨(fun c8 => cj_221 (fun z26 s25 k9 l9 => ⟨(fun c10 => cj_205 (fun r28 s27 k11 l11 => cj_207 (fun z30 s29 k12 l12 => ⟨(fun c13 => cj_206 (fun r32 s31 k14 l14 => cj_207 (fun z34 s33 k15 l15 => ⟨(fun c16 => hQ _ _  (k15.1 c16) (l15.1 c16)), (fun c16 => hQ _ _  (k15.2 c16) (l15.2 c16))⟩) k14 l14) (k12.1 c13) (l12.1 c13)), (fun c13 => hQ _ _  (k12.2 c13) (l12.2 c13))⟩) k11 l11) (k9.1 c10) (l9.1 c10)), (fun c10 => cj_223 (fun r36 s35 k20 l20 => hQ _ _  k20 l20) (k9.2 c10) (l9.2 c10))⟩) (k6.2.1 c8) ((l6 k6.1).1 c8)), (fun c8 => hQ _ _  (k6.2.2 c8) ((l6 k6.1).2 c8))⟩⟩) ((((h1.2.1 c2).1 c3).1 c4).1 c5) (((((h2 h1.1).1 c2).1 c3).1 c4).1 c5)), (fun c5 => hQ _ _  ((((h1.2.1 c2).1 c3).1 c4).2 c5) (((((h2 h1.1).1 c2).1 c3).1 c4).2 c5))⟩), (fun c4 => hQ _ _  (((h1.2.1 c2).1 c3).2 c4) ((((h2 h1.1).1 c2).1 c3).2 c4))⟩), (fun c3 => hQ _ _  ((h1.2.1 c2).2 c3) (((h2 h1.1).1 c2).2 c3))⟩), (fun c2 => hQ _ _  (h1.2.2 c2) ((h2 h1.1).2 c2))⟩⟩
def fw_226 (a1 : Int) (Q : Int → lf_Z → Prop) (s : lf_Z) : Prop := lf_R a1 → ((a1 ≠ (-1) ∧ a1 ≠ 40 ∧ a1 ≠ 41 ∧ a1 ≠ 42 ∧ a1 ≠ 44 → (fw_205 101 110 100 (fun r23 s22 => (fw_207 (lf_wl r23) (fun z25 s24 => ((z25 = false → (Q (-1) s24)) ∧ (z25 = true → (Q 0 s24)))) s22)) s)) ∧ (a1 = (-1) → (Q (-1) s)) ∧ (a1 = 40 → (lf_R (s.1 95 9) → ((s.1 95 9 ≠ 41 → (Q (-1) s)) ∧ (¬ (s.1 95 9 ≠ 41) → (Q 0 s))))) ∧ (a1 = 41 → (fw_204 116 104 101 110 (fun r28 s27 => (fw_207 (lf_wl r28) (fun z30 s29 => ((z30 = false → (Q (-1) s29)) ∧ (z30 = true → (fw_221 (fun z32 s31 => ((z32 = false → (Q (-1) s31)) ∧ (z32 = true → (Q 42 s31)))) s29)))) s27)) s)) ∧ (a1 = 42 → (fw_204 101 108 115 101 (fun r34 s33 => (fw_207 (lf_wl r34) (fun z36 s35 => ((z36 = false → (Q (-1) s35)) ∧ (z36 = true → (Q 43 s35)))) s33)) s)) ∧ (a1 = 44 → (fw_206 105 110 (fun r38 s37 => (fw_207 (lf_wl r38) (fun z40 s39 => ((z40 = false → (Q (-1) s39)) ∧ (z40 = true → (Q 45 s39)))) s37)) s)))
theorem cj_226 {Q1 Q2 Q3 : Int → lf_Z → Prop} {a1 : Int} {s : lf_Z} (hQ : ∀ (r : Int) (s : lf_Z), Q1 r s → Q2 r s → Q3 r s) (h1 : fm_226 a1 Q1 s) (h2 : fw_226 a1 Q2 s) : fm_226 a1 Q3 s := by
  unfold fm_226 at h1 ⊢
  unfold fw_226 at h2
  exact ⟨h1.1, ⟨(fun c2 => cj_205 (fun r23 s22 k3 l3 => cj_207 (fun z25 s24 k4 l4 => ⟨(fun c5 => hQ _ _  (k4.1 c5) (l4.1 c5)), (fun c5 => hQ _ _  (k4.2 c5) (l4.2 c5))⟩) k3 l3) (h1.2.1 c2) ((h2 h1.1).1 c2)), (fun c2 => hQ _ _  (h1.2.2.1 c2) ((h2 h1.1).2.1 c2)), (fun c2 => ⟨(h1.2.2.2.1 c2).1, ⟨(fun c10 => hQ _ _  ((h1.2.2.2.1 c2).2.1 c10) ((((h2 h1.1).2.2.1 c2) (h1.2.2.2.1 c2).1).1 c10)), (fun c10 => hQ _ _  ((h1.2.2.2.1 c2).2.2 c10) ((((h2 h1.1).2.2.1 c2) (h1.2.2.2.1 c2).1).2 c10))⟩⟩), (fun c2 => cj_204 (fun r28 s27 k13 l13 => cj_207 (fun z30 s29 k14 l14 => ⟨(fun c15 => hQ _ _  (k14.1 c15) (l14.1 c15)), (fun c15 => cj_221 (fun z32 s31 k17 l17 => ⟨(fun c18 => hQ _ _  (k17.1 c18) (l17.1 c18)), (fun c18 => hQ _ _  (k17.2 c18) (l17.2 c18))⟩) (k14.2 c15) (l14.2 c15))⟩) k13 l13) (h1.2.2.2.2.1 c2) ((h2 h1.1).2.2.2.1 c2)), (fun c2 => cj_204 (fun r34 s33 k21 l21 => cj_207 (fun z36 s35 k22 l22 => ⟨(fun c23 => hQ _ _  (k22.1 c23) (l22.1 c23)), (fun c23 => hQ _ _  (k22.2 c23) (l22.2 c23))⟩) k21 l21) (h1.2.2.2.2.2.1 c2) ((h2 h1.1).2.2.2.2.1 c2)), (fun c2 => cj_206 (fun r38 s37 k26 l26 => cj_207 (fun z40 s39 k27 l27 => ⟨(fun c28 => hQ _ _  (k27.1 c28) (l27.1 c28)), (fun c28 => hQ _ _  (k27.2 c28) (l27.2 c28))⟩) k26 l26) (h1.2.2.2.2.2.2 c2) ((h2 h1.1).2.2.2.2.2 c2))⟩⟩
def fw_228_p32 (Q : lf_Z → Prop) (x1 : Int) (s : lf_Z) : Prop := lf_R x1 → ((x1 ≠ 45 → (Q s)) ∧ (¬ (x1 ≠ 45) → ((0 ≤ (s.1 95 21) - 1 ∧ (s.1 95 21) - 1 < 10) → ((0 ≤ s.1 101 ((s.1 95 21) - 1) ∧ s.1 101 ((s.1 95 21) - 1) < 26) → (Q (lf_up (lf_up s.1 95 21 ((s.1 95 21) - 1)) 103 (s.1 101 ((s.1 95 21) - 1)) (s.1 102 ((s.1 95 21) - 1)), s.2.1, s.2.2))))))
theorem cj_228_p32 {Q1 Q2 Q3 : lf_Z → Prop} {x1 : Int} {s : lf_Z} (hQ : ∀ (s : lf_Z), Q1 s → Q2 s → Q3 s) (h1 : fm_228_p32 Q1 x1 s) (h2 : fw_228_p32 Q2 x1 s) : fm_228_p32 Q3 x1 s := by
  unfold fm_228_p32 at h1 ⊢
  unfold fw_228_p32 at h2
  exact ⟨h1.1, ⟨(fun c2 => hQ _  (h1.2.1 c2) ((h2 h1.1).1 c2)), (fun c2 => ⟨(h1.2.2 c2).1, ⟨(h1.2.2 c2).2.1, hQ _  (h1.2.2 c2).2.2 ((((h2 h1.1).2 c2) (h1.2.2 c2).1) (h1.2.2 c2).2.1)⟩⟩)⟩⟩
def fw_228 (a1 : Int) (Q : lf_Z → Prop) (s : lf_Z) : Prop := lf_R a1 → ((a1 ≠ 43 → (fw_228_p32 Q a1 (lf_up (lf_up s.1 95 19 ((s.1 95 19) - 1)) 95 20 ((s.1 95 20) - 1), s.2.1, s.2.2))) ∧ (¬ (a1 ≠ 43) → (fw_225 2 0 (fun s25 => (fw_228_p32 Q a1 s25)) (lf_up (lf_up s.1 95 19 ((s.1 95 19) - 1)) 95 20 ((s.1 95 20) - 1), s.2.1, s.2.2))))
theorem cj_228 {Q1 Q2 Q3 : lf_Z → Prop} {a1 : Int} {s : lf_Z} (hQ : ∀ (s : lf_Z), Q1 s → Q2 s → Q3 s) (h1 : fm_228 a1 Q1 s) (h2 : fw_228 a1 Q2 s) : fm_228 a1 Q3 s := by
  unfold fm_228 at h1 ⊢
  unfold fw_228 at h2
  exact ⟨h1.1, ⟨(fun c2 => cj_228_p32 hQ (h1.2.1 c2) ((h2 h1.1).1 c2)), (fun c2 => cj_225 (fun s25 k4 l4 => cj_228_p32 hQ k4 l4) (h1.2.2 c2) ((h2 h1.1).2 c2))⟩⟩
def fw_227 (Q : lf_Z → Prop) (s : lf_Z) : Prop := (0 ≤ (s.1 95 21) - 1 ∧ (s.1 95 21) - 1 < 10) → ((0 ≤ s.1 101 ((s.1 95 21) - 1) ∧ s.1 101 ((s.1 95 21) - 1) < 26) → (fw_225 30 (s.1 95 22) (fun s23 => (Q (lf_up s23.1 95 22 ((s23.1 95 22) + 1), s23.2.1, s23.2.2))) (lf_up (lf_up s.1 102 ((s.1 95 21) - 1) (s.1 103 (s.1 101 ((s.1 95 21) - 1)))) 103 (s.1 101 ((s.1 95 21) - 1)) (s.1 95 22), s.2.1, s.2.2)))
theorem cj_227 {Q1 Q2 Q3 : lf_Z → Prop} {s : lf_Z} (hQ : ∀ (s : lf_Z), Q1 s → Q2 s → Q3 s) (h1 : fm_227 Q1 s) (h2 : fw_227 Q2 s) : fm_227 Q3 s := by
  unfold fm_227 at h1 ⊢
  unfold fw_227 at h2
  exact ⟨h1.1, ⟨h1.2.1, cj_225 (fun s23 k3 l3 => hQ _  k3 l3) h1.2.2 ((h2 h1.1) h1.2.1)⟩⟩
def fw_217_p99 (Q : Bool → lf_Z → Prop) (s : lf_Z) : Prop := fw_197 (fun s36 => (Q true s36)) s
theorem cj_217_p99 {Q1 Q2 Q3 : Bool → lf_Z → Prop} {s : lf_Z} (hQ : ∀ (r : Bool) (s : lf_Z), Q1 r s → Q2 r s → Q3 r s) (h1 : fm_217_p99 Q1 s) (h2 : fw_217_p99 Q2 s) : fm_217_p99 Q3 s := by
  unfold fm_217_p99 at h1 ⊢
  unfold fw_217_p99 at h2
  exact cj_197 (fun s36 k1 l1 => hQ _ _  k1 l1) h1 h2
def fw_217 (Q : Bool → lf_Z → Prop) (s : lf_Z) : Prop := fw_218 (fun r22 s21 => (lf_R r22 → ((r22 < 0 → (fw_219 (fun r25 s24 => (fw_226 r25 (fun r27 s26 => (lf_R r27 → ((0 ≤ r27 → (fw_224 1 (fun s29 => ((r27 ≤ 0 → (fw_228 r25 (fun s30 => (fw_197 (fun s31 => (fw_224 7 (fun s32 => (Q true s32)) s31)) s30)) s29)) ∧ (¬ (r27 ≤ 0) → (fw_220 (fun r34 s33 => ((0 ≤ r34 ∧ r34 < 160) → ((r27 ≠ 45 → (fw_217_p99 Q (lf_up (lf_up s33.1 100 r34 r27) 95 23 0, s33.2.1, s33.2.2))) ∧ (¬ (r27 ≠ 45) → (fw_227 (fun s37 => (fw_217_p99 Q s37)) (lf_up (lf_up s33.1 100 r34 r27) 95 23 0, s33.2.1, s33.2.2)))))) s29)))) s26)) ∧ (¬ (0 ≤ r27) → (Q false s26))))) s24)) s21)) ∧ (¬ (r22 < 0) → (fw_222 r22 (fun r39 s38 => (fw_224 r39 (fun s40 => ((0 ≤ s40.1 95 19 ∧ s40.1 95 19 < 160) → (fw_197 (fun s42 => (Q true s42)) (lf_up (lf_up (lf_up s40.1 100 (s40.1 95 19) r22) 95 19 ((s40.1 95 19) + 1)) 95 23 0, s40.2.1, s40.2.2)))) s38)) s21))))) s
theorem cj_217 {Q1 Q2 Q3 : Bool → lf_Z → Prop} {s : lf_Z} (hQ : ∀ (r : Bool) (s : lf_Z), Q1 r s → Q2 r s → Q3 r s) (h1 : fm_217 Q1 s) (h2 : fw_217 Q2 s) : fm_217 Q3 s := by
  unfold fm_217 at h1 ⊢
  unfold fw_217 at h2
  exact cj_218 (fun r22 s21 k1 l1 => ⟨k1.1, ⟨(fun c3 => cj_219 (fun r25 s24 k4 l4 => cj_226 (fun r27 s26 k5 l5 => ⟨k5.1, ⟨(fun c7 => cj_224 (fun s29 k8 l8 => ⟨(fun c9 => cj_228 (fun s30 k10 l10 => cj_197 (fun s31 k11 l11 => cj_224 (fun s32 k12 l12 => hQ _ _  k12 l12) k11 l11) k10 l10) (k8.1 c9) (l8.1 c9)), (fun c9 => cj_220 (fun r34 s33 k14 l14 => ⟨k14.1, ⟨(fun c16 => cj_217_p99 hQ (k14.2.1 c16) ((l14 k14.1).1 c16)), (fun c16 => cj_227 (fun s37 k18 l18 => cj_217_p99 hQ k18 l18) (k14.2.2 c16) ((l14 k14.1).2 c16))⟩⟩) (k8.2 c9) (l8.2 c9))⟩) (k5.2.1 c7) ((l5 k5.1).1 c7)), (fun c7 => hQ _ _  (k5.2.2 c7) ((l5 k5.1).2 c7))⟩⟩) k4 l4) (k1.2.1 c3) ((l1 k1.1).1 c3)), (fun c3 => cj_222 (fun r39 s38 k21 l21 => cj_224 (fun s40 k22 l22 => ⟨k22.1, cj_197 (fun s42 k24 l24 => hQ _ _  k24 l24) k22.2 (l22 k22.1)⟩) k21 l21) (k1.2.2 c3) ((l1 k1.1).2 c3))⟩⟩) h1 h2
def fw_216_p46 (Q : Int → lf_Z → Prop) (X46 : lf_Z → Prop) (s : lf_Z) : Prop := lf_R (s.1 95 23) → ((s.1 95 23 = 0 → (fw_229 (fun r24 s23 => (lf_R r24 → ((r24 = 0 → (X46 s23)) ∧ (¬ (r24 = 0) → (Q r24 s23))))) s)) ∧ (¬ (s.1 95 23 = 0) → (fw_217 (fun z27 s26 => ((z27 = false → (fw_219 (fun r29 s28 => (lf_R r29 → ((r29 < 0 → (fw_224 1 (fun s31 => (Q 0 s31)) s28)) ∧ (¬ (r29 < 0) → (Q 1 s28))))) s26)) ∧ (z27 = true → (X46 s26)))) s)))
theorem cj_216_p46 {X461 X462 X463 : lf_Z → Prop} {Q1 Q2 Q3 : Int → lf_Z → Prop} {s : lf_Z} (hX46 : ∀ (v0 : lf_Z), X461 v0 → X462 v0 → X463 v0) (hQ : ∀ (r : Int) (s : lf_Z), Q1 r s → Q2 r s → Q3 r s) (h1 : fm_216_p46 Q1 X461 s) (h2 : fw_216_p46 Q2 X462 s) : fm_216_p46 Q3 X463 s := by
  unfold fm_216_p46 at h1 ⊢
  unfold fw_216_p46 at h2
  exact ⟨h1.1, ⟨(fun c2 => cj_229 (fun r24 s23 k3 l3 => ⟨k3.1, ⟨(fun c5 => hX46 _  (k3.2.1 c5) ((l3 k3.1).1 c5)), (fun c5 => hQ _ _  (k3.2.2 c5) ((l3 k3.1).2 c5))⟩⟩) (h1.2.1 c2) ((h2 h1.1).1 c2)), (fun c2 => cj_217 (fun z27 s26 k8 l8 => ⟨(fun c9 => cj_219 (fun r29 s28 k10 l10 => ⟨k10.1, ⟨(fun c12 => cj_224 (fun s31 k13 l13 => hQ _ _  k13 l13) (k10.2.1 c12) ((l10 k10.1).1 c12)), (fun c12 => hQ _ _  (k10.2.2 c12) ((l10 k10.1).2 c12))⟩⟩) (k8.1 c9) (l8.1 c9)), (fun c9 => hX46 _  (k8.2 c9) (l8.2 c9))⟩) (h1.2.2 c2) ((h2 h1.1).2 c2))⟩⟩
def fw_216_p46L (Q : Int → lf_Z → Prop) (s : lf_Z) : Prop := ∃ X46 : lf_Z → Prop, (∀ (s : lf_Z), X46 s → fw_216_p46 Q X46 s) ∧ X46 s
theorem cj_216_p46L {Q1 Q2 Q3 : Int → lf_Z → Prop} {s : lf_Z} (hQ : ∀ (r : Int) (s : lf_Z), Q1 r s → Q2 r s → Q3 r s) (h1 : fm_216_p46L Q1 s) (h2 : fw_216_p46L Q2 s) : fm_216_p46L Q3 s := by
  intro X0 hX0
  obtain ⟨Y, hY, hY0⟩ := h2
  exact h1 (fun  s => Y  s → X0  s) (fun  s hb hy => hX0  s (cj_216_p46 (X461 := fun  s => Y  s → X0  s) (X462 := Y) (X463 := X0) (hX46 := fun  s a b => a b) hQ hb (hY  s hy))) hY0
def fw_216_p22 (Q : Int → lf_Z → Prop) (X22 : Int → lf_Z → Prop) (x1 : Int) (s : lf_Z) : Prop := lf_R x1 → ((26 ≤ x1 → (fw_216_p46L Q (lf_up s.1 95 23 0, s.2.1, s.2.2))) ∧ (¬ (26 ≤ x1) → ((0 ≤ x1 ∧ x1 < 26) → (X22 (x1 + 1) (lf_up s.1 103 x1 (-1), s.2.1, s.2.2)))))
theorem cj_216_p22 {X221 X222 X223 : Int → lf_Z → Prop} {Q1 Q2 Q3 : Int → lf_Z → Prop} {x1 : Int} {s : lf_Z} (hX22 : ∀ (v0 : Int) (v1 : lf_Z), X221 v0 v1 → X222 v0 v1 → X223 v0 v1) (hQ : ∀ (r : Int) (s : lf_Z), Q1 r s → Q2 r s → Q3 r s) (h1 : fm_216_p22 Q1 X221 x1 s) (h2 : fw_216_p22 Q2 X222 x1 s) : fm_216_p22 Q3 X223 x1 s := by
  unfold fm_216_p22 at h1 ⊢
  unfold fw_216_p22 at h2
  exact ⟨h1.1, ⟨(fun c2 => cj_216_p46L hQ (h1.2.1 c2) ((h2 h1.1).1 c2)), (fun c2 => ⟨(h1.2.2 c2).1, hX22 _ _  (h1.2.2 c2).2 (((h2 h1.1).2 c2) (h1.2.2 c2).1)⟩)⟩⟩
def fw_216_p22L (Q : Int → lf_Z → Prop) (x1 : Int) (s : lf_Z) : Prop := ∃ X22 : Int → lf_Z → Prop, (∀ (x1 : Int) (s : lf_Z), X22 x1 s → fw_216_p22 Q X22 x1 s) ∧ X22 x1 s
theorem cj_216_p22L {Q1 Q2 Q3 : Int → lf_Z → Prop} {x1 : Int} {s : lf_Z} (hQ : ∀ (r : Int) (s : lf_Z), Q1 r s → Q2 r s → Q3 r s) (h1 : fm_216_p22L Q1 x1 s) (h2 : fw_216_p22L Q2 x1 s) : fm_216_p22L Q3 x1 s := by
  intro X0 hX0
  obtain ⟨Y, hY, hY0⟩ := h2
  exact h1 (fun v0 s => Y v0 s → X0 v0 s) (fun v0 s hb hy => hX0 v0 s (cj_216_p22 (X221 := fun v0 s => Y v0 s → X0 v0 s) (X222 := Y) (X223 := X0) (hX22 := fun v0 s a b => a b) hQ hb (hY v0 s hy))) hY0
def fw_216 (Q : Int → lf_Z → Prop) (s : lf_Z) : Prop := fw_216_p22L Q 0 (lf_up (lf_up (lf_up (lf_up s.1 95 19 0) 95 20 0) 95 21 0) 95 22 0, s.2.1, s.2.2)
theorem cj_216 {Q1 Q2 Q3 : Int → lf_Z → Prop} {s : lf_Z} (hQ : ∀ (r : Int) (s : lf_Z), Q1 r s → Q2 r s → Q3 r s) (h1 : fm_216 Q1 s) (h2 : fw_216 Q2 s) : fm_216 Q3 s := by
  unfold fm_216 at h1 ⊢
  unfold fw_216 at h2
  exact cj_216_p22L hQ h1 h2
def fw_215 (a1 : Int) (Q : Int → lf_Z → Prop) (s : lf_Z) : Prop := (0 ≤ a1 + 1 ∧ a1 + 1 < 2820) → (fw_216 (fun r23 s22 => ((0 ≤ a1 + 2 ∧ a1 + 2 < 2820) → (Q r23 (lf_up s22.1 98 (a1 + 2) (s22.1 95 13), s22.2.1, s22.2.2)))) (lf_up s.1 98 (a1 + 1) (s.1 95 13), s.2.1, s.2.2))
theorem cj_215 {Q1 Q2 Q3 : Int → lf_Z → Prop} {a1 : Int} {s : lf_Z} (hQ : ∀ (r : Int) (s : lf_Z), Q1 r s → Q2 r s → Q3 r s) (h1 : fm_215 a1 Q1 s) (h2 : fw_215 a1 Q2 s) : fm_215 a1 Q3 s := by
  unfold fm_215 at h1 ⊢
  unfold fw_215 at h2
  exact ⟨h1.1, cj_216 (fun r23 s22 k2 l2 => ⟨k2.1, hQ _ _  k2.2 (l2 k2.1)⟩) h1.2 (h2 h1.1)⟩
def fw_213 (a1 : Int) (a2 : Int) (a3 : Int) (Q : Int → lf_Z → Prop) (s : lf_Z) : Prop := lf_R (s.1 95 9) → ((s.1 95 9 = 1 → (fw_183 (s.1 95 10) a2 a3 (fun z23 s22 => ((z23 = true → ((0 ≤ a1 ∧ a1 < 2820) → (fw_197 (fun s25 => (Q 0 s25)) (lf_up s22.1 98 a1 (s22.1 95 10), s22.2.1, s22.2.2)))) ∧ (z23 = false → (Q 2 s22)))) s)) ∧ (¬ (s.1 95 9 = 1) → (Q 1 s)))
theorem cj_213 {Q1 Q2 Q3 : Int → lf_Z → Prop} {a1 : Int} {a2 : Int} {a3 : Int} {s : lf_Z} (hQ : ∀ (r : Int) (s : lf_Z), Q1 r s → Q2 r s → Q3 r s) (h1 : fm_213 a1 a2 a3 Q1 s) (h2 : fw_213 a1 a2 a3 Q2 s) : fm_213 a1 a2 a3 Q3 s := by
  unfold fm_213 at h1 ⊢
  unfold fw_213 at h2
  exact ⟨h1.1, ⟨(fun c2 => cj_183 (fun z23 s22 k3 l3 => ⟨(fun c4 => ⟨(k3.1 c4).1, cj_197 (fun s25 k6 l6 => hQ _ _  k6 l6) (k3.1 c4).2 ((l3.1 c4) (k3.1 c4).1)⟩), (fun c4 => hQ _ _  (k3.2 c4) (l3.2 c4))⟩) (h1.2.1 c2) ((h2 h1.1).1 c2)), (fun c2 => hQ _ _  (h1.2.2 c2) ((h2 h1.1).2 c2))⟩⟩
def fw_214 (a1 : Int) (a2 : Int) (a3 : Int) (a4 : Int) (Q : Int → lf_Z → Prop) (s : lf_Z) : Prop := fw_207 (lf_wl a1) (fun z22 s21 => ((z22 = true → (fw_197 (fun s23 => (fw_213 a2 a3 a4 (fun r25 s24 => (Q r25 s24)) s23)) s21)) ∧ (z22 = false → (Q 1 s21)))) s
theorem cj_214 {Q1 Q2 Q3 : Int → lf_Z → Prop} {a1 : Int} {a2 : Int} {a3 : Int} {a4 : Int} {s : lf_Z} (hQ : ∀ (r : Int) (s : lf_Z), Q1 r s → Q2 r s → Q3 r s) (h1 : fm_214 a1 a2 a3 a4 Q1 s) (h2 : fw_214 a1 a2 a3 a4 Q2 s) : fm_214 a1 a2 a3 a4 Q3 s := by
  unfold fm_214 at h1 ⊢
  unfold fw_214 at h2
  exact cj_207 (fun z22 s21 k1 l1 => ⟨(fun c2 => cj_197 (fun s23 k3 l3 => cj_213 (fun r25 s24 k4 l4 => hQ _ _  k4 l4) k3 l3) (k1.1 c2) (l1.1 c2)), (fun c2 => hQ _ _  (k1.2 c2) (l1.2 c2))⟩) h1 h2
def fw_212 (a1 : Int) (a2 : Int) (a3 : Int) (a4 : Int) (a5 : Int) (a6 : Int) (Q : Int → lf_Z → Prop) (s : lf_Z) : Prop := fw_213 (a1 + 1) a2 a3 (fun r22 s21 => (lf_R r22 → ((r22 = 0 → (fw_214 (lf_wl a4) (a1 + 2) a5 a6 (fun r25 s24 => (Q r25 s24)) s21)) ∧ (¬ (r22 = 0) → (Q r22 s21))))) s
theorem cj_212 {Q1 Q2 Q3 : Int → lf_Z → Prop} {a1 : Int} {a2 : Int} {a3 : Int} {a4 : Int} {a5 : Int} {a6 : Int} {s : lf_Z} (hQ : ∀ (r : Int) (s : lf_Z), Q1 r s → Q2 r s → Q3 r s) (h1 : fm_212 a1 a2 a3 a4 a5 a6 Q1 s) (h2 : fw_212 a1 a2 a3 a4 a5 a6 Q2 s) : fm_212 a1 a2 a3 a4 a5 a6 Q3 s := by
  unfold fm_212 at h1 ⊢
  unfold fw_212 at h2
  exact cj_213 (fun r22 s21 k1 l1 => ⟨k1.1, ⟨(fun c3 => cj_214 (fun r25 s24 k4 l4 => hQ _ _  k4 l4) (k1.2.1 c3) ((l1 k1.1).1 c3)), (fun c3 => hQ _ _  (k1.2.2 c3) ((l1 k1.1).2 c3))⟩⟩) h1 h2
def fw_211 (a1 : Int) (a2 : Int) (Q : Int → lf_Z → Prop) (s : lf_Z) : Prop := lf_R a1 → ((a1 < 3 ∨ 12 < a1 → (fw_215 a2 (fun r23 s22 => (Q r23 s22)) s)) ∧ (a1 = 3 → (fw_204 104 97 114 109 (fun r25 s24 => (fw_212 a2 0 3 (lf_wl r25) 0 99 (fun r27 s26 => (Q r27 s26)) s24)) s)) ∧ (a1 = 4 → (fw_206 116 111 (fun r29 s28 => (fw_212 a2 0 11 (lf_wl r29) 0 11 (fun r31 s30 => (Q r31 s30)) s28)) s)) ∧ (a1 = 5 → (fw_206 116 111 (fun r33 s32 => (fw_212 a2 0 11 (lf_wl r33) 0 11 (fun r35 s34 => (Q r35 s34)) s32)) s)) ∧ (a1 = 6 → (fw_206 97 116 (fun r37 s36 => (fw_212 a2 0 9 (lf_wl r37) 0 11 (fun r39 s38 => (Q r39 s38)) s36)) s)) ∧ (a1 = 7 → (fw_206 97 116 (fun r41 s40 => (fw_212 a2 1 24 (lf_wl r41) 0 11 (fun r43 s42 => (Q r43 s42)) s40)) s)) ∧ (a1 = 8 → (fw_206 116 111 (fun r45 s44 => (fw_212 a2 0 5 (lf_wl r45) 0 11 (fun r47 s46 => (Q r47 s46)) s44)) s)) ∧ (a1 = 9 → (fw_213 (a2 + 1) 0 15 (fun r49 s48 => (Q r49 s48)) s)) ∧ (a1 = 10 → (fw_213 (a2 + 1) 0 15 (fun r51 s50 => (Q r51 s50)) s)) ∧ (a1 = 11 → (fw_206 98 121 (fun r53 s52 => (fw_212 a2 0 3 (lf_wl r53) 1 24 (fun r55 s54 => (Q r55 s54)) s52)) s)) ∧ (a1 = 12 → (fw_213 (a2 + 1) 1 60 (fun r57 s56 => (Q r57 s56)) s)))
theorem cj_211 {Q1 Q2 Q3 : Int → lf_Z → Prop} {a1 : Int} {a2 : Int} {s : lf_Z} (hQ : ∀ (r : Int) (s : lf_Z), Q1 r s → Q2 r s → Q3 r s) (h1 : fm_211 a1 a2 Q1 s) (h2 : fw_211 a1 a2 Q2 s) : fm_211 a1 a2 Q3 s := by
  unfold fm_211 at h1 ⊢
  unfold fw_211 at h2
  exact ⟨h1.1, ⟨(fun c2 => cj_215 (fun r23 s22 k3 l3 => hQ _ _  k3 l3) (h1.2.1 c2) ((h2 h1.1).1 c2)), (fun c2 => cj_204 (fun r25 s24 k5 l5 => cj_212 (fun r27 s26 k6 l6 => hQ _ _  k6 l6) k5 l5) (h1.2.2.1 c2) ((h2 h1.1).2.1 c2)), (fun c2 => cj_206 (fun r29 s28 k8 l8 => cj_212 (fun r31 s30 k9 l9 => hQ _ _  k9 l9) k8 l8) (h1.2.2.2.1 c2) ((h2 h1.1).2.2.1 c2)), (fun c2 => cj_206 (fun r33 s32 k11 l11 => cj_212 (fun r35 s34 k12 l12 => hQ _ _  k12 l12) k11 l11) (h1.2.2.2.2.1 c2) ((h2 h1.1).2.2.2.1 c2)), (fun c2 => cj_206 (fun r37 s36 k14 l14 => cj_212 (fun r39 s38 k15 l15 => hQ _ _  k15 l15) k14 l14) (h1.2.2.2.2.2.1 c2) ((h2 h1.1).2.2.2.2.1 c2)), (fun c2 => cj_206 (fun r41 s40 k17 l17 => cj_212 (fun r43 s42 k18 l18 => hQ _ _  k18 l18) k17 l17) (h1.2.2.2.2.2.2.1 c2) ((h2 h1.1).2.2.2.2.2.1 c2)), (fun c2 => cj_206 (fun r45 s44 k20 l20 => cj_212 (fun r47 s46 k21 l21 => hQ _ _  k21 l21) k20 l20) (h1.2.2.2.2.2.2.2.1 c2) ((h2 h1.1).2.2.2.2.2.2.1 c2)), (fun c2 => cj_213 (fun r49 s48 k23 l23 => hQ _ _  k23 l23) (h1.2.2.2.2.2.2.2.2.1 c2) ((h2 h1.1).2.2.2.2.2.2.2.1 c2)), (fun c2 => cj_213 (fun r51 s50 k25 l25 => hQ _ _  k25 l25) (h1.2.2.2.2.2.2.2.2.2.1 c2) ((h2 h1.1).2.2.2.2.2.2.2.2.1 c2)), (fun c2 => cj_206 (fun r53 s52 k27 l27 => cj_212 (fun r55 s54 k28 l28 => hQ _ _  k28 l28) k27 l27) (h1.2.2.2.2.2.2.2.2.2.2.1 c2) ((h2 h1.1).2.2.2.2.2.2.2.2.2.1 c2)), (fun c2 => cj_213 (fun r57 s56 k30 l30 => hQ _ _  k30 l30) (h1.2.2.2.2.2.2.2.2.2.2.2 c2) ((h2 h1.1).2.2.2.2.2.2.2.2.2.2 c2))⟩⟩
def fw_210 (a0 : Int) (a1 : Int) (Q : Bool → lf_Z → Prop) (s : lf_Z) : Prop := (lf_and (lf_shr a0 a1) 1 ≠ 1 → (Q false s)) ∧ (¬ (lf_and (lf_shr a0 a1) 1 ≠ 1) → (Q true s))
theorem cj_210 {Q1 Q2 Q3 : Bool → lf_Z → Prop} {a0 : Int} {a1 : Int} {s : lf_Z} (hQ : ∀ (r : Bool) (s : lf_Z), Q1 r s → Q2 r s → Q3 r s) (h1 : fm_210 a0 a1 Q1 s) (h2 : fw_210 a0 a1 Q2 s) : fm_210 a0 a1 Q3 s := by
  unfold fm_210 at h1 ⊢
  unfold fw_210 at h2
  exact ⟨(fun c1 => hQ _ _  (h1.1 c1) (h2.1 c1)), (fun c1 => hQ _ _  (h1.2 c1) (h2.2 c1))⟩
def fw_202_p65 (Q : Int → lf_Z → Prop) (x1 : Int) (x2 : Int) (s : lf_Z) : Prop := fw_197 (fun s27 => ((0 ≤ ((s27.1 95 12) + 1) + (4 * x2) ∧ ((s27.1 95 12) + 1) + (4 * x2) < 2820) → (fw_211 x1 (((s27.1 95 12) + 1) + (4 * x2)) (fun r30 s29 => (lf_R r30 → ((r30 = 0 → ((0 ≤ s29.1 95 12 ∧ s29.1 95 12 < 2820) → (lf_R (s29.1 95 9) → ((s29.1 95 9 = 59 → (fw_197 (fun s34 => (Q 0 s34)) (lf_up s29.1 98 (s29.1 95 12) ((s29.1 98 (s29.1 95 12)) + 1), s29.2.1, s29.2.2))) ∧ (¬ (s29.1 95 9 = 59) → (Q 1 (lf_up s29.1 98 (s29.1 95 12) ((s29.1 98 (s29.1 95 12)) + 1), s29.2.1, s29.2.2))))))) ∧ (¬ (r30 = 0) → (Q r30 s29))))) (lf_up s27.1 98 (((s27.1 95 12) + 1) + (4 * x2)) x1, s27.2.1, s27.2.2)))) (lf_up s.1 95 14 x1, s.2.1, s.2.2)
theorem cj_202_p65 {Q1 Q2 Q3 : Int → lf_Z → Prop} {x1 : Int} {x2 : Int} {s : lf_Z} (hQ : ∀ (r : Int) (s : lf_Z), Q1 r s → Q2 r s → Q3 r s) (h1 : fm_202_p65 Q1 x1 x2 s) (h2 : fw_202_p65 Q2 x1 x2 s) : fm_202_p65 Q3 x1 x2 s := by
  unfold fm_202_p65 at h1 ⊢
  unfold fw_202_p65 at h2
  exact cj_197 (fun s27 k1 l1 => ⟨k1.1, cj_211 (fun r30 s29 k3 l3 => ⟨k3.1, ⟨(fun c5 => ⟨(k3.2.1 c5).1, ⟨(k3.2.1 c5).2.1, ⟨(fun c8 => cj_197 (fun s34 k9 l9 => hQ _ _  k9 l9) ((k3.2.1 c5).2.2.1 c8) (((((l3 k3.1).1 c5) (k3.2.1 c5).1) (k3.2.1 c5).2.1).1 c8)), (fun c8 => hQ _ _  ((k3.2.1 c5).2.2.2 c8) (((((l3 k3.1).1 c5) (k3.2.1 c5).1) (k3.2.1 c5).2.1).2 c8))⟩⟩⟩), (fun c5 => hQ _ _  (k3.2.2 c5) ((l3 k3.1).2 c5))⟩⟩) k1.2 (l1 k1.1)⟩) h1 h2
def fw_202_p29 (Q : Int → lf_Z → Prop) (x1 : Int) (s : lf_Z) : Prop := (0 ≤ s.1 95 12 ∧ s.1 95 12 < 2820) → (lf_R (s.1 98 (s.1 95 12)) → ((s.1 98 (s.1 95 12) ≠ 24 → (lf_R x1 → ((2 < x1 → (fw_202_p65 Q x1 (s.1 98 (s.1 95 12)) s)) ∧ (¬ (2 < x1) → (fw_202_p65 Q x1 (s.1 98 (s.1 95 12)) (lf_up s.1 95 24 (lf_or (s.1 95 24) (lf_shl 1 x1)), s.2.1, s.2.2)))))) ∧ (¬ (s.1 98 (s.1 95 12) ≠ 24) → (Q 6 s))))
theorem cj_202_p29 {Q1 Q2 Q3 : Int → lf_Z → Prop} {x1 : Int} {s : lf_Z} (hQ : ∀ (r : Int) (s : lf_Z), Q1 r s → Q2 r s → Q3 r s) (h1 : fm_202_p29 Q1 x1 s) (h2 : fw_202_p29 Q2 x1 s) : fm_202_p29 Q3 x1 s := by
  unfold fm_202_p29 at h1 ⊢
  unfold fw_202_p29 at h2
  exact ⟨h1.1, ⟨h1.2.1, ⟨(fun c3 => ⟨(h1.2.2.1 c3).1, ⟨(fun c5 => cj_202_p65 hQ ((h1.2.2.1 c3).2.1 c5) (((((h2 h1.1) h1.2.1).1 c3) (h1.2.2.1 c3).1).1 c5)), (fun c5 => cj_202_p65 hQ ((h1.2.2.1 c3).2.2 c5) (((((h2 h1.1) h1.2.1).1 c3) (h1.2.2.1 c3).1).2 c5))⟩⟩), (fun c3 => hQ _ _  (h1.2.2.2 c3) (((h2 h1.1) h1.2.1).2 c3))⟩⟩⟩
def fw_202 (Q : Int → lf_Z → Prop) (s : lf_Z) : Prop := fw_203 (fun r22 s21 => (lf_R r22 → ((0 ≤ r22 → ((2 < r22 → (fw_202_p29 Q r22 s21)) ∧ (¬ (2 < r22) → (fw_210 (s21.1 95 24) r22 (fun z36 s35 => ((z36 = false → (fw_202_p29 Q r22 s35)) ∧ (z36 = true → (Q 4 s35)))) s21)))) ∧ (¬ (0 ≤ r22) → (Q 1 s21))))) s
theorem cj_202 {Q1 Q2 Q3 : Int → lf_Z → Prop} {s : lf_Z} (hQ : ∀ (r : Int) (s : lf_Z), Q1 r s → Q2 r s → Q3 r s) (h1 : fm_202 Q1 s) (h2 : fw_202 Q2 s) : fm_202 Q3 s := by
  unfold fm_202 at h1 ⊢
  unfold fw_202 at h2
  exact cj_203 (fun r22 s21 k1 l1 => ⟨k1.1, ⟨(fun c3 => ⟨(fun c4 => cj_202_p29 hQ ((k1.2.1 c3).1 c4) (((l1 k1.1).1 c3).1 c4)), (fun c4 => cj_210 (fun z36 s35 k6 l6 => ⟨(fun c7 => cj_202_p29 hQ (k6.1 c7) (l6.1 c7)), (fun c7 => hQ _ _  (k6.2 c7) (l6.2 c7))⟩) ((k1.2.1 c3).2 c4) (((l1 k1.1).1 c3).2 c4))⟩), (fun c3 => hQ _ _  (k1.2.2 c3) ((l1 k1.1).2 c3))⟩⟩) h1 h2
def fw_196_p44 (Q : Int → lf_Z → Prop) (X44 : lf_Z → Prop) (s : lf_Z) : Prop := lf_R (s.1 95 9) → ((s.1 95 9 = 0 → (Q 0 s)) ∧ (¬ (s.1 95 9 = 0) → (fw_202 (fun r25 s24 => (lf_R r25 → ((r25 = 0 → (X44 s24)) ∧ (¬ (r25 = 0) → (Q r25 s24))))) s)))
theorem cj_196_p44 {X441 X442 X443 : lf_Z → Prop} {Q1 Q2 Q3 : Int → lf_Z → Prop} {s : lf_Z} (hX44 : ∀ (v0 : lf_Z), X441 v0 → X442 v0 → X443 v0) (hQ : ∀ (r : Int) (s : lf_Z), Q1 r s → Q2 r s → Q3 r s) (h1 : fm_196_p44 Q1 X441 s) (h2 : fw_196_p44 Q2 X442 s) : fm_196_p44 Q3 X443 s := by
  unfold fm_196_p44 at h1 ⊢
  unfold fw_196_p44 at h2
  exact ⟨h1.1, ⟨(fun c2 => hQ _ _  (h1.2.1 c2) ((h2 h1.1).1 c2)), (fun c2 => cj_202 (fun r25 s24 k4 l4 => ⟨k4.1, ⟨(fun c6 => hX44 _  (k4.2.1 c6) ((l4 k4.1).1 c6)), (fun c6 => hQ _ _  (k4.2.2 c6) ((l4 k4.1).2 c6))⟩⟩) (h1.2.2 c2) ((h2 h1.1).2 c2))⟩⟩
def fw_196_p44L (Q : Int → lf_Z → Prop) (s : lf_Z) : Prop := ∃ X44 : lf_Z → Prop, (∀ (s : lf_Z), X44 s → fw_196_p44 Q X44 s) ∧ X44 s
theorem cj_196_p44L {Q1 Q2 Q3 : Int → lf_Z → Prop} {s : lf_Z} (hQ : ∀ (r : Int) (s : lf_Z), Q1 r s → Q2 r s → Q3 r s) (h1 : fm_196_p44L Q1 s) (h2 : fw_196_p44L Q2 s) : fm_196_p44L Q3 s := by
  intro X0 hX0
  obtain ⟨Y, hY, hY0⟩ := h2
  exact h1 (fun  s => Y  s → X0  s) (fun  s hb hy => hX0  s (cj_196_p44 (X441 := fun  s => Y  s → X0  s) (X442 := Y) (X443 := X0) (hX44 := fun  s a b => a b) hQ hb (hY  s hy))) hY0
def fw_196 (Q : Int → lf_Z → Prop) (s : lf_Z) : Prop := (0 ≤ 705 * (s.1 96 7) ∧ 705 * (s.1 96 7) < 2820) → (fw_197 (fun s22 => (fw_196_p44L Q s22)) (lf_up (lf_up (lf_up (lf_up (lf_up s.1 95 12 (705 * (s.1 96 7))) 98 (705 * (s.1 96 7)) 0) 95 13 0) 95 24 0) 95 7 0, s.2.1, s.2.2))
theorem cj_196 {Q1 Q2 Q3 : Int → lf_Z → Prop} {s : lf_Z} (hQ : ∀ (r : Int) (s : lf_Z), Q1 r s → Q2 r s → Q3 r s) (h1 : fm_196 Q1 s) (h2 : fw_196 Q2 s) : fm_196 Q3 s := by
  unfold fm_196 at h1 ⊢
  unfold fw_196 at h2
  exact ⟨h1.1, cj_197 (fun s22 k2 l2 => cj_196_p44L hQ k2 l2) h1.2 (h2 h1.1)⟩
def fw_195_p37 (Q : Int → lf_Z → Prop) (y1 : Int) (s : lf_Z) : Prop := lf_R (s.1 95 5) → ((s.1 95 5 = 0 → (Q (((s.1 96 7) + 1) - 1) (lf_up (lf_up (lf_up s.1 95 6 y1) 95 4 0) 96 7 ((s.1 96 7) + 1), s.2.1, s.2.2))) ∧ (¬ (s.1 95 5 = 0) → (Q (-1) (lf_up (lf_up s.1 95 6 y1) 95 4 0, s.2.1, s.2.2))))
theorem cj_195_p37 {Q1 Q2 Q3 : Int → lf_Z → Prop} {y1 : Int} {s : lf_Z} (hQ : ∀ (r : Int) (s : lf_Z), Q1 r s → Q2 r s → Q3 r s) (h1 : fm_195_p37 Q1 y1 s) (h2 : fw_195_p37 Q2 y1 s) : fm_195_p37 Q3 y1 s := by
  unfold fm_195_p37 at h1 ⊢
  unfold fw_195_p37 at h2
  exact ⟨h1.1, ⟨(fun c2 => hQ _ _  (h1.2.1 c2) ((h2 h1.1).1 c2)), (fun c2 => hQ _ _  (h1.2.2 c2) ((h2 h1.1).2 c2))⟩⟩
def fw_195 (Q : Int → lf_Z → Prop) (s : lf_Z) : Prop := lf_R (s.1 96 7) → ((s.1 96 7 ≠ 4 → (fw_196 (fun r23 s22 => (lf_R r23 → ((r23 ≠ 0 → (fw_195_p37 Q (s22.1 95 8) (lf_up s22.1 95 5 r23, s22.2.1, s22.2.2))) ∧ (¬ (r23 ≠ 0) → (fw_195_p37 Q (-1) (lf_up s22.1 95 5 r23, s22.2.1, s22.2.2)))))) s)) ∧ (¬ (s.1 96 7 ≠ 4) → (Q (-1) s)))
theorem cj_195 {Q1 Q2 Q3 : Int → lf_Z → Prop} {s : lf_Z} (hQ : ∀ (r : Int) (s : lf_Z), Q1 r s → Q2 r s → Q3 r s) (h1 : fm_195 Q1 s) (h2 : fw_195 Q2 s) : fm_195 Q3 s := by
  unfold fm_195 at h1 ⊢
  unfold fw_195 at h2
  exact ⟨h1.1, ⟨(fun c2 => cj_196 (fun r23 s22 k3 l3 => ⟨k3.1, ⟨(fun c5 => cj_195_p37 hQ (k3.2.1 c5) ((l3 k3.1).1 c5)), (fun c5 => cj_195_p37 hQ (k3.2.2 c5) ((l3 k3.1).2 c5))⟩⟩) (h1.2.1 c2) ((h2 h1.1).1 c2)), (fun c2 => hQ _ _  (h1.2.2 c2) ((h2 h1.1).2 c2))⟩⟩
def fw_62_p28 (Q : Option Nat → lf_Z → Prop) (s : lf_Z) : Prop := Q none s
theorem cj_62_p28 {Q1 Q2 Q3 : Option Nat → lf_Z → Prop} {s : lf_Z} (hQ : ∀ (r : Option Nat) (s : lf_Z), Q1 r s → Q2 r s → Q3 r s) (h1 : fm_62_p28 Q1 s) (h2 : fw_62_p28 Q2 s) : fm_62_p28 Q3 s := by
  unfold fm_62_p28 at h1 ⊢
  unfold fw_62_p28 at h2
  exact hQ _ _  h1 h2
def fw_62 (a1 : Int) (Q : Option Nat → lf_Z → Prop) (s : lf_Z) : Prop := fw_15 a1 0 ((s.1 0 11) - 1) (fun z22 s21 => ((z22 = false → (fw_62_p28 Q s21)) ∧ (z22 = true → (lf_R a1 → ((4 ≤ a1 → (fw_62_p28 Q s21)) ∧ (¬ (4 ≤ a1) → ((0 ≤ a1 ∧ a1 < 4) → (∀ t25 : Nat, t25 = (a1).toNat → (Q (some t25) s21))))))))) s
theorem cj_62 {Q1 Q2 Q3 : Option Nat → lf_Z → Prop} {a1 : Int} {s : lf_Z} (hQ : ∀ (r : Option Nat) (s : lf_Z), Q1 r s → Q2 r s → Q3 r s) (h1 : fm_62 a1 Q1 s) (h2 : fw_62 a1 Q2 s) : fm_62 a1 Q3 s := by
  unfold fm_62 at h1 ⊢
  unfold fw_62 at h2
  exact cj_15 (fun z22 s21 k1 l1 => ⟨(fun c2 => cj_62_p28 hQ (k1.1 c2) (l1.1 c2)), (fun c2 => ⟨(k1.2 c2).1, ⟨(fun c5 => cj_62_p28 hQ ((k1.2 c2).2.1 c5) (((l1.2 c2) (k1.2 c2).1).1 c5)), (fun c5 => ⟨((k1.2 c2).2.2 c5).1, fun t25 et25 => hQ _ _  (((k1.2 c2).2.2 c5).2 t25 et25) (((((l1.2 c2) (k1.2 c2).1).2 c5) ((k1.2 c2).2.2 c5).1) t25 et25)⟩)⟩⟩)⟩) h1 h2
def fw_61 (a1 : Int) (Q : lf_Z → Prop) (s : lf_Z) : Prop := fw_62 a1 (fun r23 s21 => ((r23 = none → (Q (s21.1, s21.2.1, lf_ur s21.2.2 3 none))) ∧ (∀ t22 : Nat, r23 = some t22 → t22 < 4 → (Q (s21.1, s21.2.1, lf_ur s21.2.2 3 (some t22)))))) (lf_up s.1 0 12 a1, s.2.1, s.2.2)
theorem cj_61 {Q1 Q2 Q3 : lf_Z → Prop} {a1 : Int} {s : lf_Z} (hQ : ∀ (s : lf_Z), Q1 s → Q2 s → Q3 s) (h1 : fm_61 a1 Q1 s) (h2 : fw_61 a1 Q2 s) : fm_61 a1 Q3 s := by
  unfold fm_61 at h1 ⊢
  unfold fw_61 at h2
  exact cj_62 (fun r23 s21 k1 l1 => ⟨(fun c2 => hQ _  (k1.1 c2) (l1.1 c2)), (fun t22 et22 => ⟨(k1.2 t22 et22).1, hQ _  (k1.2 t22 et22).2 (l1.2 t22 et22 (k1.2 t22 et22).1)⟩)⟩) h1 h2
def fw_60 (a1 : Int) (Q : Bool → lf_Z → Prop) (s : lf_Z) : Prop := fw_15 a1 (-1) ((s.1 0 11) - 1) (fun z22 s21 => ((z22 = true → (fw_61 a1 (fun s23 => (Q true s23)) s21)) ∧ (z22 = false → (Q false s21)))) s
theorem cj_60 {Q1 Q2 Q3 : Bool → lf_Z → Prop} {a1 : Int} {s : lf_Z} (hQ : ∀ (r : Bool) (s : lf_Z), Q1 r s → Q2 r s → Q3 r s) (h1 : fm_60 a1 Q1 s) (h2 : fw_60 a1 Q2 s) : fm_60 a1 Q3 s := by
  unfold fm_60 at h1 ⊢
  unfold fw_60 at h2
  exact cj_15 (fun z22 s21 k1 l1 => ⟨(fun c2 => cj_61 (fun s23 k3 l3 => hQ _ _  k3 l3) (k1.1 c2) (l1.1 c2)), (fun c2 => hQ _ _  (k1.2 c2) (l1.2 c2))⟩) h1 h2
def fw_237 (a1 : Int) (Q : Bool → lf_Z → Prop) (s : lf_Z) : Prop := fw_183 a1 (-1) ((s.1 96 7) - 1) (fun z22 s21 => ((z22 = true → (Q true (lf_up s21.1 96 8 a1, s21.2.1, s21.2.2))) ∧ (z22 = false → (Q false s21)))) s
theorem cj_237 {Q1 Q2 Q3 : Bool → lf_Z → Prop} {a1 : Int} {s : lf_Z} (hQ : ∀ (r : Bool) (s : lf_Z), Q1 r s → Q2 r s → Q3 r s) (h1 : fm_237 a1 Q1 s) (h2 : fw_237 a1 Q2 s) : fm_237 a1 Q3 s := by
  unfold fm_237 at h1 ⊢
  unfold fw_237 at h2
  exact cj_183 (fun z22 s21 k1 l1 => ⟨(fun c2 => hQ _ _  (k1.1 c2) (l1.1 c2)), (fun c2 => hQ _ _  (k1.2 c2) (l1.2 c2))⟩) h1 h2
/-! tokens: what stands at a place of the tape (f its bytes, n how many there are), for both readers -/
section LX
def lx_bl (c : Int) : Bool := decide (c = 32) || decide (c = 10)
def lx_dg (c : Int) : Bool := decide (48 ≤ c) && decide (c ≤ 57)
def lx_lt (c : Int) : Bool := (decide (97 ≤ c) && decide (c ≤ 122)) || (decide (65 ≤ c) && decide (c ≤ 90))
def lx_rn (P : Int → Bool) (f : Int → Int) (n : Int) : Nat → Int → Int
  | 0, p => p
  | k + 1, p => if p < n ∧ P (f p) = true then lx_rn P f n k (p + 1) else p
/-- the end of the run of bytes of a sort that begins at p -/
def lx_run (P : Int → Bool) (f : Int → Int) (n p : Int) : Int := lx_rn P f n (n - p).toNat p
variable {P : Int → Bool} {f : Int → Int} {n p : Int}
theorem lx_run_s (h : p < n) (hP : P (f p) = true) : lx_run P f n p = lx_run P f n (p + 1) := by
  unfold lx_run
  rw [show (n - p).toNat = (n - (p + 1)).toNat + 1 by omega]
  show (if p < n ∧ P (f p) = true then lx_rn P f n (n - (p + 1)).toNat (p + 1) else p) = _
  rw [if_pos ⟨h, hP⟩]
theorem lx_run_e (h : ¬ (p < n ∧ P (f p) = true)) : lx_run P f n p = p := by
  unfold lx_run
  cases hk : (n - p).toNat with
  | zero => rfl
  | succ k =>
    show (if p < n ∧ P (f p) = true then lx_rn P f n k (p + 1) else p) = _
    rw [if_neg h]
theorem lx_rnB : ∀ (k : Nat) (p : Int), p ≤ lx_rn P f n k p ∧ (p ≤ n → lx_rn P f n k p ≤ n) := by
  intro k
  induction k with
  | zero => exact fun p => ⟨Int.le_refl _, fun h => h⟩
  | succ k ih =>
    intro p
    show p ≤ (if p < n ∧ P (f p) = true then lx_rn P f n k (p + 1) else p) ∧ _
    by_cases h : p < n ∧ P (f p) = true
    · have e : lx_rn P f n (k + 1) p = lx_rn P f n k (p + 1) := if_pos h
      rw [e, if_pos h]
      have := ih (p + 1)
      exact ⟨by omega, fun _ => this.2 (by omega)⟩
    · have e : lx_rn P f n (k + 1) p = p := if_neg h
      rw [e, if_neg h]
      exact ⟨Int.le_refl _, fun h => h⟩
theorem lx_runB : p ≤ lx_run P f n p := (lx_rnB _ p).1
theorem lx_runN (h : p ≤ n) : lx_run P f n p ≤ n := (lx_rnB _ p).2 h
/-- the number that figures tell from p on, 10000 for more -/
def lx_nn (f : Int → Int) (n : Int) : Nat → Int → Int → Int
  | 0, _, v => v
  | k + 1, p, v => if p < n ∧ lx_dg (f p) = true then lx_nn f n k (p + 1) (min 10000 (v * 10 + f p - 48)) else v
def lx_num (f : Int → Int) (n p v : Int) : Int := lx_nn f n (n - p).toNat p v
theorem lx_num_s {v : Int} (h : p < n) (hP : lx_dg (f p) = true) : lx_num f n p v = lx_num f n (p + 1) (min 10000 (v * 10 + f p - 48)) := by
  unfold lx_num
  rw [show (n - p).toNat = (n - (p + 1)).toNat + 1 by omega]
  show (if p < n ∧ lx_dg (f p) = true then lx_nn f n (n - (p + 1)).toNat (p + 1) (min 10000 (v * 10 + f p - 48)) else v) = _
  rw [if_pos ⟨h, hP⟩]
theorem lx_num_e {v : Int} (h : ¬ (p < n ∧ lx_dg (f p) = true)) : lx_num f n p v = v := by
  unfold lx_num
  cases hk : (n - p).toNat with
  | zero => rfl
  | succ k =>
    show (if p < n ∧ lx_dg (f p) = true then lx_nn f n k (p + 1) (min 10000 (v * 10 + f p - 48)) else v) = _
    rw [if_neg h]
/-! words -/
def lx_WL : List (List Int) := [[112, 97, 99, 101], [116, 97, 107, 101, 115], [112, 97, 121, 115], [115, 116, 114, 101, 116, 99, 104], [119, 97, 121], [112, 97, 116, 104], [111, 110, 101], [115, 116, 114, 97, 121], [115, 101, 110, 100], [115, 104, 117, 116], [111, 112, 101, 110], [115, 112, 108, 105, 116], [109, 105, 110, 117, 116, 101], [104, 97, 114, 109], [116, 111], [97, 116], [98, 121], [105, 102], [116, 104, 101, 110], [101, 108, 115, 101], [101, 110, 100], [108, 101, 116], [98, 101], [105, 110], [110, 111, 116], [97, 110, 100], [111, 114], [115, 105, 122, 101], [112, 108, 97, 99, 101], [107, 105, 110, 100], [104, 101, 114, 101], [98, 101, 104, 105, 110, 100], [97, 104, 101, 97, 100], [115, 116, 111, 111, 100], [98, 117, 99, 107, 101, 116], [98, 97, 99, 107], [100, 111, 110, 101]]
def lx_ml (f : Int → Int) : List Int → Int → Bool
  | [], _ => true
  | c :: r, p => decide (f p = c) && lx_ml f r (p + 1)
def lx_m (f : Int → Int) (p e : Int) (w : List Int) : Bool := decide (e = p + w.length) && lx_ml f w p
def lx_wf (f : Int → Int) (p e : Int) : List (List Int) → Int → Int
  | [], _ => 1
  | w :: ws, k => if lx_m f p e w = true then k else lx_wf f p e ws (k + 1)
def lx_W (f : Int → Int) (p e : Int) : Int := lx_wf f p e lx_WL 20
def lx_wl (f : Int → Int) (p e : Int) : List Int → Int → Int → Bool → Int
  | [], _, _, _ => 1
  | c :: r, x1, x2, x3 => if c = 32 then (if x3 = true ∧ x2 = e then x1 else lx_wl f p e r (x1 + 1) p true) else lx_wl f p e r x1 (x2 + 1) (x3 && decide (x2 < e) && decide (f x2 = c))
theorem lx_wl1 {e : Int} {r : List Int} {x1 : Int} : ∀ (w : List Int) (x2 : Int) (x3 : Bool), w.all (fun c => decide (c ≠ 32)) = true → lx_wl f p e (w ++ 32 :: r) x1 x2 x3 = if x3 = true ∧ lx_ml f w x2 = true ∧ e = x2 + w.length then x1 else lx_wl f p e r (x1 + 1) p true := by
  intro w
  induction w with
  | nil =>
    intro x2 x3 _
    show (if (32 : Int) = 32 then (if x3 = true ∧ x2 = e then x1 else lx_wl f p e r (x1 + 1) p true) else _) = _
    rw [if_pos rfl]
    by_cases h : x3 = true ∧ x2 = e
    · rw [if_pos h, if_pos ⟨h.1, rfl, by show e = x2 + ((0 : Nat) : Int); omega⟩]
    · rw [if_neg h, if_neg (fun c => h ⟨c.1, by have := c.2.2; have : e = x2 + ((0 : Nat) : Int) := this; omega⟩)]
  | cons c w ih =>
    intro x2 x3 hw
    rw [List.all_cons, Bool.and_eq_true] at hw
    have hc : c ≠ 32 := of_decide_eq_true hw.1
    show (if c = 32 then _ else lx_wl f p e (w ++ 32 :: r) x1 (x2 + 1) (x3 && decide (x2 < e) && decide (f x2 = c))) = _
    rw [if_neg hc, ih _ _ hw.2]
    have el : ((c :: w).length : Int) = (w.length : Int) + 1 := by rw [List.length_cons]; omega
    rw [el]
    by_cases h : x3 = true ∧ lx_ml f (c :: w) x2 = true ∧ e = x2 + ((w.length : Int) + 1)
    · have hm : (decide (f x2 = c) && lx_ml f w (x2 + 1)) = true := h.2.1
      rw [Bool.and_eq_true] at hm
      rw [if_pos h, if_pos ⟨by rw [h.1, hm.1, decide_eq_true (show x2 < e by omega)]; rfl, hm.2, by omega⟩]
    · rw [if_neg h, if_neg (fun q => h ?_)]
      have q1 := q.1
      rw [Bool.and_eq_true, Bool.and_eq_true] at q1
      refine ⟨q1.1.1, ?_, by omega⟩
      show (decide (f x2 = c) && lx_ml f w (x2 + 1)) = true
      rw [q1.2, q.2.1]; rfl
theorem lx_wlW {e : Int} : ∀ (ws : List (List Int)) (k : Int), ws.all (fun w => w.all (fun c => decide (c ≠ 32))) = true → lx_wl f p e (ws.flatMap (fun w => w ++ [32])) k p true = lx_wf f p e ws k := by
  intro ws
  induction ws with
  | nil => intro k _; rfl
  | cons w ws ih =>
    intro k h
    rw [List.all_cons, Bool.and_eq_true] at h
    rw [List.flatMap_cons, List.append_assoc]
    show lx_wl f p e (w ++ 32 :: ws.flatMap (fun w => w ++ [32])) k p true = if lx_m f p e w = true then k else lx_wf f p e ws (k + 1)
    rw [lx_wl1 w p true h.1, ih _ h.2]
    unfold lx_m
    by_cases hm : lx_ml f w p = true ∧ e = p + w.length
    · rw [if_pos ⟨rfl, hm.1, hm.2⟩, if_pos (by rw [hm.1, decide_eq_true hm.2]; rfl)]
    · rw [if_neg (fun c => hm c.2), if_neg (fun c => hm ?_)]
      rw [Bool.and_eq_true] at c
      exact ⟨c.2, of_decide_eq_true c.1⟩
theorem lx_byt : ps_byt.map Int32.toInt = lx_WL.flatMap (fun w => w ++ [32]) := by decide +kernel
theorem lx_wlB {e : Int} : lx_wl f p e (ps_byt.map Int32.toInt) 20 p true = lx_W f p e := by
  rw [lx_byt]
  exact lx_wlW lx_WL 20 (by decide +kernel)
theorem lx_drop : ∀ k, k < 180 → (ps_byt.drop k).map Int32.toInt = (ps_byt.getD k 0).toInt :: (ps_byt.drop (k + 1)).map Int32.toInt := by decide +kernel
theorem lx_dropE {k : Nat} (h : 180 ≤ k) : (ps_byt.drop k).map Int32.toInt = [] := by
  rw [List.drop_eq_nil_of_le (show ps_byt.length ≤ k from h)]
  rfl
/-! the token at a place -/
def lx_sg (c d : Int) : Int := if c = 60 then (if d = 1 then 5 else 4) else if c = 62 then (if d = 1 then 7 else 6) else if c = 61 then 8 else if c = 35 then 9 else if c = 43 then 10 else if c = 45 then 11 else if c = 42 then 12 else if c = 47 then 13 else if c = 40 then 14 else if c = 41 then 15 else if c = 59 then 16 else 1
/-- whether a sign is one of two bytes -/
def lx_two (f : Int → Int) (n p : Int) : Bool := decide (p + 1 < n) && decide (f (p + 1) = 61) && (decide (f p = 60) || decide (f p = 62))
def lx_E (f : Int → Int) (n p : Int) : Int := if n ≤ p then p else if lx_dg (f p) = true then lx_run lx_dg f n p else if lx_lt (f p) = true then lx_run lx_lt f n p else if lx_two f n p = true then p + 2 else p + 1
def lx_T (f : Int → Int) (n p : Int) : Int := if n ≤ p then 0 else if lx_dg (f p) = true then 2 else if lx_lt (f p) = true then (if lx_run lx_lt f n p = p + 1 ∧ 97 ≤ f p then 3 else lx_W f p (lx_run lx_lt f n p)) else lx_sg (f p) (if lx_two f n p = true then 1 else 0)
def lx_V (f : Int → Int) (n p : Int) : Int := if lx_dg (f p) = true then lx_num f n p 0 else f p - 97
/-! the class's reader at a token -/
variable {s t : lf_Z}
section ZU
variable {F : Nat → Int → Int} {y : (Nat → Int → Int) × (Nat → Option Nat)} {a c : Nat} {i j v : Int}
theorem zu_s : ((lf_up F c i v, y) : lf_Z).1 c i = v := lf_up_s
theorem zu_i (h : j ≠ i) : ((lf_up F c i v, y) : lf_Z).1 c j = F c j := lf_up_i h
theorem zu_c (h : a ≠ c) : ((lf_up F c i v, y) : lf_Z).1 a j = F a j := lf_up_c h
theorem zu_r (h : a ≠ c) : ((lf_up F c i v, y) : lf_Z).1 a = F a := lf_up_row h
end ZU
def rd_F (s t : lf_Z) : Prop := (∀ c, c ≠ 31 → t.1 c = s.1 c) ∧ (∀ i, i ≠ 7 → i ≠ 8 → i ≠ 9 → i ≠ 10 → t.1 31 i = s.1 31 i) ∧ t.2 = s.2
theorem rd_Fr : rd_F s s := ⟨fun _ _ => rfl, fun _ _ _ _ _ => rfl, rfl⟩
theorem rd_Ft {r : lf_Z} (h : rd_F s t) (h2 : rd_F t r) : rd_F s r := ⟨fun c hc => (h2.1 c hc).trans (h.1 c hc), fun i a b c d => (h2.2.1 i a b c d).trans (h.2.1 i a b c d), h2.2.2.trans h.2.2⟩
theorem rd_Fu {i v : Int} (h : rd_F s t) (hi : i = 7 ∨ i = 8 ∨ i = 9 ∨ i = 10) : rd_F s (lf_up t.1 31 i v, t.2.1, t.2.2) := by
  refine ⟨fun c hc => ?_, fun j a b c d => ?_, h.2.2⟩
  · exact (zu_r hc).trans (h.1 c hc)
  · exact (zu_i (by omega)).trans (h.2.1 j a b c d)
def rd_at (s : lf_Z) (b : Int) : Prop := s.1 31 9 = b ∧ s.1 31 8 = lx_T (s.1 32) (s.1 31 1) b ∧ s.1 31 7 = lx_E (s.1 32) (s.1 31 1) b ∧ ((s.1 31 8 = 2 ∨ s.1 31 8 = 3) → s.1 31 10 = lx_V (s.1 32) (s.1 31 1) b)
theorem fl_32 {a : Int} {Q : Bool → lf_Z → Prop} (h : Q (lx_dg a) s) : fw_32 a Q s := by
  unfold fw_32
  intro _
  refine ⟨fun c => ?_, fun c => ⟨fun d => ?_, fun d => ?_⟩⟩
  · rw [show lx_dg a = false from by unfold lx_dg; rw [decide_eq_false (by omega)]; rfl] at h; exact h
  · rw [show lx_dg a = false from by unfold lx_dg; rw [decide_eq_false (show ¬ a ≤ 57 by omega), Bool.and_false]] at h; exact h
  · rw [show lx_dg a = true from by unfold lx_dg; rw [decide_eq_true (show 48 ≤ a by omega), decide_eq_true (show a ≤ 57 by omega)]; rfl] at h; exact h
theorem fl_34 {a : Int} {Q : Bool → lf_Z → Prop} (h : Q (lx_lt a) s) : fw_34 a Q s := by
  have e : ∀ b : Bool, ((97 ≤ a ∧ a ≤ 122) ∨ (65 ≤ a ∧ a ≤ 90) ↔ b = true) → lx_lt a = b := by
    intro b hb
    unfold lx_lt
    cases b with
    | true =>
      rcases hb.mpr rfl with q | q
      · rw [decide_eq_true q.1, decide_eq_true q.2]; rfl
      · rw [decide_eq_true q.1, decide_eq_true q.2]; simp
    | false =>
      cases hx : ((decide (97 ≤ a) && decide (a ≤ 122)) || (decide (65 ≤ a) && decide (a ≤ 90))) with
      | false => rfl
      | true =>
        rw [Bool.or_eq_true, Bool.and_eq_true, Bool.and_eq_true, decide_eq_true_eq, decide_eq_true_eq, decide_eq_true_eq, decide_eq_true_eq] at hx
        exact absurd (hb.mp hx) (by decide)
  have p12 : ¬ (97 ≤ a ∧ a ≤ 122) → fw_34_p12 Q a s := by
    intro hn
    unfold fw_34_p12
    intro _
    refine ⟨fun c => ?_, fun c => ⟨fun d => ?_, fun d => ?_⟩⟩
    · rw [e false ⟨fun q => by omega, fun q => by cases q⟩] at h; exact h
    · rw [e false ⟨fun q => by omega, fun q => by cases q⟩] at h; exact h
    · rw [e true ⟨fun _ => rfl, fun _ => by omega⟩] at h; exact h
  unfold fw_34
  intro _
  refine ⟨fun c => p12 (by omega), fun c => ⟨fun d => ?_, fun d => p12 (by omega)⟩⟩
  rw [e true ⟨fun _ => rfl, fun _ => by omega⟩] at h; exact h
theorem fl_upS {I : Nat → Int → Int} {c : Nat} {i : Int} : lf_up I c i (I c i) = I := by
  funext a b
  unfold lf_up
  by_cases h : a = c
  · subst h
    rw [if_pos rfl]
    by_cases g : b = i
    · subst g; rw [if_pos rfl]
    · rw [if_neg g]
  · rw [if_neg h]
/-- a number is read to its end -/
theorem fl_33 {Q : lf_Z → Prop} (h : ∀ t : lf_Z, rd_F s t → t.1 31 9 = s.1 31 9 → t.1 31 8 = 2 → t.1 31 7 = lx_run lx_dg (s.1 32) (s.1 31 1) (s.1 31 7) → t.1 31 10 = lx_num (s.1 32) (s.1 31 1) (s.1 31 7) 0 → Q t) (h7 : 0 ≤ s.1 31 7) (hb : ∀ i, 0 ≤ i → i < s.1 31 1 → 0 ≤ s.1 32 i ∧ s.1 32 i ≤ 255) : fw_33 Q s := by
  unfold fw_33
  refine ⟨fun t => rd_F s t ∧ t.1 31 9 = s.1 31 9 ∧ t.1 31 8 = 2 ∧ 0 ≤ t.1 31 7 ∧ (0 ≤ t.1 31 10 ∧ t.1 31 10 ≤ 10000) ∧ lx_run lx_dg (s.1 32) (s.1 31 1) (t.1 31 7) = lx_run lx_dg (s.1 32) (s.1 31 1) (s.1 31 7) ∧ lx_num (s.1 32) (s.1 31 1) (t.1 31 7) (t.1 31 10) = lx_num (s.1 32) (s.1 31 1) (s.1 31 7) 0, ?_, ?_⟩
  · intro t ⟨hF, h9, h8, p0, v0, hr, hn⟩
    have e1 : t.1 31 1 = s.1 31 1 := hF.2.1 1 (by decide) (by decide) (by decide) (by decide)
    have e32 : t.1 32 = s.1 32 := hF.1 32 (by decide)
    unfold fw_33_p10
    intro _ _
    rw [e1]
    have fin : ¬ (t.1 31 7 < s.1 31 1 ∧ lx_dg (s.1 32 (t.1 31 7)) = true) → Q t := by
      intro hc
      refine h t hF h9 h8 ?_ ?_
      · rw [← hr, lx_run_e hc]
      · rw [← hn, lx_num_e hc]
    refine ⟨fun c => fin (fun q => by omega), fun c _ => fl_32 ?_⟩
    rw [e32]
    refine ⟨fun d => fin (fun q => by rw [d] at q; cases q.2), fun d _ => ?_⟩
    have hb2 := hb (t.1 31 7) p0 (by omega)
    have hw : lf_w ((lf_w ((lf_w ((t.1 31 10) * 10)) + (s.1 32 (t.1 31 7)))) - 48) = t.1 31 10 * 10 + s.1 32 (t.1 31 7) - 48 := by
      rw [tr_w (a := t.1 31 10 * 10) (by omega), tr_w (a := t.1 31 10 * 10 + s.1 32 (t.1 31 7)) (by omega), tr_w (by omega)]
    rw [hw]
    have hd : 48 ≤ s.1 32 (t.1 31 7) := by
      unfold lx_dg at d
      rw [Bool.and_eq_true, decide_eq_true_eq] at d
      exact d.1
    have g7 : (lf_up (lf_up t.1 31 10 (min 10000 (t.1 31 10 * 10 + s.1 32 (t.1 31 7) - 48))) 31 7 ((t.1 31 7) + 1)) 31 7 = t.1 31 7 + 1 := lf_up_s
    have g10 : (lf_up (lf_up t.1 31 10 (min 10000 (t.1 31 10 * 10 + s.1 32 (t.1 31 7) - 48))) 31 7 ((t.1 31 7) + 1)) 31 10 = min 10000 (t.1 31 10 * 10 + s.1 32 (t.1 31 7) - 48) := (lf_up_i (by decide)).trans lf_up_s
    refine ⟨rd_Fu (rd_Fu hF (by omega)) (by omega), ?_, ?_, ?_, ?_, ?_, ?_⟩
    · exact ((zu_i (by decide)).trans (lf_up_i (by decide))).trans h9
    · exact ((zu_i (by decide)).trans (lf_up_i (by decide))).trans h8
    · show 0 ≤ (lf_up (lf_up t.1 31 10 (min 10000 (t.1 31 10 * 10 + s.1 32 (t.1 31 7) - 48))) 31 7 ((t.1 31 7) + 1)) 31 7
      rw [g7]; omega
    · show 0 ≤ (lf_up (lf_up t.1 31 10 (min 10000 (t.1 31 10 * 10 + s.1 32 (t.1 31 7) - 48))) 31 7 ((t.1 31 7) + 1)) 31 10 ∧ (lf_up (lf_up t.1 31 10 (min 10000 (t.1 31 10 * 10 + s.1 32 (t.1 31 7) - 48))) 31 7 ((t.1 31 7) + 1)) 31 10 ≤ 10000
      rw [g10]; omega
    · show lx_run lx_dg (s.1 32) (s.1 31 1) ((lf_up (lf_up t.1 31 10 (min 10000 (t.1 31 10 * 10 + s.1 32 (t.1 31 7) - 48))) 31 7 ((t.1 31 7) + 1)) 31 7) = _
      rw [g7, ← hr, lx_run_s (by omega) d]
    · show lx_num (s.1 32) (s.1 31 1) ((lf_up (lf_up t.1 31 10 (min 10000 (t.1 31 10 * 10 + s.1 32 (t.1 31 7) - 48))) 31 7 ((t.1 31 7) + 1)) 31 7) ((lf_up (lf_up t.1 31 10 (min 10000 (t.1 31 10 * 10 + s.1 32 (t.1 31 7) - 48))) 31 7 ((t.1 31 7) + 1)) 31 10) = _
      rw [g7, g10, ← hn, lx_num_s (by omega) d]
  · have g7 : (lf_up (lf_up s.1 31 8 2) 31 10 0) 31 7 = s.1 31 7 := (lf_up_i (by decide)).trans (lf_up_i (by decide))
    have g10 : (lf_up (lf_up s.1 31 8 2) 31 10 0) 31 10 = 0 := lf_up_s
    refine ⟨rd_Fu (rd_Fu rd_Fr (by omega)) (by omega), (zu_i (by decide)).trans (lf_up_i (by decide)), (zu_i (by decide)).trans lf_up_s, ?_, ?_, ?_, ?_⟩
    · show 0 ≤ (lf_up (lf_up s.1 31 8 2) 31 10 0) 31 7; rw [g7]; exact h7
    · show 0 ≤ (lf_up (lf_up s.1 31 8 2) 31 10 0) 31 10 ∧ (lf_up (lf_up s.1 31 8 2) 31 10 0) 31 10 ≤ 10000
      rw [g10]; omega
    · show lx_run lx_dg (s.1 32) (s.1 31 1) ((lf_up (lf_up s.1 31 8 2) 31 10 0) 31 7) = _; rw [g7]
    · show lx_num (s.1 32) (s.1 31 1) ((lf_up (lf_up s.1 31 8 2) 31 10 0) 31 7) ((lf_up (lf_up s.1 31 8 2) 31 10 0) 31 10) = _; rw [g7, g10]
/-- which word stands from the token's begin to the place at hand -/
theorem fl_36 {Q : Int → lf_Z → Prop} (h : Q (lx_W (s.1 32) (s.1 31 9) (s.1 31 7)) s) : fw_36 Q s := by
  unfold fw_36
  refine ⟨fun x1 x2 x3 x4 t => t = s ∧ 0 ≤ x4 ∧ (x3 = 0 ∨ x3 = 1) ∧ lx_wl (s.1 32) (s.1 31 9) (s.1 31 7) ((ps_byt.drop x4.toNat).map Int32.toInt) x1 x2 (decide (x3 ≠ 0)) = lx_W (s.1 32) (s.1 31 9) (s.1 31 7), ?_, ?_⟩
  · intro x1 x2 x3 x4 t ⟨ht, h4, h3, hw⟩
    subst ht
    unfold fw_36_p13
    intro _
    refine ⟨fun c => ?_, fun c _ => ?_⟩
    · rw [lx_dropE (show 180 ≤ x4.toNat by omega)] at hw
      have e : lx_W (t.1 32) (t.1 31 9) (t.1 31 7) = 1 := hw.symm
      rw [e] at h
      exact h
    · rw [lx_drop x4.toNat (by omega)] at hw
      generalize hc : (ps_byt.getD x4.toNat 0).toInt = ch at hw ⊢
      have e4 : (x4 + 1).toNat = x4.toNat + 1 := by omega
      have hw2 : (if ch = 32 then (if decide (x3 ≠ 0) = true ∧ x2 = t.1 31 7 then x1 else lx_wl (t.1 32) (t.1 31 9) (t.1 31 7) ((ps_byt.drop (x4.toNat + 1)).map Int32.toInt) (x1 + 1) (t.1 31 9) true) else lx_wl (t.1 32) (t.1 31 9) (t.1 31 7) ((ps_byt.drop (x4.toNat + 1)).map Int32.toInt) x1 (x2 + 1) (decide (x3 ≠ 0) && decide (x2 < t.1 31 7) && decide (t.1 32 x2 = ch))) = lx_W (t.1 32) (t.1 31 9) (t.1 31 7) := hw
      refine ⟨fun c32 => ?_, fun c32 => ?_⟩
      · rw [if_pos c32] at hw2
        have nx : ¬ (decide (x3 ≠ 0) = true ∧ x2 = t.1 31 7) → fw_36_p88 (fun x1 x2 x3 x4 t' => t' = t ∧ 0 ≤ x4 ∧ (x3 = 0 ∨ x3 = 1) ∧ lx_wl (t.1 32) (t.1 31 9) (t.1 31 7) ((ps_byt.drop x4.toNat).map Int32.toInt) x1 x2 (decide (x3 ≠ 0)) = lx_W (t.1 32) (t.1 31 9) (t.1 31 7)) Q x1 x4 t := by
          intro hn
          rw [if_neg hn] at hw2
          refine ⟨rfl, by omega, Or.inr rfl, ?_⟩
          rw [e4]
          exact hw2
        intro _
        refine ⟨fun c3 => nx (fun q => by rw [c3] at q; cases q.1), fun c3 _ _ => ⟨fun c2 => nx (fun q => c2 q.2), fun c2 => ?_⟩⟩
        rw [if_pos ⟨decide_eq_true c3, Classical.not_not.mp c2⟩] at hw2
        rw [← hw2] at h
        exact h
      · rw [if_neg c32] at hw2
        have nx : ∀ y : Int, (y = 0 ∨ y = 1) → (decide (x3 ≠ 0) && decide (x2 < t.1 31 7) && decide (t.1 32 x2 = ch)) = decide (y ≠ 0) → fw_36_p67 (fun x1 x2 x3 x4 t' => t' = t ∧ 0 ≤ x4 ∧ (x3 = 0 ∨ x3 = 1) ∧ lx_wl (t.1 32) (t.1 31 9) (t.1 31 7) ((ps_byt.drop x4.toNat).map Int32.toInt) x1 x2 (decide (x3 ≠ 0)) = lx_W (t.1 32) (t.1 31 9) (t.1 31 7)) Q x1 x2 x4 y t := by
          intro y hy he
          rw [he] at hw2
          refine ⟨rfl, by omega, hy, ?_⟩
          rw [e4]
          exact hw2
        intro _
        refine ⟨fun c3 => nx 0 (Or.inl rfl) ?_, fun c3 _ _ => ⟨fun c2 => nx 0 (Or.inl rfl) ?_, fun c2 _ _ => ⟨fun c1 => nx 0 (Or.inl rfl) ?_, fun c1 => nx 1 (Or.inr rfl) ?_⟩⟩⟩
        · rw [decide_eq_false (show ¬ x3 ≠ 0 from fun q => q c3)]; rfl
        · rw [decide_eq_false (show ¬ x2 < t.1 31 7 by omega), Bool.and_false, Bool.false_and]; rfl
        · rw [decide_eq_false (show ¬ t.1 32 x2 = ch from c1), Bool.and_false]; rfl
        · rw [decide_eq_true c3, decide_eq_true (show x2 < t.1 31 7 by omega), decide_eq_true (show t.1 32 x2 = ch from Classical.not_not.mp c1)]; rfl
  · exact ⟨rfl, Int.le_refl _, Or.inr rfl, lx_wlB⟩
/-- a word or a letter is read to its end -/
theorem fl_35 {Q : lf_Z → Prop} (h9 : s.1 31 9 = s.1 31 7) (h7 : 0 ≤ s.1 31 7) (hn : s.1 31 7 < s.1 31 1) (hc : lx_lt (s.1 32 (s.1 31 7)) = true) (h : ∀ t : lf_Z, rd_F s t → t.1 31 9 = s.1 31 9 → t.1 31 7 = lx_run lx_lt (s.1 32) (s.1 31 1) (s.1 31 7) → ((t.1 31 7 = s.1 31 7 + 1 ∧ 97 ≤ s.1 32 (s.1 31 7) ∧ t.1 31 8 = 3 ∧ t.1 31 10 = s.1 32 (s.1 31 7) - 97) ∨ (¬ (t.1 31 7 = s.1 31 7 + 1 ∧ 97 ≤ s.1 32 (s.1 31 7)) ∧ t.1 31 8 = lx_W (s.1 32) (s.1 31 7) (lx_run lx_lt (s.1 32) (s.1 31 1) (s.1 31 7)))) → Q t) : fw_35 Q s := by
  unfold fw_35
  refine ⟨fun t => rd_F s t ∧ t.1 31 9 = s.1 31 9 ∧ lx_run lx_lt (s.1 32) (s.1 31 1) (t.1 31 7) = lx_run lx_lt (s.1 32) (s.1 31 1) (s.1 31 7), ?_, ⟨rd_Fr, rfl, rfl⟩⟩
  intro t ⟨hF, g9, hr⟩
  have e1 : t.1 31 1 = s.1 31 1 := hF.2.1 1 (by decide) (by decide) (by decide) (by decide)
  have e32 : t.1 32 = s.1 32 := hF.1 32 (by decide)
  unfold fw_35_p0
  intro _ _
  rw [e1]
  have fin : ¬ (t.1 31 7 < s.1 31 1 ∧ lx_lt (s.1 32 (t.1 31 7)) = true) → fw_35_p39 Q t := by
    intro hc
    have g7 : t.1 31 7 = lx_run lx_lt (s.1 32) (s.1 31 1) (s.1 31 7) := by rw [← hr, lx_run_e hc]
    have w90 : ¬ (t.1 31 7 = s.1 31 7 + 1 ∧ 97 ≤ s.1 32 (s.1 31 7)) → fw_35_p90 Q t := by
      intro hw
      unfold fw_35_p90
      refine fl_36 ?_
      rw [e32, g9, h9, g7]
      have a7 : (lf_up t.1 31 8 (lx_W (s.1 32) (s.1 31 7) (lx_run lx_lt (s.1 32) (s.1 31 1) (s.1 31 7)))) 31 7 = t.1 31 7 := lf_up_i (by decide)
      refine h _ (rd_Fu hF (by omega)) ((zu_i (by decide)).trans g9) (a7.trans g7) (Or.inr ⟨?_, zu_s⟩)
      show ¬ ((lf_up t.1 31 8 (lx_W (s.1 32) (s.1 31 7) (lx_run lx_lt (s.1 32) (s.1 31 1) (s.1 31 7)))) 31 7 = s.1 31 7 + 1 ∧ _)
      rw [a7]
      exact hw
    unfold fw_35_p39
    intro _ _
    rw [g9, h9]
    refine ⟨fun c => w90 (fun q => c q.1), fun c _ _ => ?_⟩
    rw [e32]
    refine ⟨fun d => w90 (fun q => by omega), fun d => ?_⟩
    have a7 : (lf_up (lf_up t.1 31 8 3) 31 10 ((s.1 32 (s.1 31 7)) - 97)) 31 7 = t.1 31 7 := (lf_up_i (by decide)).trans (lf_up_i (by decide))
    refine h _ (rd_Fu (rd_Fu hF (by omega)) (by omega)) (((zu_i (by decide)).trans (lf_up_i (by decide))).trans g9) (a7.trans g7) (Or.inl ⟨a7.trans (Classical.not_not.mp c), by omega, (zu_i (by decide)).trans lf_up_s, zu_s⟩)
  refine ⟨fun c => fin (fun q => by omega), fun c _ => fl_34 ?_⟩
  rw [e32]
  refine ⟨fun d => fin (fun q => by rw [d] at q; cases q.2), fun d => ?_⟩
  have a7 : (lf_up t.1 31 7 ((t.1 31 7) + 1)) 31 7 = t.1 31 7 + 1 := lf_up_s
  refine ⟨rd_Fu hF (by omega), (zu_i (by decide)).trans g9, ?_⟩
  show lx_run lx_lt (s.1 32) (s.1 31 1) ((lf_up t.1 31 7 ((t.1 31 7) + 1)) 31 7) = _
  rw [a7, ← hr, lx_run_s (by omega) d]
/-- a sign -/
theorem fl_37 {Q : lf_Z → Prop} (h : ∀ t : lf_Z, rd_F s t → t.1 31 9 = s.1 31 9 → t.1 31 7 = (if lx_two (s.1 32) (s.1 31 1) (s.1 31 7) = true then s.1 31 7 + 2 else s.1 31 7 + 1) → t.1 31 8 = lx_sg (s.1 32 (s.1 31 7)) (if lx_two (s.1 32) (s.1 31 1) (s.1 31 7) = true then 1 else 0) → Q t) : fw_37 (s.1 32 (s.1 31 7)) Q s := by
  have go : ∀ (y : Int) (p : Int) (t : lf_Z), rd_F s t → t.1 31 9 = s.1 31 9 → t.1 31 7 = p → y = (if lx_two (s.1 32) (s.1 31 1) (s.1 31 7) = true then 1 else 0) → p = (if lx_two (s.1 32) (s.1 31 1) (s.1 31 7) = true then s.1 31 7 + 2 else s.1 31 7 + 1) → (y = 1 → s.1 32 (s.1 31 7) = 60 ∨ s.1 32 (s.1 31 7) = 62) → fw_37_p67 Q (s.1 32 (s.1 31 7)) y t := by
    intro y p t hF g9 g7 hy hp h1
    have fin : ∀ v : Int, v = lx_sg (s.1 32 (s.1 31 7)) y → Q (lf_up t.1 31 8 v, t.2.1, t.2.2) := by
      intro v hv
      refine h _ (rd_Fu hF (by omega)) ((zu_i (by decide)).trans g9) (((zu_i (by decide)).trans g7).trans hp) ?_
      show (lf_up t.1 31 8 v) 31 8 = _
      rw [lf_up_s, hv, hy]
    have bad : (s.1 32 (s.1 31 7) ≠ 60 ∧ s.1 32 (s.1 31 7) ≠ 62 ∧ s.1 32 (s.1 31 7) ≠ 61 ∧ s.1 32 (s.1 31 7) ≠ 35 ∧ s.1 32 (s.1 31 7) ≠ 43 ∧ s.1 32 (s.1 31 7) ≠ 45 ∧ s.1 32 (s.1 31 7) ≠ 42 ∧ s.1 32 (s.1 31 7) ≠ 47 ∧ s.1 32 (s.1 31 7) ≠ 40 ∧ s.1 32 (s.1 31 7) ≠ 41 ∧ s.1 32 (s.1 31 7) ≠ 59) → fw_37_p311 Q t := by
      intro hb
      unfold fw_37_p311
      refine fin 1 ?_
      unfold lx_sg
      rw [if_neg hb.1, if_neg hb.2.1, if_neg hb.2.2.1, if_neg hb.2.2.2.1, if_neg hb.2.2.2.2.1, if_neg hb.2.2.2.2.2.1, if_neg hb.2.2.2.2.2.2.1, if_neg hb.2.2.2.2.2.2.2.1, if_neg hb.2.2.2.2.2.2.2.2.1, if_neg hb.2.2.2.2.2.2.2.2.2.1, if_neg hb.2.2.2.2.2.2.2.2.2.2]
    unfold fw_37_p67
    intro _
    generalize hc : s.1 32 (s.1 31 7) = c at fin bad h1 ⊢
    refine ⟨fun e => bad (by omega), fun e => fin 9 (by subst e; rfl), fun e => bad (by omega), fun e => bad (by omega), fun e => bad (by omega), fun e => bad (by omega), fun e => fin 14 (by subst e; rfl), fun e => fin 15 (by subst e; rfl), fun e => fin 12 (by subst e; rfl), fun e => fin 10 (by subst e; rfl), fun e => bad (by omega), fun e => fin 11 (by subst e; rfl), fun e => bad (by omega), fun e => fin 13 (by subst e; rfl), fun e => bad (by omega), fun e => bad (by omega), fun e => bad (by omega), fun e => bad (by omega), fun e => bad (by omega), fun e => bad (by omega), fun e => bad (by omega), fun e => bad (by omega), fun e => bad (by omega), fun e => bad (by omega), fun e => bad (by omega), fun e => fin 16 (by subst e; rfl), fun e _ => ⟨fun z => fin 4 (by subst e z; rfl), fun z => fin 5 ?_⟩, fun e => fin 8 (by subst e; rfl), fun e _ => ⟨fun z => fin 6 (by subst e z; rfl), fun z => fin 7 ?_⟩⟩
    · have : y = 1 := by rw [hy] at z ⊢; split at z <;> simp_all
      subst e this; rfl
    · have : y = 1 := by rw [hy] at z ⊢; split at z <;> simp_all
      subst e this; rfl
  have a7 : (lf_up s.1 31 7 ((s.1 31 7) + 1)) 31 7 = s.1 31 7 + 1 := lf_up_s
  have one : lx_two (s.1 32) (s.1 31 1) (s.1 31 7) = false → fw_37_p51 Q (s.1 32 (s.1 31 7)) (lf_up s.1 31 7 ((s.1 31 7) + 1), s.2.1, s.2.2) := by
    intro hl
    unfold fw_37_p51 fw_37_p52
    intro _
    refine ⟨fun _ => ?_, fun c => absurd rfl c⟩
    refine go 0 (s.1 31 7 + 1) _ (rd_Fu rd_Fr (by omega)) (zu_i (by decide)) a7 ?_ ?_ (fun e => by cases e)
    · rw [hl]; rfl
    · rw [hl]; rfl
  have two : lx_two (s.1 32) (s.1 31 1) (s.1 31 7) = true → (s.1 32 (s.1 31 7) = 60 ∨ s.1 32 (s.1 31 7) = 62) → fw_37_p47 Q (s.1 32 (s.1 31 7)) (lf_up s.1 31 7 ((s.1 31 7) + 1), s.2.1, s.2.2) := by
    intro hl hc
    unfold fw_37_p47 fw_37_p52
    intro _
    refine ⟨(fun c => by cases c), fun _ => ?_⟩
    have b7 : (lf_up (lf_up s.1 31 7 ((s.1 31 7) + 1)) 31 7 (((lf_up s.1 31 7 ((s.1 31 7) + 1)) 31 7) + 1)) 31 7 = s.1 31 7 + 2 := by rw [lf_up_s, a7]; omega
    have b9 : (lf_up (lf_up s.1 31 7 ((s.1 31 7) + 1)) 31 7 (((lf_up s.1 31 7 ((s.1 31 7) + 1)) 31 7) + 1)) 31 9 = s.1 31 9 := (lf_up_i (by decide)).trans (lf_up_i (by decide))
    refine go 1 (s.1 31 7 + 2) _ (rd_Fu (t := (lf_up s.1 31 7 ((s.1 31 7) + 1), s.2.1, s.2.2)) (rd_Fu rd_Fr (by omega)) (by omega)) b9 b7 ?_ ?_ (fun _ => hc)
    · rw [hl]; rfl
    · rw [hl]; rfl
  have lf : ∀ {a b c : Bool}, (a = false ∨ b = false ∨ c = false) → (a && b && c) = false := by
    intro a b c h
    rcases h with rfl | rfl | rfl
    · rfl
    · rw [Bool.and_false]; rfl
    · rw [Bool.and_false]
  unfold fw_37
  intro _ _
  refine ⟨fun c => one (lf (Or.inl (decide_eq_false (by omega)))), fun c _ _ => ⟨fun d => one (lf (Or.inr (Or.inl (decide_eq_false d)))), fun d _ => ⟨fun e => two ?_ (Or.inl e), fun e => ⟨fun g => one (lf (Or.inr (Or.inr ?_))), fun g => two ?_ (Or.inr (Classical.not_not.mp g))⟩⟩⟩⟩
  · unfold lx_two
    rw [decide_eq_true (show s.1 31 7 + 1 < s.1 31 1 by omega), decide_eq_true (Classical.not_not.mp d), decide_eq_true e]; rfl
  · rw [decide_eq_false e, decide_eq_false g]; rfl
  · unfold lx_two
    rw [decide_eq_true (show s.1 31 7 + 1 < s.1 31 1 by omega), decide_eq_true (Classical.not_not.mp d), decide_eq_false e, decide_eq_true (Classical.not_not.mp g)]; rfl
/-- on to the next token -/
def lx_sk (f : Int → Int) (n p : Int) : Int := lx_run lx_bl f n p
theorem lx_Tz {b : Int} (h : n ≤ b) : lx_T f n b = 0 ∧ lx_E f n b = b := by
  unfold lx_T lx_E
  rw [if_pos h, if_pos h]
  exact ⟨rfl, rfl⟩
theorem lx_Td {b : Int} (h : b < n) (hd : lx_dg (f b) = true) : lx_T f n b = 2 ∧ lx_E f n b = lx_run lx_dg f n b ∧ lx_V f n b = lx_num f n b 0 := by
  unfold lx_T lx_E lx_V
  rw [if_neg (show ¬ n ≤ b by omega), if_neg (show ¬ n ≤ b by omega), if_pos hd, if_pos hd, if_pos hd]
  exact ⟨rfl, rfl, rfl⟩
theorem lx_Tl {b : Int} (h : b < n) (hd : lx_dg (f b) = false) (hl : lx_lt (f b) = true) : lx_T f n b = (if lx_run lx_lt f n b = b + 1 ∧ 97 ≤ f b then 3 else lx_W f b (lx_run lx_lt f n b)) ∧ lx_E f n b = lx_run lx_lt f n b ∧ lx_V f n b = f b - 97 := by
  unfold lx_T lx_E lx_V
  have hd : ¬ lx_dg (f b) = true := by rw [hd]; decide
  rw [if_neg (show ¬ n ≤ b by omega), if_neg (show ¬ n ≤ b by omega), if_neg hd, if_neg hd, if_neg hd, if_pos hl, if_pos hl]
  exact ⟨rfl, rfl, rfl⟩
theorem lx_Ts {b : Int} (h : b < n) (hd : lx_dg (f b) = false) (hl : lx_lt (f b) = false) : lx_T f n b = lx_sg (f b) (if lx_two f n b = true then 1 else 0) ∧ lx_E f n b = (if lx_two f n b = true then b + 2 else b + 1) := by
  unfold lx_T lx_E
  have hd : ¬ lx_dg (f b) = true := by rw [hd]; decide
  have hl : ¬ lx_lt (f b) = true := by rw [hl]; decide
  rw [if_neg (show ¬ n ≤ b by omega), if_neg (show ¬ n ≤ b by omega), if_neg hd, if_neg hd, if_neg hl, if_neg hl]
  exact ⟨rfl, rfl⟩
theorem lx_WB {b e : Int} : lx_W f b e = 1 ∨ 20 ≤ lx_W f b e := by
  have key : ∀ (ws : List (List Int)) (k : Int), lx_wf f b e ws k = 1 ∨ k ≤ lx_wf f b e ws k := by
    intro ws
    induction ws with
    | nil => intro k; exact Or.inl rfl
    | cons w ws ih =>
      intro k
      show (if lx_m f b e w = true then k else lx_wf f b e ws (k + 1)) = 1 ∨ k ≤ (if lx_m f b e w = true then k else lx_wf f b e ws (k + 1))
      by_cases hm : lx_m f b e w = true
      · rw [if_pos hm]; exact Or.inr (Int.le_refl _)
      · rw [if_neg hm]
        rcases ih (k + 1) with q | q
        · exact Or.inl q
        · exact Or.inr (by omega)
  exact key lx_WL 20
theorem lx_sgB {c d : Int} : lx_sg c d ≠ 2 ∧ lx_sg c d ≠ 3 ∧ lx_sg c d ≠ 0 := by
  unfold lx_sg
  (repeat' split) <;> omega
theorem fl_31 {Q : lf_Z → Prop} (e0 : s.1 31 2 = 0) (h7 : 0 ≤ s.1 31 7) (hb : ∀ i, 0 ≤ i → i < s.1 31 1 → 0 ≤ s.1 32 i ∧ s.1 32 i ≤ 255) (h : ∀ t : lf_Z, rd_F s t → rd_at t (lx_sk (s.1 32) (s.1 31 1) (s.1 31 7)) → Q t) : fw_31 Q s := by
  have p60 : ∀ t : lf_Z, rd_F s t → 0 ≤ t.1 31 7 → t.1 31 7 = lx_sk (s.1 32) (s.1 31 1) (s.1 31 7) → fw_31_p60 Q t := by
    intro t hF h0 hp
    have e1 : t.1 31 1 = s.1 31 1 := hF.2.1 1 (by decide) (by decide) (by decide) (by decide)
    have e32 : t.1 32 = s.1 32 := hF.1 32 (by decide)
    have U : ∃ u : lf_Z, u = (lf_up t.1 31 9 (t.1 31 7), t.2.1, t.2.2) := ⟨_, rfl⟩
    obtain ⟨u, hu⟩ := U
    have uF : rd_F s u := by rw [hu]; exact rd_Fu hF (by omega)
    have u9 : u.1 31 9 = t.1 31 7 := by rw [hu]; exact zu_s
    have u7 : u.1 31 7 = t.1 31 7 := by rw [hu]; exact zu_i (by decide)
    have u1 : u.1 31 1 = s.1 31 1 := uF.2.1 1 (by decide) (by decide) (by decide) (by decide)
    have u32 : u.1 32 = s.1 32 := uF.1 32 (by decide)
    have fin : ∀ v : lf_Z, rd_F u v → v.1 31 9 = u.1 31 9 → v.1 31 8 = lx_T (s.1 32) (s.1 31 1) (t.1 31 7) → v.1 31 7 = lx_E (s.1 32) (s.1 31 1) (t.1 31 7) → ((v.1 31 8 = 2 ∨ v.1 31 8 = 3) → v.1 31 10 = lx_V (s.1 32) (s.1 31 1) (t.1 31 7)) → Q v := by
      intro v vF v9 v8 v7 v10
      have vs := rd_Ft uF vF
      have a1 : v.1 31 1 = s.1 31 1 := vs.2.1 1 (by decide) (by decide) (by decide) (by decide)
      have a32 : v.1 32 = s.1 32 := vs.1 32 (by decide)
      refine h v vs ⟨?_, ?_, ?_, ?_⟩
      · rw [v9, u9, hp]
      · rw [a1, a32, v8, hp]
      · rw [a1, a32, v7, hp]
      · rw [a1, a32, ← hp]; exact v10
    unfold fw_31_p60
    intro _ _
    rw [e1]
    refine ⟨fun c _ => ?_, fun c => ?_⟩
    · rw [e32, ← hu]
      refine fl_32 ⟨fun d _ => ?_, fun d => ?_⟩
      · rw [u32, u7]
        refine fl_34 ⟨fun l _ => ?_, fun l => ?_⟩
        · have hT := lx_Ts c d l
          refine fl_37 (fun v vF v9 v7 v8 => fin v vF v9 ?_ ?_ (fun q => ?_))
          · rw [v8, hT.1, u32, u1, u7]
          · rw [v7, hT.2, u32, u1, u7]
          · have := lx_sgB (c := u.1 32 (u.1 31 7)) (d := if lx_two (u.1 32) (u.1 31 1) (u.1 31 7) = true then 1 else 0)
            rw [← v8] at this
            rcases q with q | q
            · exact absurd q this.1
            · exact absurd q this.2.1
        · have hT := lx_Tl c d l
          refine fl_35 (by rw [u9, u7]) (by rw [u7]; exact h0) (by rw [u7, u1]; exact c) (by rw [u32, u7]; exact l) (fun v vF v9 v7 v8 => fin v vF v9 ?_ ?_ ?_)
          · rw [hT.1]
            rw [u32, u1, u7] at v7
            rcases v8 with ⟨a, b, w8, w10⟩ | ⟨a, w8⟩
            · rw [u32, u7] at b; rw [u7] at a
              rw [if_pos ⟨by omega, b⟩]; exact w8
            · rw [u7, u32] at a
              rw [if_neg (fun q => a ⟨by omega, q.2⟩), w8, u32, u1, u7]
          · rw [v7, hT.2.1, u32, u1, u7]
          · intro q
            rw [hT.2.2]
            rcases v8 with ⟨a, b, w8, w10⟩ | ⟨a, w8⟩
            · rw [w10, u32, u7]
            · rcases lx_WB (f := u.1 32) (b := u.1 31 7) (e := lx_run lx_lt (u.1 32) (u.1 31 1) (u.1 31 7)) with z | z
              · omega
              · omega
      · have hT := lx_Td c d
        refine fl_33 (fun v vF v9 v8 v7 v10 => fin v vF v9 ?_ ?_ (fun _ => ?_)) (by rw [u7]; exact h0) (by rw [u1, u32]; exact hb)
        · rw [v8, hT.1]
        · rw [v7, hT.2.1, u32, u1, u7]
        · rw [v10, hT.2.2, u32, u1, u7]
    · have hT := lx_Tz (f := s.1 32) (show s.1 31 1 ≤ t.1 31 7 by omega)
      have w8 : (lf_up (lf_up t.1 31 9 (t.1 31 7)) 31 8 0) 31 8 = 0 := lf_up_s
      have vF : rd_F s (lf_up (lf_up t.1 31 9 (t.1 31 7)) 31 8 0, t.2.1, t.2.2) := rd_Fu (rd_Fu hF (by omega)) (by omega)
      have a1 : (lf_up (lf_up t.1 31 9 (t.1 31 7)) 31 8 0) 31 1 = s.1 31 1 := vF.2.1 1 (by decide) (by decide) (by decide) (by decide)
      have a32 : (lf_up (lf_up t.1 31 9 (t.1 31 7)) 31 8 0) 32 = s.1 32 := vF.1 32 (by decide)
      refine h _ vF ⟨?_, ?_, ?_, ?_⟩
      · exact ((zu_i (by decide)).trans lf_up_s).trans hp
      · show (lf_up (lf_up t.1 31 9 (t.1 31 7)) 31 8 0) 31 8 = lx_T ((lf_up (lf_up t.1 31 9 (t.1 31 7)) 31 8 0) 32) ((lf_up (lf_up t.1 31 9 (t.1 31 7)) 31 8 0) 31 1) _
        rw [w8, a1, a32, ← hp, hT.1]
      · show (lf_up (lf_up t.1 31 9 (t.1 31 7)) 31 8 0) 31 7 = lx_E ((lf_up (lf_up t.1 31 9 (t.1 31 7)) 31 8 0) 32) ((lf_up (lf_up t.1 31 9 (t.1 31 7)) 31 8 0) 31 1) _
        rw [a1, a32, ← hp, hT.2]
        exact (lf_up_i (by decide)).trans (lf_up_i (by decide))
      · intro q
        have q : (lf_up (lf_up t.1 31 9 (t.1 31 7)) 31 8 0) 31 8 = 2 ∨ (lf_up (lf_up t.1 31 9 (t.1 31 7)) 31 8 0) 31 8 = 3 := q
        rw [w8] at q
        omega
  unfold fw_31
  intro _
  refine ⟨fun _ => ?_, fun c => absurd e0 c⟩
  refine ⟨fun t => rd_F s t ∧ 0 ≤ t.1 31 7 ∧ lx_sk (s.1 32) (s.1 31 1) (t.1 31 7) = lx_sk (s.1 32) (s.1 31 1) (s.1 31 7), ?_, ⟨rd_Fr, h7, rfl⟩⟩
  intro t ⟨hF, h0, hr⟩
  have e1 : t.1 31 1 = s.1 31 1 := hF.2.1 1 (by decide) (by decide) (by decide) (by decide)
  have e32 : t.1 32 = s.1 32 := hF.1 32 (by decide)
  have stop : ¬ (t.1 31 7 < s.1 31 1 ∧ lx_bl (s.1 32 (t.1 31 7)) = true) → fw_31_p60 Q t := by
    intro hc
    refine p60 t hF h0 ?_
    rw [← hr]
    exact (lx_run_e hc).symm
  have more : t.1 31 7 < s.1 31 1 → lx_bl (s.1 32 (t.1 31 7)) = true → fw_31_p47 (fun t => rd_F s t ∧ 0 ≤ t.1 31 7 ∧ lx_sk (s.1 32) (s.1 31 1) (t.1 31 7) = lx_sk (s.1 32) (s.1 31 1) (s.1 31 7)) Q t := by
    intro hc hq
    have a7 : (lf_up t.1 31 7 ((t.1 31 7) + 1)) 31 7 = t.1 31 7 + 1 := lf_up_s
    refine ⟨rd_Fu hF (by omega), ?_, ?_⟩
    · show 0 ≤ (lf_up t.1 31 7 ((t.1 31 7) + 1)) 31 7; rw [a7]; omega
    · show lx_sk (s.1 32) (s.1 31 1) ((lf_up t.1 31 7 ((t.1 31 7) + 1)) 31 7) = _
      rw [a7, ← hr]
      exact (lx_run_s hc hq).symm
  unfold fw_31_p8
  intro _ _
  rw [e1]
  refine ⟨fun c => stop (fun q => by omega), fun c _ _ => ?_⟩
  rw [e32]
  refine ⟨fun d => more (by omega) (by unfold lx_bl; rw [decide_eq_true d]; rfl), fun d => ⟨fun g => stop (fun q => ?_), fun g => more (by omega) ?_⟩⟩
  · have q := q.2
    unfold lx_bl at q
    rw [decide_eq_false d, decide_eq_false g] at q
    cases q
  · unfold lx_bl
    rw [decide_eq_true (Classical.not_not.mp g), Bool.or_true]
/-- behind a fault nothing is read -/
theorem fl_31f {Q : lf_Z → Prop} (e0 : s.1 31 2 ≠ 0) (h : Q s) : fw_31 Q s := by
  unfold fw_31
  intro _
  exact ⟨fun c => absurd c e0, fun _ => h⟩
end LX
/-! words packed into a long, as the reference holds them -/
section LY
variable {f : Int → Int} {n p : Int}
def lx_pkr : List Int → Int
  | [] => 0
  | c :: r => lx_pkr r * 256 + c
def lx_by (l : List Int) : Prop := ∀ c ∈ l, 1 ≤ c ∧ c ≤ 255
theorem lx_byc {c : Int} {r : List Int} (h : lx_by (c :: r)) : (1 ≤ c ∧ c ≤ 255) ∧ lx_by r := ⟨h c List.mem_cons_self, fun d hd => h d (List.mem_cons_of_mem _ hd)⟩
theorem lx_pk0 : ∀ l : List Int, lx_by l → 0 ≤ lx_pkr l := by
  intro l
  induction l with
  | nil => intro _; exact Int.le_refl _
  | cons c r ih =>
    intro h
    have h := lx_byc h
    have := ih h.2
    show 0 ≤ lx_pkr r * 256 + c
    omega
theorem lx_pkI : ∀ a b : List Int, lx_by a → lx_by b → lx_pkr a = lx_pkr b → a = b := by
  intro a
  induction a with
  | nil =>
    intro b _ hb e
    cases b with
    | nil => rfl
    | cons d q =>
      have hb := lx_byc hb
      have := lx_pk0 q hb.2
      have e : 0 = lx_pkr q * 256 + d := e
      omega
  | cons c r ih =>
    intro b ha hb e
    have ha := lx_byc ha
    have := lx_pk0 r ha.2
    cases b with
    | nil =>
      have e : lx_pkr r * 256 + c = 0 := e
      omega
    | cons d q =>
      have hb := lx_byc hb
      have e : lx_pkr r * 256 + c = lx_pkr q * 256 + d := e
      have e1 : lx_pkr r = lx_pkr q := by omega
      have e2 : c = d := by omega
      rw [e2, ih q ha.2 hb.2 e1]
def lx_P : Nat → Int
  | 0 => 1
  | k + 1 => lx_P k * 256
theorem lx_P1 : ∀ k, 1 ≤ lx_P k := by
  intro k
  induction k with
  | zero => decide
  | succ k ih => show 1 ≤ lx_P k * 256; omega
theorem lx_pkB : ∀ l : List Int, lx_by l → lx_pkr l < lx_P l.length := by
  intro l
  induction l with
  | nil => intro _; decide
  | cons c r ih =>
    intro h
    have h := lx_byc h
    have := ih h.2
    show lx_pkr r * 256 + c < lx_P r.length * 256
    omega
theorem lx_pkL : ∀ (c : Int) (r : List Int), lx_by (c :: r) → lx_P r.length ≤ lx_pkr (c :: r) := by
  intro c r
  induction r generalizing c with
  | nil =>
    intro h
    have h := lx_byc h
    show (1 : Int) ≤ 0 * 256 + c
    omega
  | cons d q ih =>
    intro h
    have h := lx_byc h
    have := ih d h.2
    show lx_P q.length * 256 ≤ lx_pkr (d :: q) * 256 + c
    omega
/-- the letters from p on, the last one first -/
def lx_rv (f : Int → Int) (p : Int) : Nat → List Int
  | 0 => []
  | k + 1 => f (p + k) :: lx_rv f p k
theorem lx_rvL : ∀ k, (lx_rv f p k).length = k := by
  intro k
  induction k with
  | zero => rfl
  | succ k ih => show (lx_rv f p k).length + 1 = k + 1; rw [ih]
theorem lx_mlA {c : Int} : ∀ (w : List Int) (p : Int), lx_ml f (w ++ [c]) p = (lx_ml f w p && decide (f (p + w.length) = c)) := by
  intro w
  induction w with
  | nil =>
    intro p
    show (decide (f p = c) && true) = (true && decide (f (p + ((0 : Nat) : Int)) = c))
    rw [show p + ((0 : Nat) : Int) = p by omega, Bool.and_true, Bool.true_and]
  | cons d w ih =>
    intro p
    show (decide (f p = d) && lx_ml f (w ++ [c]) (p + 1)) = ((decide (f p = d) && lx_ml f w (p + 1)) && decide (f (p + ((w.length + 1 : Nat) : Int)) = c))
    rw [ih (p + 1), show p + ((w.length + 1 : Nat) : Int) = p + 1 + w.length by omega, Bool.and_assoc]
theorem lx_mlR : ∀ l : List Int, lx_ml f l.reverse p = decide (lx_rv f p l.length = l) := by
  intro l
  induction l with
  | nil => rfl
  | cons c r ih =>
    rw [List.reverse_cons, lx_mlA, ih, List.length_reverse]
    show (decide (lx_rv f p r.length = r) && decide (f (p + r.length) = c)) = decide (f (p + (r.length : Nat)) :: lx_rv f p r.length = c :: r)
    by_cases h1 : lx_rv f p r.length = r
    · by_cases h2 : f (p + r.length) = c
      · rw [decide_eq_true h1, decide_eq_true h2, decide_eq_true (by rw [h1, h2])]; rfl
      · rw [decide_eq_false h2, Bool.and_false, decide_eq_false (fun e => h2 (List.cons.inj e).1)]
    · rw [decide_eq_false h1, Bool.false_and, decide_eq_false (fun e => h1 (List.cons.inj e).2)]
/-- the word of m letters -/
def lx_wv (f : Int → Int) (p : Int) (m : Nat) : Int := if m ≤ 7 then lx_pkr (lx_rv f p m) else 1152921504606846976
theorem lx_wvS {m : Nat} (h : lx_by (lx_rv f p m)) (hc : 1 ≤ f (p + m) ∧ f (p + m) ≤ 255) : (lx_wv f p m < 281474976710656 ↔ m ≤ 6) ∧ 0 ≤ lx_wv f p m ∧ (m ≤ 6 → lx_wv f p (m + 1) = lx_wv f p m * 256 + f (p + m)) ∧ (¬ m ≤ 6 → lx_wv f p (m + 1) = 1152921504606846976) := by
  have h0 := lx_pk0 _ h
  have hB := lx_pkB _ h
  rw [lx_rvL] at hB
  have mono : ∀ k, k ≤ 6 → lx_P k ≤ 281474976710656 := by decide
  refine ⟨⟨fun q => ?_, fun q => ?_⟩, ?_, fun q => ?_, fun q => ?_⟩
  · unfold lx_wv at q
    by_cases c : m ≤ 7
    · rw [if_pos c] at q
      by_cases d : m ≤ 6
      · exact d
      · have e : m = 6 + 1 := by omega
        subst e
        have h9 : lx_by (f (p + (6 : Nat)) :: lx_rv f p 6) := h
        have := lx_pkL _ _ h9
        rw [lx_rvL] at this
        have this : (281474976710656 : Int) ≤ lx_pkr (lx_rv f p (6 + 1)) := this
        omega
    · rw [if_neg c] at q; omega
  · unfold lx_wv
    rw [if_pos (by omega)]
    have := mono m q
    omega
  · unfold lx_wv
    by_cases c : m ≤ 7
    · rw [if_pos c]; exact h0
    · rw [if_neg c]; decide
  · unfold lx_wv
    rw [if_pos (by omega), if_pos (by omega)]
    rfl
  · unfold lx_wv
    rw [if_neg (by omega)]
/-- the word is this one -/
theorem lx_wvM {m : Nat} {l : List Int} (h : lx_by (lx_rv f p m)) (hl : lx_by l) (h7 : l.length ≤ 7) : lx_wv f p m = lx_pkr l ↔ (m = l.length ∧ lx_ml f l.reverse p = true) := by
  rw [lx_mlR, decide_eq_true_eq]
  have hB := lx_pkB l hl
  have big : ∀ k, k ≤ 7 → lx_P k ≤ 72057594037927936 := by decide
  have := big _ h7
  constructor
  · intro e
    unfold lx_wv at e
    by_cases c : m ≤ 7
    · rw [if_pos c] at e
      have := lx_pkI _ _ h hl e
      have e2 : m = l.length := by rw [← this, lx_rvL]
      exact ⟨e2, by rw [← e2]; exact this⟩
    · rw [if_neg c] at e; omega
  · intro ⟨e, e2⟩
    unfold lx_wv
    rw [if_pos (by omega), e, e2]
end LY
/-! the reference's reader at a token -/
section LZ
variable {f : Int → Int} {n : Int} {s t : lf_Z}
def rt_F (s t : lf_Z) : Prop := (∀ c, c ≠ 95 → t.1 c = s.1 c) ∧ (∀ i, i ≠ 7 → i ≠ 8 → i ≠ 9 → i ≠ 10 → t.1 95 i = s.1 95 i) ∧ t.2.2 = s.2.2
theorem rt_Fr : rt_F s s := ⟨fun _ _ => rfl, fun _ _ _ _ _ => rfl, rfl⟩
theorem rt_Ft {r : lf_Z} (h : rt_F s t) (h2 : rt_F t r) : rt_F s r := ⟨fun c hc => (h2.1 c hc).trans (h.1 c hc), fun i a b c d => (h2.2.1 i a b c d).trans (h.2.1 i a b c d), h2.2.2.trans h.2.2⟩
theorem rt_Fu {i v : Int} {J : Nat → Int → Int} (h : rt_F s t) (hi : i = 7 ∨ i = 8 ∨ i = 9 ∨ i = 10) : rt_F s (lf_up t.1 95 i v, J, t.2.2) := by
  refine ⟨fun c hc => ?_, fun j a b c d => ?_, h.2.2⟩
  · exact (zu_r hc).trans (h.1 c hc)
  · exact (zu_i (by omega)).trans (h.2.1 j a b c d)
theorem rt_FJ {J : Nat → Int → Int} (h : rt_F s t) : rt_F s (t.1, J, t.2.2) := ⟨h.1, h.2.1, h.2.2⟩
def lx_si (c : Int) : Bool := decide (c = 35) || decide (c = 40) || decide (c = 41) || decide (c = 42) || decide (c = 43) || decide (c = 45) || decide (c = 47) || decide (c = 59) || decide (c = 60) || decide (c = 61) || decide (c = 62)
/-- the reference's token -/
def lx_K (f : Int → Int) (n b : Int) : Int := if n ≤ b then 0 else if lx_dg (f b) = true then 1 else if lx_lt (f b) = true then 2 else if lx_two f n b = true then (if f b = 60 then 4 else 5) else if lx_si (f b) = true then f b else 3
def rt_at (s : lf_Z) (b : Int) : Prop := s.1 95 8 = b ∧ s.1 95 9 = lx_K (s.1 99) (s.1 95 4) b ∧ s.1 95 7 = lx_E (s.1 99) (s.1 95 4) b ∧ (s.1 95 9 = 1 → 0 ≤ s.1 95 10 ∧ min 10000 (s.1 95 10) = lx_V (s.1 99) (s.1 95 4) b) ∧ (s.1 95 9 = 2 → lf_wl (s.2.1 95 11) = lx_wv (s.1 99) b (lx_E (s.1 99) (s.1 95 4) b - b).toNat)
theorem fl_198 {a : Int} {Q : Int → lf_Z → Prop} (h : Q (if s.1 95 4 ≤ a then -1 else s.1 99 a) s) : fw_198 a Q s := by
  unfold fw_198
  intro _ _
  refine ⟨fun c => ?_, fun c _ => ?_⟩
  · rw [if_pos c] at h; exact h
  · rw [if_neg c] at h; exact h
theorem fl_199 {a : Int} {Q : Bool → lf_Z → Prop} (h : Q (lx_dg a) s) : fw_199 a Q s := by
  have : fw_32 a Q s := fl_32 h
  unfold fw_32 at this
  unfold fw_199
  exact this
theorem fl_200 {a : Int} {Q : Bool → lf_Z → Prop} (h : Q (lx_lt a) s) : fw_200 a Q s := by
  have : fw_34 a Q s := fl_34 h
  unfold fw_34 fw_34_p12 at this
  unfold fw_200 fw_200_p12
  exact this
theorem fl_201 {a : Int} {Q : Bool → lf_Z → Prop} (h : Q (lx_si a) s) : fw_201 a Q s := by
  have no : (a ≠ 35 ∧ a ≠ 40 ∧ a ≠ 41 ∧ a ≠ 42 ∧ a ≠ 43 ∧ a ≠ 45 ∧ a ≠ 47 ∧ a ≠ 59 ∧ a ≠ 60 ∧ a ≠ 61 ∧ a ≠ 62) → Q false s := by
    intro ⟨h1, h2, h3, h4, h5, h6, h7, h8, h9, h10, h11⟩
    unfold lx_si at h
    rw [decide_eq_false h1, decide_eq_false h2, decide_eq_false h3, decide_eq_false h4, decide_eq_false h5, decide_eq_false h6, decide_eq_false h7, decide_eq_false h8, decide_eq_false h9, decide_eq_false h10, decide_eq_false h11] at h
    exact h
  unfold fw_201
  intro _
  refine ⟨fun e => no (by omega), fun e => (by subst e; exact h), fun e => no (by omega), fun e => no (by omega), fun e => no (by omega), fun e => no (by omega), fun e => (by subst e; exact h), fun e => (by subst e; exact h), fun e => (by subst e; exact h), fun e => (by subst e; exact h), fun e => no (by omega), fun e => (by subst e; exact h), fun e => no (by omega), fun e => (by subst e; exact h), fun e => no (by omega), fun e => no (by omega), fun e => no (by omega), fun e => no (by omega), fun e => no (by omega), fun e => no (by omega), fun e => no (by omega), fun e => no (by omega), fun e => no (by omega), fun e => no (by omega), fun e => no (by omega), fun e => (by subst e; exact h), fun e => (by subst e; exact h), fun e => (by subst e; exact h), fun e => (by subst e; exact h)⟩
/-- a number -/
theorem fl_197n {Q : lf_Z → Prop} {b : Int} (h0 : 0 ≤ b) (h7 : s.1 95 7 = b) (h9 : s.1 95 9 = 1) (h10 : s.1 95 10 = 0) (hb : ∀ i, 0 ≤ i → i < s.1 95 4 → 0 ≤ s.1 99 i ∧ s.1 99 i ≤ 255) (h : ∀ t : lf_Z, rt_F s t → t.1 95 8 = s.1 95 8 → t.1 95 9 = 1 → t.1 95 7 = lx_run lx_dg (s.1 99) (s.1 95 4) b → 0 ≤ t.1 95 10 ∧ min 10000 (t.1 95 10) = lx_num (s.1 99) (s.1 95 4) b 0 → Q t) : fw_197_p85L Q s := by
  refine ⟨fun t => rt_F s t ∧ t.1 95 8 = s.1 95 8 ∧ t.1 95 9 = 1 ∧ 0 ≤ t.1 95 7 ∧ (0 ≤ t.1 95 10 ∧ t.1 95 10 ≤ 1000000) ∧ lx_run lx_dg (s.1 99) (s.1 95 4) (t.1 95 7) = lx_run lx_dg (s.1 99) (s.1 95 4) b ∧ lx_num (s.1 99) (s.1 95 4) (t.1 95 7) (min 10000 (t.1 95 10)) = lx_num (s.1 99) (s.1 95 4) b 0, ?_, ⟨rt_Fr, rfl, h9, by omega, by omega, by rw [h7], by rw [h7, h10]; rfl⟩⟩
  intro t ⟨hF, g8, g9, p0, v0, hr, hn⟩
  have e4 : t.1 95 4 = s.1 95 4 := hF.2.1 4 (by decide) (by decide) (by decide) (by decide)
  have e99 : t.1 99 = s.1 99 := hF.1 99 (by decide)
  unfold fw_197_p85
  refine fl_198 (fl_199 ?_)
  rw [e4, e99]
  have fin : ¬ (t.1 95 7 < s.1 95 4 ∧ lx_dg (s.1 99 (t.1 95 7)) = true) → Q t := by
    intro hc
    refine h t hF g8 g9 ?_ ⟨v0.1, ?_⟩
    · rw [← hr, lx_run_e hc]
    · rw [← hn, lx_num_e hc]
  refine ⟨fun z => fin (fun q => ?_), fun z _ => ?_⟩
  · rw [if_neg (by omega)] at z
    rw [z] at q; cases q.2
  · have hlt : t.1 95 7 < s.1 95 4 := by
      by_cases c : s.1 95 4 ≤ t.1 95 7
      · rw [if_pos c] at z; cases z
      · omega
    rw [if_neg (by omega)] at z
    have hd := z
    unfold lx_dg at hd
    rw [Bool.and_eq_true, decide_eq_true_eq, decide_eq_true_eq] at hd
    have step : ∀ y : Int, 0 ≤ y ∧ y ≤ 1000000 → min 10000 y = min 10000 (min 10000 (t.1 95 10) * 10 + s.1 99 (t.1 95 7) - 48) → fw_197_p135 (fun t => rt_F s t ∧ t.1 95 8 = s.1 95 8 ∧ t.1 95 9 = 1 ∧ 0 ≤ t.1 95 7 ∧ (0 ≤ t.1 95 10 ∧ t.1 95 10 ≤ 1000000) ∧ lx_run lx_dg (s.1 99) (s.1 95 4) (t.1 95 7) = lx_run lx_dg (s.1 99) (s.1 95 4) b ∧ lx_num (s.1 99) (s.1 95 4) (t.1 95 7) (min 10000 (t.1 95 10)) = lx_num (s.1 99) (s.1 95 4) b 0) Q y t := by
      intro y hy he
      have k7 : (lf_up (lf_up t.1 95 10 y) 95 7 (t.1 95 7 + 1)) 95 7 = t.1 95 7 + 1 := lf_up_s
      have k10 : (lf_up (lf_up t.1 95 10 y) 95 7 (t.1 95 7 + 1)) 95 10 = y := (lf_up_i (by decide)).trans lf_up_s
      refine ⟨rt_Fu (t := (lf_up t.1 95 10 y, t.2.1, t.2.2)) (rt_Fu hF (by omega)) (by omega), ((zu_i (by decide)).trans (lf_up_i (by decide))).trans g8, ((zu_i (by decide)).trans (lf_up_i (by decide))).trans g9, ?_, ?_, ?_, ?_⟩
      · show 0 ≤ (lf_up (lf_up t.1 95 10 y) 95 7 (t.1 95 7 + 1)) 95 7; rw [k7]; omega
      · show 0 ≤ (lf_up (lf_up t.1 95 10 y) 95 7 (t.1 95 7 + 1)) 95 10 ∧ (lf_up (lf_up t.1 95 10 y) 95 7 (t.1 95 7 + 1)) 95 10 ≤ 1000000; rw [k10]; exact hy
      · show lx_run lx_dg (s.1 99) (s.1 95 4) ((lf_up (lf_up t.1 95 10 y) 95 7 (t.1 95 7 + 1)) 95 7) = _
        rw [k7, ← hr, lx_run_s hlt z]
      · show lx_num (s.1 99) (s.1 95 4) ((lf_up (lf_up t.1 95 10 y) 95 7 (t.1 95 7 + 1)) 95 7) (min 10000 ((lf_up (lf_up t.1 95 10 y) 95 7 (t.1 95 7 + 1)) 95 10)) = _
        rw [k7, k10, he, ← hn, lx_num_s hlt z]
    refine ⟨fun c => fl_198 ?_, fun c => step _ v0 (by omega)⟩
    rw [e4, e99, if_neg (by omega)]
    have hw : lf_w ((lf_w ((lf_w (10 * (t.1 95 10))) + (s.1 99 (t.1 95 7)))) - 48) = 10 * t.1 95 10 + s.1 99 (t.1 95 7) - 48 := by
      rw [tr_w (a := 10 * t.1 95 10) (by omega), tr_w (a := 10 * t.1 95 10 + s.1 99 (t.1 95 7)) (by omega), tr_w (by omega)]
    rw [hw]
    exact step _ (by omega) (by omega)
/-! shifts -/
theorem lx_s8 : (((Int32.ofInt 8).toInt64 &&& 63).toBitVec.smod 64).toNat = 8 := by decide
theorem lx_s48 : (((Int32.ofInt 48).toInt64 &&& 63).toBitVec.smod 64).toNat = 48 := by decide
theorem lx_lor8 {x c : Int} (h0 : 0 ≤ x) (h1 : x < 281474976710656) (c0 : 0 ≤ c) (c1 : c ≤ 255) : lf_lor (lf_lshl x 8) c = x * 256 + c := by
  obtain ⟨a, rfl⟩ := Int.eq_ofNat_of_zero_le h0
  obtain ⟨d, rfl⟩ := Int.eq_ofNat_of_zero_le c0
  have ha : a < 281474976710656 := by omega
  have hd : d < 2 ^ 8 := by omega
  unfold lf_lor lf_lshl
  rw [Int64.ofInt_toInt]
  have e : (Int64.ofInt (a : Int) <<< ((Int32.ofInt 8).toInt64 &&& 63) ||| Int64.ofInt (d : Int)).toInt = ((BitVec.ofNat 64 a <<< (((Int32.ofInt 8).toInt64 &&& 63).toBitVec.smod 64).toNat) ||| BitVec.ofNat 64 d).toInt := rfl
  rw [e, lx_s8]
  have en : ((BitVec.ofNat 64 a <<< 8) ||| BitVec.ofNat 64 d).toNat = a * 256 + d := by
    rw [BitVec.toNat_or, BitVec.toNat_shiftLeft, BitVec.toNat_ofNat, BitVec.toNat_ofNat, Nat.mod_eq_of_lt (show a < 2 ^ 64 by omega), Nat.mod_eq_of_lt (show d < 2 ^ 64 by omega), Nat.shiftLeft_eq, Nat.mod_eq_of_lt (show a * 2 ^ 8 < 2 ^ 64 by omega), ← Nat.shiftLeft_eq, ← Nat.shiftLeft_add_eq_or_of_lt hd, Nat.shiftLeft_eq]
  rw [BitVec.toInt_eq_toNat_of_lt (by rw [en]; omega), en]
  omega
theorem lx_shr48 {x : Int} (h0 : 0 ≤ x) (h1 : x ≤ 9223372036854775807) : lf_lshr x 48 = x / 281474976710656 := by
  unfold lf_lshr
  have e : (Int64.ofInt x >>> ((Int32.ofInt 48).toInt64 &&& 63)).toInt = ((Int64.ofInt x).toBitVec.sshiftRight' (((Int32.ofInt 48).toInt64 &&& 63).toBitVec.smod 64)).toInt := rfl
  rw [e, BitVec.sshiftRight', BitVec.toInt_sshiftRight]
  have g : (Int64.ofInt x).toBitVec.toInt = x := Int64.toInt_ofInt_of_le (by omega) (by omega)
  rw [g, lx_s48, Int.shiftRight_eq_div_pow]
  rfl
theorem lx_byR {p : Int} (hb : ∀ i, 0 ≤ i → i < n → 0 ≤ f i ∧ f i ≤ 255) : ∀ m : Nat, 0 ≤ p → (∀ j : Nat, j < m → p + j < n ∧ lx_lt (f (p + j)) = true) → lx_by (lx_rv f p m) := by
  intro m
  induction m with
  | zero => intro _ _ c hc; cases hc
  | succ m ih =>
    intro h0 h c hc
    rcases List.mem_cons.mp hc with e | e
    · have := h m (Nat.lt_succ_self m)
      have l := this.2
      have b := hb (p + m) (by omega) this.1
      unfold lx_lt at l
      rw [Bool.or_eq_true, Bool.and_eq_true, Bool.and_eq_true, decide_eq_true_eq, decide_eq_true_eq, decide_eq_true_eq, decide_eq_true_eq] at l
      rw [e]; omega
    · exact ih h0 (fun j hj => h j (by omega)) c e
/-- a word -/
theorem fl_197w {Q : lf_Z → Prop} {b : Int} (h0 : 0 ≤ b) (h7 : s.1 95 7 = b) (h9 : s.1 95 9 = 2) (h11 : s.2.1 95 11 = 0) (hb : ∀ i, 0 ≤ i → i < s.1 95 4 → 0 ≤ s.1 99 i ∧ s.1 99 i ≤ 255) (h : ∀ t : lf_Z, rt_F s t → t.1 95 8 = s.1 95 8 → t.1 95 9 = 2 → t.1 95 7 = lx_run lx_lt (s.1 99) (s.1 95 4) b → lf_wl (t.2.1 95 11) = lx_wv (s.1 99) b (t.1 95 7 - b).toNat → Q t) : fw_197_p168L Q s := by
  refine ⟨fun t => rt_F s t ∧ t.1 95 8 = s.1 95 8 ∧ t.1 95 9 = 2 ∧ lx_run lx_lt (s.1 99) (s.1 95 4) (t.1 95 7) = lx_run lx_lt (s.1 99) (s.1 95 4) b ∧ ∃ m : Nat, t.1 95 7 = b + m ∧ (∀ j : Nat, j < m → b + j < s.1 95 4 ∧ lx_lt (s.1 99 (b + j)) = true) ∧ lf_wl (t.2.1 95 11) = lx_wv (s.1 99) b m, ?_, ⟨rt_Fr, rfl, h9, by rw [h7], 0, by rw [h7]; omega, fun j hj => absurd hj (Nat.not_lt_zero _), by rw [h11]; rfl⟩⟩
  intro t ⟨hF, g8, g9, hr, m, hm, hl, hw⟩
  have e4 : t.1 95 4 = s.1 95 4 := hF.2.1 4 (by decide) (by decide) (by decide) (by decide)
  have e99 : t.1 99 = s.1 99 := hF.1 99 (by decide)
  unfold fw_197_p168
  refine fl_198 (fl_200 ?_)
  rw [e4, e99]
  refine ⟨fun z => h t hF g8 g9 ?_ ?_, fun z => ?_⟩
  · rw [← hr]
    refine (lx_run_e (fun q => ?_)).symm
    rw [if_neg (by omega)] at z
    rw [z] at q; cases q.2
  · rw [hw, hm, show (b + (m : Int) - b).toNat = m by omega]
  · have hlt : t.1 95 7 < s.1 95 4 := by
      by_cases c : s.1 95 4 ≤ t.1 95 7
      · rw [if_pos c] at z; cases z
      · omega
    rw [if_neg (by omega)] at z
    have hbm := hb (b + m) (by omega) (by omega)
    have zl := z
    rw [hm] at zl
    have hc1 : 1 ≤ s.1 99 (b + m) := by
      unfold lx_lt at zl
      rw [Bool.or_eq_true, Bool.and_eq_true, Bool.and_eq_true, decide_eq_true_eq, decide_eq_true_eq, decide_eq_true_eq, decide_eq_true_eq] at zl
      omega
    have W := lx_wvS (f := s.1 99) (p := b) (m := m) (lx_byR hb m h0 hl) ⟨hc1, hbm.2⟩
    have wB : lx_wv (s.1 99) b m ≤ 9223372036854775807 := by
      rw [← hw]; exact (lf_wlRL _).2
    rw [hw]
    have step : ∀ y : Int, -9223372036854775808 ≤ y ∧ y ≤ 9223372036854775807 → y = lx_wv (s.1 99) b (m + 1) → fw_197_p218 (fun t => rt_F s t ∧ t.1 95 8 = s.1 95 8 ∧ t.1 95 9 = 2 ∧ lx_run lx_lt (s.1 99) (s.1 95 4) (t.1 95 7) = lx_run lx_lt (s.1 99) (s.1 95 4) b ∧ ∃ m : Nat, t.1 95 7 = b + m ∧ (∀ j : Nat, j < m → b + j < s.1 95 4 ∧ lx_lt (s.1 99 (b + j)) = true) ∧ lf_wl (t.2.1 95 11) = lx_wv (s.1 99) b m) Q y t := by
      intro y hy he
      have k7 : (lf_up t.1 95 7 (t.1 95 7 + 1)) 95 7 = t.1 95 7 + 1 := lf_up_s
      refine ⟨rt_Fu hF (by omega), (zu_i (by decide)).trans g8, (zu_i (by decide)).trans g9, ?_, m + 1, ?_, ?_, ?_⟩
      · show lx_run lx_lt (s.1 99) (s.1 95 4) ((lf_up t.1 95 7 (t.1 95 7 + 1)) 95 7) = _
        rw [k7, ← hr, lx_run_s hlt z]
      · show (lf_up t.1 95 7 (t.1 95 7 + 1)) 95 7 = _
        rw [k7]; omega
      · intro j hj
        by_cases q : j = m
        · subst q; exact ⟨by omega, zl⟩
        · exact hl j (by omega)
      · show lf_wl ((lf_up t.2.1 95 11 (lf_wl y)) 95 11) = _
        rw [lf_up_s, lf_wlR hy, lf_wlR hy, he]
    refine ⟨fun c => fl_198 ?_, fun c => step _ (by decide) ?_⟩
    · rw [lx_shr48 W.2.1 wB] at c
      have m6 : m ≤ 6 := W.1.mp (by omega)
      have lt48 := W.1.mpr m6
      have w0 := W.2.1
      rw [e4, e99, if_neg (by omega)]
      intro _
      rw [hm]
      refine step _ ?_ ?_
      · rw [lx_lor8 w0 lt48 hbm.1 hbm.2]; omega
      · rw [lx_lor8 w0 lt48 hbm.1 hbm.2]; exact (W.2.2.1 m6).symm
    · rw [lx_shr48 W.2.1 wB] at c
      have w0 := W.2.1
      refine (W.2.2.2 (fun q => ?_)).symm
      have := W.1.mpr q
      omega
theorem lx_twoF {b : Int} (h1 : f b ≠ 60) (h2 : f b ≠ 62) : lx_two f n b = false := by
  unfold lx_two
  rw [decide_eq_false h1, decide_eq_false h2, Bool.or_false, Bool.and_false]
/-- the next token: fw_197 -/
theorem fl_197 {Q : lf_Z → Prop} (h7 : 0 ≤ s.1 95 7) (hb : ∀ i, 0 ≤ i → i < s.1 95 4 → 0 ≤ s.1 99 i ∧ s.1 99 i ≤ 255) (h : ∀ t : lf_Z, rt_F s t → rt_at t (lx_sk (s.1 99) (s.1 95 4) (s.1 95 7)) → Q t) : fw_197 Q s := by
  unfold fw_197
  refine ⟨fun t => rt_F s t ∧ 0 ≤ t.1 95 7 ∧ lx_sk (s.1 99) (s.1 95 4) (t.1 95 7) = lx_sk (s.1 99) (s.1 95 4) (s.1 95 7), ?_, ⟨rt_Fr, h7, rfl⟩⟩
  intro t ⟨hF, p0, hr⟩
  have e4 : t.1 95 4 = s.1 95 4 := hF.2.1 4 (by decide) (by decide) (by decide) (by decide)
  have e99 : t.1 99 = s.1 99 := hF.1 99 (by decide)
  have more : t.1 95 7 < s.1 95 4 → lx_bl (s.1 99 (t.1 95 7)) = true → fw_197_p26 (fun t => rt_F s t ∧ 0 ≤ t.1 95 7 ∧ lx_sk (s.1 99) (s.1 95 4) (t.1 95 7) = lx_sk (s.1 99) (s.1 95 4) (s.1 95 7)) Q t := by
    intro hc hq
    have k7 : (lf_up t.1 95 7 (t.1 95 7 + 1)) 95 7 = t.1 95 7 + 1 := lf_up_s
    refine ⟨rt_Fu hF (by omega), ?_, ?_⟩
    · show 0 ≤ (lf_up t.1 95 7 (t.1 95 7 + 1)) 95 7; rw [k7]; omega
    · show lx_sk (s.1 99) (s.1 95 4) ((lf_up t.1 95 7 (t.1 95 7 + 1)) 95 7) = _
      rw [k7, ← hr]
      exact (lx_run_s hc hq).symm
  generalize hbv : t.1 95 7 = b at p0 hr more
  unfold fw_197_p0
  refine fl_198 ?_
  rw [e4, e99, hbv]
  intro _
  have val : ∀ v : Int, v = (if s.1 95 4 ≤ b then -1 else s.1 99 b) → v ≠ -1 → b < s.1 95 4 ∧ v = s.1 99 b := by
    intro v hv hn
    by_cases c : s.1 95 4 ≤ b
    · rw [if_pos c] at hv; exact absurd hv hn
    · rw [if_neg c] at hv; exact ⟨by omega, hv⟩
  refine ⟨fun c => ?_, fun c => fl_198 ?_⟩
  · have := val _ rfl (by rw [c]; decide)
    refine more this.1 ?_
    rw [← this.2, c]; rfl
  rw [e4, e99, hbv]
  intro _
  refine ⟨fun d => ?_, fun d => ?_⟩
  · -- a token begins here
    have hsk : lx_sk (s.1 99) (s.1 95 4) b = b := by
      refine lx_run_e (fun q => ?_)
      rw [if_neg (by omega)] at c d
      have q := q.2
      unfold lx_bl at q
      rw [decide_eq_false c, decide_eq_false d] at q
      cases q
    rw [hr] at hsk
    rw [hsk] at h
    obtain ⟨u, hu⟩ : ∃ u : lf_Z, u = (lf_up t.1 95 8 b, t.2.1, t.2.2) := ⟨_, rfl⟩
    have uF : rt_F s u := by rw [hu]; exact rt_Fu hF (by omega)
    have u8 : u.1 95 8 = b := by rw [hu]; exact zu_s
    have u7 : u.1 95 7 = b := by rw [hu]; exact (zu_i (by decide)).trans hbv
    have u4 : u.1 95 4 = s.1 95 4 := uF.2.1 4 (by decide) (by decide) (by decide) (by decide)
    have u99 : u.1 99 = s.1 99 := uF.1 99 (by decide)
    have fin : ∀ v : lf_Z, rt_F u v → v.1 95 8 = u.1 95 8 → v.1 95 9 = lx_K (s.1 99) (s.1 95 4) b → v.1 95 7 = lx_E (s.1 99) (s.1 95 4) b → (v.1 95 9 = 1 → 0 ≤ v.1 95 10 ∧ min 10000 (v.1 95 10) = lx_V (s.1 99) (s.1 95 4) b) → (v.1 95 9 = 2 → lf_wl (v.2.1 95 11) = lx_wv (s.1 99) b (lx_E (s.1 99) (s.1 95 4) b - b).toNat) → Q v := by
      intro v vF v8 v9 v7 vn vw
      have vs := rt_Ft uF vF
      have a4 : v.1 95 4 = s.1 95 4 := vs.2.1 4 (by decide) (by decide) (by decide) (by decide)
      have a99 : v.1 99 = s.1 99 := vs.1 99 (by decide)
      refine h v vs ⟨v8.trans u8, ?_, ?_, ?_, ?_⟩
      · rw [a4, a99]; exact v9
      · rw [a4, a99]; exact v7
      · rw [a4, a99]; exact vn
      · rw [a4, a99]; exact vw
    rw [← hu]
    refine fl_198 ?_
    rw [u4, u99]
    intro _
    by_cases cn : s.1 95 4 ≤ b
    · rw [if_pos cn]
      refine ⟨fun q => absurd q (by decide), fun _ => ?_⟩
      have k9 : (lf_up u.1 95 9 0) 95 9 = 0 := lf_up_s
      refine fin _ (rt_Fu rt_Fr (by omega)) (zu_i (by decide)) ?_ ?_ (fun q => ?_) (fun q => ?_)
      · show (lf_up u.1 95 9 0) 95 9 = _
        rw [k9]; unfold lx_K; rw [if_pos cn]
      · show (lf_up u.1 95 9 0) 95 7 = _
        rw [lf_up_i (by decide), u7]; exact (lx_Tz cn).2.symm
      · have q : (lf_up u.1 95 9 0) 95 9 = 1 := q
        rw [k9] at q; cases q
      · have q : (lf_up u.1 95 9 0) 95 9 = 2 := q
        rw [k9] at q; cases q
    · rw [if_neg cn]
      have bn : b < s.1 95 4 := by omega
      have hbb := hb b p0 bn
      refine ⟨fun _ => ?_, fun q => absurd hbb.1 q⟩
      refine fl_199 ⟨fun dg => fl_200 ⟨fun lt => ?_, fun lt => ?_⟩, fun dg => ?_⟩
      · -- a sign
        have hT := lx_Ts bn dg lt
        have two : ∀ (y : Int), (lx_two (s.1 99) (s.1 95 4) b = false → y = lx_K (s.1 99) (s.1 95 4) b) → fw_197_p247 Q (s.1 99 b) y u := by
          intro y hy
          obtain ⟨v, hv⟩ : ∃ v : lf_Z, v = (lf_up (lf_up u.1 95 9 y) 95 7 (b + 1), u.2.1, u.2.2) := ⟨_, rfl⟩
          have vF : rt_F u v := by rw [hv]; exact rt_Fu (t := (lf_up u.1 95 9 y, u.2.1, u.2.2)) (rt_Fu rt_Fr (by omega)) (by omega)
          have v7 : v.1 95 7 = b + 1 := by rw [hv]; exact zu_s
          have v9 : v.1 95 9 = y := by rw [hv]; exact (zu_i (by decide)).trans lf_up_s
          have v8 : v.1 95 8 = u.1 95 8 := by rw [hv]; exact (zu_i (by decide)).trans (lf_up_i (by decide))
          have v4 : v.1 95 4 = s.1 95 4 := (vF.2.1 4 (by decide) (by decide) (by decide) (by decide)).trans u4
          have v99 : v.1 99 = s.1 99 := (vF.1 99 (by decide)).trans u99
          have dgN : ¬ lx_dg (s.1 99 b) = true := by rw [dg]; decide
          have ltN : ¬ lx_lt (s.1 99 b) = true := by rw [lt]; decide
          have kN : lx_K (s.1 99) (s.1 95 4) b ≠ 1 ∧ lx_K (s.1 99) (s.1 95 4) b ≠ 2 := by
            unfold lx_K
            rw [if_neg cn, if_neg dgN, if_neg ltN]
            by_cases w : lx_two (s.1 99) (s.1 95 4) b = true
            · rw [if_pos w]; split <;> omega
            · rw [if_neg w]
              by_cases si : lx_si (s.1 99 b) = true
              · rw [if_pos si]
                unfold lx_si at si
                simp only [Bool.or_eq_true, decide_eq_true_eq] at si
                omega
              · rw [if_neg si]; decide
          have one : lx_two (s.1 99) (s.1 95 4) b = false → Q v := by
            intro w
            have yk := hy w
            refine fin v vF v8 (v9.trans yk) ?_ (fun q => ?_) (fun q => ?_)
            · rw [v7, hT.2, w]; rfl
            · rw [v9, yk] at q; exact absurd q kN.1
            · rw [v9, yk] at q; exact absurd q kN.2
          have p272 : (s.1 99 b = 60 ∨ s.1 99 b = 62) → fw_197_p272 Q (s.1 99 b) v := by
            intro w
            unfold fw_197_p272
            refine fl_198 ?_
            rw [v4, v99, v7]
            intro _
            have long : s.1 95 4 ≤ b + 1 ∨ s.1 99 (b + 1) ≠ 61 → lx_two (s.1 99) (s.1 95 4) b = false := by
              intro o
              unfold lx_two
              rcases o with o | o
              · rw [decide_eq_false (show ¬ b + 1 < s.1 95 4 by omega)]; rfl
              · rw [decide_eq_false o, Bool.and_false]; rfl
            refine ⟨fun q => one (long ?_), fun q _ => ?_⟩
            · by_cases o : s.1 95 4 ≤ b + 1
              · exact Or.inl o
              · rw [if_neg o] at q; exact Or.inr q
            · have q := Classical.not_not.mp q
              have o : ¬ s.1 95 4 ≤ b + 1 := fun o => by rw [if_pos o] at q; cases q
              rw [if_neg o] at q
              have w2 : lx_two (s.1 99) (s.1 95 4) b = true := by
                unfold lx_two
                rw [decide_eq_true (show b + 1 < s.1 95 4 by omega), decide_eq_true q]
                rcases w with w | w
                · rw [decide_eq_true w]; rfl
                · rw [decide_eq_true w, Bool.or_true]; rfl
              have p297 : ∀ k : Int, k = lx_K (s.1 99) (s.1 95 4) b → fw_197_p297 Q k v := by
                intro k hk
                have k9 : (lf_up (lf_up v.1 95 9 k) 95 7 (v.1 95 7 + 1)) 95 9 = k := (lf_up_i (by decide)).trans lf_up_s
                unfold fw_197_p297
                refine fin _ (rt_Ft vF (rt_Fu (t := (lf_up v.1 95 9 k, v.2.1, v.2.2)) (rt_Fu rt_Fr (by omega)) (by omega))) (((zu_i (by decide)).trans (lf_up_i (by decide))).trans v8) ?_ ?_ (fun q => ?_) (fun q => ?_)
                · show (lf_up (lf_up v.1 95 9 k) 95 7 (v.1 95 7 + 1)) 95 9 = _
                  rw [k9, hk]
                · show (lf_up (lf_up v.1 95 9 k) 95 7 (v.1 95 7 + 1)) 95 7 = _
                  rw [lf_up_s, v7, hT.2, if_pos w2]; omega
                · have q : (lf_up (lf_up v.1 95 9 k) 95 7 (v.1 95 7 + 1)) 95 9 = 1 := q
                  rw [k9, hk] at q; exact absurd q kN.1
                · have q : (lf_up (lf_up v.1 95 9 k) 95 7 (v.1 95 7 + 1)) 95 9 = 2 := q
                  rw [k9, hk] at q; exact absurd q kN.2
              refine ⟨fun x => p297 5 ?_, fun x => p297 4 ?_⟩
              · unfold lx_K
                rw [if_neg cn, if_neg dgN, if_neg ltN, if_pos w2, if_neg x]
              · unfold lx_K
                rw [if_neg cn, if_neg dgN, if_neg ltN, if_pos w2, if_pos (Classical.not_not.mp x)]
          unfold fw_197_p247
          rw [u7, ← hv]
          intro _
          exact ⟨fun x => p272 (Or.inl x), fun x => ⟨fun y => one (lx_twoF x y), fun y => p272 (Or.inr (Classical.not_not.mp y))⟩⟩
        have dgN : ¬ lx_dg (s.1 99 b) = true := by rw [dg]; decide
        have ltN : ¬ lx_lt (s.1 99 b) = true := by rw [lt]; decide
        refine fl_201 ⟨fun si => two 3 (fun w => ?_), fun si => two (s.1 99 b) (fun w => ?_)⟩
        · unfold lx_K
          rw [if_neg cn, if_neg dgN, if_neg ltN, w, si]; rfl
        · unfold lx_K
          rw [if_neg cn, if_neg dgN, if_neg ltN, w, si]; rfl
      · -- a word
        have dgN : ¬ lx_dg (s.1 99 b) = true := by rw [dg]; decide
        have hT := lx_Tl bn dg lt
        have kK : lx_K (s.1 99) (s.1 95 4) b = 2 := by unfold lx_K; rw [if_neg cn, if_neg dgN, if_pos lt]
        have x99 : (lf_up u.1 95 9 2) 99 = s.1 99 := (lf_up_row (by decide)).trans u99
        have x4 : (lf_up u.1 95 9 2) 95 4 = s.1 95 4 := (lf_up_i (by decide)).trans u4
        refine fl_197w (s := (lf_up u.1 95 9 2, lf_up u.2.1 95 11 0, u.2.2)) (b := b) p0 ((zu_i (by decide)).trans u7) zu_s (show (lf_up u.2.1 95 11 0) 95 11 = 0 from lf_up_s) ?_ ?_
        · show ∀ i, 0 ≤ i → i < (lf_up u.1 95 9 2) 95 4 → 0 ≤ (lf_up u.1 95 9 2) 99 i ∧ (lf_up u.1 95 9 2) 99 i ≤ 255
          rw [x99, x4]; exact hb
        · show ∀ t : lf_Z, rt_F (lf_up u.1 95 9 2, lf_up u.2.1 95 11 0, u.2.2) t → t.1 95 8 = (lf_up u.1 95 9 2) 95 8 → t.1 95 9 = 2 → t.1 95 7 = lx_run lx_lt ((lf_up u.1 95 9 2) 99) ((lf_up u.1 95 9 2) 95 4) b → lf_wl (t.2.1 95 11) = lx_wv ((lf_up u.1 95 9 2) 99) b (t.1 95 7 - b).toNat → Q t
          rw [x99, x4]
          intro v vF v8 v9 v7 vw
          refine fin v (rt_Ft (rt_Fu rt_Fr (by omega)) vF) (v8.trans (lf_up_i (by decide))) (v9.trans kK.symm) (v7.trans hT.2.1.symm) (fun q => by rw [v9] at q; cases q) (fun _ => ?_)
          rw [hT.2.1, vw, v7]
      · -- a number
        have hT := lx_Td bn dg
        have kK : lx_K (s.1 99) (s.1 95 4) b = 1 := by unfold lx_K; rw [if_neg cn, if_pos dg]
        have x99 : (lf_up (lf_up u.1 95 9 1) 95 10 0) 99 = s.1 99 := (lf_up_row (by decide)).trans ((lf_up_row (by decide)).trans u99)
        have x4 : (lf_up (lf_up u.1 95 9 1) 95 10 0) 95 4 = s.1 95 4 := (lf_up_i (by decide)).trans ((lf_up_i (by decide)).trans u4)
        refine fl_197n (s := (lf_up (lf_up u.1 95 9 1) 95 10 0, u.2.1, u.2.2)) (b := b) p0 (((zu_i (by decide)).trans (lf_up_i (by decide))).trans u7) ((zu_i (by decide)).trans lf_up_s) zu_s ?_ ?_
        · show ∀ i, 0 ≤ i → i < (lf_up (lf_up u.1 95 9 1) 95 10 0) 95 4 → 0 ≤ (lf_up (lf_up u.1 95 9 1) 95 10 0) 99 i ∧ (lf_up (lf_up u.1 95 9 1) 95 10 0) 99 i ≤ 255
          rw [x99, x4]; exact hb
        · show ∀ t : lf_Z, rt_F (lf_up (lf_up u.1 95 9 1) 95 10 0, u.2.1, u.2.2) t → t.1 95 8 = (lf_up (lf_up u.1 95 9 1) 95 10 0) 95 8 → t.1 95 9 = 1 → t.1 95 7 = lx_run lx_dg ((lf_up (lf_up u.1 95 9 1) 95 10 0) 99) ((lf_up (lf_up u.1 95 9 1) 95 10 0) 95 4) b → 0 ≤ t.1 95 10 ∧ min 10000 (t.1 95 10) = lx_num ((lf_up (lf_up u.1 95 9 1) 95 10 0) 99) ((lf_up (lf_up u.1 95 9 1) 95 10 0) 95 4) b 0 → Q t
          rw [x99, x4]
          intro v vF v8 v9 v7 vn
          refine fin v (rt_Ft (rt_Fu (t := (lf_up u.1 95 9 1, u.2.1, u.2.2)) (rt_Fu rt_Fr (by omega)) (by omega)) vF) (v8.trans ((lf_up_i (by decide)).trans (lf_up_i (by decide)))) (v9.trans kK.symm) (v7.trans hT.2.1.symm) (fun _ => ?_) (fun q => by rw [v9] at q; cases q)
          rw [hT.2.2]; exact vn
  · have d := Classical.not_not.mp d
    have := val _ rfl (by rw [d]; decide)
    refine more this.1 ?_
    rw [← this.2, d]; rfl
end LZ
/-! the descent over tokens: fault and place, or 0 and where the next token begins -/
section DS
def ds_ad (f : Int → Int) (n b : Int) : Int := lx_sk f n (lx_E f n b)
def ds_ex (f : Int → Int) (n w b : Int) : Int × Int := if lx_T f n b = w then (0, ds_ad f n b) else (1, b)
def ds_bd (r : Int × Int) (g : Int → Int × Int) : Int × Int := if r.1 = 0 then g r.2 else r
def ds_lp (f : Int → Int) (n : Int) (ok : Int → Bool) (g : Int → Int × Int) : Nat → Int → Int × Int
  | 0, b => (0, b)
  | k + 1, b => if ok (lx_T f n b) = true then ds_bd (g (ds_ad f n b)) (ds_lp f n ok g k) else (0, b)
abbrev ds_D : Type := Int → (Int → Int) → Int → Int × Int
def ds_pm (t : Int) : Bool := decide (t = 10) || decide (t = 11)
def ds_td (t : Int) : Bool := decide (t = 12) || decide (t = 13)
def ds_is (w t : Int) : Bool := decide (t = w)
def ds_u1 (g : Int → Int) (i v : Int) : Int → Int := fun j => if j = i then v else g j
/-- whether a name (by its number) stands in the clause of a law -/
def ds_nm (law x : Int) : Bool := decide (lf_and (lf_shr ((px_lw x.toNat).toInt) law) 1 ≠ 0)
def ds_en (f : Int → Int) (n d : Int) (g : Int → Int × Int) (b : Int) : Int × Int := if d < 8 then g (ds_ad f n b) else (3, b)
def ds_name (f : Int → Int) (n law b : Int) : Int × Int :=
  if lx_T f n b = 24 then (if ds_nm law 10 = true then (0, ds_ad f n b) else (5, b))
  else if 47 ≤ lx_T f n b ∧ lx_T f n b ≤ 56 then (if ds_nm law (lx_T f n b - 47) = true then (0, ds_ad f n b) else (5, b))
  else (1, b)
def ds_one (f : Int → Int) (n law : Int) (S O I L : ds_D) (d : Int) (g : Int → Int) (b : Int) : Int × Int :=
  if lx_T f n b = 2 then (if lx_V f n b ≤ 9999 then (0, ds_ad f n b) else (2, b))
  else if lx_T f n b = 3 then (if g (lx_V f n b) ≠ -1 then (0, ds_ad f n b) else (5, b))
  else if lx_T f n b = 11 then ds_en f n d (O (d + 1) g) b
  else if lx_T f n b = 14 then ds_en f n d (fun b => ds_bd (S (d + 1) g b) (ds_ex f n 15)) b
  else if lx_T f n b = 37 then ds_en f n d (I (d + 1) g) b
  else if lx_T f n b = 41 then ds_en f n d (L (d + 1) g) b
  else ds_name f n law b
def ds_if (f : Int → Int) (n : Int) (S E : ds_D) (d : Int) (g : Int → Int) (b : Int) : Int × Int :=
  ds_bd (ds_bd (ds_bd (ds_bd (ds_bd (E d g b) (ds_ex f n 38)) (S d g)) (ds_ex f n 39)) (S d g)) (ds_ex f n 40)
def ds_sl (d : Int) : Int := max 0 (min 7 (d - 1))
def ds_let (f : Int → Int) (n : Int) (S : ds_D) (d : Int) (g : Int → Int) (b : Int) : Int × Int :=
  ds_bd (ds_bd (ds_bd (ds_bd (ds_bd (ds_ex f n 3 b) (ds_ex f n 42)) (S d g)) (ds_ex f n 43)) (S d (ds_u1 g (lx_V f n b) (ds_sl d)))) (ds_ex f n 40)
def ds_ask (f : Int → Int) (n : Int) (S A : ds_D) (d : Int) (g : Int → Int) (b : Int) : Int × Int :=
  if lx_T f n b = 44 then ds_en f n d (A (d + 1) g) b
  else ds_bd (ds_bd (S d g b) (fun b => if 4 ≤ lx_T f n b ∧ lx_T f n b ≤ 9 then (0, ds_ad f n b) else (1, b))) (S d g)
/-- sum, product, one, if, let, either, both, ask -/
def ds_T (f : Int → Int) (n law : Int) : Nat → ds_D × ds_D × ds_D × ds_D × ds_D × ds_D × ds_D × ds_D
  | 0 => (fun _ _ b => (9, b), fun _ _ b => (9, b), fun _ _ b => (9, b), fun _ _ b => (9, b), fun _ _ b => (9, b), fun _ _ b => (9, b), fun _ _ b => (9, b), fun _ _ b => (9, b))
  | k + 1 => (fun d g b => ds_bd ((ds_T f n law k).2.1 d g b) (ds_lp f n ds_pm ((ds_T f n law k).2.1 d g) 300),
    fun d g b => ds_bd ((ds_T f n law k).2.2.1 d g b) (ds_lp f n ds_td ((ds_T f n law k).2.2.1 d g) 300),
    ds_one f n law (ds_T f n law k).1 (ds_T f n law k).2.2.1 (ds_T f n law k).2.2.2.1 (ds_T f n law k).2.2.2.2.1,
    ds_if f n (ds_T f n law k).1 (ds_T f n law k).2.2.2.2.2.1,
    ds_let f n (ds_T f n law k).1,
    fun d g b => ds_bd ((ds_T f n law k).2.2.2.2.2.2.1 d g b) (ds_lp f n (ds_is 46) ((ds_T f n law k).2.2.2.2.2.2.1 d g) 300),
    fun d g b => ds_bd ((ds_T f n law k).2.2.2.2.2.2.2 d g b) (ds_lp f n (ds_is 45) ((ds_T f n law k).2.2.2.2.2.2.2 d g) 300),
    ds_ask f n (ds_T f n law k).1 (ds_T f n law k).2.2.2.2.2.2.2)
theorem ds_bd0 {r : Int × Int} {g : Int → Int × Int} (h : r.1 = 0) : ds_bd r g = g r.2 := if_pos h
theorem ds_bdF {r : Int × Int} {g : Int → Int × Int} (h : r.1 ≠ 0) : ds_bd r g = r := if_neg h
theorem ds_bdA {r : Int × Int} {g h : Int → Int × Int} : ds_bd (ds_bd r g) h = ds_bd r (fun b => ds_bd (g b) h) := by
  by_cases c : r.1 = 0
  · rw [ds_bd0 c, ds_bd0 c]
  · rw [ds_bdF c, ds_bdF c, ds_bdF c]
/-! the class's reader: where it stands -/
variable {f g : Int → Int} {n law : Int} {s t z : lf_Z} {r : Int × Int}
/-- what the sums of a text leave of it: where laws begin, how many clauses -/
def cl_K (z t : lf_Z) : Prop := t.2.2 = z.2.2 ∧ t.1 0 = z.1 0 ∧ ∀ u : Nat, u < 4 → t.1 (37 + 7 * u) = z.1 (37 + 7 * u) ∧ t.1 (35 + 7 * u) 7 = z.1 (35 + 7 * u) 7 ∧ (0 ≤ z.1 (35 + 7 * u) 1 → 0 ≤ t.1 (35 + 7 * u) 1)
theorem cl_Kr : cl_K z z := ⟨rfl, rfl, fun _ _ => ⟨rfl, rfl, fun h => h⟩⟩
theorem cl_Ke (h : cl_K z s) (e : t.2.2 = s.2.2) (h2 : ∀ c : Nat, c = 0 ∨ 35 ≤ c → t.1 c = s.1 c) : cl_K z t := ⟨e.trans h.1, (h2 0 (Or.inl rfl)).trans h.2.1, fun u hu => by rw [h2 (37 + 7 * u) (by omega), h2 (35 + 7 * u) (by omega)]; exact h.2.2 u hu⟩
def cl_S (z : lf_Z) (f : Int → Int) (n : Int) (g : Int → Int) (law : Int) (t : lf_Z) (r : Int × Int) : Prop := t.1 32 = f ∧ t.1 31 1 = n ∧ t.1 33 = g ∧ t.1 31 6 = law ∧ (r.1 = 0 → rd_at t r.2 ∧ t.1 31 2 = 0 ∧ 0 ≤ r.2 ∧ 0 ≤ t.1 31 7 ∧ t.1 31 3 = -1) ∧ (r.1 ≠ 0 → t.1 31 2 = r.1 ∧ t.1 31 3 = r.2 ∧ t.1 31 8 = 1) ∧ cl_K z t
def cl_tp (f : Int → Int) (n : Int) : Prop := ∀ i : Int, 0 ≤ i → i < n → 0 ≤ f i ∧ f i ≤ 255
theorem cl_E0 {b : Int} (h : 0 ≤ b) : 0 ≤ lx_E f n b := by
  have a := lx_runB (P := lx_dg) (f := f) (n := n) (p := b)
  have c := lx_runB (P := lx_lt) (f := f) (n := n) (p := b)
  unfold lx_E
  (repeat' split) <;> omega
theorem cl_ad0 {b : Int} (h : 0 ≤ b) : 0 ≤ ds_ad f n b := Int.le_trans (cl_E0 h) (lx_runB (P := lx_bl))
/-- changes elsewhere don't matter -/
theorem cl_S_c (h : cl_S z f n g law s r) (e : t.1 31 = s.1 31) (e2 : t.1 32 = s.1 32) (e3 : t.1 33 = s.1 33) (eK : cl_K z s → cl_K z t) : cl_S z f n g law t r := by
  obtain ⟨h1, h2, h3, h4, h5, h6, h7⟩ := h
  refine ⟨e2.trans h1, ?_, e3.trans h3, ?_, fun c => ?_, fun c => ?_, eK h7⟩
  · rw [e]; exact h2
  · rw [e]; exact h4
  · unfold rd_at; rw [e, e2]; exact h5 c
  · rw [e]; exact h6 c
/-- the token at hand -/
theorem cl_tok (h : cl_S z f n g law s r) (c : r.1 = 0) : s.1 31 8 = lx_T f n r.2 := by
  have := (h.2.2.2.2.1 c).1.2.1
  rw [h.1, h.2.1] at this
  exact this
theorem cl_val (h : cl_S z f n g law s r) (c : r.1 = 0) (q : s.1 31 8 = 2 ∨ s.1 31 8 = 3) : s.1 31 10 = lx_V f n r.2 := by
  have := (h.2.2.2.2.1 c).1.2.2.2 q
  rw [h.1, h.2.1] at this
  exact this
theorem cl_bad (h : cl_S z f n g law s r) (c : r.1 ≠ 0) : s.1 31 8 = 1 := (h.2.2.2.2.2.1 c).2.2
/-- on: fw_31 -/
theorem fl_adv {Q : lf_Z → Prop} (hb : cl_tp f n) (h : cl_S z f n g law s r) (k : ∀ t : lf_Z, cl_S z f n g law t (ds_bd r (fun b => (0, ds_ad f n b))) → Q t) : fw_31 Q s := by
  by_cases c : r.1 = 0
  · obtain ⟨h1, h2, h3, h4, h5, _, h7⟩ := h
    obtain ⟨a1, a2, a3, a4, a5⟩ := h5 c
    refine fl_31 a2 a4 (by rw [h1, h2]; exact hb) (fun t hF hA => k t ?_)
    rw [ds_bd0 c]
    have e1 : t.1 31 1 = n := (hF.2.1 1 (by decide) (by decide) (by decide) (by decide)).trans h2
    have e32 : t.1 32 = f := (hF.1 32 (by decide)).trans h1
    have e7 : s.1 31 7 = lx_E f n r.2 := by rw [← h1, ← h2]; exact a1.2.2.1
    rw [h1, h2, e7] at hA
    refine ⟨e32, e1, (hF.1 33 (by decide)).trans h3, (hF.2.1 6 (by decide) (by decide) (by decide) (by decide)).trans h4, fun _ => ⟨hA, (hF.2.1 2 (by decide) (by decide) (by decide) (by decide)).trans a2, cl_ad0 a3, ?_, (hF.2.1 3 (by decide) (by decide) (by decide) (by decide)).trans a5⟩, fun d => absurd rfl d, cl_Ke h7 (congrArg (·.2) hF.2.2) (fun c hc => hF.1 c (by omega))⟩
    rw [hA.2.2.1]
    exact cl_E0 (cl_ad0 a3)
  · refine fl_31f ?_ (k s ?_)
    · rw [(h.2.2.2.2.2.1 c).1]; exact c
    · rw [ds_bdF c]; exact h
/-- a fault: fw_39 -/
theorem fl_fail {k9 : Int} {Q : lf_Z → Prop} (hk : k9 ≠ 0) (h : cl_S z f n g law s r) (k : ∀ t : lf_Z, cl_S z f n g law t (ds_bd r (fun b => (k9, b))) → Q t) : fw_39 k9 Q s := by
  obtain ⟨h1, h2, h3, h4, h5, h6, h7⟩ := h
  unfold fw_39
  intro _
  by_cases c : r.1 = 0
  · obtain ⟨a1, a2, a3, a4⟩ := h5 c
    refine ⟨fun d => absurd a2 d, fun _ => ?_⟩
    unfold fw_39_p20
    refine k _ ?_
    rw [ds_bd0 c]
    have w : ∀ i : Int, i ≠ 2 → i ≠ 3 → i ≠ 8 → (lf_up (lf_up (lf_up s.1 31 2 k9) 31 3 (s.1 31 9)) 31 8 1) 31 i = s.1 31 i := fun i x y z => (lf_up_i z).trans ((lf_up_i y).trans (lf_up_i x))
    have w2 : ∀ c : Nat, c ≠ 31 → (lf_up (lf_up (lf_up s.1 31 2 k9) 31 3 (s.1 31 9)) 31 8 1) c = s.1 c := fun c x => (lf_up_row x).trans ((lf_up_row x).trans (lf_up_row x))
    refine ⟨(w2 32 (by decide)).trans h1, (w 1 (by decide) (by decide) (by decide)).trans h2, (w2 33 (by decide)).trans h3, (w 6 (by decide) (by decide) (by decide)).trans h4, fun d => absurd d hk, fun _ => ⟨?_, ?_, zu_s⟩, cl_Ke h7 rfl (fun c hc => w2 c (by omega))⟩
    · show (lf_up (lf_up (lf_up s.1 31 2 k9) 31 3 (s.1 31 9)) 31 8 1) 31 2 = k9
      exact (lf_up_i (by decide)).trans ((lf_up_i (by decide)).trans lf_up_s)
    · show (lf_up (lf_up (lf_up s.1 31 2 k9) 31 3 (s.1 31 9)) 31 8 1) 31 3 = r.2
      exact ((lf_up_i (by decide)).trans lf_up_s).trans a1.1
  · obtain ⟨a1, a2, a3⟩ := h6 c
    refine ⟨fun _ => ?_, fun d => absurd (by rw [a1]; exact c) d⟩
    unfold fw_39_p20
    refine k _ ?_
    rw [ds_bdF c]
    have w : ∀ i : Int, i ≠ 8 → (lf_up s.1 31 8 1) 31 i = s.1 31 i := fun i x => lf_up_i x
    have w2 : ∀ c : Nat, c ≠ 31 → (lf_up s.1 31 8 1) c = s.1 c := fun c x => lf_up_row x
    exact ⟨(w2 32 (by decide)).trans h1, (w 1 (by decide)).trans h2, (w2 33 (by decide)).trans h3, (w 6 (by decide)).trans h4, fun d => absurd d c, fun _ => ⟨(w 2 (by decide)).trans a1, (w 3 (by decide)).trans a2, zu_s⟩, cl_Ke h7 rfl (fun c hc => w2 c (by omega))⟩
/-- what is wanted, or a fault: fw_48 -/
theorem fl_ex {w : Int} {Q : lf_Z → Prop} (hw : w ≠ 1) (hb : cl_tp f n) (h : cl_S z f n g law s r) (k : ∀ t : lf_Z, cl_S z f n g law t (ds_bd r (ds_ex f n w)) → Q t) : fw_48 w Q s := by
  unfold fw_48
  intro _ _
  by_cases c : r.1 = 0
  · have e := cl_tok h c
    refine ⟨fun d => fl_fail (by decide) h (fun t ht => k t ?_), fun d => fl_adv hb h (fun t ht => k t ?_)⟩
    · rw [ds_bd0 c] at ht ⊢
      unfold ds_ex
      rw [if_neg (by rw [← e]; exact d)]; exact ht
    · rw [ds_bd0 c] at ht ⊢
      unfold ds_ex
      rw [if_pos (by rw [← e]; exact Classical.not_not.mp d)]; exact ht
  · have e := cl_bad h c
    refine ⟨fun d => fl_fail (by decide) h (fun t ht => k t ?_), fun d => absurd (by rw [e]; exact fun q => hw q.symm) d⟩
    rw [ds_bdF c] at ht ⊢
    exact ht
theorem fl_15 {a0 a1 a2 : Int} {Q : Bool → lf_Z → Prop} (h : Q (decide (a1 ≤ a0) && decide (a0 ≤ a2)) s) : fw_15 a0 a1 a2 Q s := by
  unfold fw_15
  intro _ _
  refine ⟨fun c => ?_, fun c _ => ⟨fun d => ?_, fun d => ?_⟩⟩
  · rw [decide_eq_false (show ¬ a1 ≤ a0 by omega)] at h; exact h
  · rw [decide_eq_false (show ¬ a0 ≤ a2 by omega), Bool.and_false] at h; exact h
  · rw [decide_eq_true (show a1 ≤ a0 by omega), decide_eq_true (show a0 ≤ a2 by omega)] at h; exact h
/-- an order more: fw_45 -/
theorem fl_45 {t0 : Nat} {a1 a2 : Int} {Q : Int → lf_Z → Prop} (ht : t0 < 4) (h : cl_S z f n g law s r) (k : ∀ (v : Int) (t : lf_Z), t.2 = s.2 → cl_S z f n g law t r → Q v t) : fw_45 t0 a1 a2 Q s := by
  unfold fw_45
  intro _
  refine ⟨fun _ _ => k _ _ (by rfl) (cl_S_c h ?_ ?_ ?_ (fun hK => ⟨hK.1, ((zu_r (by omega)).trans (lf_up_row (by omega))).trans hK.2.1, fun u hu => ?_⟩)), fun _ => k _ _ (by rfl) h⟩
  · exact (zu_r (by omega)).trans (lf_up_row (by omega))
  · exact (zu_r (by omega)).trans (lf_up_row (by omega))
  · exact (zu_r (by omega)).trans (lf_up_row (by omega))
  · obtain ⟨k1, k2, k3⟩ := hK.2.2 u hu
    refine ⟨((zu_r (by omega)).trans (lf_up_row (by omega))).trans k1, ?_, fun h0 => ?_⟩
    · refine Eq.trans ?_ k2
      by_cases e : u = t0
      · subst e; exact (zu_i (by decide)).trans (lf_up_c (by omega))
      · exact (zu_c (by omega)).trans (lf_up_c (by omega))
    · have k4 := k3 h0
      by_cases e : u = t0
      · subst e
        refine Int.le_trans ?_ (Int.le_of_eq (zu_s).symm)
        rw [lf_up_c (by omega)]; omega
      · refine Int.le_trans k4 (Int.le_of_eq ?_)
        exact ((zu_c (by omega)).trans (lf_up_c (by omega))).symm
/-- a leap's end: fw_53 -/
theorem fl_53 {t0 : Nat} {a1 : Int} {Q : lf_Z → Prop} (ht : t0 < 4) (h : cl_S z f n g law s r) (k : ∀ (t : lf_Z), t.2 = s.2 → cl_S z f n g law t r → Q t) : fw_53 t0 a1 Q s := by
  unfold fw_53
  intro _
  refine ⟨fun _ => k _ (by rfl) h, fun _ _ => ⟨fun _ => k _ (by rfl) h, fun _ _ => k _ (by rfl) (cl_S_c h ?_ ?_ ?_ (fun hK => ⟨hK.1, (zu_r (by omega)).trans hK.2.1, fun u hu => ?_⟩))⟩⟩
  · exact zu_r (by omega)
  · exact zu_r (by omega)
  · exact zu_r (by omega)
  · obtain ⟨k1, k2, k3⟩ := hK.2.2 u hu
    refine ⟨(zu_r (by omega)).trans k1, (zu_c (by omega)).trans k2, fun h0 => Int.le_trans (k3 h0) (Int.le_of_eq (zu_c (by omega)).symm)⟩
/-- one deeper: fw_47 -/
theorem fl_47 {d : Int} {Q : Bool → lf_Z → Prop} (hb : cl_tp f n) (h : cl_S z f n g law s r) (k1 : d < 8 → ∀ t : lf_Z, cl_S z f n g law t (ds_bd r (fun b => (0, ds_ad f n b))) → Q true t) (k2 : ¬ d < 8 → ∀ t : lf_Z, cl_S z f n g law t (ds_bd r (fun b => (3, b))) → Q false t) : fw_47 d Q s := by
  unfold fw_47
  intro _
  exact ⟨fun c => fl_adv hb h (k1 c), fun c => fl_fail (by decide) h (k2 c)⟩
end DS
/-! the class's reader does the descent -/
section DT
variable {f g : Int → Int} {n law : Int} {s t z : lf_Z} {r : Int × Int}
theorem ds_bdI {r : Int × Int} : ds_bd r (fun b => (0, b)) = r := by
  by_cases c : r.1 = 0
  · rw [ds_bd0 c]
    obtain ⟨a, b⟩ := r
    have c : a = 0 := c
    rw [c]
  · rw [ds_bdF c]
theorem ds_lpN {ok : Int → Bool} {G : Int → Int × Int} {k : Nat} {b : Int} (h : ok (lx_T f n b) = false) : ds_lp f n ok G k b = (0, b) := by
  cases k with
  | zero => rfl
  | succ k =>
    show (if ok (lx_T f n b) = true then _ else (0, b)) = _
    rw [h]; rfl
theorem ds_lpY {ok : Int → Bool} {G : Int → Int × Int} {k : Nat} {b : Int} (h : ok (lx_T f n b) = true) : ds_lp f n ok G (k + 1) b = ds_bd (G (ds_ad f n b)) (ds_lp f n ok G k) := if_pos h
theorem lx_T2 {b : Int} (h : lx_T f n b = 2) : b < n ∧ lx_dg (f b) = true := by
  by_cases c : n ≤ b
  · rw [(lx_Tz c).1] at h; cases h
  · cases d : lx_dg (f b) with
    | true => exact ⟨by omega, rfl⟩
    | false =>
      cases l : lx_lt (f b) with
      | false => rw [(lx_Ts (by omega) d l).1] at h; exact absurd h lx_sgB.1
      | true =>
        rw [(lx_Tl (by omega) d l).1] at h
        by_cases q : lx_run lx_lt f n b = b + 1 ∧ 97 ≤ f b
        · rw [if_pos q] at h; cases h
        · rw [if_neg q] at h
          rcases lx_WB (f := f) (b := b) (e := lx_run lx_lt f n b) with z | z <;> omega
theorem lx_T3 {b : Int} (h : lx_T f n b = 3) : b < n ∧ lx_dg (f b) = false ∧ 97 ≤ f b ∧ f b ≤ 122 ∧ lx_run lx_lt f n b = b + 1 := by
  by_cases c : n ≤ b
  · rw [(lx_Tz c).1] at h; cases h
  · cases d : lx_dg (f b) with
    | true => rw [(lx_Td (by omega) d).1] at h; cases h
    | false =>
      cases l : lx_lt (f b) with
      | false => rw [(lx_Ts (by omega) d l).1] at h; exact absurd h lx_sgB.2.1
      | true =>
        rw [(lx_Tl (by omega) d l).1] at h
        by_cases q : lx_run lx_lt f n b = b + 1 ∧ 97 ≤ f b
        · refine ⟨by omega, rfl, q.2, ?_, q.1⟩
          unfold lx_lt at l
          rw [Bool.or_eq_true, Bool.and_eq_true, Bool.and_eq_true, decide_eq_true_eq, decide_eq_true_eq, decide_eq_true_eq, decide_eq_true_eq] at l
          omega
        · rw [if_neg q] at h
          rcases lx_WB (f := f) (b := b) (e := lx_run lx_lt f n b) with z | z <;> omega
theorem lx_nn0 : ∀ (k : Nat) (p v : Int), 0 ≤ v → 0 ≤ lx_nn f n k p v := by
  intro k
  induction k with
  | zero => exact fun p v h => h
  | succ k ih =>
    intro p v h
    show 0 ≤ (if p < n ∧ lx_dg (f p) = true then lx_nn f n k (p + 1) (min 10000 (v * 10 + f p - 48)) else v)
    by_cases c : p < n ∧ lx_dg (f p) = true
    · rw [if_pos c]
      have d := c.2
      unfold lx_dg at d
      rw [Bool.and_eq_true, decide_eq_true_eq] at d
      exact ih _ _ (by omega)
    · rw [if_neg c]; exact h
theorem lx_V2 {b : Int} (h : lx_T f n b = 2) : 0 ≤ lx_V f n b := by
  have := lx_T2 h
  rw [(lx_Td this.1 this.2).2.2]
  exact lx_nn0 _ _ _ (Int.le_refl _)
theorem lx_V3 {b : Int} (h : lx_T f n b = 3) : 0 ≤ lx_V f n b ∧ lx_V f n b ≤ 25 := by
  have := lx_T3 h
  unfold lx_V
  rw [this.2.1, if_neg (by decide)]
  omega
def ds_num (f : Int → Int) (n lo hi b : Int) : Int × Int := if lx_T f n b = 2 then (if lo ≤ lx_V f n b ∧ lx_V f n b ≤ hi then (0, ds_ad f n b) else (2, b)) else (1, b)
/-- a number: fw_44 -/
theorem fl_num {lo hi : Int} {Q : Int → lf_Z → Prop} (hb : cl_tp f n) (h : cl_S z f n g law s r) (k : ∀ (v : Int) (t : lf_Z), cl_S z f n g law t (ds_bd r (ds_num f n lo hi)) → Q v t) : fw_44 lo hi Q s := by
  unfold fw_44
  intro _
  by_cases c : r.1 = 0
  · have e := cl_tok h c
    refine ⟨fun d => ?_, fun d => fl_fail (by decide) h (fun t ht => k _ t ?_)⟩
    · have v := cl_val h c (Or.inl d)
      refine fl_15 ⟨fun z => fl_adv hb h (fun t ht => k _ t ?_), fun z => fl_fail (by decide) h (fun t ht => k _ t ?_)⟩
      · rw [Bool.and_eq_true, decide_eq_true_eq, decide_eq_true_eq, v] at z
        rw [ds_bd0 c] at ht ⊢
        unfold ds_num
        rw [if_pos (by rw [← e]; exact d), if_pos z]; exact ht
      · rw [Bool.and_eq_false_iff, decide_eq_false_iff_not, decide_eq_false_iff_not, v] at z
        rw [ds_bd0 c] at ht ⊢
        unfold ds_num
        rw [if_pos (by rw [← e]; exact d), if_neg (fun q => by omega)]; exact ht
    · rw [ds_bd0 c] at ht ⊢
      unfold ds_num
      rw [if_neg (by rw [← e]; exact d)]; exact ht
  · have e := cl_bad h c
    refine ⟨(fun d => by rw [e] at d; cases d), fun d => fl_fail (by decide) h (fun t ht => k _ t ?_)⟩
    rw [ds_bdF c] at ht ⊢
    exact ht
/-- a letter: fw_46 -/
theorem fl_let {Q : lf_Z → Prop} (hb : cl_tp f n) (h : cl_S z f n g law s r) (c : r.1 = 0) (d : lx_T f n r.2 = 3) (k : ∀ (t : lf_Z), cl_S z f n g law t (if g (lx_V f n r.2) ≠ -1 then (0, ds_ad f n r.2) else (5, r.2)) → Q t) : fw_46 Q s := by
  have e := cl_tok h c
  have v := cl_val h c (Or.inr (e.trans d))
  have vb := lx_V3 d
  unfold fw_46
  refine fl_15 ?_
  rw [v, decide_eq_true vb.1, decide_eq_true vb.2]
  refine ⟨(fun z => by cases z), fun _ _ => ?_⟩
  rw [h.2.2.1]
  unfold fw_46_p26
  intro _
  refine ⟨fun q => ⟨fun _ => trivial, fun t0 _ h4 => fl_45 h4 h (fun w u _ hu => fl_adv hb hu (fun t ht => k t ?_))⟩, fun q => fl_fail (by decide) h (fun t ht => k t ?_)⟩
  · rw [if_pos q]; rw [ds_bd0 c] at ht; exact ht
  · rw [if_neg q]; rw [ds_bd0 c] at ht; exact ht
/-- a name: fw_56 -/
theorem fl_name {Q : lf_Z → Prop} (hb : cl_tp f n) (h : cl_S z f n g law s r) (k : ∀ (t : lf_Z), cl_S z f n g law t (ds_bd r (ds_name f n law)) → Q t) : fw_56 Q s := by
  have el : s.1 31 6 = law := h.2.2.2.1
  have p53 : ∀ x : Int, r.1 = 0 → (∀ t : lf_Z, cl_S z f n g law t (if ds_nm law x = true then (0, ds_ad f n r.2) else (5, r.2)) → Q t) → fw_56_p53 Q x s := by
    intro x c kx
    unfold fw_56_p53
    intro _
    rw [el]
    refine ⟨fun q => ⟨fun _ => trivial, fun t0 _ h4 => fl_45 h4 h (fun w u _ hu => fl_adv hb hu (fun t ht => kx t ?_))⟩, fun q => fl_fail (by decide) h (fun t ht => kx t ?_)⟩
    · unfold ds_nm; rw [if_pos (decide_eq_true q)]; rw [ds_bd0 c] at ht; exact ht
    · unfold ds_nm; rw [if_neg (by rw [decide_eq_true_eq]; exact q)]; rw [ds_bd0 c] at ht; exact ht
  unfold fw_56
  intro _
  by_cases c : r.1 = 0
  · have e := cl_tok h c
    rw [e]
    rw [ds_bd0 c] at k
    unfold ds_name at k
    refine ⟨fun d => ?_, fun d => ?_⟩
    · rw [if_neg d] at k
      unfold fw_56_p21
      intro _
      rw [e]
      refine ⟨fun q => absurd q d, fun _ => fl_15 ⟨fun z => ?_, fun z => ?_⟩⟩
      · rw [Bool.and_eq_true, decide_eq_true_eq, decide_eq_true_eq] at z
        rw [if_pos z] at k
        exact p53 _ c k
      · rw [Bool.and_eq_false_iff, decide_eq_false_iff_not, decide_eq_false_iff_not] at z
        rw [if_neg (fun q => by omega)] at k
        refine fl_fail (by decide) h (fun t ht => k t ?_)
        rw [ds_bd0 c] at ht; exact ht
    · have d := Classical.not_not.mp d
      rw [if_pos d] at k
      unfold fw_56_p21
      intro _
      rw [e]
      exact ⟨fun _ => p53 10 c k, fun q => absurd d q⟩
  · have e := cl_bad h c
    rw [e]
    refine ⟨fun _ => ?_, fun d => absurd (by decide) d⟩
    unfold fw_56_p21
    intro _
    rw [e]
    refine ⟨(fun q => by cases q), fun _ => fl_15 ⟨(fun z => by cases z), fun z => ?_⟩⟩
    refine fl_fail (by decide) h (fun t ht => k t ?_)
    rw [ds_bdF c] at ht ⊢
    exact ht
def cl_G (z : lf_Z) (f : Int → Int) (n law : Int) (F : Int → (lf_Z → Prop) → lf_Z → Prop) (D : ds_D) : Prop := ∀ (d : Int) (g : Int → Int) (s : lf_Z) (r : Int × Int) (Q : lf_Z → Prop), cl_S z f n g law s r → (∀ t : lf_Z, cl_S z f n g law t (ds_bd r (D d g)) → Q t) → F d Q s
theorem fl_41 {R42 : Int → (lf_Z → Prop) → lf_Z → Prop} {P : ds_D} (hb : cl_tp f n) (ih : cl_G z f n law R42 P) : cl_G z f n law (fw_41 R42) (fun d g b => ds_bd (P d g b) (ds_lp f n ds_pm (P d g) 300)) := by
  intro d g s r Q h k
  unfold fw_41
  refine ih d g s r _ h (fun t ht => ?_)
  refine ⟨fun x2 t => 0 ≤ x2 ∧ x2 ≤ 300 ∧ ∃ r' : Int × Int, cl_S z f n g law t r' ∧ ds_bd r' (ds_lp f n ds_pm (P d g) (300 - x2).toNat) = ds_bd r (fun b => ds_bd (P d g b) (ds_lp f n ds_pm (P d g) 300)), ?_, ⟨Int.le_refl _, by decide, _, ht, ds_bdA⟩⟩
  intro x2 t ⟨x0, x3, r', hr, he⟩
  have stop : (r'.1 = 0 → ds_pm (lx_T f n r'.2) = false) → Q t := by
    intro hs
    refine k t ?_
    rw [← he]
    by_cases c : r'.1 = 0
    · rw [ds_bd0 c, ds_lpN (hs c), show (0, r'.2) = r' from by obtain ⟨a, b⟩ := r'; have c : a = 0 := c; rw [c]]
      exact hr
    · rw [ds_bdF c]; exact hr
  have more : x2 < 300 → ds_pm (t.1 31 8) = true → fw_41_p32 R42 (fun x2 t => 0 ≤ x2 ∧ x2 ≤ 300 ∧ ∃ r' : Int × Int, cl_S z f n g law t r' ∧ ds_bd r' (ds_lp f n ds_pm (P d g) (300 - x2).toNat) = ds_bd r (fun b => ds_bd (P d g b) (ds_lp f n ds_pm (P d g) 300))) Q d x2 t := by
    intro hx ho
    have c : r'.1 = 0 := by
      by_cases c : r'.1 = 0
      · exact c
      · rw [cl_bad hr c] at ho; cases ho
    have e := cl_tok hr c
    rw [e] at ho
    rw [show (300 - x2).toNat = (300 - (x2 + 1)).toNat + 1 by omega, ds_bd0 c, ds_lpY ho] at he
    unfold fw_41_p32
    refine fl_adv hb hr (fun u hu => ih d g u _ _ hu (fun w hw => ⟨fun _ => trivial, fun t0 _ h4 => fl_45 h4 hw (fun v y _ hy => ⟨by omega, by omega, _, hy, ?_⟩)⟩))
    rw [← he, ds_bd0 c]
    rfl
  have fin : ¬ x2 < 300 → Q t := by
    intro hx
    refine k t ?_
    rw [show (300 - x2).toNat = 0 by omega] at he
    rw [← he]
    have : ds_bd r' (ds_lp f n ds_pm (P d g) 0) = r' := ds_bdI
    rw [this]; exact hr
  unfold fw_41_p7
  intro _
  refine ⟨fun c => fin (by omega), fun c _ => ⟨fun e => more (by omega) (by rw [e]; rfl), fun e => ⟨fun e2 => stop (fun c => ?_), fun e2 => more (by omega) (by rw [Classical.not_not.mp e2]; rfl)⟩⟩⟩
  rw [← cl_tok hr c]
  show (decide (t.1 31 8 = 10) || decide (t.1 31 8 = 11)) = false
  rw [decide_eq_false e, decide_eq_false e2]; rfl
theorem fl_42 {R43 : Int → (lf_Z → Prop) → lf_Z → Prop} {P : ds_D} (hb : cl_tp f n) (ih : cl_G z f n law R43 P) : cl_G z f n law (fw_42 R43) (fun d g b => ds_bd (P d g b) (ds_lp f n ds_td (P d g) 300)) := by
  intro d g s r Q h k
  unfold fw_42
  refine ih d g s r _ h (fun t ht => ?_)
  refine ⟨fun x2 t => 0 ≤ x2 ∧ x2 ≤ 300 ∧ ∃ r' : Int × Int, cl_S z f n g law t r' ∧ ds_bd r' (ds_lp f n ds_td (P d g) (300 - x2).toNat) = ds_bd r (fun b => ds_bd (P d g b) (ds_lp f n ds_td (P d g) 300)), ?_, ⟨Int.le_refl _, by decide, _, ht, ds_bdA⟩⟩
  intro x2 t ⟨x0, x3, r', hr, he⟩
  have stop : (r'.1 = 0 → ds_td (lx_T f n r'.2) = false) → Q t := by
    intro hs
    refine k t ?_
    rw [← he]
    by_cases c : r'.1 = 0
    · rw [ds_bd0 c, ds_lpN (hs c), show (0, r'.2) = r' from by obtain ⟨a, b⟩ := r'; have c : a = 0 := c; rw [c]]
      exact hr
    · rw [ds_bdF c]; exact hr
  have more : x2 < 300 → ds_td (t.1 31 8) = true → fw_42_p32 R43 (fun x2 t => 0 ≤ x2 ∧ x2 ≤ 300 ∧ ∃ r' : Int × Int, cl_S z f n g law t r' ∧ ds_bd r' (ds_lp f n ds_td (P d g) (300 - x2).toNat) = ds_bd r (fun b => ds_bd (P d g b) (ds_lp f n ds_td (P d g) 300))) Q d x2 t := by
    intro hx ho
    have c : r'.1 = 0 := by
      by_cases c : r'.1 = 0
      · exact c
      · rw [cl_bad hr c] at ho; cases ho
    have e := cl_tok hr c
    rw [e] at ho
    rw [show (300 - x2).toNat = (300 - (x2 + 1)).toNat + 1 by omega, ds_bd0 c, ds_lpY ho] at he
    unfold fw_42_p32
    refine fl_adv hb hr (fun u hu => ih d g u _ _ hu (fun w hw => ⟨fun _ => trivial, fun t0 _ h4 => fl_45 h4 hw (fun v y _ hy => ⟨by omega, by omega, _, hy, ?_⟩)⟩))
    rw [← he, ds_bd0 c]
    rfl
  have fin : ¬ x2 < 300 → Q t := by
    intro hx
    refine k t ?_
    rw [show (300 - x2).toNat = 0 by omega] at he
    rw [← he]
    have : ds_bd r' (ds_lp f n ds_td (P d g) 0) = r' := ds_bdI
    rw [this]; exact hr
  unfold fw_42_p7
  intro _
  refine ⟨fun c => fin (by omega), fun c _ => ⟨fun e => more (by omega) (by rw [e]; rfl), fun e => ⟨fun e2 => stop (fun c => ?_), fun e2 => more (by omega) (by rw [Classical.not_not.mp e2]; rfl)⟩⟩⟩
  rw [← cl_tok hr c]
  show (decide (t.1 31 8 = 12) || decide (t.1 31 8 = 13)) = false
  rw [decide_eq_false e, decide_eq_false e2]; rfl
theorem fl_50 {R51 : Int → (lf_Z → Prop) → lf_Z → Prop} {P : ds_D} (hb : cl_tp f n) (ih : cl_G z f n law R51 P) : cl_G z f n law (fw_50 R51) (fun d g b => ds_bd (P d g b) (ds_lp f n (ds_is 46) (P d g) 300)) := by
  intro d g s r Q h k
  unfold fw_50
  refine ih d g s r _ h (fun t ht => ?_)
  refine ⟨fun x2 t => 0 ≤ x2 ∧ x2 ≤ 300 ∧ ∃ r' : Int × Int, cl_S z f n g law t r' ∧ ds_bd r' (ds_lp f n (ds_is 46) (P d g) (300 - x2).toNat) = ds_bd r (fun b => ds_bd (P d g b) (ds_lp f n (ds_is 46) (P d g) 300)), ?_, ⟨Int.le_refl _, by decide, _, ht, ds_bdA⟩⟩
  intro x2 t ⟨x0, x3, r', hr, he⟩
  have stop : (r'.1 = 0 → (ds_is 46) (lx_T f n r'.2) = false) → Q t := by
    intro hs
    refine k t ?_
    rw [← he]
    by_cases c : r'.1 = 0
    · rw [ds_bd0 c, ds_lpN (hs c), show (0, r'.2) = r' from by obtain ⟨a, b⟩ := r'; have c : a = 0 := c; rw [c]]
      exact hr
    · rw [ds_bdF c]; exact hr
  have more : x2 < 300 → (ds_is 46) (t.1 31 8) = true → fw_31 (fun s24 => (R51 d (fun s25 => ((s25.2.2 2 = none → (True)) ∧ (∀ t26 : Nat, s25.2.2 2 = some t26 → t26 < 4 → (fw_45 t26 46 0 (fun r28 s27 => ((fun x2 t => 0 ≤ x2 ∧ x2 ≤ 300 ∧ ∃ r' : Int × Int, cl_S z f n g law t r' ∧ ds_bd r' (ds_lp f n (ds_is 46) (P d g) (300 - x2).toNat) = ds_bd r (fun b => ds_bd (P d g b) (ds_lp f n (ds_is 46) (P d g) 300))) (x2 + 1) s27)) s25)))) s24)) t := by
    intro hx ho
    have c : r'.1 = 0 := by
      by_cases c : r'.1 = 0
      · exact c
      · rw [cl_bad hr c] at ho; cases ho
    have e := cl_tok hr c
    rw [e] at ho
    rw [show (300 - x2).toNat = (300 - (x2 + 1)).toNat + 1 by omega, ds_bd0 c, ds_lpY ho] at he
    refine fl_adv hb hr (fun u hu => ih d g u _ _ hu (fun w hw => ⟨fun _ => trivial, fun t0 _ h4 => fl_45 h4 hw (fun v y _ hy => ⟨by omega, by omega, _, hy, ?_⟩)⟩))
    rw [← he, ds_bd0 c]
    rfl
  have fin : ¬ x2 < 300 → Q t := by
    intro hx
    refine k t ?_
    rw [show (300 - x2).toNat = 0 by omega] at he
    rw [← he]
    have : ds_bd r' (ds_lp f n (ds_is 46) (P d g) 0) = r' := ds_bdI
    rw [this]; exact hr
  unfold fw_50_p7
  intro _
  refine ⟨fun c => fin (by omega), fun c _ => ⟨fun e => stop (fun c => ?_), fun e => more (by omega) (by rw [Classical.not_not.mp e]; rfl)⟩⟩
  rw [← cl_tok hr c]
  show decide (t.1 31 8 = 46) = false
  exact decide_eq_false e
theorem fl_51 {R52 : Int → (lf_Z → Prop) → lf_Z → Prop} {P : ds_D} (hb : cl_tp f n) (ih : cl_G z f n law R52 P) : cl_G z f n law (fw_51 R52) (fun d g b => ds_bd (P d g b) (ds_lp f n (ds_is 45) (P d g) 300)) := by
  intro d g s r Q h k
  unfold fw_51
  refine ih d g s r _ h (fun t ht => ?_)
  refine ⟨fun x2 t => 0 ≤ x2 ∧ x2 ≤ 300 ∧ ∃ r' : Int × Int, cl_S z f n g law t r' ∧ ds_bd r' (ds_lp f n (ds_is 45) (P d g) (300 - x2).toNat) = ds_bd r (fun b => ds_bd (P d g b) (ds_lp f n (ds_is 45) (P d g) 300)), ?_, ⟨Int.le_refl _, by decide, _, ht, ds_bdA⟩⟩
  intro x2 t ⟨x0, x3, r', hr, he⟩
  have stop : (r'.1 = 0 → (ds_is 45) (lx_T f n r'.2) = false) → Q t := by
    intro hs
    refine k t ?_
    rw [← he]
    by_cases c : r'.1 = 0
    · rw [ds_bd0 c, ds_lpN (hs c), show (0, r'.2) = r' from by obtain ⟨a, b⟩ := r'; have c : a = 0 := c; rw [c]]
      exact hr
    · rw [ds_bdF c]; exact hr
  have more : x2 < 300 → (ds_is 45) (t.1 31 8) = true → fw_31 (fun s24 => (R52 d (fun s25 => ((s25.2.2 2 = none → (True)) ∧ (∀ t26 : Nat, s25.2.2 2 = some t26 → t26 < 4 → (fw_45 t26 45 0 (fun r28 s27 => ((fun x2 t => 0 ≤ x2 ∧ x2 ≤ 300 ∧ ∃ r' : Int × Int, cl_S z f n g law t r' ∧ ds_bd r' (ds_lp f n (ds_is 45) (P d g) (300 - x2).toNat) = ds_bd r (fun b => ds_bd (P d g b) (ds_lp f n (ds_is 45) (P d g) 300))) (x2 + 1) s27)) s25)))) s24)) t := by
    intro hx ho
    have c : r'.1 = 0 := by
      by_cases c : r'.1 = 0
      · exact c
      · rw [cl_bad hr c] at ho; cases ho
    have e := cl_tok hr c
    rw [e] at ho
    rw [show (300 - x2).toNat = (300 - (x2 + 1)).toNat + 1 by omega, ds_bd0 c, ds_lpY ho] at he
    refine fl_adv hb hr (fun u hu => ih d g u _ _ hu (fun w hw => ⟨fun _ => trivial, fun t0 _ h4 => fl_45 h4 hw (fun v y _ hy => ⟨by omega, by omega, _, hy, ?_⟩)⟩))
    rw [← he, ds_bd0 c]
    rfl
  have fin : ¬ x2 < 300 → Q t := by
    intro hx
    refine k t ?_
    rw [show (300 - x2).toNat = 0 by omega] at he
    rw [← he]
    have : ds_bd r' (ds_lp f n (ds_is 45) (P d g) 0) = r' := ds_bdI
    rw [this]; exact hr
  unfold fw_51_p7
  intro _
  refine ⟨fun c => fin (by omega), fun c _ => ⟨fun e => stop (fun c => ?_), fun e => more (by omega) (by rw [Classical.not_not.mp e]; rfl)⟩⟩
  rw [← cl_tok hr c]
  show decide (t.1 31 8 = 45) = false
  exact decide_eq_false e
theorem fl_en {d : Int} {Q : lf_Z → Prop} {G : Int → Int × Int} {K : lf_Z → Prop} (hb : cl_tp f n) (h : cl_S z f n g law s r) (c : r.1 = 0) (hK : ∀ t : lf_Z, cl_S z f n g law t (0, ds_ad f n r.2) → d < 8 → (∀ u : lf_Z, cl_S z f n g law u (G (ds_ad f n r.2)) → Q u) → K t) (k : ∀ t : lf_Z, cl_S z f n g law t (ds_en f n d G r.2) → Q t) : fw_47 d (fun z t => (z = false → Q t) ∧ (z = true → K t)) s := by
  refine fl_47 hb h (fun hd t ht => ⟨(fun z => by cases z), fun _ => hK t ?_ hd (fun u hu => k u ?_)⟩) (fun hd t ht => ⟨fun _ => k t ?_, fun z => by cases z⟩)
  · rw [ds_bd0 c] at ht; exact ht
  · unfold ds_en; rw [if_pos hd]; exact hu
  · unfold ds_en; rw [if_neg hd]; rw [ds_bd0 c] at ht; exact ht
theorem fl_43 {R41 R43 R49 R54 : Int → (lf_Z → Prop) → lf_Z → Prop} {S O I L : ds_D} (hb : cl_tp f n) (hS : cl_G z f n law R41 S) (hO : cl_G z f n law R43 O) (hI : cl_G z f n law R49 I) (hL : cl_G z f n law R54 L) : cl_G z f n law (fw_43 R41 R43 R49 R54) (ds_one f n law S O I L) := by
  intro d g s r Q h k
  unfold fw_43
  intro _
  by_cases c : r.1 = 0
  · have e := cl_tok h c
    rw [ds_bd0 c] at k
    rw [e]
    unfold ds_one at k
    refine ⟨fun q => ?_, fun q => ?_, fun q => ?_, fun q => ?_, fun q => ?_, fun q => ?_, fun q => ?_⟩
    · rw [if_neg q.1, if_neg q.2.1, if_neg q.2.2.1, if_neg q.2.2.2.1, if_neg q.2.2.2.2.1, if_neg q.2.2.2.2.2] at k
      refine fl_name hb h (fun t ht => k t ?_)
      rw [ds_bd0 c] at ht; exact ht
    · rw [if_pos q] at k
      have v := lx_V2 q
      refine ⟨fun _ => fl_num hb h (fun _ _ _ => trivial), fun t0 _ h4 => fl_num hb h (fun w u hu => fl_45 h4 hu (fun w2 y _ hy => k y ?_))⟩
      rw [ds_bd0 c] at hy
      unfold ds_num at hy
      rw [if_pos q] at hy
      by_cases z : lx_V f n r.2 ≤ 9999
      · rw [if_pos ⟨v, z⟩] at hy; rw [if_pos z]; exact hy
      · rw [if_neg (fun y => z y.2)] at hy; rw [if_neg z]; exact hy
    · rw [if_neg (by rw [q]; decide), if_pos q] at k
      exact fl_let hb h c q k
    · rw [if_neg (by rw [q]; decide), if_neg (by rw [q]; decide), if_pos q] at k
      refine fl_en hb h c (fun t ht hd ku => ?_) k
      refine hO (d + 1) g t _ _ ht (fun u hu => ⟨fun _ => trivial, fun t0 _ h4 => fl_45 h4 hu (fun w y _ hy => ku y ?_)⟩)
      rw [ds_bd0 rfl] at hy; exact hy
    · rw [if_neg (by rw [q]; decide), if_neg (by rw [q]; decide), if_neg (by rw [q]; decide), if_pos q] at k
      refine fl_en hb h c (fun t ht hd ku => ?_) k
      refine hS (d + 1) g t _ _ ht (fun u hu => fl_ex (by decide) hb hu (fun y hy => ku y ?_))
      rw [ds_bd0 (r := (0, ds_ad f n r.2)) rfl] at hy; exact hy
    · rw [if_neg (by rw [q]; decide), if_neg (by rw [q]; decide), if_neg (by rw [q]; decide), if_neg (by rw [q]; decide), if_pos q] at k
      refine fl_en hb h c (fun t ht hd ku => ?_) k
      refine hI (d + 1) g t _ _ ht (fun y hy => ku y ?_)
      rw [ds_bd0 rfl] at hy; exact hy
    · rw [if_neg (by rw [q]; decide), if_neg (by rw [q]; decide), if_neg (by rw [q]; decide), if_neg (by rw [q]; decide), if_neg (by rw [q]; decide), if_pos q] at k
      refine fl_en hb h c (fun t ht hd ku => ?_) k
      refine hL (d + 1) g t _ _ ht (fun y hy => ku y ?_)
      rw [ds_bd0 rfl] at hy; exact hy
  · have e := cl_bad h c
    rw [e]
    refine ⟨fun q => ?_, (fun q => by cases q), (fun q => by cases q), (fun q => by cases q), (fun q => by cases q), (fun q => by cases q), fun q => by cases q⟩
    refine fl_name hb h (fun t ht => k t ?_)
    rw [ds_bdF c] at ht ⊢; exact ht
theorem fl_49 {R41 R50 : Int → (lf_Z → Prop) → lf_Z → Prop} {S E : ds_D} (hb : cl_tp f n) (hS : cl_G z f n law R41 S) (hE : cl_G z f n law R50 E) : cl_G z f n law (fw_49 R41 R50) (ds_if f n S E) := by
  intro d g s r Q h k
  unfold fw_49
  refine hE d g s r _ h (fun a ha => fl_ex (by decide) hb ha (fun b hB => ⟨fun _ => trivial, fun t1 _ h1 => fl_45 h1 hB (fun v1 c _ hc => hS d g c _ _ hc (fun e he => fl_ex (by decide) hb he (fun i hi => ⟨fun _ => trivial, fun t2 _ h2 => fl_45 h2 hi (fun v2 j _ hj => ⟨fun _ => trivial, fun t3 _ h3 => fl_53 h3 hj (fun l _ hl => hS d g l _ _ hl (fun m hm => ⟨fun _ => trivial, fun t4 _ h4 => fl_53 h4 hm (fun o _ ho => fl_ex (by decide) hb ho (fun p hp => k p ?_))⟩))⟩)⟩)))⟩))
  have e : ds_bd r (ds_if f n S E d g) = ds_bd (ds_bd (ds_bd (ds_bd (ds_bd (ds_bd r (E d g)) (ds_ex f n 38)) (S d g)) (ds_ex f n 39)) (S d g)) (ds_ex f n 40) := by
    by_cases c : r.1 = 0
    · rw [ds_bd0 c, ds_bd0 c]; rfl
    · rw [ds_bdF c, ds_bdF c, ds_bdF c, ds_bdF c, ds_bdF c, ds_bdF c, ds_bdF c]
  rw [e]; exact hp
theorem cl_S_g {v y : Int} (h : cl_S z f n g law s r) : cl_S z f n (ds_u1 g y v) law (lf_up s.1 33 y v, s.2.1, s.2.2) r := by
  obtain ⟨h1, h2, h3, h4, h5, h6, h7⟩ := h
  have e31 : (lf_up s.1 33 y v) 31 = s.1 31 := lf_up_row (by decide)
  have e32 : (lf_up s.1 33 y v) 32 = s.1 32 := lf_up_row (by decide)
  have e33 : (lf_up s.1 33 y v) 33 = ds_u1 g y v := by
    funext j
    unfold ds_u1
    by_cases hj : j = y
    · rw [if_pos hj, hj]; exact lf_up_s
    · rw [if_neg hj, ← h3]; exact lf_up_i hj
  refine ⟨e32.trans h1, ?_, e33, ?_, fun c => ?_, fun c => ?_, cl_Ke h7 rfl (fun c hc => lf_up_row (by omega))⟩
  · show (lf_up s.1 33 y v) 31 1 = n; rw [e31]; exact h2
  · show (lf_up s.1 33 y v) 31 6 = law; rw [e31]; exact h4
  · have := h5 c
    unfold rd_at at this ⊢
    show ((lf_up s.1 33 y v) 31 9 = r.2 ∧ (lf_up s.1 33 y v) 31 8 = lx_T ((lf_up s.1 33 y v) 32) ((lf_up s.1 33 y v) 31 1) r.2 ∧ (lf_up s.1 33 y v) 31 7 = lx_E ((lf_up s.1 33 y v) 32) ((lf_up s.1 33 y v) 31 1) r.2 ∧ (((lf_up s.1 33 y v) 31 8 = 2 ∨ (lf_up s.1 33 y v) 31 8 = 3) → (lf_up s.1 33 y v) 31 10 = lx_V ((lf_up s.1 33 y v) 32) ((lf_up s.1 33 y v) 31 1) r.2)) ∧ (lf_up s.1 33 y v) 31 2 = 0 ∧ 0 ≤ r.2 ∧ 0 ≤ (lf_up s.1 33 y v) 31 7 ∧ (lf_up s.1 33 y v) 31 3 = -1
    rw [e31, e32]; exact this
  · show (lf_up s.1 33 y v) 31 2 = r.1 ∧ (lf_up s.1 33 y v) 31 3 = r.2 ∧ (lf_up s.1 33 y v) 31 8 = 1
    rw [e31]; exact h6 c
theorem ds_u1u {y v : Int} : ds_u1 (ds_u1 g y v) y (g y) = g := by
  funext j
  unfold ds_u1
  by_cases hj : j = y
  · rw [if_pos hj, hj]
  · rw [if_neg hj, if_neg hj]
theorem fl_55 {a b c : Int} {Q : Int → lf_Z → Prop} (h : Q (max b (min c a)) s) : fw_55 a b c Q s := by
  unfold fw_55
  intro _ _ _ _
  exact h
theorem fl_54p {R41 : Int → (lf_Z → Prop) → lf_Z → Prop} {S : ds_D} {d y : Int} {Q : lf_Z → Prop} (hb : cl_tp f n) (hS : cl_G z f n law R41 S) (h : cl_S z f n g law s r) (k : ∀ t : lf_Z, cl_S z f n g law t (ds_bd (ds_bd (ds_bd (ds_bd (ds_bd (ds_bd r (ds_ex f n 3)) (ds_ex f n 42)) (S d g)) (ds_ex f n 43)) (S d (ds_u1 g y (ds_sl d)))) (ds_ex f n 40)) → Q t) : fw_54_p29 R41 Q d y s := by
  unfold fw_54_p29
  refine fl_55 (fl_ex (by decide) hb h (fun a ha => fl_ex (by decide) hb ha (fun b hB => hS d g b _ _ hB (fun c hc => fl_ex (by decide) hb hc (fun e he => ⟨fun _ => trivial, fun t1 _ h1 => fl_45 h1 he (fun v i _ hi hy => ?_)⟩)))))
  have eg : i.1 33 y = g y := by rw [hi.2.2.1]
  rw [eg]
  refine hS d _ _ _ _ (cl_S_g (v := ds_sl d) hi) (fun j hj => fl_ex (by decide) hb (s := (lf_up j.1 33 y (g y), j.2.1, j.2.2)) (g := g) ?_ k)
  have := cl_S_g (y := y) (v := g y) hj
  rw [ds_u1u] at this
  exact this
theorem fl_54 {R41 : Int → (lf_Z → Prop) → lf_Z → Prop} {S : ds_D} (hb : cl_tp f n) (hS : cl_G z f n law R41 S) : cl_G z f n law (fw_54 R41) (ds_let f n S) := by
  intro d g s r Q h k
  unfold fw_54
  intro _
  by_cases c : r.1 = 0
  · have e := cl_tok h c
    rw [ds_bd0 c] at k
    unfold ds_let at k
    have bad : lx_T f n r.2 ≠ 3 → fw_54_p28 R41 Q d s := by
      intro q
      unfold fw_54_p28
      refine fl_54p hb hS h (fun t ht => k t ?_)
      have x : ds_ex f n 3 r.2 = (1, r.2) := by unfold ds_ex; rw [if_neg q]
      rw [ds_bd0 c, x] at ht
      rw [x]
      rw [ds_bdF (r := ((1 : Int), r.2)) (show (1 : Int) ≠ 0 by decide), ds_bdF (r := ((1 : Int), r.2)) (show (1 : Int) ≠ 0 by decide), ds_bdF (r := ((1 : Int), r.2)) (show (1 : Int) ≠ 0 by decide), ds_bdF (r := ((1 : Int), r.2)) (show (1 : Int) ≠ 0 by decide), ds_bdF (r := ((1 : Int), r.2)) (show (1 : Int) ≠ 0 by decide)] at ht ⊢
      exact ht
    refine ⟨fun q => bad (by rw [← e]; exact q), fun q => ?_⟩
    have q := Classical.not_not.mp q
    have q3 : lx_T f n r.2 = 3 := e.symm.trans q
    have v := cl_val h c (Or.inr q)
    have vb := lx_V3 q3
    refine fl_15 ?_
    rw [v, decide_eq_true vb.1, decide_eq_true vb.2]
    refine ⟨(fun z => by cases z), fun _ => fl_54p hb hS h (fun t ht => k t ?_)⟩
    rw [ds_bd0 c] at ht
    exact ht
  · have e := cl_bad h c
    rw [e]
    refine ⟨fun _ => ?_, fun q => absurd (by decide) q⟩
    unfold fw_54_p28
    refine fl_54p hb hS h (fun t ht => k t ?_)
    rw [ds_bdF c, ds_bdF c, ds_bdF c, ds_bdF c, ds_bdF c, ds_bdF c] at ht
    rw [ds_bdF c]
    exact ht
theorem fl_52 {R41 R52 : Int → (lf_Z → Prop) → lf_Z → Prop} {S A : ds_D} (hb : cl_tp f n) (hS : cl_G z f n law R41 S) (hA : cl_G z f n law R52 A) : cl_G z f n law (fw_52 R41 R52) (ds_ask f n S A) := by
  intro d g s r Q h k
  have sum : (∀ t : lf_Z, cl_S z f n g law t (ds_bd (ds_bd (ds_bd r (S d g)) (fun b => if 4 ≤ lx_T f n b ∧ lx_T f n b ≤ 9 then (0, ds_ad f n b) else (1, b))) (S d g)) → Q t) → R41 d (fun s22 => (fw_15 (s22.1 31 8) 4 9 (fun z24 s23 => ((z24 = true → (fw_31 (fun s25 => (R41 d (fun s26 => ((s26.2.2 2 = none → (True)) ∧ (∀ t27 : Nat, s26.2.2 2 = some t27 → t27 < 4 → (fw_45 t27 (s22.1 31 8) 0 (fun r29 s28 => (Q s28)) s26)))) s25)) s23)) ∧ (z24 = false → (fw_39 1 (fun s30 => (Q s30)) s23)))) s22)) s := by
    intro kk
    refine hS d g s r _ h (fun t ht => fl_15 ?_)
    generalize ds_bd r (S d g) = r1 at ht kk
    by_cases c : r1.1 = 0
    · have e := cl_tok ht c
      rw [ds_bd0 c] at kk
      refine ⟨fun z => ?_, fun z => ?_⟩
      · rw [Bool.and_eq_true, decide_eq_true_eq, decide_eq_true_eq, e] at z
        rw [if_pos z] at kk
        refine fl_adv hb ht (fun u hu => hS d g u _ _ hu (fun w hw => ⟨fun _ => trivial, fun t0 _ h4 => fl_45 h4 hw (fun v y _ hy => kk y ?_)⟩))
        rw [ds_bd0 c] at hy; exact hy
      · rw [Bool.and_eq_false_iff, decide_eq_false_iff_not, decide_eq_false_iff_not, e] at z
        rw [if_neg (fun q => by omega), ds_bdF (r := ((1 : Int), r1.2)) (show (1 : Int) ≠ 0 by decide)] at kk
        refine fl_fail (by decide) ht (fun u hu => kk u ?_)
        rw [ds_bd0 c] at hu; exact hu
    · have e := cl_bad ht c
      rw [ds_bdF c, ds_bdF c] at kk
      rw [e]
      refine ⟨(fun z => by cases z), fun z => fl_fail (by decide) ht (fun u hu => kk u ?_)⟩
      rw [ds_bdF c] at hu; exact hu
  unfold fw_52
  intro _
  by_cases c : r.1 = 0
  · have e := cl_tok h c
    rw [ds_bd0 c] at k
    unfold ds_ask at k
    rw [ds_bd0 c] at sum
    refine ⟨fun q => ?_, fun q => ?_⟩
    · rw [if_neg (by rw [← e]; exact q)] at k
      exact sum k
    · rw [if_pos (by rw [← e]; exact Classical.not_not.mp q)] at k
      refine fl_en hb h c (fun t ht hd ku => ?_) k
      refine hA (d + 1) g t _ _ ht (fun u hu => ⟨fun _ => trivial, fun t0 _ h4 => fl_45 h4 hu (fun w y _ hy => ku y ?_)⟩)
      rw [ds_bd0 rfl] at hy; exact hy
  · have e := cl_bad h c
    refine ⟨fun q => sum (fun t ht => k t ?_), fun q => absurd (by rw [e]; decide) q⟩
    rw [ds_bdF c, ds_bdF c, ds_bdF c] at ht
    rw [ds_bdF c]; exact ht
/-- all of them, to each depth of calls -/
theorem fl_rec (hb : cl_tp f n) : ∀ m : Nat, cl_G z f n law (fv_41T m).1 (ds_T f n law m).1 ∧ cl_G z f n law (fv_41T m).2.1 (ds_T f n law m).2.1 ∧ cl_G z f n law (fv_41T m).2.2.1 (ds_T f n law m).2.2.1 ∧ cl_G z f n law (fv_41T m).2.2.2.1 (ds_T f n law m).2.2.2.1 ∧ cl_G z f n law (fv_41T m).2.2.2.2.1 (ds_T f n law m).2.2.2.2.1 ∧ cl_G z f n law (fv_41T m).2.2.2.2.2.1 (ds_T f n law m).2.2.2.2.2.1 ∧ cl_G z f n law (fv_41T m).2.2.2.2.2.2.1 (ds_T f n law m).2.2.2.2.2.2.1 ∧ cl_G z f n law (fv_41T m).2.2.2.2.2.2.2 (ds_T f n law m).2.2.2.2.2.2.2 := by
  intro m
  induction m with
  | zero => exact ⟨fun _ _ _ _ _ _ _ => trivial, fun _ _ _ _ _ _ _ => trivial, fun _ _ _ _ _ _ _ => trivial, fun _ _ _ _ _ _ _ => trivial, fun _ _ _ _ _ _ _ => trivial, fun _ _ _ _ _ _ _ => trivial, fun _ _ _ _ _ _ _ => trivial, fun _ _ _ _ _ _ _ => trivial⟩
  | succ m ih =>
    obtain ⟨hS, hP, hO, hI, hL, hE, hB, hA⟩ := ih
    exact ⟨fl_41 hb hP, fl_42 hb hO, fl_43 hb hS hO hI hL, fl_49 hb hS hE, fl_54 hb hS, fl_50 hb hB, fl_51 hb hA, fl_52 hb hS hA⟩
/-- a sum of a clause: readSum(0) -/
theorem fl_sum {Q : lf_Z → Prop} (hb : cl_tp f n) (h : cl_S z f n g law s r) (k : ∀ t : lf_Z, cl_S z f n g law t (ds_bd r ((ds_T f n law 200).1 0 g)) → Q t) : fv_41 0 Q s := (fl_rec hb 200).1 0 g s r Q h k
end DT
/-! clauses and texts: the verdict -/
section DU
variable {f g : Int → Int} {n law m : Int} {o : Int → Bool} {t0 : Nat} {s t z : lf_Z} {r : Int × Int}
def tx_sh (k : Int) : Int := (px_sh k.toNat).toInt
def ds_deed (f : Int → Int) (n w b : Int) : Int × Int :=
  if tx_sh ((w - 23) * 5 + 2) = 0 then ds_num f n (tx_sh ((w - 23) * 5)) (tx_sh ((w - 23) * 5 + 1)) b
  else ds_bd (ds_bd (ds_num f n (tx_sh ((w - 23) * 5)) (tx_sh ((w - 23) * 5 + 1)) b) (ds_ex f n (tx_sh ((w - 23) * 5 + 2)))) (ds_num f n (tx_sh ((w - 23) * 5 + 3)) (tx_sh ((w - 23) * 5 + 4)))
/-- a clause that can begin: its verdict -/
def ds_cl (f : Int → Int) (n : Int) (g : Int → Int) (b : Int) : Int × Int :=
  ds_bd (if 22 < lx_T f n b then ds_deed f n (lx_T f n b) (ds_ad f n b) else (ds_T f n (lx_T f n b - 20) 200).1 0 g (ds_ad f n b)) (ds_ex f n 16)
def tx_ok (f : Int → Int) (n m : Int) (o : Int → Bool) (b : Int) : Int :=
  if ¬ (20 ≤ lx_T f n b ∧ lx_T f n b ≤ 32) then 1 else if lx_T f n b ≤ 22 ∧ o (lx_T f n b - 20) = true then 4 else if 24 ≤ m then 6 else 0
def tx_o (f : Int → Int) (n : Int) (o : Int → Bool) (b : Int) : Int → Bool := fun l => o l || decide (lx_T f n b - 20 = l)
def tx_lp (f : Int → Int) (n : Int) (g : Int → Int) : Nat → Int → (Int → Bool) → Int → Int × Int
  | 0, _, _, b => (0, b)
  | k + 1, m, o, b => if lx_T f n b = 0 then (0, b) else if tx_ok f n m o b ≠ 0 then (tx_ok f n m o b, b) else ds_bd (ds_cl f n g b) (tx_lp f n g k (m + 1) (tx_o f n o b))
def tx_X (t0 : Nat) (m : Int) (o : Int → Bool) (t : lf_Z) : Prop := t.2.2 2 = some t0 ∧ t0 < 4 ∧ t.1 (35 + 7 * t0) 7 = m ∧ (∀ l : Int, 0 ≤ l → l < 3 → (o l = true ↔ t.1 (37 + 7 * t0) l ≠ -1)) ∧ 0 ≤ t.1 (35 + 7 * t0) 1
/-- from here on -/
theorem cl_Sz (h : cl_S z f n g law s r) : cl_S s f n g law s r := ⟨h.1, h.2.1, h.2.2.1, h.2.2.2.1, h.2.2.2.2.1, h.2.2.2.2.2.1, cl_Kr⟩
theorem tx_Xk (h : tx_X t0 m o z) (hK : cl_K z t) : tx_X t0 m o t := by
  obtain ⟨h1, h2, h3, h4, h5⟩ := h
  obtain ⟨k1, k2, k3⟩ := hK.2.2 t0 h2
  exact ⟨by rw [hK.1]; exact h1, h2, k2.trans h3, by rw [k1]; exact h4, k3 h5⟩
theorem tx_ref {u : Nat} (h : tx_X t0 m o t) (e : t.2.2 2 = some u) : u = t0 := by
  rw [h.1] at e
  cases e
  rfl
theorem fl_40 {a1 : Int} {Q : Bool → lf_Z → Prop} (h : Q (decide (0 ≤ a1) && decide (a1 < 3) && decide (s.1 (37 + 7 * t0) a1 ≠ -1)) s) : fw_40 t0 a1 Q s := by
  unfold fw_40
  intro _
  refine ⟨fun c => ?_, fun c => ⟨fun d => ?_, fun d _ _ => ⟨fun e => ?_, fun e => ?_⟩⟩⟩
  · rw [decide_eq_false (show ¬ 0 ≤ a1 by omega)] at h; exact h
  · rw [decide_eq_false (show ¬ a1 < 3 by omega), Bool.and_false] at h; exact h
  · rw [decide_eq_false (show ¬ s.1 (37 + 7 * t0) a1 ≠ -1 from fun q => q e), Bool.and_false] at h; exact h
  · rw [decide_eq_true (show 0 ≤ a1 by omega), decide_eq_true (show a1 < 3 by omega), decide_eq_true e] at h; exact h
/-- a clause is kept -/
theorem fl_57 {a1 a2 a3 : Int} {Q : lf_Z → Prop} (h : cl_S z f n g law s r) (hX : tx_X t0 m o s) (hm : m < 24) (k : ∀ t : lf_Z, t.1 0 = s.1 0 → cl_S t f n g law t r → tx_X t0 (m + 1) o t → Q t) : fw_57 t0 a1 a2 a3 Q s := by
  obtain ⟨x1, x2, x3, x4, x5⟩ := hX
  unfold fw_57
  intro _
  refine ⟨fun c => by omega, fun _ _ _ _ => ?_⟩
  have w1 : ∀ {a b c : Int}, ∀ q : Nat, q ≠ 39 + 7 * t0 → q ≠ 40 + 7 * t0 → q ≠ 41 + 7 * t0 → (lf_up (lf_up (lf_up s.1 (39 + 7 * t0) (s.1 (35 + 7 * t0) 7) a1) (40 + 7 * t0) b a2) (41 + 7 * t0) c a3) q = s.1 q := fun q h1 h2 h3 => (lf_up_row h3).trans ((lf_up_row h2).trans (lf_up_row h1))
  generalize hu : lf_up (lf_up (lf_up s.1 (39 + 7 * t0) (s.1 (35 + 7 * t0) 7) a1) (40 + 7 * t0) ((lf_up s.1 (39 + 7 * t0) (s.1 (35 + 7 * t0) 7) a1) (35 + 7 * t0) 7) a2) (41 + 7 * t0) ((lf_up (lf_up s.1 (39 + 7 * t0) (s.1 (35 + 7 * t0) 7) a1) (40 + 7 * t0) ((lf_up s.1 (39 + 7 * t0) (s.1 (35 + 7 * t0) 7) a1) (35 + 7 * t0) 7) a2) (35 + 7 * t0) 7) a3 = U
  have wU : ∀ q : Nat, q ≠ 39 + 7 * t0 → q ≠ 40 + 7 * t0 → q ≠ 41 + 7 * t0 → U q = s.1 q := fun q h1 h2 h3 => by rw [← hu]; exact w1 (a := 0) q h1 h2 h3
  have e7 : U (35 + 7 * t0) 7 = m := by rw [wU _ (by omega) (by omega) (by omega)]; exact x3
  have wV : ∀ q : Nat, q ≠ 35 + 7 * t0 → q ≠ 39 + 7 * t0 → q ≠ 40 + 7 * t0 → q ≠ 41 + 7 * t0 → (lf_up U (35 + 7 * t0) 7 (U (35 + 7 * t0) 7 + 1)) q = s.1 q := fun q h0 h1 h2 h3 => (lf_up_row h0).trans (wU q h1 h2 h3)
  have hS : cl_S (lf_up U (35 + 7 * t0) 7 (U (35 + 7 * t0) 7 + 1), s.2.1, s.2.2) f n g law (lf_up U (35 + 7 * t0) 7 (U (35 + 7 * t0) 7 + 1), s.2.1, s.2.2) r := by
    refine ⟨?_, ?_, ?_, ?_, ?_, ?_, cl_Kr⟩
    · exact (wV 32 (by omega) (by omega) (by omega) (by omega)).trans h.1
    · exact (congrFun (wV 31 (by omega) (by omega) (by omega) (by omega)) 1).trans h.2.1
    · exact (wV 33 (by omega) (by omega) (by omega) (by omega)).trans h.2.2.1
    · exact (congrFun (wV 31 (by omega) (by omega) (by omega) (by omega)) 6).trans h.2.2.2.1
    · intro c
      have q := h.2.2.2.2.1 c
      unfold rd_at at q ⊢
      show ((lf_up U (35 + 7 * t0) 7 (U (35 + 7 * t0) 7 + 1)) 31 9 = r.2 ∧ (lf_up U (35 + 7 * t0) 7 (U (35 + 7 * t0) 7 + 1)) 31 8 = lx_T ((lf_up U (35 + 7 * t0) 7 (U (35 + 7 * t0) 7 + 1)) 32) ((lf_up U (35 + 7 * t0) 7 (U (35 + 7 * t0) 7 + 1)) 31 1) r.2 ∧ (lf_up U (35 + 7 * t0) 7 (U (35 + 7 * t0) 7 + 1)) 31 7 = lx_E ((lf_up U (35 + 7 * t0) 7 (U (35 + 7 * t0) 7 + 1)) 32) ((lf_up U (35 + 7 * t0) 7 (U (35 + 7 * t0) 7 + 1)) 31 1) r.2 ∧ (((lf_up U (35 + 7 * t0) 7 (U (35 + 7 * t0) 7 + 1)) 31 8 = 2 ∨ (lf_up U (35 + 7 * t0) 7 (U (35 + 7 * t0) 7 + 1)) 31 8 = 3) → (lf_up U (35 + 7 * t0) 7 (U (35 + 7 * t0) 7 + 1)) 31 10 = lx_V ((lf_up U (35 + 7 * t0) 7 (U (35 + 7 * t0) 7 + 1)) 32) ((lf_up U (35 + 7 * t0) 7 (U (35 + 7 * t0) 7 + 1)) 31 1) r.2)) ∧ (lf_up U (35 + 7 * t0) 7 (U (35 + 7 * t0) 7 + 1)) 31 2 = 0 ∧ 0 ≤ r.2 ∧ 0 ≤ (lf_up U (35 + 7 * t0) 7 (U (35 + 7 * t0) 7 + 1)) 31 7 ∧ (lf_up U (35 + 7 * t0) 7 (U (35 + 7 * t0) 7 + 1)) 31 3 = -1
      rw [wV 31 (by omega) (by omega) (by omega) (by omega), wV 32 (by omega) (by omega) (by omega) (by omega)]
      exact q
    · intro c
      have q := h.2.2.2.2.2.1 c
      show (lf_up U (35 + 7 * t0) 7 (U (35 + 7 * t0) 7 + 1)) 31 2 = r.1 ∧ (lf_up U (35 + 7 * t0) 7 (U (35 + 7 * t0) 7 + 1)) 31 3 = r.2 ∧ (lf_up U (35 + 7 * t0) 7 (U (35 + 7 * t0) 7 + 1)) 31 8 = 1
      rw [wV 31 (by omega) (by omega) (by omega) (by omega)]
      exact q
  refine k _ (wV 0 (by omega) (by omega) (by omega) (by omega)) hS ⟨x1, x2, ?_, ?_, ?_⟩
  · show (lf_up U (35 + 7 * t0) 7 (U (35 + 7 * t0) 7 + 1)) (35 + 7 * t0) 7 = m + 1
    rw [lf_up_s, e7]
  · show ∀ l : Int, 0 ≤ l → l < 3 → (o l = true ↔ (lf_up U (35 + 7 * t0) 7 (U (35 + 7 * t0) 7 + 1)) (37 + 7 * t0) l ≠ -1)
    rw [wV (37 + 7 * t0) (by omega) (by omega) (by omega) (by omega)]
    exact x4
  · show 0 ≤ (lf_up U (35 + 7 * t0) 7 (U (35 + 7 * t0) 7 + 1)) (35 + 7 * t0) 1
    rw [lf_up_i (by decide), wU _ (by omega) (by omega) (by omega)]
    exact x5
theorem fl_58 {w : Int} {Q : lf_Z → Prop} (hw : 23 ≤ w ∧ w ≤ 32) (hb : cl_tp f n) (h : cl_S s f n g law s r) (hX : tx_X t0 m o s) (hm : m < 24) (k : ∀ t : lf_Z, t.1 0 = s.1 0 → cl_S t f n g law t (ds_bd r (ds_deed f n w)) → tx_X t0 (m + 1) o t → Q t) : fw_58 w Q s := by
  have e0 : ds_bd r (ds_deed f n w) = if tx_sh ((w - 23) * 5 + 2) = 0 then ds_bd r (ds_num f n (tx_sh ((w - 23) * 5)) (tx_sh ((w - 23) * 5 + 1))) else ds_bd (ds_bd (ds_bd r (ds_num f n (tx_sh ((w - 23) * 5)) (tx_sh ((w - 23) * 5 + 1)))) (ds_ex f n (tx_sh ((w - 23) * 5 + 2)))) (ds_num f n (tx_sh ((w - 23) * 5 + 3)) (tx_sh ((w - 23) * 5 + 4))) := by
    by_cases c : r.1 = 0
    · rw [ds_bd0 c, ds_bd0 c]
      unfold ds_deed
      by_cases q : tx_sh ((w - 23) * 5 + 2) = 0
      · rw [if_pos q]
      · rw [if_neg q]
    · rw [ds_bdF c, ds_bdF c, ds_bdF c, ds_bdF c]
      (split) <;> rfl
  rw [e0] at k
  have p68 : ∀ (v u : Int) (t : lf_Z) (r' : Int × Int), cl_S s f n g law t r' → (∀ y : lf_Z, y.1 0 = s.1 0 → cl_S y f n g law y r' → tx_X t0 (m + 1) o y → Q y) → fw_58_p68 Q w v u t := by
    intro v u t r' ht kk
    have tX := tx_Xk hX ht.2.2.2.2.2.2
    unfold fw_58_p68
    refine ⟨fun _ => trivial, fun t1 e1 _ => ?_⟩
    have := tx_ref tX e1
    subst this
    exact fl_57 ht tX hm (fun y e0 hy yX => kk y (e0.trans ht.2.2.2.2.2.2.2.1) hy yX)
  unfold fw_58
  intro _ _
  refine fl_num hb h (fun v t ht => ?_)
  intro _
  refine ⟨fun q => ?_, fun q => ?_⟩
  · rw [if_pos (show tx_sh ((w - 23) * 5 + 2) = 0 from q)] at k
    exact p68 _ _ t _ ht k
  · rw [if_neg (show ¬ tx_sh ((w - 23) * 5 + 2) = 0 from q)] at k
    refine fl_ex ?_ hb ht (fun u hu _ _ => fl_num hb hu (fun v2 y hy => p68 _ _ y _ hy k))
    have key : ∀ j : Nat, j < 10 → (px_sh (j * 5 + 2)).toInt ≠ 1 := by decide +kernel
    have := key (w - 23).toNat (by omega)
    rw [show ((w - 23) * 5 + 2).toNat = (w - 23).toNat * 5 + 2 by omega]
    exact this
/-- a clause: fw_38 -/
theorem fl_38 {b : Int} {Q : lf_Z → Prop} (hb : cl_tp f n) (h : cl_S s f n g law s (0, b)) (hX : tx_X t0 m o s) (k : ∀ (t : lf_Z) (law' : Int) (r' : Int × Int), t.1 0 = s.1 0 → cl_S t f n g law' t r' → (tx_ok f n m o b ≠ 0 → r' = (tx_ok f n m o b, b)) → (tx_ok f n m o b = 0 → r' = ds_cl f n g b) → (r'.1 = 0 → tx_X t0 (m + 1) (tx_o f n o b) t) → Q t) : fw_38 Q s := by
  have e : s.1 31 8 = lx_T f n b := cl_tok h rfl
  obtain ⟨x1, x2, x3, x4, x5⟩ := hX
  have hX : tx_X t0 m o s := ⟨x1, x2, x3, x4, x5⟩
  have no : ∀ v : Int, v ≠ 0 → tx_ok f n m o b = v → fw_39 v Q s := by
    intro v hv hq
    refine fl_fail hv h (fun t ht => k t law _ ht.2.2.2.2.2.2.2.1 (cl_Sz ht) (fun _ => ?_) (fun c => absurd (hq.symm.trans c) hv) (fun c => ?_))
    · rw [hq]; rfl
    · exact absurd c hv
  unfold fw_38
  refine fl_15 ?_
  rw [e]
  refine ⟨fun q => ⟨fun _ => trivial, fun t1 e1 _ => ?_⟩, fun q => no 1 (by decide) ?_⟩
  · rw [Bool.and_eq_true, decide_eq_true_eq, decide_eq_true_eq] at q
    have := tx_ref hX e1
    subst this
    refine fl_40 ⟨fun c => ⟨fun _ => trivial, fun t2 e2 _ => ?_⟩, fun c => no 4 (by decide) ?_⟩
    · have := tx_ref hX e2
      subst this
      rw [x3]
      have free : ¬ (lx_T f n b ≤ 22 ∧ o (lx_T f n b - 20) = true) := by
        intro d
        have := (x4 (lx_T f n b - 20) (by omega) (by omega)).mp d.2
        rw [decide_eq_true (show 0 ≤ lx_T f n b - 20 by omega), decide_eq_true (show lx_T f n b - 20 < 3 by omega), decide_eq_true this] at c
        cases c
      intro _
      refine ⟨fun hm => fl_adv hb (cl_Sz h) (fun a ha => ?_), fun hm => no 6 (by decide) ?_⟩
      · have ok : tx_ok f n m o b = 0 := by
          unfold tx_ok
          rw [if_neg (fun d => d ⟨q.1, q.2⟩), if_neg free, if_neg (by omega)]
        have aX := tx_Xk hX ha.2.2.2.2.2.2
        intro _
        rw [ds_bd0 rfl] at ha
        refine ⟨fun c2 => ?_, fun c2 => ⟨fun _ => trivial, fun t3 e3 _ => ⟨fun _ => trivial, fun t4 e4 _ _ => ?_⟩⟩⟩
        · refine fl_58 (by omega) hb (cl_Sz ha) aX hm (fun y ye hy yX => ?_)
          unfold fw_38_p146
          refine fl_ex (by decide) hb hy (fun u hu => k u law _ ((hu.2.2.2.2.2.2.2.1.trans ye).trans ha.2.2.2.2.2.2.2.1) (cl_Sz hu) (fun c => absurd ok c) (fun _ => ?_) (fun _ => ?_))
          · show ds_bd (ds_bd (0, ds_ad f n b) (ds_deed f n (lx_T f n b))) (ds_ex f n 16) = _
            rw [ds_bd0 (r := (0, ds_ad f n b)) rfl]; unfold ds_cl; rw [if_pos c2]
          · have uX := tx_Xk yX hu.2.2.2.2.2.2
            refine ⟨uX.1, uX.2.1, uX.2.2.1, fun l l0 l1 => ?_, uX.2.2.2.2⟩
            unfold tx_o
            rw [decide_eq_false (show ¬ lx_T f n b - 20 = l by omega), Bool.or_false]
            exact uX.2.2.2.1 l l0 l1
        · have := tx_ref aX e3
          subst this
          have := tx_ref aX e4
          subst this
          generalize hv : lf_up (lf_up a.1 31 6 (lx_T f n b - 20)) (37 + 7 * t4) (lx_T f n b - 20) ((lf_up a.1 31 6 (lx_T f n b - 20)) (35 + 7 * t4) 1) = V
          have v31 : ∀ i : Int, i ≠ 6 → V 31 i = a.1 31 i := fun i hi => by rw [← hv]; exact (lf_up_c (by omega)).trans (lf_up_i hi)
          have v6 : V 31 6 = lx_T f n b - 20 := by rw [← hv]; exact (lf_up_c (by omega)).trans lf_up_s
          have vc : ∀ c : Nat, c ≠ 31 → c ≠ 37 + 7 * t4 → V c = a.1 c := fun c c1 c3 => by rw [← hv]; exact (lf_up_row c3).trans (lf_up_row c1)
          have hVS : cl_S (V, a.2.1, a.2.2) f n g (lx_T f n b - 20) (V, a.2.1, a.2.2) (0, ds_ad f n b) := by
            obtain ⟨h1, h2, h3, h4, h5, h6, h7⟩ := ha
            refine ⟨(vc 32 (by omega) (by omega)).trans h1, (v31 1 (by decide)).trans h2, (vc 33 (by omega) (by omega)).trans h3, v6, fun c => ?_, fun c => absurd rfl c, cl_Kr⟩
            have q := h5 rfl
            unfold rd_at at q ⊢
            show (V 31 9 = ds_ad f n b ∧ V 31 8 = lx_T (V 32) (V 31 1) (ds_ad f n b) ∧ V 31 7 = lx_E (V 32) (V 31 1) (ds_ad f n b) ∧ ((V 31 8 = 2 ∨ V 31 8 = 3) → V 31 10 = lx_V (V 32) (V 31 1) (ds_ad f n b))) ∧ V 31 2 = 0 ∧ 0 ≤ ds_ad f n b ∧ 0 ≤ V 31 7 ∧ V 31 3 = -1
            rw [v31 3 (by decide), v31 9 (by decide), v31 8 (by decide), v31 7 (by decide), v31 10 (by decide), v31 2 (by decide), v31 1 (by decide), vc 32 (by omega) (by omega)]
            exact q
          have vl : 0 ≤ V (35 + 7 * t4) 1 := by rw [vc _ (by omega) (by omega)]; exact aX.2.2.2.2
          have vo : ∀ l : Int, V (37 + 7 * t4) l = if l = lx_T f n b - 20 then a.1 (35 + 7 * t4) 1 else a.1 (37 + 7 * t4) l := by
            intro l
            rw [← hv]
            by_cases hl : l = lx_T f n b - 20
            · rw [if_pos hl, hl, lf_up_s]; exact lf_up_c (by omega)
            · rw [if_neg hl, lf_up_i hl]; exact lf_up_c (by omega)
          have hVX : tx_X t4 m (tx_o f n o b) (V, a.2.1, a.2.2) := by
            refine ⟨aX.1, x2, ?_, fun l l0 l1 => ?_, vl⟩
            · show V (35 + 7 * t4) 7 = m
              rw [vc _ (by omega) (by omega)]; exact aX.2.2.1
            · show tx_o f n o b l = true ↔ V (37 + 7 * t4) l ≠ -1
              rw [vo l]
              unfold tx_o
              by_cases hl : l = lx_T f n b - 20
              · rw [if_pos hl, decide_eq_true hl.symm, Bool.or_true]
                have := aX.2.2.2.2
                exact ⟨fun _ => by omega, fun _ => rfl⟩
              · rw [if_neg hl, decide_eq_false (show ¬ lx_T f n b - 20 = l from fun q => hl q.symm), Bool.or_false]
                exact aX.2.2.2.1 l l0 l1
          refine fl_sum hb hVS (fun w hw => ⟨fun _ => trivial, fun t5 e5 _ => ⟨fun _ => trivial, fun t6 e6 _ _ => ⟨fun _ => trivial, fun t7 e7 _ => ?_⟩⟩⟩)
          have wX := tx_Xk hVX hw.2.2.2.2.2.2
          have := tx_ref wX e5
          subst this
          have := tx_ref wX e6
          subst this
          have := tx_ref wX e7
          subst this
          have w6 : w.1 31 6 = lx_T f n b - 20 := hw.2.2.2.1
          rw [w6]
          have y38 : ∀ c : Nat, c ≠ 38 + 7 * t7 → (lf_up w.1 (38 + 7 * t7) (lx_T f n b - 20) (w.1 (35 + 7 * t7) 1)) c = w.1 c := fun c hc => lf_up_row hc
          have hY : cl_S w f n g (lx_T f n b - 20) (lf_up w.1 (38 + 7 * t7) (lx_T f n b - 20) (w.1 (35 + 7 * t7) 1), w.2.1, w.2.2) (ds_bd (0, ds_ad f n b) ((ds_T f n (lx_T f n b - 20) 200).1 0 g)) := by
            refine cl_S_c (cl_Sz hw) (y38 31 (by omega)) (y38 32 (by omega)) (y38 33 (by omega)) (fun hK => ⟨rfl, y38 0 (by omega), fun u hu => ?_⟩)
            show (lf_up w.1 (38 + 7 * t7) (lx_T f n b - 20) (w.1 (35 + 7 * t7) 1)) (37 + 7 * u) = _ ∧ (lf_up w.1 (38 + 7 * t7) (lx_T f n b - 20) (w.1 (35 + 7 * t7) 1)) (35 + 7 * u) 7 = _ ∧ (_ → 0 ≤ (lf_up w.1 (38 + 7 * t7) (lx_T f n b - 20) (w.1 (35 + 7 * t7) 1)) (35 + 7 * u) 1)
            rw [y38 _ (by omega), y38 _ (by omega)]
            exact ⟨rfl, rfl, fun q => q⟩
          have yX := tx_Xk wX hY.2.2.2.2.2.2
          refine fl_57 hY yX hm (fun y ye hy yX2 => ?_)
          unfold fw_38_p146
          refine fl_ex (by decide) hb hy (fun u hu => k u _ _ ((((hu.2.2.2.2.2.2.2.1.trans ye).trans (y38 0 (by omega))).trans hw.2.2.2.2.2.2.2.1).trans ((vc 0 (by omega) (by omega)).trans ha.2.2.2.2.2.2.2.1)) (cl_Sz hu) (fun c => absurd ok c) (fun _ => ?_) (fun _ => tx_Xk yX2 hu.2.2.2.2.2.2))
          rw [ds_bd0 (r := (0, ds_ad f n b)) rfl]
          unfold ds_cl
          rw [if_neg c2]
      · unfold tx_ok
        rw [if_neg (fun d => d ⟨q.1, q.2⟩), if_neg free, if_pos (by omega)]
    · rw [Bool.and_eq_true, Bool.and_eq_true, decide_eq_true_eq, decide_eq_true_eq, decide_eq_true_eq] at c
      unfold tx_ok
      rw [if_neg (fun d => d ⟨q.1, q.2⟩), if_pos ⟨by omega, (x4 _ c.1.1 c.1.2).mpr c.2⟩]
  · rw [Bool.and_eq_false_iff, decide_eq_false_iff_not, decide_eq_false_iff_not] at q
    unfold tx_ok
    rw [if_pos (fun d => by omega)]
/-- the loop over clauses -/
theorem fl_29l {b m x : Int} {o : Int → Bool} {Q : Bool → lf_Z → Prop} (hb : cl_tp f n) (h : cl_S s f n g law s (0, b)) (hX : tx_X t0 0 (fun _ => false) s) (k : ∀ (z : Bool) (t : lf_Z), t.1 0 = s.1 0 → t.1 32 = f → (tx_lp f n g 301 0 (fun _ => false) b).1 = t.1 31 2 → ((tx_lp f n g 301 0 (fun _ => false) b).1 = 0 → t.1 31 3 = -1) → ((tx_lp f n g 301 0 (fun _ => false) b).1 ≠ 0 → t.1 31 3 = (tx_lp f n g 301 0 (fun _ => false) b).2) → t.1 31 1 = 0 → (z = true ↔ (tx_lp f n g 301 0 (fun _ => false) b).1 = 0) → Q z t) : fw_29_p41L Q 0 s := by
  generalize hv : tx_lp f n g 301 0 (fun _ => false) b = v at k
  refine ⟨fun x2 t => 0 ≤ x2 ∧ x2 ≤ 301 ∧ t.1 0 = s.1 0 ∧ ∃ (law : Int) (r : Int × Int) (m : Int) (o : Int → Bool), cl_S t f n g law t r ∧ (r.1 = 0 → tx_X t0 m o t ∧ tx_lp f n g (301 - x2).toNat m o r.2 = v) ∧ (r.1 ≠ 0 → r = v), ?_, ⟨Int.le_refl _, by decide, rfl, law, _, 0, _, h, fun _ => ⟨hX, hv⟩, fun c => absurd rfl c⟩⟩
  intro x2 t ⟨x0, x3, te, law, r, m, o, hr, h0, h1⟩
  have fin : r = v → fw_29_p72 Q t := by
    intro e
    have g1 : ∀ i : Int, i ≠ 1 → (lf_up t.1 31 1 0) 31 i = t.1 31 i := fun i hi => lf_up_i hi
    have g0 : (lf_up t.1 31 1 0) 0 = s.1 0 := (lf_up_row (by decide)).trans te
    have g32 : (lf_up t.1 31 1 0) 32 = f := (lf_up_row (by decide)).trans hr.1
    unfold fw_29_p72
    intro _
    by_cases c : r.1 = 0
    · obtain ⟨a1, a2, a3, a4, a5⟩ := hr.2.2.2.2.1 c
      refine ⟨fun d => absurd a2 d, fun _ => k true _ g0 g32 ?_ (fun _ => (g1 3 (by decide)).trans a5) (fun d => absurd (by rw [← e]; exact c) d) zu_s ⟨fun _ => by rw [← e]; exact c, fun _ => rfl⟩⟩
      exact (e ▸ c).trans ((g1 2 (by decide)).trans a2).symm
    · obtain ⟨a1, a2, a3⟩ := hr.2.2.2.2.2.1 c
      refine ⟨fun _ => k false _ g0 g32 ?_ (fun d => absurd (by rw [e]; exact d) c) (fun _ => ((g1 3 (by decide)).trans a2).trans (by rw [e])) zu_s ⟨fun d => (by cases d), fun d => absurd (by rw [e]; exact d) c⟩, fun d => absurd (by rw [a1]; exact c) d⟩
      rw [← e]
      exact ((g1 2 (by decide)).trans a1).symm
  have eqr : r.1 = 0 → r = (0, r.2) := by
    intro c
    obtain ⟨a, b⟩ := r
    have c : a = 0 := c
    rw [c]
  unfold fw_29_p41
  intro _
  by_cases c : r.1 = 0
  · obtain ⟨hX2, hl⟩ := h0 c
    have e := cl_tok hr c
    have a2 := (hr.2.2.2.2.1 c).2.1
    refine ⟨fun d => fin ?_, fun d _ => ⟨fun q => fin ?_, fun q _ => ⟨fun w => absurd a2 w, fun _ => ?_⟩⟩⟩
    · rw [show (301 - x2).toNat = 0 by omega] at hl
      rw [← hl]; exact eqr c
    · rw [show (301 - x2).toNat = (300 - x2).toNat + 1 by omega] at hl
      have : tx_lp f n g ((300 - x2).toNat + 1) m o r.2 = (0, r.2) := if_pos (by rw [← e]; exact q)
      rw [this] at hl
      rw [← hl]; exact eqr c
    · rw [show (301 - x2).toNat = (301 - (x2 + 1)).toNat + 1 by omega] at hl
      have hl2 : (if tx_ok f n m o r.2 ≠ 0 then (tx_ok f n m o r.2, r.2) else ds_bd (ds_cl f n g r.2) (tx_lp f n g (301 - (x2 + 1)).toNat (m + 1) (tx_o f n o r.2))) = v := by
        rw [← hl]
        exact (if_neg (by rw [← e]; exact q)).symm
      have hr2 : cl_S t f n g law t (0, r.2) := by rw [← eqr c]; exact hr
      refine fl_38 hb hr2 hX2 (fun u law' r' ue hu k1 k2 k3 => ⟨by omega, by omega, ue.trans te, law', r', m + 1, tx_o f n o r.2, hu, fun z => ?_, fun z => ?_⟩)
      · refine ⟨k3 z, ?_⟩
        by_cases y : tx_ok f n m o r.2 = 0
        · rw [if_neg (fun w => w y), ← k2 y, ds_bd0 z] at hl2
          exact hl2
        · have := k1 y
          rw [this] at z
          exact absurd z y
      · by_cases y : tx_ok f n m o r.2 = 0
        · rw [if_neg (fun w => w y), ← k2 y, ds_bdF z] at hl2
          exact hl2
        · rw [if_pos y] at hl2
          rw [k1 y]; exact hl2
  · have e := cl_bad hr c
    have a1 := (hr.2.2.2.2.2.1 c).1
    refine ⟨fun _ => fin (h1 c), fun _ _ => ⟨fun q => ?_, fun _ _ => ⟨fun _ => fin (h1 c), fun w => absurd (by rw [a1]; exact c) w⟩⟩⟩
    rw [e] at q; cases q
theorem lf_ur2v {P : Nat → Option Nat} {v : Option Nat} : (lf_ur P 2 v) 2 = v := rfl
/-- the fault and the place that a tape has: 0 and -1 without -/
def tx_v (f : Int → Int) (n : Int) (g : Int → Int) : Int × Int := tx_lp f n g 301 0 (fun _ => false) (lx_sk f n 0)
/-- text of the class: fw_28 -/
theorem fl_28 {Q : Int → lf_Z → Prop} (hb : cl_tp (s.1 32) (s.1 31 1)) (kN : ¬ s.1 0 11 < 4 → Q (-1) s) (k : s.1 0 11 < 4 → ∀ (g : Int → Int) (t : lf_Z) (v : Int), (∀ l : Int, 0 ≤ l → l < 26 → g l = -1) → t.1 32 = s.1 32 → t.1 31 1 = 0 → (∀ i : Int, i ≠ 11 → t.1 0 i = s.1 0 i) → t.1 31 2 = (tx_v (s.1 32) (s.1 31 1) g).1 → ((tx_v (s.1 32) (s.1 31 1) g).1 = 0 → t.1 31 3 = -1 ∧ v = s.1 0 11 ∧ t.1 0 11 = s.1 0 11 + 1) → ((tx_v (s.1 32) (s.1 31 1) g).1 ≠ 0 → t.1 31 3 = (tx_v (s.1 32) (s.1 31 1) g).2 ∧ v = -1 ∧ t.1 0 11 = s.1 0 11) → Q v t) : fw_28 Q s := by
  unfold fw_28
  intro _
  refine ⟨fun c _ t0 e0 => ?_, kN⟩
  unfold fw_29
  refine ⟨fun _ => trivial, fun t1 e1 h4 => ?_⟩
  unfold fw_30
  dsimp only
  generalize hV : lf_up (lf_fl (lf_up (lf_up (lf_fl (lf_up (lf_up s.1 (35 + 7 * t1) 1 0) (35 + 7 * t1) 7 0) (37 + 7 * t1) 3 (-1)) 31 2 0) 31 3 (-1)) 33 26 (-1)) 31 7 0 = V
  have vc : ∀ c : Nat, c ≠ 31 → c ≠ 33 → c ≠ 35 + 7 * t1 → c ≠ 37 + 7 * t1 → V c = s.1 c := by
    intro c c1 c2 c3 c4
    funext j
    rw [← hV]
    exact (lf_up_c c1).trans ((lf_fl_c c2).trans ((lf_up_c c1).trans ((lf_up_c c1).trans ((lf_fl_c c4).trans ((lf_up_c c3).trans (lf_up_c c3))))))
  have v7 : V 31 7 = 0 := by rw [← hV]; exact lf_up_s
  have v2 : V 31 2 = 0 := by rw [← hV]; exact (lf_up_i (by decide)).trans ((lf_fl_c (by decide)).trans ((lf_up_i (by decide)).trans lf_up_s))
  have v3 : V 31 3 = -1 := by rw [← hV]; exact (lf_up_i (by decide)).trans ((lf_fl_c (by decide)).trans lf_up_s)
  have v1 : V 31 1 = s.1 31 1 := by rw [← hV]; exact (lf_up_i (by decide)).trans ((lf_fl_c (by decide)).trans ((lf_up_i (by decide)).trans ((lf_up_i (by decide)).trans ((lf_fl_c (by omega)).trans ((lf_up_c (by omega)).trans (lf_up_c (by omega)))))))
  have vg : ∀ l : Int, 0 ≤ l → l < 26 → V 33 l = -1 := by
    intro l l0 l1
    rw [← hV]
    refine (lf_up_c (by decide)).trans ?_
    unfold lf_fl
    rw [if_pos ⟨rfl, l0, l1⟩]
  have vl : ∀ l : Int, 0 ≤ l → l < 3 → V (37 + 7 * t1) l = -1 := by
    intro l l0 l1
    rw [← hV]
    refine (lf_up_c (by omega)).trans ((lf_fl_c (by omega)).trans ((lf_up_c (by omega)).trans ((lf_up_c (by omega)).trans ?_)))
    unfold lf_fl
    rw [if_pos ⟨rfl, l0, l1⟩]
  have vm : V (35 + 7 * t1) 7 = 0 := by
    rw [← hV]
    exact (lf_up_c (by omega)).trans ((lf_fl_c (by omega)).trans ((lf_up_c (by omega)).trans ((lf_up_c (by omega)).trans ((lf_fl_c (by omega)).trans lf_up_s))))
  have vn : V (35 + 7 * t1) 1 = 0 := by
    rw [← hV]
    exact (lf_up_c (by omega)).trans ((lf_fl_c (by omega)).trans ((lf_up_c (by omega)).trans ((lf_up_c (by omega)).trans ((lf_fl_c (by omega)).trans ((lf_up_i (by decide)).trans lf_up_s)))))
  have v32 : V 32 = s.1 32 := vc 32 (by omega) (by omega) (by omega) (by omega)
  have v0 : V 0 = s.1 0 := vc 0 (by omega) (by omega) (by omega) (by omega)
  have hVb : ∀ i, 0 ≤ i → i < V 31 1 → 0 ≤ V 32 i ∧ V 32 i ≤ 255 := by rw [v1, v32]; exact hb
  refine fl_31 (s := (V, s.2.1, lf_ur s.2.2 2 (some t0))) v2 (by show 0 ≤ V 31 7; rw [v7]; exact Int.le_refl _) hVb (fun t hF hA => ?_)
  have hA2 : rd_at t (lx_sk (V 32) (V 31 1) (V 31 7)) := hA
  rw [v32, v1, v7] at hA2
  have e1' : t1 = t0 := by
    rw [lf_ur2v] at e1
    cases e1
    rfl
  subst e1'
  have t32 : t.1 32 = s.1 32 := (hF.1 32 (by decide)).trans v32
  have t1' : t.1 31 1 = s.1 31 1 := (hF.2.1 1 (by decide) (by decide) (by decide) (by decide)).trans v1
  have t0' : t.1 0 = s.1 0 := (hF.1 0 (by decide)).trans v0
  have tP : t.2.2 = lf_ur s.2.2 2 (some t1) := congrArg (·.2) hF.2.2
  have tS : cl_S t (s.1 32) (s.1 31 1) (V 33) (t.1 31 6) t (0, lx_sk (s.1 32) (s.1 31 1) 0) := by
    refine ⟨t32, t1', hF.1 33 (by decide), rfl, fun _ => ⟨hA2, (hF.2.1 2 (by decide) (by decide) (by decide) (by decide)).trans v2, lx_runB, ?_, (hF.2.1 3 (by decide) (by decide) (by decide) (by decide)).trans v3⟩, fun d => absurd rfl d, cl_Kr⟩
    rw [hA2.2.2.1]
    exact cl_E0 lx_runB
  have tX : tx_X t1 0 (fun _ => false) t := by
    refine ⟨by rw [tP]; rfl, h4, ?_, fun l l0 l1 => ?_, ?_⟩
    · rw [hF.1 _ (by omega)]; exact vm
    · rw [hF.1 _ (by omega)]
      exact ⟨fun d => (by cases d), fun d => absurd (vl l l0 l1) d⟩
    · rw [hF.1 _ (by omega)]
      exact Int.le_of_eq vn.symm
  refine fl_29l (m := 0) (x := 0) (o := fun _ => false) (by intro i a b; exact hb i a b) tS tX (fun zz u u0 u32 u2 u3 u4 u1 uz => ?_)
  refine ⟨fun d => ?_, fun d => ?_⟩
  · have hz := uz.mp d
    have w0 : u.1 0 11 = s.1 0 11 := by rw [u0, t0']
    refine k c (V 33) _ _ vg ((zu_r (by decide)).trans u32) ((zu_c (by decide)).trans u1) (fun i hi => (zu_i hi).trans (by rw [u0, t0'])) ((zu_c (by decide)).trans u2.symm) (fun _ => ⟨(zu_c (by decide)).trans (u3 hz), by rw [w0]; omega, ?_⟩) (fun q => absurd hz q)
    exact (zu_s).trans (by rw [w0])
  · have hz : (tx_v (s.1 32) (s.1 31 1) (V 33)).1 ≠ 0 := fun q => by rw [uz.mpr q] at d; cases d
    exact k c (V 33) _ _ vg u32 u1 (fun i _ => by rw [u0, t0']) u2.symm (fun q => absurd q hz) (fun _ => ⟨u4 hz, rfl, by rw [u0, t0']⟩)
end DU
/-! the list machine: how the reference reads a sum, with its pile as a list (top first; with each entry the letter of a let) -/
section LM
abbrev lm_P : Type := List (Int × Int)
def lm_rk (o : Int) : Int := if 40 ≤ o then 0 else if o = 22 then 1 else if o = 21 then 2 else if o = 20 then 3 else if 10 ≤ o then 4 else if o = 3 then 7 else if 6 ≤ o then 6 else 5
def lm_st (k : Int) : lm_P → lm_P
  | [] => []
  | e :: P => if k ≤ lm_rk e.1 then lm_st k P else e :: P
/-- what is open: how deep -/
def lm_dp : lm_P → Int
  | [] => 0
  | e :: P => (if 40 ≤ e.1 ∨ e.1 = 3 ∨ e.1 = 20 then 1 else 0) + lm_dp P
/-- what is open at last; none: -1 -/
def lm_op : lm_P → Int
  | [] => -1
  | e :: P => if 40 ≤ e.1 then e.1 else lm_op P
/-- whether what is asked at last has been compared -/
def lm_cp : lm_P → Bool
  | [] => false
  | e :: P => if 4 < lm_rk e.1 then lm_cp P else decide (lm_rk e.1 = 4)
def lm_tp : lm_P → Int
  | [] => -1
  | e :: _ => e.1
def lm_ah (P : lm_P) : Bool := decide (lm_op P = 41) && (decide (lm_tp P = 41) || (decide (1 ≤ lm_rk (lm_tp P)) && decide (lm_rk (lm_tp P) ≤ 3)))
/-- the letters that stand -/
def lm_g : lm_P → Int → Int
  | [] => fun _ => -1
  | e :: P => if e.1 = 45 then ds_u1 (lm_g P) e.2 (ds_sl (1 + lm_dp P)) else lm_g P
abbrev lm_S : Type := lm_P × Bool × Int
def lm_pu (f : Int → Int) (n o : Int) (P : lm_P) (b : Int) (k : Int → (Int × Int) ⊕ lm_S) : (Int × Int) ⊕ lm_S := if lm_dp P < 8 then k (ds_ad f n b) else .inl (3, b)
/-- begins one -/
def lm_be (f : Int → Int) (n law : Int) (P : lm_P) (b : Int) : (Int × Int) ⊕ lm_S :=
  if lx_T f n b = 2 then (if lx_V f n b ≤ 9999 then .inr (lm_st 7 P, true, ds_ad f n b) else .inl (2, b))
  else if lx_T f n b = 3 then (if lm_g P (lx_V f n b) ≠ -1 then .inr (lm_st 7 P, true, ds_ad f n b) else .inl (5, b))
  else if lx_T f n b = 11 then lm_pu f n 3 P b (fun c => .inr ((3, 0) :: P, false, c))
  else if lx_T f n b = 14 then lm_pu f n 40 P b (fun c => .inr ((40, 0) :: P, false, c))
  else if lx_T f n b = 37 then lm_pu f n 41 P b (fun c => .inr ((41, 0) :: P, false, c))
  else if lx_T f n b = 41 then lm_pu f n 44 P b (fun c => if lx_T f n c = 3 then (if lx_T f n (ds_ad f n c) = 42 then .inr ((44, lx_V f n c) :: P, false, ds_ad f n (ds_ad f n c)) else .inl (1, ds_ad f n c)) else .inl (1, c))
  else if lx_T f n b = 44 ∧ lm_ah P = true then lm_pu f n 20 P b (fun c => .inr ((20, 0) :: P, false, c))
  else if (ds_name f n law b).1 = 0 then .inr (lm_st 7 P, true, ds_ad f n b) else .inl ((ds_name f n law b).1, b)
/-- what stands between two; none: -1 -/
def lm_bt (t : Int) (P : lm_P) : Int :=
  if t = 10 then 4 else if t = 11 then 5 else if t = 12 then 6 else if t = 13 then 7
  else if lm_op P ≠ 41 then -1
  else if lm_cp P = false then (if 4 ≤ t ∧ t ≤ 9 then 6 + t else -1)
  else if t = 45 then 21 else if t = 46 then 22 else -1
def lm_pt (t : Int) (P : lm_P) : Int :=
  if lm_op P = 40 then (if t = 15 then 0 else -1)
  else if lm_op P = 41 then (if t = 38 ∧ lm_cp P = true then 42 else -1)
  else if lm_op P = 42 then (if t = 39 then 43 else -1)
  else if lm_op P = 44 then (if t = 43 then 45 else -1)
  else if lm_op P < 0 then -1
  else if t = 40 then 0 else -1
def lm_hd (P : lm_P) : Int := match P with | [] => 0 | e :: _ => e.2
/-- goes on behind one -/
def lm_bh (f : Int → Int) (n : Int) (P : lm_P) (b : Int) : (Int × Int) ⊕ lm_S :=
  if 0 ≤ lm_bt (lx_T f n b) P then .inr ((lm_bt (lx_T f n b) P, 0) :: lm_st (lm_rk (lm_bt (lx_T f n b) P)) P, false, ds_ad f n b)
  else if 0 < lm_pt (lx_T f n b) P then .inr ((lm_pt (lx_T f n b) P, lm_hd (lm_st 1 P)) :: (lm_st 1 P).tail, false, ds_ad f n b)
  else if lm_pt (lx_T f n b) P = 0 then .inr (lm_st 7 (lm_st 1 P).tail, true, ds_ad f n b)
  else if 0 ≤ lm_op P then .inl (1, b) else .inl (0, b)
def lm_sp (f : Int → Int) (n law : Int) (s : lm_S) : (Int × Int) ⊕ lm_S := if s.2.1 = true then lm_bh f n s.1 s.2.2 else lm_be f n law s.1 s.2.2
def lm_mr (f : Int → Int) (n law : Int) : Nat → lm_S → Option (Int × Int)
  | 0, _ => none
  | k + 1, s => match lm_sp f n law s with | .inl v => some v | .inr t => lm_mr f n law k t
/-- the machine from here ends with V -/
def lm_R (f : Int → Int) (n law : Int) (s : lm_S) (V : Int × Int) : Prop := ∃ k : Nat, lm_mr f n law k s = some V
variable {f : Int → Int} {n law b : Int} {P Q P2 : lm_P} {V : Int × Int} {s t : lm_S}
theorem lm_R1 (h : lm_sp f n law s = .inr t) (a : lm_R f n law t V) : lm_R f n law s V := by
  obtain ⟨k, e⟩ := a
  refine ⟨k + 1, ?_⟩
  show (match lm_sp f n law s with | .inl v => some v | .inr t => lm_mr f n law k t) = some V
  rw [h]; exact e
theorem lm_R0 (h : lm_sp f n law s = .inl V) : lm_R f n law s V := by
  refine ⟨1, ?_⟩
  show (match lm_sp f n law s with | .inl v => some v | .inr t => lm_mr f n law 0 t) = some V
  rw [h]
theorem lm_stst {k j : Int} (h : k ≤ j) : lm_st k (lm_st j P) = lm_st k P := by
  induction P with
  | nil => rfl
  | cons e P ih =>
    by_cases c : j ≤ lm_rk e.1
    · rw [lm_st, if_pos c, ih, lm_st, if_pos (by omega)]
    · rw [lm_st, if_neg c]
theorem lm_rk0 {o : Int} (h : 40 ≤ o) : lm_rk o = 0 := if_pos h
theorem lm_rkp {o : Int} (h : ¬ 40 ≤ o) : 1 ≤ lm_rk o := by unfold lm_rk; rw [if_neg h]; (repeat' split) <;> omega
theorem lm_opst {k : Int} (h : 1 ≤ k) : lm_op (lm_st k P) = lm_op P := by
  induction P with
  | nil => rfl
  | cons e P ih =>
    by_cases c : k ≤ lm_rk e.1
    · rw [lm_st, if_pos c, ih]
      have : ¬ 40 ≤ e.1 := fun d => by rw [lm_rk0 d] at c; omega
      exact (if_neg this).symm
    · rw [lm_st, if_neg c]
theorem lm_cpst {k : Int} (h : 5 ≤ k) : lm_cp (lm_st k P) = lm_cp P := by
  induction P with
  | nil => rfl
  | cons e P ih =>
    by_cases c : k ≤ lm_rk e.1
    · rw [lm_st, if_pos c, ih]
      exact (if_pos (show 4 < lm_rk e.1 by omega)).symm
    · rw [lm_st, if_neg c]
theorem lm_gst {k : Int} (h : 1 ≤ k) : lm_g (lm_st k P) = lm_g P := by
  induction P with
  | nil => rfl
  | cons e P ih =>
    by_cases c : k ≤ lm_rk e.1
    · rw [lm_st, if_pos c, ih]
      have : ¬ e.1 = 45 := fun d => by rw [d] at c; exact absurd c (by rw [lm_rk0 (by decide)]; omega)
      exact (if_neg this).symm
    · rw [lm_st, if_neg c]
/-- what stands when a reading is through, at rank k -/
def lm_C (k : Int) (P P2 : lm_P) : Prop := lm_st k P2 = lm_st k P
theorem lm_Cop {k : Int} (h : 1 ≤ k) (c : lm_C k P P2) : lm_op P2 = lm_op P := by rw [← lm_opst h, ← lm_opst (P := P) h, c]
theorem lm_Cg {k : Int} (h : 1 ≤ k) (c : lm_C k P P2) : lm_g P2 = lm_g P := by rw [← lm_gst h, ← lm_gst (P := P) h, c]
theorem lm_Ccp {k : Int} (h : 5 ≤ k) (c : lm_C k P P2) : lm_cp P2 = lm_cp P := by rw [← lm_cpst h, ← lm_cpst (P := P) h, c]
theorem lm_CC {k j : Int} (h : k ≤ j) (c : lm_C j P P2) : lm_C k P P2 := by unfold lm_C at *; rw [← lm_stst h, c, lm_stst h]
theorem lm_run1 {P : Int → Bool} {p : Int} (h : p < n) (hP : P (f p) = true) : p + 1 ≤ lx_run P f n p := by
  rw [lx_run_s h hP]; exact lx_runB
/-- a token is no nothing -/
theorem lm_adv (h : lx_T f n b ≠ 0) : b < n ∧ b + 1 ≤ ds_ad f n b := by
  have hb : ¬ n ≤ b := fun d => h (lx_Tz d).1
  refine ⟨by omega, Int.le_trans ?_ (lx_runB (P := lx_bl))⟩
  unfold lx_E
  rw [if_neg hb]
  by_cases c : lx_dg (f b) = true
  · rw [if_pos c]; exact lm_run1 (by omega) c
  · rw [if_neg c]
    by_cases c2 : lx_lt (f b) = true
    · rw [if_pos c2]; exact lm_run1 (by omega) c2
    · rw [if_neg c2]; split <;> omega
theorem lm_ad0 : b ≤ ds_ad f n b := by
  by_cases h : lx_T f n b = 0
  · refine Int.le_trans ?_ (lx_runB (P := lx_bl))
    have c := lx_runB (P := lx_dg) (f := f) (n := n) (p := b)
    have d := lx_runB (P := lx_lt) (f := f) (n := n) (p := b)
    unfold lx_E
    (repeat' split) <;> omega
  · have := (lm_adv h).2; omega
/-- a reading r that goes on from a state s (at b) and ends at what C says, the token behind it not one of ok -/
def lm_L (f : Int → Int) (n law : Int) (C : lm_P → Prop) (ok : Int → Bool) (s : lm_S) (r : Int × Int) : Prop := r.1 = 9 ∨ (r.1 ≠ 0 ∧ lm_R f n law s r) ∨ (r.1 = 0 ∧ s.2.2 ≤ r.2 ∧ ok (lx_T f n r.2) = false ∧ ∀ V : Int × Int, (∀ P2 : lm_P, C P2 → lm_R f n law (P2, true, r.2) V) → lm_R f n law s V)
variable {C C' : lm_P → Prop} {ok ok' : Int → Bool} {r : Int × Int}
theorem lm_L1 (h : lm_sp f n law s = .inr t) (hb : s.2.2 ≤ t.2.2) (a : lm_L f n law C ok t r) : lm_L f n law C ok s r := by
  rcases a with a | a | a
  · exact Or.inl a
  · exact Or.inr (Or.inl ⟨a.1, lm_R1 h a.2⟩)
  · exact Or.inr (Or.inr ⟨a.1, Int.le_trans hb a.2.1, a.2.2.1, fun V k => lm_R1 h (a.2.2.2 V k)⟩)
theorem lm_L0 (h : lm_sp f n law s = .inl r) (h0 : r.1 ≠ 0) : lm_L f n law C ok s r := Or.inr (Or.inl ⟨h0, lm_R0 h⟩)
/-- one reading, then another -/
theorem lm_Lbd {g : Int → Int × Int} (a : lm_L f n law C ok s r) (k : ∀ P2 : lm_P, C P2 → ok (lx_T f n r.2) = false → lm_L f n law C' ok' (P2, true, r.2) (g r.2)) (ne : ∃ P2, C P2) : lm_L f n law C' ok' s (ds_bd r g) := by
  rcases a with a | a | a
  · rw [ds_bdF (by rw [a]; decide)]; exact Or.inl a
  · rw [ds_bdF a.1]; exact Or.inr (Or.inl a)
  · rw [ds_bd0 a.1]
    obtain ⟨P0, h0⟩ := ne
    by_cases h9 : (g r.2).1 = 9
    · exact Or.inl h9
    · by_cases hz : (g r.2).1 = 0
      · have w : ∀ P2 : lm_P, C P2 → _ := fun P2 c2 => (((k P2 c2 a.2.2.1).resolve_left h9).resolve_left (fun q => q.1 hz))
        exact Or.inr (Or.inr ⟨hz, Int.le_trans a.2.1 (w P0 h0).2.1, (w P0 h0).2.2.1, fun V kV => a.2.2.2 V (fun P2 c2 => (w P2 c2).2.2.2 V kV)⟩)
      · exact Or.inr (Or.inl ⟨hz, a.2.2.2 _ (fun P2 c2 => (((k P2 c2 a.2.2.1).resolve_left h9).resolve_right (fun q => hz q.1)).2)⟩)
/-- a loop over what binds at rank j: o tells the sign, G reads what stands behind it -/
theorem lm_lp {G : Int → Int × Int} {o : Int → Int} (h0 : ok 0 = false) (ne : ∃ P2, C P2)
    (hb : ∀ P2 t, C P2 → ok' t = false → ok t = true → 0 ≤ lm_bt t P2 ∧ lm_bt t P2 = o t)
    (hO : ∀ P2 t b, 0 ≤ b → C P2 → ok t = true → lm_L f n law C ok' ((o t, 0) :: lm_st (lm_rk (o t)) P2, false, b) (G b)) :
    ∀ (K : Nat) (b : Int), 0 ≤ b → n - b ≤ K → ok' (lx_T f n b) = false → ∀ P2 : lm_P, C P2 → lm_L f n law C (fun t => ok t || ok' t) (P2, true, b) (ds_lp f n ok G K b) := by
  have fin : ∀ (b : Int), ok' (lx_T f n b) = false → ok (lx_T f n b) = false → ∀ P2 : lm_P, C P2 → lm_L f n law C (fun t => ok t || ok' t) (P2, true, b) (0, b) := fun b e' e P2 c2 =>
    Or.inr (Or.inr ⟨rfl, Int.le_refl _, by show (ok (lx_T f n b) || ok' (lx_T f n b)) = false; rw [e, e']; rfl, fun V kV => kV P2 c2⟩)
  intro K
  induction K with
  | zero =>
    intro b hb0 hn e' P2 c2
    refine fin b e' ?_ P2 c2
    rw [(lx_Tz (show n ≤ b by omega)).1]; exact h0
  | succ K ih =>
    intro b hb0 hn e' P2 c2
    show lm_L f n law C _ (P2, true, b) (if ok (lx_T f n b) = true then ds_bd (G (ds_ad f n b)) (ds_lp f n ok G K) else (0, b))
    by_cases c : ok (lx_T f n b) = true
    · rw [if_pos c]
      obtain ⟨hb1, hb2⟩ := lm_adv (f := f) (n := n) (b := b) (fun d => by rw [d, h0] at c; cases c)
      obtain ⟨g1, g2⟩ := hb P2 _ c2 e' c
      have st1 : lm_sp f n law (P2, true, b) = .inr ((o (lx_T f n b), 0) :: lm_st (lm_rk (o (lx_T f n b))) P2, false, ds_ad f n b) := by
        show lm_bh f n P2 b = _
        unfold lm_bh
        rw [if_pos g1, g2]
      refine lm_L1 st1 (by show b ≤ ds_ad f n b; omega) ?_
      by_cases hz : (G (ds_ad f n b)).1 = 0
      · have a := hO P2 _ (ds_ad f n b) (by omega) c2 c
        have hge : ds_ad f n b ≤ (G (ds_ad f n b)).2 := by
          rcases a with a | a | a
          · rw [hz] at a; cases a
          · exact absurd hz a.1
          · exact a.2.1
        exact lm_Lbd a (fun P3 c3 e3 => ih _ (by omega) (by omega) e3 P3 c3) ne
      · rw [ds_bdF hz]
        rcases hO P2 _ (ds_ad f n b) (by omega) c2 c with a | a | a
        · exact Or.inl a
        · exact Or.inr (Or.inl a)
        · exact absurd a.1 hz
    · rw [if_neg c]
      exact fin b e' (by cases h : ok (lx_T f n b) with | true => exact absurd h c | false => rfl) P2 c2
/-! the readings -/
theorem lm_stj {k j : Int} (h : k ≤ j) (e : lm_st k P = P) : lm_st j P = P := by
  cases P with
  | nil => rfl
  | cons x P =>
    by_cases c : k ≤ lm_rk x.1
    · exfalso
      rw [lm_st, if_pos c] at e
      have : ∀ R : lm_P, (lm_st k R).length ≤ R.length := by
        intro R
        induction R with
        | nil => exact Nat.le_refl _
        | cons y R ih => rw [lm_st]; split
                         · exact Nat.le_succ_of_le ih
                         · exact Nat.le_refl _
      have := this P
      rw [e] at this
      exact absurd this (by rw [List.length_cons]; omega)
    · rw [lm_st, if_neg (by omega)]
theorem lm_Cc {k : Int} {e : Int × Int} (h : lm_C (k + 1) (e :: P) P2) (hk : k ≤ lm_rk e.1) : lm_st k P2 = lm_st k P := by
  have := lm_CC (k := k) (by omega) h
  unfold lm_C at this
  rw [this, lm_st, if_pos hk]
abbrev lm_M1 (f : Int → Int) (n law : Int) (O : ds_D) : Prop := ∀ (P : lm_P) (b : Int), 0 ≤ b → (lx_T f n b ≠ 44 ∨ lm_ah P = false) → lm_L f n law (lm_C 7 P) (fun _ => false) (P, false, b) (O (lm_dp P) (lm_g P) b)
abbrev lm_M2 (f : Int → Int) (n law : Int) (O : ds_D) : Prop := ∀ (P : lm_P) (b : Int), 0 ≤ b → lm_st 6 P = P → (lx_T f n b ≠ 44 ∨ lm_ah P = false) → lm_L f n law (lm_C 6 P) ds_td (P, false, b) (O (lm_dp P) (lm_g P) b)
abbrev lm_M3 (f : Int → Int) (n law : Int) (O : ds_D) : Prop := ∀ (P : lm_P) (b : Int), 0 ≤ b → lm_st 5 P = P → (lx_T f n b ≠ 44 ∨ lm_ah P = false) → lm_L f n law (lm_C 5 P) (fun t => ds_pm t || ds_td t) (P, false, b) (O (lm_dp P) (lm_g P) b)
theorem lm_Lw (h : lm_L f n law C ok s r) (hC : ∀ P2, C P2 → C' P2) (ho : ∀ t, ok t = false → ok' t = false) : lm_L f n law C' ok' s r := by
  rcases h with h | h | h
  · exact Or.inl h
  · exact Or.inr (Or.inl h)
  · exact Or.inr (Or.inr ⟨h.1, h.2.1, ho _ h.2.2.1, fun V kV => h.2.2.2 V (fun P2 c2 => kV P2 (hC P2 c2))⟩)
/-- behind a sign nothing is asked ahead -/
theorem lm_ahs {o v : Int} (h : o = 3 ∨ 4 ≤ lm_rk o) : lm_ah ((o, v) :: P) = false := by
  have h4 : 4 ≤ lm_rk o := by
    rcases h with h | h
    · subst h; decide
    · exact h
  have h40 : o ≠ 41 := fun d => by rw [d] at h4; exact absurd h4 (by decide)
  unfold lm_ah
  show (decide (lm_op ((o, v) :: P) = 41) && (decide (o = 41) || (decide (1 ≤ lm_rk o) && decide (lm_rk o ≤ 3)))) = false
  rw [decide_eq_false h40, decide_eq_false (show ¬ lm_rk o ≤ 3 by omega), Bool.and_false, Bool.or_false, Bool.and_false]
theorem lm_sgd {o v : Int} (h : ¬ 40 ≤ o) (h3 : o ≠ 3) (h20 : o ≠ 20) : lm_dp ((o, v) :: P) = lm_dp P ∧ lm_g ((o, v) :: P) = lm_g P ∧ lm_op ((o, v) :: P) = lm_op P := by
  refine ⟨?_, if_neg (show ¬ o = 45 by omega), if_neg h⟩
  show (if 40 ≤ o ∨ o = 3 ∨ o = 20 then 1 else 0) + lm_dp P = lm_dp P
  rw [if_neg (by omega)]; omega
theorem lm_tdc {t : Int} (h : ds_td t = true) : t = 12 ∨ t = 13 := by
  unfold ds_td at h
  rcases Bool.or_eq_true_iff.mp h with h | h
  · exact Or.inl (of_decide_eq_true h)
  · exact Or.inr (of_decide_eq_true h)
theorem lm_pmc {t : Int} (h : ds_pm t = true) : t = 10 ∨ t = 11 := by
  unfold ds_pm at h
  rcases Bool.or_eq_true_iff.mp h with h | h
  · exact Or.inl (of_decide_eq_true h)
  · exact Or.inr (of_decide_eq_true h)
theorem lm_p2 {O : ds_D} {K : Nat} (hb : 0 ≤ b) (h1 : lm_M1 f n law O) (hP : lm_st 6 P = P) (hs : lx_T f n b ≠ 44 ∨ lm_ah P = false) (hK : ∀ c : Int, b ≤ c → n - c ≤ K) : lm_L f n law (lm_C 6 P) ds_td (P, false, b) (ds_bd (O (lm_dp P) (lm_g P) b) (ds_lp f n ds_td (O (lm_dp P) (lm_g P)) K)) := by
  have a := h1 P b hb hs
  by_cases hz : (O (lm_dp P) (lm_g P) b).1 = 0
  · have hge : b ≤ (O (lm_dp P) (lm_g P) b).2 := by
      rcases a with a | a | a
      · rw [hz] at a; cases a
      · exact absurd hz a.1
      · exact a.2.1
    refine lm_Lw (C := lm_C 6 P) (ok := fun t => ds_td t || (fun _ => false) t) (lm_Lbd (lm_Lw a (fun P2 c2 => lm_CC (k := 6) (by decide) c2) (fun _ h => h)) (fun P2 c2 e2 => ?_) ⟨P, rfl⟩) (fun _ h => h) (fun t h => by rw [Bool.or_false] at h; exact h)
    refine lm_lp (C := lm_C 6 P) (ok := ds_td) (ok' := fun _ => false) (o := fun t => t - 6) (by decide) ⟨P, rfl⟩ (fun P2 t c2 _ ht => ?_) (fun P2 t c hc c2 ht => ?_) K _ (by omega) (hK _ hge) rfl P2 c2
    · rcases lm_tdc ht with h | h <;> subst h
      · exact ⟨(show (0 : Int) ≤ 6 by decide), rfl⟩
      · exact ⟨(show (0 : Int) ≤ 7 by decide), rfl⟩
    · have e : lm_st (lm_rk (t - 6)) P2 = P := by
        rcases lm_tdc ht with h | h <;> subst h <;> exact c2.trans hP
      rw [e]
      have q : ¬ 40 ≤ t - 6 ∧ t - 6 ≠ 3 ∧ t - 6 ≠ 20 ∧ lm_rk (t - 6) = 6 := by
        rcases lm_tdc ht with h | h <;> subst h <;> decide
      obtain ⟨d1, d2, _⟩ := lm_sgd (P := P) (v := 0) q.1 q.2.1 q.2.2.1
      have m := h1 ((t - 6, 0) :: P) c hc (Or.inr (lm_ahs (Or.inr (by omega))))
      rw [d1, d2] at m
      exact lm_Lw m (fun P3 c3 => lm_Cc (k := 6) c3 (by show 6 ≤ lm_rk (t - 6); omega)) (fun _ h => h)
  · rw [ds_bdF hz]
    rcases a with a | a | a
    · exact Or.inl a
    · exact Or.inr (Or.inl a)
    · exact absurd a.1 hz
theorem lm_p3 {O : ds_D} {K : Nat} (hb : 0 ≤ b) (h1 : lm_M2 f n law O) (hP : lm_st 5 P = P) (hs : lx_T f n b ≠ 44 ∨ lm_ah P = false) (hK : ∀ c : Int, b ≤ c → n - c ≤ K) : lm_L f n law (lm_C 5 P) (fun t => ds_pm t || ds_td t) (P, false, b) (ds_bd (O (lm_dp P) (lm_g P) b) (ds_lp f n ds_pm (O (lm_dp P) (lm_g P)) K)) := by
  have a := h1 P b hb (lm_stj (k := 5) (by decide) hP) hs
  by_cases hz : (O (lm_dp P) (lm_g P) b).1 = 0
  · have hge : b ≤ (O (lm_dp P) (lm_g P) b).2 := by
      rcases a with a | a | a
      · rw [hz] at a; cases a
      · exact absurd hz a.1
      · exact a.2.1
    have e2 : ds_td (lx_T f n (O (lm_dp P) (lm_g P) b).2) = false := by
      rcases a with a | a | a
      · rw [hz] at a; cases a
      · exact absurd hz a.1
      · exact a.2.2.1
    refine lm_Lbd (lm_Lw a (fun P2 c2 => lm_CC (k := 5) (by decide) c2) (fun _ h => h)) (fun P2 c2 e2 => ?_) ⟨P, rfl⟩
    refine lm_lp (C := lm_C 5 P) (ok := ds_pm) (ok' := ds_td) (o := fun t => t - 6) (by decide) ⟨P, rfl⟩ (fun P2 t c2 _ ht => ?_) (fun P2 t c hc c2 ht => ?_) K _ (by omega) (hK _ hge) e2 P2 c2
    · rcases lm_pmc ht with h | h <;> subst h
      · exact ⟨(show (0 : Int) ≤ 4 by decide), rfl⟩
      · exact ⟨(show (0 : Int) ≤ 5 by decide), rfl⟩
    · have e : lm_st (lm_rk (t - 6)) P2 = P := by
        rcases lm_pmc ht with h | h <;> subst h <;> exact c2.trans hP
      rw [e]
      have q : ¬ 40 ≤ t - 6 ∧ t - 6 ≠ 3 ∧ t - 6 ≠ 20 ∧ lm_rk (t - 6) = 5 := by
        rcases lm_pmc ht with h | h <;> subst h <;> decide
      obtain ⟨d1, d2, _⟩ := lm_sgd (P := P) (v := 0) q.1 q.2.1 q.2.2.1
      have m := h1 ((t - 6, 0) :: P) c hc (by rw [lm_st, if_neg (by show ¬ 6 ≤ lm_rk (t - 6); omega)]) (Or.inr (lm_ahs (Or.inr (by omega))))
      rw [d1, d2] at m
      exact lm_Lw m (fun P3 c3 => lm_Cc (k := 5) c3 (by show 5 ≤ lm_rk (t - 6); omega)) (fun _ h => h)
  · rw [ds_bdF hz]
    rcases a with a | a | a
    · exact Or.inl a
    · exact Or.inr (Or.inl a)
    · exact absurd a.1 hz
theorem lm_ahtp (h : lm_ah P = true) : lm_op P = 41 ∧ (lm_tp P = 41 ∨ (1 ≤ lm_rk (lm_tp P) ∧ lm_rk (lm_tp P) ≤ 3)) := by
  unfold lm_ah at h
  obtain ⟨a, c⟩ := Bool.and_eq_true_iff.mp h
  refine ⟨of_decide_eq_true a, ?_⟩
  rcases Bool.or_eq_true_iff.mp c with c | c
  · exact Or.inl (of_decide_eq_true c)
  · obtain ⟨c, d⟩ := Bool.and_eq_true_iff.mp c
    exact Or.inr ⟨of_decide_eq_true c, of_decide_eq_true d⟩
theorem lm_ahst (h : lm_ah P = true) : lm_st 4 P = P := by
  obtain ⟨a, c⟩ := lm_ahtp h
  cases P with
  | nil => rfl
  | cons e P =>
    have : lm_rk e.1 ≤ 3 := by
      rcases c with c | c
      · have : e.1 = 41 := c
        rw [this]; decide
      · exact c.2
    rw [lm_st, if_neg (by omega)]
/-- a pile behind which an ask can stand -/
theorem lm_ahm {k : Int} (hk : k ≤ 4) (h : lm_st k P = P) (ho : lm_op P = 41) : lm_ah P = true := by
  cases P with
  | nil => exact absurd ho (by decide)
  | cons e P =>
    have h4 : ¬ k ≤ lm_rk e.1 := by
      intro c
      have l : ∀ R : lm_P, (lm_st k R).length ≤ R.length := by
        intro R
        induction R with
        | nil => exact Nat.le_refl _
        | cons y R ih => rw [lm_st]; split
                         · exact Nat.le_succ_of_le ih
                         · exact Nat.le_refl _
      have := l P
      rw [lm_st, if_pos c] at h
      rw [h] at this
      exact absurd this (by rw [List.length_cons]; omega)
    unfold lm_ah
    rw [decide_eq_true ho, Bool.true_and]
    show (decide (e.1 = 41) || (decide (1 ≤ lm_rk e.1) && decide (lm_rk e.1 ≤ 3))) = true
    by_cases c : 40 ≤ e.1
    · have : e.1 = 41 := (if_pos c : lm_op (e :: P) = e.1).symm.trans ho
      rw [decide_eq_true this]; rfl
    · rw [decide_eq_true (lm_rkp c), decide_eq_true (show lm_rk e.1 ≤ 3 by omega)]
      exact Bool.or_true _
abbrev lm_A (k : Int) (P P2 : lm_P) : Prop := lm_C k P P2 ∧ lm_cp P2 = true
abbrev lm_okA : Int → Bool := fun t => ds_pm t || ds_td t
abbrev lm_okB : Int → Bool := fun t => ds_is 45 t || lm_okA t
abbrev lm_okE : Int → Bool := fun t => ds_is 46 t || lm_okB t
abbrev lm_M4 (f : Int → Int) (n law : Int) (O : ds_D) : Prop := ∀ (P : lm_P) (b : Int), 0 ≤ b → lm_ah P = true → lm_L f n law (lm_A 3 P) lm_okA (P, false, b) (O (lm_dp P) (lm_g P) b)
abbrev lm_M5 (f : Int → Int) (n law : Int) (O : ds_D) : Prop := ∀ (P : lm_P) (b : Int), 0 ≤ b → lm_st 2 P = P → lm_op P = 41 → lm_L f n law (lm_A 2 P) lm_okB (P, false, b) (O (lm_dp P) (lm_g P) b)
abbrev lm_M6 (f : Int → Int) (n law : Int) (O : ds_D) : Prop := ∀ (P : lm_P) (b : Int), 0 ≤ b → lm_st 1 P = P → lm_op P = 41 → lm_L f n law (lm_A 1 P) lm_okE (P, false, b) (O (lm_dp P) (lm_g P) b)
theorem lm_Lge (a : lm_L f n law C ok s r) (hz : r.1 = 0) : s.2.2 ≤ r.2 ∧ ok (lx_T f n r.2) = false := by
  rcases a with a | a | a
  · rw [hz] at a; cases a
  · exact absurd hz a.1
  · exact ⟨a.2.1, a.2.2.1⟩
theorem lm_LF {g : Int → Int × Int} (a : lm_L f n law C ok s r) (hz : r.1 ≠ 0) : lm_L f n law C' ok' s (ds_bd r g) := by
  rw [ds_bdF hz]
  rcases a with a | a | a
  · exact Or.inl a
  · exact Or.inr (Or.inl a)
  · exact absurd a.1 hz
/-- a pile for which compared asks are there -/
theorem lm_Ane {k : Int} (h : k ≤ 4) : ∃ P2, lm_A k P P2 := by
  refine ⟨(10, 0) :: P, ?_, by rfl⟩
  show lm_st k ((10, 0) :: P) = lm_st k P
  rw [lm_st, if_pos (show k ≤ lm_rk 10 by have : lm_rk 10 = 4 := by decide
                                          omega)]
theorem lm_isc {w t : Int} (h : ds_is w t = true) : t = w := of_decide_eq_true h
theorem lm_p5 {O : ds_D} {K : Nat} (hb : 0 ≤ b) (h1 : lm_M4 f n law O) (hP : lm_st 2 P = P) (ho : lm_op P = 41) (hK : ∀ c : Int, b ≤ c → n - c ≤ K) : lm_L f n law (lm_A 2 P) lm_okB (P, false, b) (ds_bd (O (lm_dp P) (lm_g P) b) (ds_lp f n (ds_is 45) (O (lm_dp P) (lm_g P)) K)) := by
  have a := h1 P b hb (lm_ahm (k := 2) (by decide) hP ho)
  by_cases hz : (O (lm_dp P) (lm_g P) b).1 = 0
  · obtain ⟨hge, e2⟩ := lm_Lge a hz
    refine lm_Lbd (lm_Lw (C' := lm_A 2 P) a (fun P2 c2 => ⟨lm_CC (k := 2) (by decide) c2.1, c2.2⟩) (fun _ h => h)) (fun P2 c2 e2 => ?_) (lm_Ane (by decide))
    refine lm_lp (C := lm_A 2 P) (ok := ds_is 45) (ok' := lm_okA) (o := fun t => t - 24) (by decide) (lm_Ane (by decide)) (fun P2 t c2 _ ht => ?_) (fun P2 t c hc c2 ht => ?_) K _ (Int.le_trans hb hge) (hK _ hge) e2 P2 c2
    · have := lm_isc ht
      subst this
      have : lm_bt 45 P2 = 21 := by
        unfold lm_bt
        rw [if_neg (by decide), if_neg (by decide), if_neg (by decide), if_neg (by decide), if_neg (by rw [lm_Cop (by decide) c2.1, ho]; decide), if_neg (by rw [c2.2]; decide), if_pos rfl]
      rw [this]
      exact ⟨by decide, rfl⟩
    · have := lm_isc ht
      subst this
      have e : lm_st (lm_rk (45 - 24)) P2 = P := c2.1.trans hP
      show lm_L f n law (lm_A 2 P) lm_okA ((45 - 24, 0) :: lm_st (lm_rk (45 - 24)) P2, false, c) _
      rw [e]
      obtain ⟨d1, d2, d3⟩ := lm_sgd (P := P) (o := 45 - 24) (v := 0) (by decide) (by decide) (by decide)
      have m := h1 ((45 - 24, 0) :: P) c hc (lm_ahm (k := 3) (by decide) (by rw [lm_st, if_neg (by decide)]) (d3.trans ho))
      rw [d1, d2] at m
      exact lm_Lw m (fun P3 c3 => ⟨lm_Cc (k := 2) c3.1 (by decide), c3.2⟩) (fun _ h => h)
  · exact lm_LF a hz
theorem lm_p6 {O : ds_D} {K : Nat} (hb : 0 ≤ b) (h1 : lm_M5 f n law O) (hP : lm_st 1 P = P) (ho : lm_op P = 41) (hK : ∀ c : Int, b ≤ c → n - c ≤ K) : lm_L f n law (lm_A 1 P) lm_okE (P, false, b) (ds_bd (O (lm_dp P) (lm_g P) b) (ds_lp f n (ds_is 46) (O (lm_dp P) (lm_g P)) K)) := by
  have a := h1 P b hb (lm_stj (k := 1) (by decide) hP) ho
  by_cases hz : (O (lm_dp P) (lm_g P) b).1 = 0
  · obtain ⟨hge, e2⟩ := lm_Lge a hz
    refine lm_Lbd (lm_Lw (C' := lm_A 1 P) a (fun P2 c2 => ⟨lm_CC (k := 1) (by decide) c2.1, c2.2⟩) (fun _ h => h)) (fun P2 c2 e2 => ?_) (lm_Ane (by decide))
    refine lm_lp (C := lm_A 1 P) (ok := ds_is 46) (ok' := lm_okB) (o := fun t => t - 24) (by decide) (lm_Ane (by decide)) (fun P2 t c2 _ ht => ?_) (fun P2 t c hc c2 ht => ?_) K _ (Int.le_trans hb hge) (hK _ hge) e2 P2 c2
    · have := lm_isc ht
      subst this
      have : lm_bt 46 P2 = 22 := by
        unfold lm_bt
        rw [if_neg (by decide), if_neg (by decide), if_neg (by decide), if_neg (by decide), if_neg (by rw [lm_Cop (by decide) c2.1, ho]; decide), if_neg (by rw [c2.2]; decide), if_neg (by decide), if_pos rfl]
      rw [this]
      exact ⟨by decide, rfl⟩
    · have := lm_isc ht
      subst this
      have e : lm_st (lm_rk (46 - 24)) P2 = P := c2.1.trans hP
      show lm_L f n law (lm_A 1 P) lm_okB ((46 - 24, 0) :: lm_st (lm_rk (46 - 24)) P2, false, c) _
      rw [e]
      obtain ⟨d1, d2, d3⟩ := lm_sgd (P := P) (o := 46 - 24) (v := 0) (by decide) (by decide) (by decide)
      have m := h1 ((46 - 24, 0) :: P) c hc (by rw [lm_st, if_neg (by decide)]) (d3.trans ho)
      rw [d1, d2] at m
      exact lm_Lw m (fun P3 c3 => ⟨lm_Cc (k := 1) c3.1 (by decide), c3.2⟩) (fun _ h => h)
  · exact lm_LF a hz
theorem lm_opn {e v : Int} (h : e = 3 ∨ e = 20 ∨ 40 ≤ e) : lm_dp ((e, v) :: P) = lm_dp P + 1 := by
  show (if 40 ≤ e ∨ e = 3 ∨ e = 20 then 1 else 0) + lm_dp P = lm_dp P + 1
  rw [if_pos (by omega)]; omega
theorem lm_ahcp (h : lm_ah P = true) : lm_cp P = false := by
  obtain ⟨a, c⟩ := lm_ahtp h
  cases P with
  | nil => rfl
  | cons e P =>
    have : lm_rk e.1 ≤ 3 := by
      rcases c with c | c
      · have : e.1 = 41 := c
        rw [this]; decide
      · exact c.2
    show (if 4 < lm_rk e.1 then lm_cp P else decide (lm_rk e.1 = 4)) = false
    rw [if_neg (by omega), decide_eq_false (by omega)]
theorem lm_okAc {t : Int} (h : lm_okA t = false) : t ≠ 10 ∧ t ≠ 11 ∧ t ≠ 12 ∧ t ≠ 13 := by
  refine ⟨?_, ?_, ?_, ?_⟩ <;> intro e <;> rw [e] at h <;> exact absurd h (by decide)
/-- the machine opens -/
theorem lm_pus {o : Int} {k : Int → (Int × Int) ⊕ lm_S} (hs : lm_sp f n law (P, false, b) = lm_pu f n o P b k) {g : Int → Int × Int} (hk : lm_dp P < 8 → lm_L f n law C ok (P, false, b) (g (ds_ad f n b))) : lm_L f n law C ok (P, false, b) (ds_en f n (lm_dp P) g b) := by
  unfold lm_pu at hs
  unfold ds_en
  by_cases c : lm_dp P < 8
  · rw [if_pos c]; exact hk c
  · rw [if_neg c] at hs ⊢; exact lm_L0 hs (show (3 : Int) ≠ 0 by decide)
theorem lm_puk {o : Int} {k : Int → (Int × Int) ⊕ lm_S} (hs : lm_sp f n law (P, false, b) = lm_pu f n o P b k) (c : lm_dp P < 8) : lm_sp f n law (P, false, b) = k (ds_ad f n b) := by
  unfold lm_pu at hs
  rw [if_pos c] at hs; exact hs
theorem lm_p4 {S A : ds_D} (hS : lm_M3 f n law S) (hA : lm_M4 f n law A) : lm_M4 f n law (ds_ask f n S A) := by
  intro P b hb ha
  obtain ⟨ho, _⟩ := lm_ahtp ha
  have h4 := lm_ahst ha
  unfold ds_ask
  by_cases c : lx_T f n b = 44
  · rw [if_pos c]
    have hs : lm_sp f n law (P, false, b) = lm_pu f n 20 P b (fun c => .inr ((20, 0) :: P, false, c)) := by
      show lm_be f n law P b = _
      unfold lm_be
      rw [if_neg (by omega), if_neg (by omega), if_neg (by omega), if_neg (by omega), if_neg (by omega), if_neg (by omega), if_pos ⟨c, ha⟩]
    refine lm_pus hs (fun cd => lm_L1 (lm_puk hs cd) lm_ad0 ?_)
    have m := hA ((20, 0) :: P) (ds_ad f n b) (Int.le_trans hb lm_ad0) (lm_ahm (k := 4) (by decide) (by rw [lm_st, if_neg (by decide)]) (Eq.trans (if_neg (by decide)) ho))
    rw [lm_opn (by decide), show lm_g ((20, 0) :: P) = lm_g P from if_neg (by decide)] at m
    exact lm_Lw m (fun P3 c3 => ⟨c3.1.trans (by rw [lm_st, if_pos (by decide)]), c3.2⟩) (fun _ h => h)
  · rw [if_neg c, ds_bdA]
    have a := hS P b hb (lm_stj (k := 4) (by decide) h4) (Or.inl c)
    by_cases hz : (S (lm_dp P) (lm_g P) b).1 = 0
    · refine lm_Lbd a (fun P2 c2 e2 => ?_) ⟨P, rfl⟩
      have hge := (lm_Lge a hz).1
      have hge : b ≤ (S (lm_dp P) (lm_g P) b).2 := hge
      generalize (S (lm_dp P) (lm_g P) b).2 = b2 at e2 hge ⊢
      have o2 : lm_op P2 = 41 := (lm_Cop (by decide) c2).trans ho
      have q2 : lm_cp P2 = false := (lm_Ccp (by decide) c2).trans (lm_ahcp ha)
      obtain ⟨n1, n2, n3, n4⟩ := lm_okAc e2
      by_cases ct : 4 ≤ lx_T f n b2 ∧ lx_T f n b2 ≤ 9
      · rw [if_pos ct, ds_bd0 rfl]
        have hbt : lm_bt (lx_T f n b2) P2 = 6 + lx_T f n b2 := by
          unfold lm_bt
          rw [if_neg n1, if_neg n2, if_neg n3, if_neg n4, if_neg (by rw [o2]; decide), if_pos q2, if_pos ct]
        have rk4 : lm_rk (6 + lx_T f n b2) = 4 := by
          unfold lm_rk
          rw [if_neg (by omega), if_neg (by omega), if_neg (by omega), if_neg (by omega), if_pos (by omega)]
        have st : lm_sp f n law (P2, true, b2) = .inr ((6 + lx_T f n b2, 0) :: P, false, ds_ad f n b2) := by
          show lm_bh f n P2 b2 = _
          unfold lm_bh
          rw [hbt, if_pos (by omega), rk4, (lm_CC (k := 4) (by decide) c2 : lm_st 4 P2 = lm_st 4 P), h4]
        refine lm_L1 st lm_ad0 ?_
        obtain ⟨d1, d2, _⟩ := lm_sgd (P := P) (o := 6 + lx_T f n b2) (v := 0) (by omega) (by omega) (by omega)
        have m := hS ((6 + lx_T f n b2, 0) :: P) (ds_ad f n b2) (Int.le_trans hb (Int.le_trans hge lm_ad0)) (by rw [lm_st, if_neg (by rw [rk4]; decide)]) (Or.inr (lm_ahs (Or.inr (by omega))))
        rw [d1, d2] at m
        refine lm_Lw m (fun P3 c3 => ⟨lm_CC (k := 3) (j := 4) (by decide) (lm_Cc (k := 4) c3 (by show 4 ≤ lm_rk (6 + lx_T f n b2); omega)), (lm_Ccp (by decide) c3).trans ?_⟩) (fun _ h => h)
        show (if 4 < lm_rk (6 + lx_T f n b2) then lm_cp P else decide (lm_rk (6 + lx_T f n b2) = 4)) = true
        rw [rk4]; rfl
      · rw [if_neg ct, ds_bdF (show (1 : Int) ≠ 0 by decide)]
        refine lm_L0 ?_ (show (1 : Int) ≠ 0 by decide)
        show lm_bh f n P2 b2 = _
        have hbt : lm_bt (lx_T f n b2) P2 = -1 := by
          unfold lm_bt
          rw [if_neg n1, if_neg n2, if_neg n3, if_neg n4, if_neg (by rw [o2]; decide), if_pos q2, if_neg ct]
        have hpt : lm_pt (lx_T f n b2) P2 = -1 := by
          unfold lm_pt
          rw [if_neg (by rw [o2]; decide), if_pos o2, if_neg (by rw [q2]; exact fun h => absurd h.2 (by decide))]
        unfold lm_bh
        rw [hbt, hpt, o2, if_neg (by decide), if_neg (by decide), if_neg (by decide), if_pos (by decide)]
    · exact lm_LF a hz
theorem lm_Lbe {g : Int → Int × Int} (hb : 0 ≤ s.2.2) (a : lm_L f n law C ok s r) (k : ∀ (P2 : lm_P) (c : Int), C P2 → 0 ≤ c → ok (lx_T f n c) = false → lm_L f n law C' ok' (P2, true, c) (g c)) (ne : ∃ P2, C P2) : lm_L f n law C' ok' s (ds_bd r g) := by
  by_cases hz : r.1 = 0
  · exact lm_Lbd a (fun P2 c2 e2 => k P2 _ c2 (Int.le_trans hb (lm_Lge a hz).1) e2) ne
  · exact lm_LF a hz
theorem lm_btn {t : Int} (h : lm_okA t = false) (h2 : lm_op P2 ≠ 41 ∨ (lm_cp P2 = true ∧ t ≠ 45 ∧ t ≠ 46)) : lm_bt t P2 = -1 := by
  obtain ⟨n1, n2, n3, n4⟩ := lm_okAc h
  unfold lm_bt
  rw [if_neg n1, if_neg n2, if_neg n3, if_neg n4]
  by_cases c : lm_op P2 = 41
  · rcases h2 with h2 | h2
    · exact absurd c h2
    · rw [if_neg (fun d => d c), if_neg (by rw [h2.1]; decide), if_neg h2.2.1, if_neg h2.2.2]
  · rw [if_pos c]
/-- the next part of what is open -/
theorem lm_xn {w p o v : Int} {g : Int → Int × Int} (e : lm_bt (lx_T f n b) P2 = -1) (hst : lm_st 1 P2 = (o, v) :: Q) (ho : 0 ≤ lm_op P2) (hp : 0 < p) (hpt : lm_pt (lx_T f n b) P2 = if lx_T f n b = w then p else -1) (k : lm_L f n law C ok ((p, v) :: Q, false, ds_ad f n b) (g (ds_ad f n b))) : lm_L f n law C ok (P2, true, b) (ds_bd (ds_ex f n w b) g) := by
  unfold ds_ex
  by_cases c : lx_T f n b = w
  · rw [if_pos c, ds_bd0 rfl]
    refine lm_L1 ?_ lm_ad0 k
    show lm_bh f n P2 b = _
    unfold lm_bh
    rw [if_pos c] at hpt
    rw [e, hpt, if_neg (by decide), if_pos hp, hst]; rfl
  · rw [if_neg c, ds_bdF (show (1 : Int) ≠ 0 by decide)]
    refine lm_L0 ?_ (show (1 : Int) ≠ 0 by decide)
    show lm_bh f n P2 b = _
    unfold lm_bh
    rw [if_neg c] at hpt
    rw [e, hpt, if_neg (by decide), if_neg (by decide), if_neg (by decide), if_pos ho]
/-- what is open is shut -/
theorem lm_x0 {w o v : Int} (e : lm_bt (lx_T f n b) P2 = -1) (hst : lm_st 1 P2 = (o, v) :: Q) (ho : 0 ≤ lm_op P2) (hpt : lm_pt (lx_T f n b) P2 = if lx_T f n b = w then 0 else -1) : lm_L f n law (lm_C 7 Q) (fun _ => false) (P2, true, b) (ds_ex f n w b) := by
  unfold ds_ex
  by_cases c : lx_T f n b = w
  · rw [if_pos c]
    refine Or.inr (Or.inr ⟨rfl, lm_ad0, rfl, fun V kV => lm_R1 ?_ (kV (lm_st 7 Q) (lm_stst (Int.le_refl 7)))⟩)
    show lm_bh f n P2 b = _
    unfold lm_bh
    rw [if_pos c] at hpt
    rw [e, hpt, if_neg (by decide), if_neg (by decide), if_pos rfl, hst]; rfl
  · rw [if_neg c]
    refine lm_L0 ?_ (show (1 : Int) ≠ 0 by decide)
    show lm_bh f n P2 b = _
    unfold lm_bh
    rw [if_neg c] at hpt
    rw [e, hpt, if_neg (by decide), if_neg (by decide), if_neg (by decide), if_pos ho]
theorem lm_op0 {o v : Int} {k : Int} (hk : 1 ≤ k) (h : lm_C k ((o, v) :: Q) P2) (h40 : 40 ≤ o) : lm_op P2 = o ∧ lm_st 1 P2 = (o, v) :: Q := by
  refine ⟨(lm_Cop hk h).trans (if_pos h40), (lm_CC (k := 1) hk h).trans ?_⟩
  rw [lm_st, if_neg (by rw [lm_rk0 h40]; decide)]
theorem lm_s40 {o v k : Int} (hk : 1 ≤ k) (h40 : 40 ≤ o) : lm_st k ((o, v) :: Q) = (o, v) :: Q := by
  rw [lm_st, if_neg (by rw [lm_rk0 h40]; omega)]
theorem lm_pif {S E : ds_D} (hS : lm_M3 f n law S) (hE : lm_M6 f n law E) (hb : 0 ≤ b) : lm_L f n law (lm_C 7 Q) (fun _ => false) ((41, 0) :: Q, false, b) (ds_if f n S E (lm_dp Q + 1) (lm_g Q) b) := by
  unfold ds_if
  simp only [ds_bdA]
  have a := hE ((41, 0) :: Q) b hb (lm_s40 (by decide) (by decide)) (if_pos (by decide))
  rw [lm_opn (by decide), show lm_g ((41, 0) :: Q) = lm_g Q from if_neg (by decide)] at a
  refine lm_Lbe hb a (fun P2 c c2 hc e2 => ?_) (lm_Ane (by decide))
  obtain ⟨o2, s2⟩ := lm_op0 (by decide) c2.1 (by decide)
  obtain ⟨x1, x2⟩ := Bool.or_eq_false_iff.mp e2
  obtain ⟨x2, x3⟩ := Bool.or_eq_false_iff.mp x2
  have pt : lm_pt (lx_T f n c) P2 = if lx_T f n c = 38 then 42 else -1 := by
    unfold lm_pt
    rw [o2, if_neg (by decide), if_pos rfl, c2.2]
    by_cases d : lx_T f n c = 38
    · rw [if_pos ⟨d, rfl⟩, if_pos d]
    · rw [if_neg (fun q => d q.1), if_neg d]
  refine lm_xn (p := 42) (lm_btn x3 (Or.inr ⟨c2.2, of_decide_eq_false x2, of_decide_eq_false x1⟩)) s2 (by rw [o2]; decide) (by decide) pt ?_
  have hc := Int.le_trans hc (lm_ad0 (f := f) (n := n))
  have a := hS ((42, 0) :: Q) _ hc (lm_s40 (by decide) (by decide)) (Or.inr (by unfold lm_ah; rw [show lm_op ((42, 0) :: Q) = 42 from if_pos (by decide)]; rfl))
  rw [lm_opn (by decide), show lm_g ((42, 0) :: Q) = lm_g Q from if_neg (by decide)] at a
  refine lm_Lbe hc a (fun P2 c c2 hc e2 => ?_) ⟨_, rfl⟩
  obtain ⟨o2, s2⟩ := lm_op0 (by decide) c2 (by decide)
  refine lm_xn (p := 43) (lm_btn e2 (Or.inl (by rw [o2]; decide))) s2 (by rw [o2]; decide) (by decide) (by unfold lm_pt; rw [o2, if_neg (by decide), if_neg (by decide), if_pos rfl]) ?_
  have hc := Int.le_trans hc (lm_ad0 (f := f) (n := n))
  have a := hS ((43, 0) :: Q) _ hc (lm_s40 (by decide) (by decide)) (Or.inr (by unfold lm_ah; rw [show lm_op ((43, 0) :: Q) = 43 from if_pos (by decide)]; rfl))
  rw [lm_opn (by decide), show lm_g ((43, 0) :: Q) = lm_g Q from if_neg (by decide)] at a
  refine lm_Lbe hc a (fun P2 c c2 hc e2 => ?_) ⟨_, rfl⟩
  obtain ⟨o2, s2⟩ := lm_op0 (by decide) c2 (by decide)
  exact lm_x0 (lm_btn e2 (Or.inl (by rw [o2]; decide))) s2 (by rw [o2]; decide) (by unfold lm_pt; rw [o2, if_neg (by decide), if_neg (by decide), if_neg (by decide), if_neg (by decide), if_neg (by decide)])
theorem lm_plet {S : ds_D} {b0 c : Int} (hS : lm_M3 f n law S) (hb : 0 ≤ b0) (hc : b0 ≤ c) (hs : lm_sp f n law (Q, false, b0) = if lx_T f n c = 3 then (if lx_T f n (ds_ad f n c) = 42 then .inr ((44, lx_V f n c) :: Q, false, ds_ad f n (ds_ad f n c)) else .inl (1, ds_ad f n c)) else .inl (1, c)) : lm_L f n law (lm_C 7 Q) (fun _ => false) (Q, false, b0) (ds_let f n S (lm_dp Q + 1) (lm_g Q) c) := by
  unfold ds_let
  simp only [ds_bdA]
  by_cases c3 : lx_T f n c = 3
  · rw [if_pos c3] at hs
    rw [show ds_ex f n 3 c = (0, ds_ad f n c) from if_pos c3, ds_bd0 rfl]
    show lm_L f n law _ _ _ (ds_bd (ds_ex f n 42 (ds_ad f n c)) _)
    by_cases c4 : lx_T f n (ds_ad f n c) = 42
    · rw [if_pos c4] at hs
      rw [show ds_ex f n 42 (ds_ad f n c) = (0, ds_ad f n (ds_ad f n c)) from if_pos c4, ds_bd0 rfl]
      have h1 : c ≤ ds_ad f n (ds_ad f n c) := Int.le_trans (lm_ad0 (f := f) (n := n)) (lm_ad0 (f := f) (n := n))
      generalize ds_ad f n (ds_ad f n c) = c5 at hs h1 ⊢
      generalize lx_V f n c = v at hs ⊢
      refine lm_L1 hs (by show b0 ≤ c5; omega) ?_
      have hc : 0 ≤ c5 := by omega
      have a := hS ((44, v) :: Q) c5 hc (lm_s40 (by decide) (by decide)) (Or.inr (by unfold lm_ah; rw [show lm_op ((44, v) :: Q) = 44 from if_pos (show (40 : Int) ≤ 44 by decide)]; rfl))
      rw [lm_opn (by decide), show lm_g ((44, v) :: Q) = lm_g Q from if_neg (show ¬ (44 : Int) = 45 by decide)] at a
      refine lm_Lbe hc a (fun P2 c c2 hc e2 => ?_) ⟨_, rfl⟩
      obtain ⟨o2, s2⟩ := lm_op0 (by decide) c2 (by decide)
      refine lm_xn (p := 45) (lm_btn e2 (Or.inl (by rw [o2]; decide))) s2 (by rw [o2]; decide) (by decide) (by unfold lm_pt; rw [o2, if_neg (by decide), if_neg (by decide), if_neg (by decide), if_pos rfl]) ?_
      have hc := Int.le_trans hc (lm_ad0 (f := f) (n := n))
      have a := hS ((45, v) :: Q) _ hc (lm_s40 (by decide) (by decide)) (Or.inr (by unfold lm_ah; rw [show lm_op ((45, v) :: Q) = 45 from if_pos (show (40 : Int) ≤ 45 by decide)]; rfl))
      rw [lm_opn (by decide), show lm_g ((45, v) :: Q) = ds_u1 (lm_g Q) v (ds_sl (lm_dp Q + 1)) from (if_pos rfl).trans (by rw [Int.add_comm])] at a
      refine lm_Lbe hc a (fun P2 c c2 hc e2 => ?_) ⟨_, rfl⟩
      obtain ⟨o2, s2⟩ := lm_op0 (by decide) c2 (by decide)
      exact lm_x0 (lm_btn e2 (Or.inl (by rw [o2]; decide))) s2 (by rw [o2]; decide) (by unfold lm_pt; rw [o2, if_neg (by decide), if_neg (by decide), if_neg (by decide), if_neg (by decide), if_neg (by decide)])
    · rw [if_neg c4] at hs
      rw [show ds_ex f n 42 (ds_ad f n c) = (1, ds_ad f n c) from if_neg c4, ds_bdF (show (1 : Int) ≠ 0 by decide)]
      exact lm_L0 hs (show (1 : Int) ≠ 0 by decide)
  · rw [if_neg c3] at hs
    rw [show ds_ex f n 3 c = (1, c) from if_neg c3, ds_bdF (show (1 : Int) ≠ 0 by decide)]
    exact lm_L0 hs (show (1 : Int) ≠ 0 by decide)
theorem lm_name : ds_name f n law b = (if (ds_name f n law b).1 = 0 then 0 else (ds_name f n law b).1, if (ds_name f n law b).1 = 0 then ds_ad f n b else b) := by
  unfold ds_name
  (repeat' split) <;> simp_all
theorem lm_ok1 {p : Int} (h : lm_sp f n law (P, false, b) = .inr (lm_st 7 P, true, ds_ad f n b)) : lm_L f n law (lm_C 7 P) (fun _ => false) (P, false, b) (0, ds_ad f n b) :=
  Or.inr (Or.inr ⟨rfl, lm_ad0, rfl, fun V kV => lm_R1 h (kV _ (lm_stst (Int.le_refl 7)))⟩)
theorem lm_p1 {S O I L : ds_D} (hS : lm_M3 f n law S) (hO : lm_M1 f n law O)
    (hI : ∀ (Q : lm_P) (b : Int), 0 ≤ b → lm_L f n law (lm_C 7 Q) (fun _ => false) ((41, 0) :: Q, false, b) (I (lm_dp Q + 1) (lm_g Q) b))
    (hL : ∀ (Q : lm_P) (b c : Int), 0 ≤ b → b ≤ c → lm_sp f n law (Q, false, b) = (if lx_T f n c = 3 then (if lx_T f n (ds_ad f n c) = 42 then .inr ((44, lx_V f n c) :: Q, false, ds_ad f n (ds_ad f n c)) else .inl (1, ds_ad f n c)) else .inl (1, c)) → lm_L f n law (lm_C 7 Q) (fun _ => false) (Q, false, b) (L (lm_dp Q + 1) (lm_g Q) c)) :
    lm_M1 f n law (ds_one f n law S O I L) := by
  intro P b hb hs
  have hsp : lm_sp f n law (P, false, b) = lm_be f n law P b := rfl
  unfold lm_be at hsp
  unfold ds_one
  by_cases c2 : lx_T f n b = 2
  · rw [if_pos c2] at hsp ⊢
    by_cases c : lx_V f n b ≤ 9999
    · rw [if_pos c] at hsp ⊢; exact lm_ok1 (p := 0) hsp
    · rw [if_neg c] at hsp ⊢; exact lm_L0 hsp (show (2 : Int) ≠ 0 by decide)
  rw [if_neg c2] at hsp ⊢
  by_cases c3 : lx_T f n b = 3
  · rw [if_pos c3] at hsp ⊢
    by_cases c : lm_g P (lx_V f n b) ≠ -1
    · rw [if_pos c] at hsp ⊢; exact lm_ok1 (p := 0) hsp
    · rw [if_neg c] at hsp ⊢; exact lm_L0 hsp (show (5 : Int) ≠ 0 by decide)
  rw [if_neg c3] at hsp ⊢
  by_cases c11 : lx_T f n b = 11
  · rw [if_pos c11] at hsp ⊢
    refine lm_pus hsp (fun cd => lm_L1 (lm_puk hsp cd) lm_ad0 ?_)
    have m := hO ((3, 0) :: P) (ds_ad f n b) (Int.le_trans hb lm_ad0) (Or.inr (lm_ahs (Or.inl rfl)))
    rw [lm_opn (by decide), show lm_g ((3, 0) :: P) = lm_g P from if_neg (by decide)] at m
    exact lm_Lw m (fun P3 c3 => c3.trans (by rw [lm_st, if_pos (by decide)])) (fun _ h => h)
  rw [if_neg c11] at hsp ⊢
  by_cases c14 : lx_T f n b = 14
  · rw [if_pos c14] at hsp ⊢
    refine lm_pus hsp (fun cd => lm_L1 (lm_puk hsp cd) lm_ad0 ?_)
    have hc := Int.le_trans hb (lm_ad0 (f := f) (n := n))
    have a := hS ((40, 0) :: P) _ hc (lm_s40 (by decide) (by decide)) (Or.inr (by unfold lm_ah; rw [show lm_op ((40, 0) :: P) = 40 from if_pos (by decide)]; rfl))
    rw [lm_opn (by decide), show lm_g ((40, 0) :: P) = lm_g P from if_neg (by decide)] at a
    refine lm_Lbe hc a (fun P2 c c2 hc e2 => ?_) ⟨_, rfl⟩
    obtain ⟨o2, s2⟩ := lm_op0 (by decide) c2 (by decide)
    exact lm_x0 (lm_btn e2 (Or.inl (by rw [o2]; decide))) s2 (by rw [o2]; decide) (by unfold lm_pt; rw [o2, if_pos rfl])
  rw [if_neg c14] at hsp ⊢
  by_cases c37 : lx_T f n b = 37
  · rw [if_pos c37] at hsp ⊢
    exact lm_pus hsp (fun cd => lm_L1 (lm_puk hsp cd) lm_ad0 (hI P _ (Int.le_trans hb lm_ad0)))
  rw [if_neg c37] at hsp ⊢
  by_cases c41 : lx_T f n b = 41
  · rw [if_pos c41] at hsp ⊢
    exact lm_pus hsp (fun cd => hL P b _ hb lm_ad0 (lm_puk hsp cd))
  rw [if_neg c41] at hsp ⊢
  rw [if_neg (show ¬ (lx_T f n b = 44 ∧ lm_ah P = true) from fun q => hs.elim (fun h => h q.1) (fun h => by rw [h] at q; exact absurd q.2 (by decide)))] at hsp
  rw [lm_name]
  by_cases c : (ds_name f n law b).1 = 0
  · rw [if_pos c] at hsp
    rw [if_pos c, if_pos c]; exact lm_ok1 (p := 0) hsp
  · rw [if_neg c] at hsp
    rw [if_neg c, if_neg c]; exact lm_L0 hsp c
/-- the descent and the machine read alike -/
theorem lm_all (hn : n ≤ 300) : ∀ k : Nat, lm_M3 f n law (ds_T f n law k).1 ∧ lm_M2 f n law (ds_T f n law k).2.1 ∧ lm_M1 f n law (ds_T f n law k).2.2.1
    ∧ (∀ (Q : lm_P) (b : Int), 0 ≤ b → lm_L f n law (lm_C 7 Q) (fun _ => false) ((41, 0) :: Q, false, b) ((ds_T f n law k).2.2.2.1 (lm_dp Q + 1) (lm_g Q) b))
    ∧ (∀ (Q : lm_P) (b c : Int), 0 ≤ b → b ≤ c → lm_sp f n law (Q, false, b) = (if lx_T f n c = 3 then (if lx_T f n (ds_ad f n c) = 42 then .inr ((44, lx_V f n c) :: Q, false, ds_ad f n (ds_ad f n c)) else .inl (1, ds_ad f n c)) else .inl (1, c)) → lm_L f n law (lm_C 7 Q) (fun _ => false) (Q, false, b) ((ds_T f n law k).2.2.2.2.1 (lm_dp Q + 1) (lm_g Q) c))
    ∧ lm_M6 f n law (ds_T f n law k).2.2.2.2.2.1 ∧ lm_M5 f n law (ds_T f n law k).2.2.2.2.2.2.1 ∧ lm_M4 f n law (ds_T f n law k).2.2.2.2.2.2.2 := by
  intro k
  induction k with
  | zero => exact ⟨fun _ _ _ _ _ => Or.inl rfl, fun _ _ _ _ _ => Or.inl rfl, fun _ _ _ _ => Or.inl rfl, fun _ _ _ => Or.inl rfl, fun _ _ _ _ _ _ => Or.inl rfl, fun _ _ _ _ _ => Or.inl rfl, fun _ _ _ _ _ => Or.inl rfl, fun _ _ _ _ => Or.inl rfl⟩
  | succ k ih =>
    obtain ⟨i3, i2, i1, iI, iL, i6, i5, i4⟩ := ih
    exact ⟨fun P b hb hP hs => lm_p3 hb i2 hP hs (fun c hc => by omega),
      fun P b hb hP hs => lm_p2 hb i1 hP hs (fun c hc => by omega),
      lm_p1 i3 i1 iI iL,
      fun Q b hb => lm_pif i3 i6 hb,
      fun Q b c hb hc hs => lm_plet i3 hb hc hs,
      fun P b hb hP ho => lm_p6 hb i5 hP ho (fun c hc => by omega),
      fun P b hb hP ho => lm_p5 hb i4 hP ho (fun c hc => by omega),
      lm_p4 i3 i4⟩
/-- a sum alone: what the descent says the machine ends with -/
theorem lm_top (hn : n ≤ 300) (hb : 0 ≤ b) {k : Nat} (h9 : ((ds_T f n law k).1 0 (fun _ => -1) b).1 ≠ 9) : lm_R f n law ([], false, b) ((ds_T f n law k).1 0 (fun _ => -1) b) := by
  rcases (lm_all (f := f) (law := law) hn k).1 [] b hb rfl (Or.inr rfl) with a | a | a
  · exact absurd a h9
  · exact a.2
  · refine a.2.2.2 _ (fun P2 c2 => lm_R0 ?_)
    have o2 : lm_op P2 = -1 := lm_Cop (P := []) (by decide) c2
    obtain ⟨z, _, e2, _⟩ := a
    have z : ((ds_T f n law k).1 0 (fun _ => -1) b).1 = 0 := z
    have e2 : lm_okA (lx_T f n ((ds_T f n law k).1 0 (fun _ => -1) b).2) = false := e2
    show lm_bh f n P2 ((ds_T f n law k).1 0 (fun _ => -1) b).2 = _
    have hbt := lm_btn (P2 := P2) e2 (Or.inl (by rw [o2]; decide))
    unfold lm_bh
    rw [hbt, if_neg (by decide)]
    have hpt : lm_pt (lx_T f n ((ds_T f n law k).1 0 (fun _ => -1) b).2) P2 = -1 := by
      unfold lm_pt
      rw [o2, if_neg (by decide), if_neg (by decide), if_neg (by decide), if_neg (by decide), if_pos (by decide)]
    rw [hpt, o2, if_neg (by decide), if_neg (by decide), if_neg (by decide)]
    exact congrArg Sum.inl (Prod.ext z.symm rfl)
/-! fuel: no fault 9 -/
theorem lm_b9 {g : Int → Int × Int} (h : r.1 ≠ 9) (hg : ∀ b, (g b).1 ≠ 9) : (ds_bd r g).1 ≠ 9 := by
  by_cases z : r.1 = 0
  · rw [ds_bd0 z]; exact hg _
  · rw [ds_bdF z]; exact h
theorem lm_l9 {g : Int → Int × Int} (hg : ∀ b, (g b).1 ≠ 9) : ∀ (K : Nat) (b : Int), (ds_lp f n ok g K b).1 ≠ 9 := by
  intro K
  induction K with
  | zero => intro b; exact (show (0 : Int) ≠ 9 by decide)
  | succ K ih =>
    intro b
    show (if ok (lx_T f n b) = true then ds_bd (g (ds_ad f n b)) (ds_lp f n ok g K) else (0, b)).1 ≠ 9
    split
    · exact lm_b9 (hg _) ih
    · exact (show (0 : Int) ≠ 9 by decide)
theorem lm_x9 {w : Int} : (ds_ex f n w b).1 ≠ 9 := by unfold ds_ex; split <;> simp
theorem lm_e9 {d : Int} {g : Int → Int × Int} (hg : d < 8 → ∀ b, (g b).1 ≠ 9) : (ds_en f n d g b).1 ≠ 9 := by
  unfold ds_en
  split
  · exact hg (by assumption) _
  · exact (show (3 : Int) ≠ 9 by decide)
abbrev lm_N (O : ds_D) (d : Int) : Prop := ∀ (g : Int → Int) (b : Int), (O d g b).1 ≠ 9
theorem lm_n9 : (ds_name f n law b).1 ≠ 9 := by unfold ds_name; (repeat' split) <;> simp
theorem lm_fuel : ∀ (k : Nat) (d : Int), d ≤ 8 → (7 * (8 - d) + 3 ≤ k → lm_N (ds_T f n law k).1 d) ∧ (7 * (8 - d) + 2 ≤ k → lm_N (ds_T f n law k).2.1 d) ∧ (7 * (8 - d) + 1 ≤ k → lm_N (ds_T f n law k).2.2.1 d) ∧ (7 * (8 - d) + 7 ≤ k → lm_N (ds_T f n law k).2.2.2.1 d) ∧ (7 * (8 - d) + 4 ≤ k → lm_N (ds_T f n law k).2.2.2.2.1 d) ∧ (7 * (8 - d) + 6 ≤ k → lm_N (ds_T f n law k).2.2.2.2.2.1 d) ∧ (7 * (8 - d) + 5 ≤ k → lm_N (ds_T f n law k).2.2.2.2.2.2.1 d) ∧ (7 * (8 - d) + 4 ≤ k → lm_N (ds_T f n law k).2.2.2.2.2.2.2 d) := by
  intro k
  induction k with
  | zero => intro d hd; exact ⟨fun h => by omega, fun h => by omega, fun h => by omega, fun h => by omega, fun h => by omega, fun h => by omega, fun h => by omega, fun h => by omega⟩
  | succ k ih =>
    intro d hd
    refine ⟨fun h g b => ?_, fun h g b => ?_, fun h g b => ?_, fun h g b => ?_, fun h g b => ?_, fun h g b => ?_, fun h g b => ?_, fun h g b => ?_⟩
    · have a := (ih d hd).2.1 (by omega)
      exact lm_b9 (a g b) (lm_l9 (a g) 300)
    · have a := (ih d hd).2.2.1 (by omega)
      exact lm_b9 (a g b) (lm_l9 (a g) 300)
    · show (ds_one f n law _ _ _ _ d g b).1 ≠ 9
      unfold ds_one
      split
      · split <;> simp
      split
      · split <;> simp
      split
      · exact lm_e9 (fun c b => (ih (d + 1) (by omega)).2.2.1 (by omega) g b)
      split
      · exact lm_e9 (fun c b => lm_b9 ((ih (d + 1) (by omega)).1 (by omega) g b) (fun b => lm_x9))
      split
      · exact lm_e9 (fun c b => (ih (d + 1) (by omega)).2.2.2.1 (by omega) g b)
      split
      · exact lm_e9 (fun c b => (ih (d + 1) (by omega)).2.2.2.2.1 (by omega) g b)
      exact lm_n9
    · have a := (ih d hd).1 (by omega)
      have e := (ih d hd).2.2.2.2.2.1 (by omega)
      exact lm_b9 (lm_b9 (lm_b9 (lm_b9 (lm_b9 (e g b) (fun _ => lm_x9)) (a g)) (fun _ => lm_x9)) (a g)) (fun _ => lm_x9)
    · have a := (ih d hd).1 (by omega)
      exact lm_b9 (lm_b9 (lm_b9 (lm_b9 (lm_b9 lm_x9 (fun _ => lm_x9)) (a g)) (fun _ => lm_x9)) (a _)) (fun _ => lm_x9)
    · have a := (ih d hd).2.2.2.2.2.2.1 (by omega)
      exact lm_b9 (a g b) (lm_l9 (a g) 300)
    · have a := (ih d hd).2.2.2.2.2.2.2 (by omega)
      exact lm_b9 (a g b) (lm_l9 (a g) 300)
    · show (ds_ask f n _ _ d g b).1 ≠ 9
      unfold ds_ask
      split
      · exact lm_e9 (fun c b => (ih (d + 1) (by omega)).2.2.2.2.2.2.2 (by omega) g b)
      · have a := (ih d hd).1 (by omega)
        exact lm_b9 (lm_b9 (a g b) (fun b => by split <;> simp)) (a g)
/-- a sum alone: the machine ends as the descent says -/
theorem lm_topS (hn : n ≤ 300) (hb : 0 ≤ b) : lm_R f n law ([], false, b) ((ds_T f n law 200).1 0 (fun _ => -1) b) := lm_top hn hb ((lm_fuel 200 0 (by decide)).1 (by decide) _ b)
end LM
/-! the reference's words and signs, by the tokens -/
section LA
variable {f : Int → Int} {n b : Int} {s t : lf_Z}
theorem la_mlU : ∀ (w v : List Int) (p : Int), w.length = v.length → lx_ml f w p = true → lx_ml f v p = true → w = v := by
  intro w
  induction w with
  | nil =>
    intro v p h _ _
    cases v with
    | nil => rfl
    | cons d v => cases h
  | cons c w ih =>
    intro v p h a b
    cases v with
    | nil => cases h
    | cons d v =>
      have a : (decide (f p = c) && lx_ml f w (p + 1)) = true := a
      have b : (decide (f p = d) && lx_ml f v (p + 1)) = true := b
      rw [Bool.and_eq_true, decide_eq_true_eq] at a b
      rw [List.length_cons, List.length_cons] at h
      rw [← a.1, ← b.1, ih v (p + 1) (by omega) a.2 b.2]
theorem la_mU {p e : Int} {w v : List Int} (a : lx_m f p e w = true) (c : lx_m f p e v = true) : w = v := by
  unfold lx_m at a c
  rw [Bool.and_eq_true, decide_eq_true_eq] at a c
  exact la_mlU w v p (by omega) a.2 c.2
theorem la_wfB {p e : Int} : ∀ (ws : List (List Int)) (k : Int), lx_wf f p e ws k = 1 ∨ k ≤ lx_wf f p e ws k := by
  intro ws
  induction ws with
  | nil => intro k; exact Or.inl rfl
  | cons w ws ih =>
    intro k
    show (if lx_m f p e w = true then k else lx_wf f p e ws (k + 1)) = 1 ∨ k ≤ (if lx_m f p e w = true then k else lx_wf f p e ws (k + 1))
    by_cases hm : lx_m f p e w = true
    · rw [if_pos hm]; exact Or.inr (Int.le_refl _)
    · rw [if_neg hm]
      rcases ih (k + 1) with q | q
      · exact Or.inl q
      · exact Or.inr (by omega)
theorem la_wf {p e : Int} {w : List Int} : ∀ (ws : List (List Int)) (k : Int) (i : Nat), 2 ≤ k → ws[i]? = some w → (∀ j, j < i → ws[j]? ≠ some w) → (lx_wf f p e ws k = k + i ↔ lx_m f p e w = true) := by
  intro ws
  induction ws with
  | nil => intro k i _ h _; simp at h
  | cons v ws ih =>
    intro k i hk h hn
    show (if lx_m f p e v = true then k else lx_wf f p e ws (k + 1)) = k + i ↔ _
    cases i with
    | zero =>
      have h : v = w := by simpa using h
      subst h
      by_cases c : lx_m f p e v = true
      · rw [if_pos c]; exact ⟨fun _ => c, fun _ => by omega⟩
      · rw [if_neg c]
        refine ⟨fun q => ?_, fun q => absurd q c⟩
        rcases la_wfB (f := f) (p := p) (e := e) ws (k + 1) with z | z <;> omega
    | succ i =>
      have h : ws[i]? = some w := by simpa using h
      have hv : v ≠ w := fun q => hn 0 (Nat.succ_pos i) (by rw [q]; rfl)
      by_cases c : lx_m f p e v = true
      · rw [if_pos c]
        exact ⟨fun q => by omega, fun q => absurd (la_mU c q) hv⟩
      · rw [if_neg c]
        have := ih (k + 1) i (by omega) h (fun j hj => by have := hn (j + 1) (by omega); simpa using this)
        rw [show k + ((i + 1 : Nat) : Int) = k + 1 + (i : Nat) by omega]
        exact this
/-! signs -/
def la_kt (t k : Int) : Prop := (t = 0 ∧ k = 0) ∨ (t = 2 ∧ k = 1) ∨ (k = 2 ∧ (t = 1 ∨ t = 3 ∨ 20 ≤ t)) ∨ (t = 4 ∧ k = 60) ∨ (t = 5 ∧ k = 4) ∨ (t = 6 ∧ k = 62) ∨ (t = 7 ∧ k = 5) ∨ (t = 8 ∧ k = 61) ∨ (t = 9 ∧ k = 35) ∨ (t = 10 ∧ k = 43) ∨ (t = 11 ∧ k = 45) ∨ (t = 12 ∧ k = 42) ∨ (t = 13 ∧ k = 47) ∨ (t = 14 ∧ k = 40) ∨ (t = 15 ∧ k = 41) ∨ (t = 16 ∧ k = 59) ∨ (t = 1 ∧ k = 3)
theorem la_sg {c : Int} : la_kt (lx_sg c 0) (if lx_si c = true then c else 3) := by
  by_cases h1 : c = 35
  · subst h1; unfold la_kt; decide
  by_cases h2 : c = 40
  · subst h2; unfold la_kt; decide
  by_cases h3 : c = 41
  · subst h3; unfold la_kt; decide
  by_cases h4 : c = 42
  · subst h4; unfold la_kt; decide
  by_cases h5 : c = 43
  · subst h5; unfold la_kt; decide
  by_cases h6 : c = 45
  · subst h6; unfold la_kt; decide
  by_cases h7 : c = 47
  · subst h7; unfold la_kt; decide
  by_cases h8 : c = 59
  · subst h8; unfold la_kt; decide
  by_cases h9 : c = 60
  · subst h9; unfold la_kt; decide
  by_cases h10 : c = 61
  · subst h10; unfold la_kt; decide
  by_cases h11 : c = 62
  · subst h11; unfold la_kt; decide
  have e1 : lx_si c = false := by
    unfold lx_si
    rw [decide_eq_false h1, decide_eq_false h2, decide_eq_false h3, decide_eq_false h4, decide_eq_false h5, decide_eq_false h6, decide_eq_false h7, decide_eq_false h8, decide_eq_false h9, decide_eq_false h10, decide_eq_false h11]; rfl
  have e2 : lx_sg c 0 = 1 := by
    unfold lx_sg
    rw [if_neg h9, if_neg h11, if_neg h10, if_neg h1, if_neg h5, if_neg h6, if_neg h4, if_neg h7, if_neg h2, if_neg h3, if_neg h8]
  rw [e1, e2, if_neg (by decide)]
  unfold la_kt; decide
theorem la_KT : la_kt (lx_T f n b) (lx_K f n b) := by
  by_cases c : n ≤ b
  · rw [(lx_Tz c).1, show lx_K f n b = 0 from if_pos c]
    unfold la_kt; decide
  · cases d : lx_dg (f b) with
    | true =>
      rw [(lx_Td (by omega) d).1, show lx_K f n b = 1 by unfold lx_K; rw [if_neg c, if_pos d]]
      unfold la_kt; decide
    | false =>
      have d' : ¬ lx_dg (f b) = true := by rw [d]; decide
      cases l : lx_lt (f b) with
      | true =>
        rw [show lx_K f n b = 2 by unfold lx_K; rw [if_neg c, if_neg d', if_pos l]]
        have : lx_T f n b = 1 ∨ lx_T f n b = 3 ∨ 20 ≤ lx_T f n b := by
          rw [(lx_Tl (by omega) d l).1]
          by_cases q : lx_run lx_lt f n b = b + 1 ∧ 97 ≤ f b
          · rw [if_pos q]; exact Or.inr (Or.inl rfl)
          · rw [if_neg q]
            rcases lx_WB (f := f) (b := b) (e := lx_run lx_lt f n b) with z | z
            · exact Or.inl z
            · exact Or.inr (Or.inr z)
        exact Or.inr (Or.inr (Or.inl ⟨rfl, this⟩))
      | false =>
        have l' : ¬ lx_lt (f b) = true := by rw [l]; decide
        rw [(lx_Ts (by omega) d l).1]
        cases w : lx_two f n b with
        | true =>
          rw [show lx_K f n b = (if f b = 60 then 4 else 5) by unfold lx_K; rw [if_neg c, if_neg d', if_neg l', if_pos w]]
          have : f b = 60 ∨ f b = 62 := by
            unfold lx_two at w
            rw [Bool.and_eq_true, Bool.or_eq_true, decide_eq_true_eq, decide_eq_true_eq] at w
            exact w.2
          rcases this with q | q <;> rw [q] <;> unfold la_kt <;> decide
        | false =>
          rw [show lx_K f n b = (if lx_si (f b) = true then f b else 3) by unfold lx_K; rw [if_neg c, if_neg d', if_neg l', w]; rfl]
          exact la_sg
/-! words -/
theorem la_K2 (h : lx_K f n b = 2) : b < n ∧ lx_dg (f b) = false ∧ lx_lt (f b) = true := by
  unfold lx_K at h
  by_cases c : n ≤ b
  · rw [if_pos c] at h; cases h
  · rw [if_neg c] at h
    cases d : lx_dg (f b) with
    | true => rw [d] at h; cases h
    | false =>
      rw [d] at h
      cases l : lx_lt (f b) with
      | true => exact ⟨by omega, rfl, rfl⟩
      | false =>
        exfalso
        rw [l] at h
        cases w : lx_two f n b with
        | true =>
          rw [w] at h
          by_cases q : f b = 60
          · rw [if_neg (by decide), if_neg (by decide), if_pos rfl, if_pos q] at h; cases h
          · rw [if_neg (by decide), if_neg (by decide), if_pos rfl, if_neg q] at h; cases h
        | false =>
          rw [w, if_neg (by decide), if_neg (by decide), if_neg (by decide)] at h
          by_cases q : lx_si (f b) = true
          · rw [if_pos q] at h
            rw [h] at q; revert q; decide
          · rw [if_neg q] at h; cases h
theorem la_rnA {P : Int → Bool} : ∀ (k : Nat) (p j : Int), p ≤ j → j < lx_rn P f n k p → j < n ∧ P (f j) = true := by
  intro k
  induction k with
  | zero =>
    intro p j h1 h2
    have h2 : j < p := h2
    omega
  | succ k ih =>
    intro p j h1 h2
    have h2 : j < (if p < n ∧ P (f p) = true then lx_rn P f n k (p + 1) else p) := h2
    by_cases c : p < n ∧ P (f p) = true
    · rw [if_pos c] at h2
      by_cases e : j = p
      · rw [e]; exact c
      · exact ih (p + 1) j (by omega) h2
    · rw [if_neg c] at h2; omega
theorem la_runA {P : Int → Bool} {p j : Int} (h1 : p ≤ j) (h2 : j < lx_run P f n p) : j < n ∧ P (f j) = true := la_rnA _ p j h1 h2
def la_r (i : Nat) : List Int := (lx_WL.getD i []).reverse
theorem la_okA : ∀ i, i < 37 → lx_WL[i]? = some (la_r i).reverse ∧ (∀ j, j < i → lx_WL[j]? ≠ some (la_r i).reverse) ∧ (∀ c ∈ la_r i, 1 ≤ c ∧ c ≤ 255) ∧ 2 ≤ (la_r i).length ∧ (la_r i).length ≤ 7 := by decide +kernel
/-- the reference stands at b -/
def la_B (f : Int → Int) (n b : Int) (s : lf_Z) : Prop := s.1 99 = f ∧ s.1 95 4 = n ∧ rt_at s b ∧ 0 ≤ b ∧ cl_tp f n
theorem la_Bk (h : la_B f n b s) : la_kt (lx_T f n b) (s.1 95 9) := by
  obtain ⟨h1, h2, h3, _⟩ := h
  rw [h3.2.1, h1, h2]; exact la_KT
theorem la_w (h : la_B f n b s) {i : Nat} (hi : i < 37) : (s.1 95 9 = 2 ∧ lf_wl (s.2.1 95 11) = lx_pkr (la_r i)) ↔ lx_T f n b = 20 + i := by
  have KT := la_Bk h
  obtain ⟨h1, h2, ⟨r8, r9, r7, r10, r11⟩, h0, hb⟩ := h
  rw [h1, h2] at r9 r7 r10 r11
  obtain ⟨o1, o2, o3, o4, o5⟩ := la_okA i hi
  by_cases k2 : s.1 95 9 = 2
  · obtain ⟨a1, a2, a3⟩ := la_K2 (r9.symm.trans k2)
    have r11 := r11 k2
    obtain ⟨t1, t2, _⟩ := lx_Tl a1 a2 a3
    rw [t2] at r11
    have hrun := lx_runB (P := lx_lt) (f := f) (n := n) (p := b)
    have hby : lx_by (lx_rv f b (lx_run lx_lt f n b - b).toNat) := lx_byR hb _ h0 (fun j hj => la_runA (p := b) (j := b + j) (by omega) (by omega))
    have W := lx_wvM (f := f) (p := b) (m := (lx_run lx_lt f n b - b).toNat) (l := la_r i) hby o3 o5
    have WF := la_wf (f := f) (p := b) (e := lx_run lx_lt f n b) lx_WL 20 i (by decide) o1 o2
    have M : lx_m f b (lx_run lx_lt f n b) (la_r i).reverse = true ↔ ((lx_run lx_lt f n b - b).toNat = (la_r i).length ∧ lx_ml f (la_r i).reverse b = true) := by
      unfold lx_m
      rw [Bool.and_eq_true, decide_eq_true_eq, List.length_reverse]
      exact ⟨fun q => ⟨by have := q.1; omega, q.2⟩, fun q => ⟨by have := q.1; omega, q.2⟩⟩
    rw [t1]
    refine ⟨fun q => ?_, fun q => ⟨k2, ?_⟩⟩
    · have q2 := W.mp (r11.symm.trans q.2)
      rw [if_neg (by omega)]
      exact WF.mpr (M.mpr q2)
    · by_cases c : lx_run lx_lt f n b = b + 1 ∧ 97 ≤ f b
      · rw [if_pos c] at q; omega
      · rw [if_neg c] at q
        exact r11.trans (W.mpr (M.mp (WF.mp q)))
  · refine ⟨fun q => absurd q.1 k2, fun q => ?_⟩
    rw [q] at KT
    unfold la_kt at KT
    omega
def la_2 (a b : Int) : Int := lf_lor (lf_lshl a 8) b
def la_3 (a b c : Int) : Int := lf_lor (lf_lshl (lf_wl (la_2 a b)) 8) c
def la_4 (a b c d : Int) : Int := lf_lor (lf_lshl (lf_wl (la_3 a b c)) 8) d
def la_5 (a b c d e : Int) : Int := lf_lor (lf_lshl (lf_wl (la_4 a b c d)) 8) e
def la_6 (a b c d e g : Int) : Int := lf_lor (lf_lshl (lf_wl (la_5 a b c d e)) 8) g
section RU
variable {a1 a2 a3 a4 a5 a6 : Int} {Q : Int → lf_Z → Prop}
theorem fl_206 (h : Q (la_2 a1 a2) s) : fw_206 a1 a2 Q s := by unfold fw_206; exact fun _ _ => h
theorem fl_205 (h : Q (la_3 a1 a2 a3) s) : fw_205 a1 a2 a3 Q s := by unfold fw_205; exact fl_206 (fun _ => h)
theorem fl_204 (h : Q (la_4 a1 a2 a3 a4) s) : fw_204 a1 a2 a3 a4 Q s := by unfold fw_204; exact fl_205 (fun _ => h)
theorem fl_208 (h : Q (la_5 a1 a2 a3 a4 a5) s) : fw_208 a1 a2 a3 a4 a5 Q s := by unfold fw_208; exact fl_204 (fun _ => h)
theorem fl_209 (h : Q (la_6 a1 a2 a3 a4 a5 a6) s) : fw_209 a1 a2 a3 a4 a5 a6 Q s := by unfold fw_209; exact fl_208 (fun _ => h)
end RU
theorem fl_183 {a0 a1 a2 : Int} {Q : Bool → lf_Z → Prop} (h : Q (decide (a1 ≤ a0) && decide (a0 ≤ a2)) s) : fw_183 a0 a1 a2 Q s := by
  unfold fw_183
  intro _ _
  refine ⟨fun c => ?_, fun c _ => ⟨fun d => ?_, fun d => ?_⟩⟩
  · rw [decide_eq_false (show ¬ a1 ≤ a0 by omega)] at h; exact h
  · rw [decide_eq_false (show ¬ a0 ≤ a2 by omega), Bool.and_false] at h; exact h
  · rw [decide_eq_true (show a1 ≤ a0 by omega), decide_eq_true (show a0 ≤ a2 by omega)] at h; exact h
/-- whether the word at hand is the i-th -/
theorem fl_207 {a : Int} {Q : Bool → lf_Z → Prop} (h : la_B f n b s) (i : Nat) (hi : i < 37) (ha : lf_wl a = lx_pkr (la_r i)) (k : Q (decide (lx_T f n b = 20 + (i : Int))) s) : fw_207 a Q s := by
  have W := la_w h hi
  unfold fw_207
  intro _
  rw [ha]
  refine ⟨fun c => ?_, fun c => ⟨fun d => ?_, fun d => ?_⟩⟩
  · rw [decide_eq_false (fun q => c (W.mpr q).1)] at k; exact k
  · rw [decide_eq_false (fun q => d (W.mpr q).2)] at k; exact k
  · rw [decide_eq_true (W.mp ⟨Classical.not_not.mp c, Classical.not_not.mp d⟩)] at k; exact k
theorem la_ne (h : la_B f n b s) (k2 : s.1 95 9 = 2) {a : Int} (i : Nat) (hi : i < 37) (ha : lf_wl a = lx_pkr (la_r i)) : lf_wl (s.2.1 95 11) ≠ lf_wl a ↔ ¬ lx_T f n b = 20 + (i : Int) := by
  have W := la_w h hi
  rw [ha]
  exact ⟨fun c q => c (W.mpr q).2, fun c q => c (W.mp ⟨k2, q⟩)⟩
/-- the letter that stands alone -/
theorem la_T3 (h : lx_T f n b = 3) : b < n ∧ lx_dg (f b) = false ∧ lx_lt (f b) = true ∧ lx_run lx_lt f n b = b + 1 ∧ 97 ≤ f b ∧ f b ≤ 122 := by
  by_cases c : n ≤ b
  · rw [(lx_Tz c).1] at h; cases h
  · cases d : lx_dg (f b) with
    | true => rw [(lx_Td (by omega) d).1] at h; cases h
    | false =>
      cases l : lx_lt (f b) with
      | false => rw [(lx_Ts (by omega) d l).1] at h; exact absurd h lx_sgB.2.1
      | true =>
        rw [(lx_Tl (by omega) d l).1] at h
        by_cases q : lx_run lx_lt f n b = b + 1 ∧ 97 ≤ f b
        · refine ⟨by omega, rfl, rfl, q.1, q.2, ?_⟩
          unfold lx_lt at l
          rw [Bool.or_eq_true, Bool.and_eq_true, Bool.and_eq_true, decide_eq_true_eq, decide_eq_true_eq, decide_eq_true_eq, decide_eq_true_eq] at l
          omega
        · rw [if_neg q] at h
          rcases lx_WB (f := f) (b := b) (e := lx_run lx_lt f n b) with z | z <;> omega
theorem la_V3 (h : lx_T f n b = 3) : 0 ≤ lx_V f n b ∧ lx_V f n b < 26 := by
  obtain ⟨_, d, _, _, h1, h2⟩ := la_T3 h
  unfold lx_V
  rw [if_neg (by rw [d]; decide)]
  omega
theorem fl_232 {Q : Int → lf_Z → Prop} (h : la_B f n b s) (k : ∀ v : Int, v = (if lx_T f n b = 3 then lx_V f n b else -1) → Q v s) : fw_232 Q s := by
  have KT := la_Bk h
  have h' := h
  obtain ⟨h1, h2, ⟨r8, r9, r7, r10, r11⟩, h0, hb⟩ := h'
  rw [h1, h2] at r9 r7
  unfold fw_232
  intro _
  refine ⟨fun c => k _ ?_, fun c _ => ?_⟩
  · rw [if_neg (fun q => ?_)]
    rw [q] at KT
    unfold la_kt at KT
    omega
  · obtain ⟨a1, a2, a3⟩ := la_K2 (r9.symm.trans (Classical.not_not.mp c))
    obtain ⟨t1, t2, t3⟩ := lx_Tl a1 a2 a3
    rw [t2] at r7
    refine ⟨fun d => k _ ?_, fun d => fl_198 ?_⟩
    · rw [if_neg (fun q => ?_)]
      have := (la_T3 q).2.2.2.1
      omega
    · rw [h1, h2, r8, if_neg (by omega)]
      refine fl_183 ⟨fun e => k _ ?_, fun e => fl_198 ?_⟩
      · rw [if_neg (fun q => ?_)]
        have := la_T3 q
        rw [decide_eq_true this.2.2.2.2.1, decide_eq_true this.2.2.2.2.2] at e
        cases e
      · rw [h1, h2, r8, if_neg (by omega)]
        rw [Bool.and_eq_true, decide_eq_true_eq, decide_eq_true_eq] at e
        refine k _ ?_
        rw [t1, if_pos (show lx_run lx_lt f n b = b + 1 ∧ 97 ≤ f b from ⟨by omega, e.1⟩), if_pos rfl, t3]
/-- the sort of a clause -/
theorem fl_203 {Q : Int → lf_Z → Prop} (h : la_B f n b s) (k : ∀ v : Int, v = (if 20 ≤ lx_T f n b ∧ lx_T f n b ≤ 32 then lx_T f n b - 20 else -1) → Q v s) : fw_203 Q s := by
  unfold fw_203
  refine fl_204 (fl_207 h 0 (by decide) (by decide +kernel) ⟨fun z0 => ?_, fun z => k _ ?_⟩)
  rotate_left
  · have z := of_decide_eq_true z
    rw [if_pos (by omega)]; omega
  have z0 := of_decide_eq_false z0
  refine fl_208 (fl_207 h 1 (by decide) (by decide +kernel) ⟨fun z1 => ?_, fun z => k _ ?_⟩)
  rotate_left
  · have z := of_decide_eq_true z
    rw [if_pos (by omega)]; omega
  have z1 := of_decide_eq_false z1
  refine fl_204 (fl_207 h 2 (by decide) (by decide +kernel) ⟨fun z2 => ?_, fun z => k _ ?_⟩)
  rotate_left
  · have z := of_decide_eq_true z
    rw [if_pos (by omega)]; omega
  have z2 := of_decide_eq_false z2
  refine fl_205 (fl_204 (fl_207 h 3 (by decide) (by decide +kernel) ⟨fun z3 => ?_, fun z => k _ ?_⟩))
  rotate_left
  · have z := of_decide_eq_true z
    rw [if_pos (by omega)]; omega
  have z3 := of_decide_eq_false z3
  refine fl_205 (fl_207 h 4 (by decide) (by decide +kernel) ⟨fun z4 => ?_, fun z => k _ ?_⟩)
  rotate_left
  · have z := of_decide_eq_true z
    rw [if_pos (by omega)]; omega
  have z4 := of_decide_eq_false z4
  refine fl_204 (fl_207 h 5 (by decide) (by decide +kernel) ⟨fun z5 => ?_, fun z => k _ ?_⟩)
  rotate_left
  · have z := of_decide_eq_true z
    rw [if_pos (by omega)]; omega
  have z5 := of_decide_eq_false z5
  refine fl_205 (fl_207 h 6 (by decide) (by decide +kernel) ⟨fun z6 => ?_, fun z => k _ ?_⟩)
  rotate_left
  · have z := of_decide_eq_true z
    rw [if_pos (by omega)]; omega
  have z6 := of_decide_eq_false z6
  refine fl_208 (fl_207 h 7 (by decide) (by decide +kernel) ⟨fun z7 => ?_, fun z => k _ ?_⟩)
  rotate_left
  · have z := of_decide_eq_true z
    rw [if_pos (by omega)]; omega
  have z7 := of_decide_eq_false z7
  refine fl_204 (fl_207 h 8 (by decide) (by decide +kernel) ⟨fun z8 => ?_, fun z => k _ ?_⟩)
  rotate_left
  · have z := of_decide_eq_true z
    rw [if_pos (by omega)]; omega
  have z8 := of_decide_eq_false z8
  refine fl_204 (fl_207 h 9 (by decide) (by decide +kernel) ⟨fun z9 => ?_, fun z => k _ ?_⟩)
  rotate_left
  · have z := of_decide_eq_true z
    rw [if_pos (by omega)]; omega
  have z9 := of_decide_eq_false z9
  refine fl_204 (fl_207 h 10 (by decide) (by decide +kernel) ⟨fun z10 => ?_, fun z => k _ ?_⟩)
  rotate_left
  · have z := of_decide_eq_true z
    rw [if_pos (by omega)]; omega
  have z10 := of_decide_eq_false z10
  refine fl_208 (fl_207 h 11 (by decide) (by decide +kernel) ⟨fun z11 => ?_, fun z => k _ ?_⟩)
  rotate_left
  · have z := of_decide_eq_true z
    rw [if_pos (by omega)]; omega
  have z11 := of_decide_eq_false z11
  refine fl_209 (fl_207 h 12 (by decide) (by decide +kernel) ⟨fun z12 => ?_, fun z => k _ ?_⟩)
  rotate_left
  · have z := of_decide_eq_true z
    rw [if_pos (by omega)]; omega
  have z12 := of_decide_eq_false z12
  refine k _ ?_
  rw [if_neg (by omega)]
/-- the name -/
def la_nm (t : Int) : Int := if t = 24 then 9 else if t = 56 then 10 else if 47 ≤ t ∧ t ≤ 55 then t - 47 else -1
theorem fl_230 {Q : Int → lf_Z → Prop} (h : la_B f n b s) (k : ∀ v : Int, v = la_nm (lx_T f n b) → Q v s) : fw_230 Q s := by
  have KT := la_Bk h
  unfold fw_230
  intro _
  refine ⟨fun k2 => ?_, fun k2 => k _ ?_⟩
  rotate_left
  · unfold la_kt at KT
    unfold la_nm
    (repeat' split) <;> omega
  refine fl_204 ⟨fun z27 => ?_, fun z => k _ ?_⟩
  rotate_left
  · have z := Classical.not_not.mp (fun q => z ((la_ne h k2 27 (by decide) (by decide +kernel)).mpr q))
    unfold la_nm
    (repeat' split) <;> omega
  have z27 := (la_ne h k2 27 (by decide) (by decide +kernel)).mp z27
  refine fl_208 ⟨fun z28 => ?_, fun z => k _ ?_⟩
  rotate_left
  · have z := Classical.not_not.mp (fun q => z ((la_ne h k2 28 (by decide) (by decide +kernel)).mpr q))
    unfold la_nm
    (repeat' split) <;> omega
  have z28 := (la_ne h k2 28 (by decide) (by decide +kernel)).mp z28
  refine fl_204 ⟨fun z29 => ?_, fun z => k _ ?_⟩
  rotate_left
  · have z := Classical.not_not.mp (fun q => z ((la_ne h k2 29 (by decide) (by decide +kernel)).mpr q))
    unfold la_nm
    (repeat' split) <;> omega
  have z29 := (la_ne h k2 29 (by decide) (by decide +kernel)).mp z29
  refine fl_204 ⟨fun z30 => ?_, fun z => k _ ?_⟩
  rotate_left
  · have z := Classical.not_not.mp (fun q => z ((la_ne h k2 30 (by decide) (by decide +kernel)).mpr q))
    unfold la_nm
    (repeat' split) <;> omega
  have z30 := (la_ne h k2 30 (by decide) (by decide +kernel)).mp z30
  refine fl_209 ⟨fun z31 => ?_, fun z => k _ ?_⟩
  rotate_left
  · have z := Classical.not_not.mp (fun q => z ((la_ne h k2 31 (by decide) (by decide +kernel)).mpr q))
    unfold la_nm
    (repeat' split) <;> omega
  have z31 := (la_ne h k2 31 (by decide) (by decide +kernel)).mp z31
  refine fl_208 ⟨fun z32 => ?_, fun z => k _ ?_⟩
  rotate_left
  · have z := Classical.not_not.mp (fun q => z ((la_ne h k2 32 (by decide) (by decide +kernel)).mpr q))
    unfold la_nm
    (repeat' split) <;> omega
  have z32 := (la_ne h k2 32 (by decide) (by decide +kernel)).mp z32
  refine fl_208 ⟨fun z33 => ?_, fun z => k _ ?_⟩
  rotate_left
  · have z := Classical.not_not.mp (fun q => z ((la_ne h k2 33 (by decide) (by decide +kernel)).mpr q))
    unfold la_nm
    (repeat' split) <;> omega
  have z33 := (la_ne h k2 33 (by decide) (by decide +kernel)).mp z33
  refine fl_209 ⟨fun z34 => ?_, fun z => k _ ?_⟩
  rotate_left
  · have z := Classical.not_not.mp (fun q => z ((la_ne h k2 34 (by decide) (by decide +kernel)).mpr q))
    unfold la_nm
    (repeat' split) <;> omega
  have z34 := (la_ne h k2 34 (by decide) (by decide +kernel)).mp z34
  refine fl_204 ⟨fun z35 => ?_, fun z => k _ ?_⟩
  rotate_left
  · have z := Classical.not_not.mp (fun q => z ((la_ne h k2 35 (by decide) (by decide +kernel)).mpr q))
    unfold la_nm
    (repeat' split) <;> omega
  have z35 := (la_ne h k2 35 (by decide) (by decide +kernel)).mp z35
  refine fl_205 ⟨fun z4 => ?_, fun z => k _ ?_⟩
  rotate_left
  · have z := Classical.not_not.mp (fun q => z ((la_ne h k2 4 (by decide) (by decide +kernel)).mpr q))
    unfold la_nm
    (repeat' split) <;> omega
  have z4 := (la_ne h k2 4 (by decide) (by decide +kernel)).mp z4
  refine fl_204 ⟨fun z36 => ?_, fun z => k _ ?_⟩
  rotate_left
  · have z := Classical.not_not.mp (fun q => z ((la_ne h k2 36 (by decide) (by decide +kernel)).mpr q))
    unfold la_nm
    (repeat' split) <;> omega
  have z36 := (la_ne h k2 36 (by decide) (by decide +kernel)).mp z36
  refine k _ ?_
  unfold la_nm
  (repeat' split) <;> omega
end LA
