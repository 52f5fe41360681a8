def fw_263_p40 (Q : Int → lf_Z → Prop) (y1 : Int) (y2 : Int) (s : lf_Z) : Prop := (0 ≤ y1 ∧ y1 < 11) → (fw_267 (s.1 96 8) 0 1 2 (fun r35 s34 => (Q r35 s34)) (lf_up s.1 104 y1 y2, s.2.1, s.2.2))
theorem cj_263_p40 {Q1 Q2 Q3 : Int → lf_Z → Prop} {y1 : Int} {y2 : Int} {s : lf_Z} (hQ : ∀ (r : Int) (s : lf_Z), Q1 r s → Q2 r s → Q3 r s) (h1 : fm_263_p40 Q1 y1 y2 s) (h2 : fw_263_p40 Q2 y1 y2 s) : fm_263_p40 Q3 y1 y2 s := by
  unfold fm_263_p40 at h1 ⊢
  unfold fw_263_p40 at h2
  exact ⟨h1.1, cj_267 (fun r35 s34 k2 l2 => hQ _ _  k2 l2) h1.2 (h2 h1.1)⟩
def fw_263 (a1 : Int) (Q : Int → lf_Z → Prop) (s : lf_Z) : Prop := fw_242 a1 (fun r22 s21 => (fw_255 a1 (fun r24 s23 => (fw_264 r22 r24 (fun s25 => (fw_256 a1 (fun r27 s26 => (lf_R r27 → ((0 ≤ r27 → (fw_256 a1 (fun r30 s29 => (fw_266 r30 (fun r32 s31 => (fw_263_p40 Q 4 r32 s31)) s29)) s26)) ∧ (¬ (0 ≤ r27) → (fw_263_p40 Q 4 0 s26))))) s25)) s23)) s21)) s
theorem cj_263 {Q1 Q2 Q3 : Int → lf_Z → Prop} {a1 : Int} {s : lf_Z} (hQ : ∀ (r : Int) (s : lf_Z), Q1 r s → Q2 r s → Q3 r s) (h1 : fm_263 a1 Q1 s) (h2 : fw_263 a1 Q2 s) : fm_263 a1 Q3 s := by
  unfold fm_263 at h1 ⊢
  unfold fw_263 at h2
  exact cj_242 (fun r22 s21 k1 l1 => cj_255 (fun r24 s23 k2 l2 => cj_264 (fun s25 k3 l3 => cj_256 (fun r27 s26 k4 l4 => ⟨k4.1, ⟨(fun c6 => cj_256 (fun r30 s29 k7 l7 => cj_266 (fun r32 s31 k8 l8 => cj_263_p40 hQ k8 l8) k7 l7) (k4.2.1 c6) ((l4 k4.1).1 c6)), (fun c6 => cj_263_p40 hQ (k4.2.2 c6) ((l4 k4.1).2 c6))⟩⟩) k3 l3) k2 l2) k1 l1) h1 h2
def fw_252 (a1 : Int) (Q : Bool → lf_Z → Prop) (s : lf_Z) : Prop := (0 ≤ (50 + (4 * a1)) + 2 ∧ (50 + (4 * a1)) + 2 < 1538) → (lf_R (s.1 96 ((50 + (4 * a1)) + 2)) → ((s.1 96 ((50 + (4 * a1)) + 2) ≠ 1 → (Q false s)) ∧ (¬ (s.1 96 ((50 + (4 * a1)) + 2) ≠ 1) → (Q true s))))
theorem cj_252 {Q1 Q2 Q3 : Bool → lf_Z → Prop} {a1 : Int} {s : lf_Z} (hQ : ∀ (r : Bool) (s : lf_Z), Q1 r s → Q2 r s → Q3 r s) (h1 : fm_252 a1 Q1 s) (h2 : fw_252 a1 Q2 s) : fm_252 a1 Q3 s := by
  unfold fm_252 at h1 ⊢
  unfold fw_252 at h2
  exact ⟨h1.1, ⟨h1.2.1, ⟨(fun c3 => hQ _ _  (h1.2.2.1 c3) (((h2 h1.1) h1.2.1).1 c3)), (fun c3 => hQ _ _  (h1.2.2.2 c3) (((h2 h1.1) h1.2.1).2 c3))⟩⟩⟩
def fw_239c (a1 : Int) (a2 : Int) (Q : Int → lf_Z → Prop) (s : lf_Z) : Prop := (0 ≤ (126 + (6 * a1)) + a2 ∧ (126 + (6 * a1)) + a2 < 1538) → (Q (s.1 96 ((126 + (6 * a1)) + a2)) s)
theorem cj_239c {Q1 Q2 Q3 : Int → lf_Z → Prop} {a1 : Int} {a2 : Int} {s : lf_Z} (hQ : ∀ (r : Int) (s : lf_Z), Q1 r s → Q2 r s → Q3 r s) (h1 : fm_239c a1 a2 Q1 s) (h2 : fw_239c a1 a2 Q2 s) : fm_239c a1 a2 Q3 s := by
  unfold fm_239c at h1 ⊢
  unfold fw_239c at h2
  exact ⟨h1.1, hQ _ _  h1.2 (h2 h1.1)⟩
def fw_274_p61 (X27 : Int → Int → lf_Z → Prop) (Q : Int → lf_Z → Prop) (x1 : Int) (x2 : Int) (x4 : Int) (y0 : Int) (y1 : Int) (s : lf_Z) : Prop := X27 (lf_w (y0 + y1)) (x4 + 1) s
theorem cj_274_p61 {X271 X272 X273 : Int → Int → lf_Z → Prop} {Q1 Q2 Q3 : Int → lf_Z → Prop} {x1 : Int} {x2 : Int} {x4 : Int} {y0 : Int} {y1 : Int} {s : lf_Z} (hX27 : ∀ (v0 : Int) (v1 : Int) (v2 : lf_Z), X271 v0 v1 v2 → X272 v0 v1 v2 → X273 v0 v1 v2) (hQ : ∀ (r : Int) (s : lf_Z), Q1 r s → Q2 r s → Q3 r s) (h1 : fm_274_p61 X271 Q1 x1 x2 x4 y0 y1 s) (h2 : fw_274_p61 X272 Q2 x1 x2 x4 y0 y1 s) : fm_274_p61 X273 Q3 x1 x2 x4 y0 y1 s := by
  unfold fm_274_p61 at h1 ⊢
  unfold fw_274_p61 at h2
  exact hX27 _ _ _  h1 h2
def fw_274_p27 (Q : Int → lf_Z → Prop) (x1 : Int) (x2 : Int) (X27 : Int → Int → lf_Z → Prop) (x3 : Int) (x4 : Int) (s : lf_Z) : Prop := lf_R x4 → (lf_R (s.1 96 2) → ((s.1 96 2 ≤ x4 → (Q x3 s)) ∧ (¬ (s.1 96 2 ≤ x4) → (fw_239 x4 (fun r26 s25 => (lf_R r26 → (lf_R x1 → ((r26 ≠ x1 → (fw_274_p61 X27 Q x1 x2 x4 x3 0 s25)) ∧ (¬ (r26 ≠ x1) → (fw_239c x4 x2 (fun r30 s29 => (fw_274_p61 X27 Q x1 x2 x4 x3 r30 s29)) s25)))))) s))))
theorem cj_274_p27 {X271 X272 X273 : Int → Int → lf_Z → Prop} {Q1 Q2 Q3 : Int → lf_Z → Prop} {x1 : Int} {x2 : Int} {x3 : Int} {x4 : Int} {s : lf_Z} (hX27 : ∀ (v0 : Int) (v1 : Int) (v2 : lf_Z), X271 v0 v1 v2 → X272 v0 v1 v2 → X273 v0 v1 v2) (hQ : ∀ (r : Int) (s : lf_Z), Q1 r s → Q2 r s → Q3 r s) (h1 : fm_274_p27 Q1 x1 x2 X271 x3 x4 s) (h2 : fw_274_p27 Q2 x1 x2 X272 x3 x4 s) : fm_274_p27 Q3 x1 x2 X273 x3 x4 s := by
  unfold fm_274_p27 at h1 ⊢
  unfold fw_274_p27 at h2
  exact ⟨h1.1, ⟨h1.2.1, ⟨(fun c3 => hQ _ _  (h1.2.2.1 c3) (((h2 h1.1) h1.2.1).1 c3)), (fun c3 => cj_239 (fun r26 s25 k5 l5 => ⟨k5.1, ⟨k5.2.1, ⟨(fun c8 => cj_274_p61 hX27 hQ (k5.2.2.1 c8) (((l5 k5.1) k5.2.1).1 c8)), (fun c8 => cj_239c (fun r30 s29 k10 l10 => cj_274_p61 hX27 hQ k10 l10) (k5.2.2.2 c8) (((l5 k5.1) k5.2.1).2 c8))⟩⟩⟩) (h1.2.2.2 c3) (((h2 h1.1) h1.2.1).2 c3))⟩⟩⟩
def fw_274_p27L (Q : Int → lf_Z → Prop) (x1 : Int) (x2 : Int) (x3 : Int) (x4 : Int) (s : lf_Z) : Prop := ∃ X27 : Int → Int → lf_Z → Prop, (∀ (x3 : Int) (x4 : Int) (s : lf_Z), X27 x3 x4 s → fw_274_p27 Q x1 x2 X27 x3 x4 s) ∧ X27 x3 x4 s
theorem cj_274_p27L {Q1 Q2 Q3 : Int → lf_Z → Prop} {x1 : Int} {x2 : Int} {x3 : Int} {x4 : Int} {s : lf_Z} (hQ : ∀ (r : Int) (s : lf_Z), Q1 r s → Q2 r s → Q3 r s) (h1 : fm_274_p27L Q1 x1 x2 x3 x4 s) (h2 : fw_274_p27L Q2 x1 x2 x3 x4 s) : fm_274_p27L Q3 x1 x2 x3 x4 s := by
  intro X0 hX0
  obtain ⟨Y, hY, hY0⟩ := h2
  exact h1 (fun v0 v1 s => Y v0 v1 s → X0 v0 v1 s) (fun v0 v1 s hb hy => hX0 v0 v1 s (cj_274_p27 (X271 := fun v0 v1 s => Y v0 v1 s → X0 v0 v1 s) (X272 := Y) (X273 := X0) (hX27 := fun v0 v1 s a b => a b) hQ hb (hY v0 v1 s hy))) hY0
def fw_274_p23 (Q : Int → lf_Z → Prop) (x1 : Int) (x2 : Int) (y0 : Int) (s : lf_Z) : Prop := fw_274_p27L Q x1 x2 y0 0 s
theorem cj_274_p23 {Q1 Q2 Q3 : Int → lf_Z → Prop} {x1 : Int} {x2 : Int} {y0 : Int} {s : lf_Z} (hQ : ∀ (r : Int) (s : lf_Z), Q1 r s → Q2 r s → Q3 r s) (h1 : fm_274_p23 Q1 x1 x2 y0 s) (h2 : fw_274_p23 Q2 x1 x2 y0 s) : fm_274_p23 Q3 x1 x2 y0 s := by
  unfold fm_274_p23 at h1 ⊢
  unfold fw_274_p23 at h2
  exact cj_274_p27L hQ h1 h2
def fw_274_p22 (Q : Int → lf_Z → Prop) (x1 : Int) (x2 : Int) (s : lf_Z) : Prop := fw_274_p23 Q x1 x2 0 s
theorem cj_274_p22 {Q1 Q2 Q3 : Int → lf_Z → Prop} {x1 : Int} {x2 : Int} {s : lf_Z} (hQ : ∀ (r : Int) (s : lf_Z), Q1 r s → Q2 r s → Q3 r s) (h1 : fm_274_p22 Q1 x1 x2 s) (h2 : fw_274_p22 Q2 x1 x2 s) : fm_274_p22 Q3 x1 x2 s := by
  unfold fm_274_p22 at h1 ⊢
  unfold fw_274_p22 at h2
  exact cj_274_p23 hQ h1 h2
def fw_274 (a1 : Int) (a2 : Int) (Q : Int → lf_Z → Prop) (s : lf_Z) : Prop := fw_210 (s.1 95 29) a1 (fun z22 s21 => ((z22 = false → (fw_274_p22 Q a1 a2 s21)) ∧ (z22 = true → (lf_R a2 → ((a2 ≠ 0 → (fw_274_p22 Q a1 a2 s21)) ∧ (¬ (a2 ≠ 0) → (fw_274_p23 Q a1 a2 (s21.1 95 30) s21))))))) s
theorem cj_274 {Q1 Q2 Q3 : Int → lf_Z → Prop} {a1 : Int} {a2 : Int} {s : lf_Z} (hQ : ∀ (r : Int) (s : lf_Z), Q1 r s → Q2 r s → Q3 r s) (h1 : fm_274 a1 a2 Q1 s) (h2 : fw_274 a1 a2 Q2 s) : fm_274 a1 a2 Q3 s := by
  unfold fm_274 at h1 ⊢
  unfold fw_274 at h2
  exact cj_210 (fun z22 s21 k1 l1 => ⟨(fun c2 => cj_274_p22 hQ (k1.1 c2) (l1.1 c2)), (fun c2 => ⟨(k1.2 c2).1, ⟨(fun c5 => cj_274_p22 hQ ((k1.2 c2).2.1 c5) (((l1.2 c2) (k1.2 c2).1).1 c5)), (fun c5 => cj_274_p23 hQ ((k1.2 c2).2.2 c5) (((l1.2 c2) (k1.2 c2).1).2 c5))⟩⟩)⟩) h1 h2
def fw_273_p143 (Q : Int → lf_Z → Prop) (y1 : Int) (y2 : Int) (y3 : Int) (s : lf_Z) : Prop := fw_267 y1 y2 y3 10 (fun r41 s40 => (Q r41 s40)) s
theorem cj_273_p143 {Q1 Q2 Q3 : Int → lf_Z → Prop} {y1 : Int} {y2 : Int} {y3 : Int} {s : lf_Z} (hQ : ∀ (r : Int) (s : lf_Z), Q1 r s → Q2 r s → Q3 r s) (h1 : fm_273_p143 Q1 y1 y2 y3 s) (h2 : fw_273_p143 Q2 y1 y2 y3 s) : fm_273_p143 Q3 y1 y2 y3 s := by
  unfold fm_273_p143 at h1 ⊢
  unfold fw_273_p143 at h2
  exact cj_267 (fun r41 s40 k1 l1 => hQ _ _  k1 l1) h1 h2
def fw_273_p109 (Q : Int → lf_Z → Prop) (x4 : Int) (y1 : Int) (y2 : Int) (s : lf_Z) : Prop := (0 ≤ y1 ∧ y1 < 11) → (lf_R ((lf_up s.1 104 y1 y2) 104 6) → (((lf_up s.1 104 y1 y2) 104 6 ≤ 0 → (fw_273_p143 Q (s.1 96 8) 1 5 (lf_up (lf_up s.1 104 y1 y2) 104 9 x4, s.2.1, s.2.2))) ∧ (¬ ((lf_up s.1 104 y1 y2) 104 6 ≤ 0) → (fw_273_p143 Q (s.1 96 8) 1 0 (lf_up (lf_up s.1 104 y1 y2) 104 9 x4, s.2.1, s.2.2)))))
theorem cj_273_p109 {Q1 Q2 Q3 : Int → lf_Z → Prop} {x4 : Int} {y1 : Int} {y2 : Int} {s : lf_Z} (hQ : ∀ (r : Int) (s : lf_Z), Q1 r s → Q2 r s → Q3 r s) (h1 : fm_273_p109 Q1 x4 y1 y2 s) (h2 : fw_273_p109 Q2 x4 y1 y2 s) : fm_273_p109 Q3 x4 y1 y2 s := by
  unfold fm_273_p109 at h1 ⊢
  unfold fw_273_p109 at h2
  exact ⟨h1.1, ⟨h1.2.1, ⟨(fun c3 => cj_273_p143 hQ (h1.2.2.1 c3) (((h2 h1.1) h1.2.1).1 c3)), (fun c3 => cj_273_p143 hQ (h1.2.2.2 c3) (((h2 h1.1) h1.2.1).2 c3))⟩⟩⟩
def fw_273 (a1 : Int) (a2 : Int) (a3 : Int) (a4 : Int) (Q : Int → lf_Z → Prop) (s : lf_Z) : Prop := fw_187 a4 a2 (fun r22 s21 => (lf_R r22 → ((r22 < 0 → (Q 0 s21)) ∧ (¬ (r22 < 0) → (fw_252 a4 (fun z25 s24 => ((z25 = true → (Q 0 s24)) ∧ (z25 = false → (fw_245 a4 (fun z27 s26 => ((z27 = false → (Q 0 s26)) ∧ (z27 = true → (fw_210 (s26.1 95 31) a4 (fun z29 s28 => ((z29 = false → (fw_264 a1 a2 (fun s30 => (fw_265 r22 (fun r32 s31 => (fw_274 r22 0 (fun r34 s33 => (fw_274 r22 2 (fun r36 s35 => (lf_R a3 → ((r22 ≠ a3 → (fw_273_p109 Q a4 8 0 (lf_up s35.1 104 7 r36, s35.2.1, s35.2.2))) ∧ (¬ (r22 ≠ a3) → (fw_273_p109 Q a4 8 1 (lf_up s35.1 104 7 r36, s35.2.1, s35.2.2)))))) (lf_up s33.1 104 6 r34, s33.2.1, s33.2.2))) (lf_up s31.1 104 5 r32, s31.2.1, s31.2.2))) s30)) s28)) ∧ (z29 = true → (Q 0 s28)))) s26)))) s24)))) s21))))) s
theorem cj_273 {Q1 Q2 Q3 : Int → lf_Z → Prop} {a1 : Int} {a2 : Int} {a3 : Int} {a4 : Int} {s : lf_Z} (hQ : ∀ (r : Int) (s : lf_Z), Q1 r s → Q2 r s → Q3 r s) (h1 : fm_273 a1 a2 a3 a4 Q1 s) (h2 : fw_273 a1 a2 a3 a4 Q2 s) : fm_273 a1 a2 a3 a4 Q3 s := by
  unfold fm_273 at h1 ⊢
  unfold fw_273 at h2
  exact cj_187 (fun r22 s21 k1 l1 => ⟨k1.1, ⟨(fun c3 => hQ _ _  (k1.2.1 c3) ((l1 k1.1).1 c3)), (fun c3 => cj_252 (fun z25 s24 k5 l5 => ⟨(fun c6 => hQ _ _  (k5.1 c6) (l5.1 c6)), (fun c6 => cj_245 (fun z27 s26 k8 l8 => ⟨(fun c9 => hQ _ _  (k8.1 c9) (l8.1 c9)), (fun c9 => cj_210 (fun z29 s28 k11 l11 => ⟨(fun c12 => cj_264 (fun s30 k13 l13 => cj_265 (fun r32 s31 k14 l14 => cj_274 (fun r34 s33 k15 l15 => cj_274 (fun r36 s35 k16 l16 => ⟨k16.1, ⟨(fun c18 => cj_273_p109 hQ (k16.2.1 c18) ((l16 k16.1).1 c18)), (fun c18 => cj_273_p109 hQ (k16.2.2 c18) ((l16 k16.1).2 c18))⟩⟩) k15 l15) k14 l14) k13 l13) (k11.1 c12) (l11.1 c12)), (fun c12 => hQ _ _  (k11.2 c12) (l11.2 c12))⟩) (k8.2 c9) (l8.2 c9))⟩) (k5.2 c6) (l5.2 c6))⟩) (k1.2.2 c3) ((l1 k1.1).2 c3))⟩⟩) h1 h2
def fw_276 (Q : lf_Z → Prop) (s : lf_Z) : Prop := lf_R (((s.1 96 6) * 239) + 137) → (Q (lf_up s.1 96 6 ((((s.1 96 6) * 239) + 137).tmod 30203), s.2.1, s.2.2))
theorem cj_276 {Q1 Q2 Q3 : lf_Z → Prop} {s : lf_Z} (hQ : ∀ (s : lf_Z), Q1 s → Q2 s → Q3 s) (h1 : fm_276 Q1 s) (h2 : fw_276 Q2 s) : fm_276 Q3 s := by
  unfold fm_276 at h1 ⊢
  unfold fw_276 at h2
  exact ⟨h1.1, hQ _  h1.2 (h2 h1.1)⟩
def fw_275 (a1 : Int) (Q : Int → lf_Z → Prop) (s : lf_Z) : Prop := lf_R (s.1 96 6) → (lf_R a1 → (a1 ≠ 0 → (fw_276 (fun s24 => (Q ((s.1 96 6).tmod a1) s24)) s)))
theorem cj_275 {Q1 Q2 Q3 : Int → lf_Z → Prop} {a1 : Int} {s : lf_Z} (hQ : ∀ (r : Int) (s : lf_Z), Q1 r s → Q2 r s → Q3 r s) (h1 : fm_275 a1 Q1 s) (h2 : fw_275 a1 Q2 s) : fm_275 a1 Q3 s := by
  unfold fm_275 at h1 ⊢
  unfold fw_275 at h2
  exact ⟨h1.1, ⟨h1.2.1, ⟨h1.2.2.1, cj_276 (fun s24 k4 l4 => hQ _ _  k4 l4) h1.2.2.2 (((h2 h1.1) h1.2.1) h1.2.2.1)⟩⟩⟩
def fw_272_p80 (X8 : Int → lf_Z → Prop) (Q : lf_Z → Prop) (x1 : Int) (x2 : Int) (x3 : Int) (s : lf_Z) : Prop := X8 (x3 + 1) s
theorem cj_272_p80 {X81 X82 X83 : Int → lf_Z → Prop} {Q1 Q2 Q3 : lf_Z → Prop} {x1 : Int} {x2 : Int} {x3 : Int} {s : lf_Z} (hX8 : ∀ (v0 : Int) (v1 : lf_Z), X81 v0 v1 → X82 v0 v1 → X83 v0 v1) (hQ : ∀ (s : lf_Z), Q1 s → Q2 s → Q3 s) (h1 : fm_272_p80 X81 Q1 x1 x2 x3 s) (h2 : fw_272_p80 X82 Q2 x1 x2 x3 s) : fm_272_p80 X83 Q3 x1 x2 x3 s := by
  unfold fm_272_p80 at h1 ⊢
  unfold fw_272_p80 at h2
  exact hX8 _ _  h1 h2
def fw_272_p62 (Q : lf_Z → Prop) (x1 : Int) (x2 : Int) (x3 : Int) (s : lf_Z) : Prop := fw_242 x1 (fun r33 s32 => (fw_187 x3 x2 (fun r35 s34 => (fw_247 x1 r33 r35 x2 (fun s36 => (Q s36)) s34)) s32)) s
theorem cj_272_p62 {Q1 Q2 Q3 : lf_Z → Prop} {x1 : Int} {x2 : Int} {x3 : Int} {s : lf_Z} (hQ : ∀ (s : lf_Z), Q1 s → Q2 s → Q3 s) (h1 : fm_272_p62 Q1 x1 x2 x3 s) (h2 : fw_272_p62 Q2 x1 x2 x3 s) : fm_272_p62 Q3 x1 x2 x3 s := by
  unfold fm_272_p62 at h1 ⊢
  unfold fw_272_p62 at h2
  exact cj_242 (fun r33 s32 k1 l1 => cj_187 (fun r35 s34 k2 l2 => cj_247 (fun s36 k3 l3 => hQ _  k3 l3) k2 l2) k1 l1) h1 h2
def fw_272_p8 (Q : lf_Z → Prop) (x1 : Int) (x2 : Int) (X8 : Int → lf_Z → Prop) (x3 : Int) (s : lf_Z) : Prop := lf_R x3 → (lf_R (s.1 96 1) → ((s.1 96 1 ≤ x3 → (Q s)) ∧ (¬ (s.1 96 1 ≤ x3) → (fw_242 x1 (fun r26 s25 => (fw_256 x1 (fun r28 s27 => (fw_273 r26 x2 r28 x3 (fun r30 s29 => (lf_R r30 → ((r30 = 0 → (fw_272_p80 X8 Q x1 x2 x3 s29)) ∧ (¬ (r30 = 0) → ((10 ≤ r30 → (fw_272_p62 Q x1 x2 x3 s29)) ∧ (¬ (10 ≤ r30) → (fw_275 10 (fun r38 s37 => (lf_R r38 → ((r38 < r30 → (fw_272_p62 Q x1 x2 x3 s37)) ∧ (¬ (r38 < r30) → (fw_272_p80 X8 Q x1 x2 x3 s37))))) s29))))))) s27)) s25)) s))))
theorem cj_272_p8 {X81 X82 X83 : Int → lf_Z → Prop} {Q1 Q2 Q3 : lf_Z → Prop} {x1 : Int} {x2 : Int} {x3 : Int} {s : lf_Z} (hX8 : ∀ (v0 : Int) (v1 : lf_Z), X81 v0 v1 → X82 v0 v1 → X83 v0 v1) (hQ : ∀ (s : lf_Z), Q1 s → Q2 s → Q3 s) (h1 : fm_272_p8 Q1 x1 x2 X81 x3 s) (h2 : fw_272_p8 Q2 x1 x2 X82 x3 s) : fm_272_p8 Q3 x1 x2 X83 x3 s := by
  unfold fm_272_p8 at h1 ⊢
  unfold fw_272_p8 at h2
  exact ⟨h1.1, ⟨h1.2.1, ⟨(fun c3 => hQ _  (h1.2.2.1 c3) (((h2 h1.1) h1.2.1).1 c3)), (fun c3 => cj_242 (fun r26 s25 k5 l5 => cj_256 (fun r28 s27 k6 l6 => cj_273 (fun r30 s29 k7 l7 => ⟨k7.1, ⟨(fun c9 => cj_272_p80 hX8 hQ (k7.2.1 c9) ((l7 k7.1).1 c9)), (fun c9 => ⟨(fun c11 => cj_272_p62 hQ ((k7.2.2 c9).1 c11) (((l7 k7.1).2 c9).1 c11)), (fun c11 => cj_275 (fun r38 s37 k13 l13 => ⟨k13.1, ⟨(fun c15 => cj_272_p62 hQ (k13.2.1 c15) ((l13 k13.1).1 c15)), (fun c15 => cj_272_p80 hX8 hQ (k13.2.2 c15) ((l13 k13.1).2 c15))⟩⟩) ((k7.2.2 c9).2 c11) (((l7 k7.1).2 c9).2 c11))⟩)⟩⟩) k6 l6) k5 l5) (h1.2.2.2 c3) (((h2 h1.1) h1.2.1).2 c3))⟩⟩⟩
def fw_272_p8L (Q : lf_Z → Prop) (x1 : Int) (x2 : Int) (x3 : Int) (s : lf_Z) : Prop := ∃ X8 : Int → lf_Z → Prop, (∀ (x3 : Int) (s : lf_Z), X8 x3 s → fw_272_p8 Q x1 x2 X8 x3 s) ∧ X8 x3 s
theorem cj_272_p8L {Q1 Q2 Q3 : lf_Z → Prop} {x1 : Int} {x2 : Int} {x3 : Int} {s : lf_Z} (hQ : ∀ (s : lf_Z), Q1 s → Q2 s → Q3 s) (h1 : fm_272_p8L Q1 x1 x2 x3 s) (h2 : fw_272_p8L Q2 x1 x2 x3 s) : fm_272_p8L Q3 x1 x2 x3 s := by
  intro X0 hX0
  obtain ⟨Y, hY, hY0⟩ := h2
  exact h1 (fun v0 s => Y v0 s → X0 v0 s) (fun v0 s hb hy => hX0 v0 s (cj_272_p8 (X81 := fun v0 s => Y v0 s → X0 v0 s) (X82 := Y) (X83 := X0) (hX8 := fun v0 s a b => a b) hQ hb (hY v0 s hy))) hY0
def fw_272 (a1 : Int) (Q : lf_Z → Prop) (s : lf_Z) : Prop := fw_255 a1 (fun r22 s21 => (fw_272_p8L Q a1 r22 0 s21)) s
theorem cj_272 {Q1 Q2 Q3 : lf_Z → Prop} {a1 : Int} {s : lf_Z} (hQ : ∀ (s : lf_Z), Q1 s → Q2 s → Q3 s) (h1 : fm_272 a1 Q1 s) (h2 : fw_272 a1 Q2 s) : fm_272 a1 Q3 s := by
  unfold fm_272 at h1 ⊢
  unfold fw_272 at h2
  exact cj_255 (fun r22 s21 k1 l1 => cj_272_p8L hQ k1 l1) h1 h2
def fw_261_p174 (X34 : Int → lf_Z → Prop) (X47 : Int → lf_Z → Prop) (Q : lf_Z → Prop) (x2 : Int) (x3 : Int) (x4 : Int) (s : lf_Z) : Prop := X47 (x4 + 1) s
theorem cj_261_p174 {X341 X342 X343 : Int → lf_Z → Prop} {X471 X472 X473 : Int → lf_Z → Prop} {Q1 Q2 Q3 : lf_Z → Prop} {x2 : Int} {x3 : Int} {x4 : Int} {s : lf_Z} (hX34 : ∀ (v0 : Int) (v1 : lf_Z), X341 v0 v1 → X342 v0 v1 → X343 v0 v1) (hX47 : ∀ (v0 : Int) (v1 : lf_Z), X471 v0 v1 → X472 v0 v1 → X473 v0 v1) (hQ : ∀ (s : lf_Z), Q1 s → Q2 s → Q3 s) (h1 : fm_261_p174 X341 X471 Q1 x2 x3 x4 s) (h2 : fw_261_p174 X342 X472 Q2 x2 x3 x4 s) : fm_261_p174 X343 X473 Q3 x2 x3 x4 s := by
  unfold fm_261_p174 at h1 ⊢
  unfold fw_261_p174 at h2
  exact hX47 _ _  h1 h2
def fw_261_p139 (X34 : Int → lf_Z → Prop) (X47 : Int → lf_Z → Prop) (Q : lf_Z → Prop) (x2 : Int) (x3 : Int) (x4 : Int) (x5 : Int) (x6 : Int) (s : lf_Z) : Prop := (0 ≤ x6 ∧ x6 < 12) → ((0 ≤ x5 ∧ x5 < 12) → (lf_R ((s.1 108 x6) + 1) → (lf_R (s.1 108 x5) → ((s.1 108 x5 ≤ (s.1 108 x6) + 1 → (fw_261_p174 X34 X47 Q x2 x3 x4 s)) ∧ (¬ (s.1 108 x5 ≤ (s.1 108 x6) + 1) → (fw_261_p174 X34 X47 Q x2 x3 x4 (lf_up s.1 108 x5 ((s.1 108 x6) + 1), s.2.1, s.2.2)))))))
theorem cj_261_p139 {X341 X342 X343 : Int → lf_Z → Prop} {X471 X472 X473 : Int → lf_Z → Prop} {Q1 Q2 Q3 : lf_Z → Prop} {x2 : Int} {x3 : Int} {x4 : Int} {x5 : Int} {x6 : Int} {s : lf_Z} (hX34 : ∀ (v0 : Int) (v1 : lf_Z), X341 v0 v1 → X342 v0 v1 → X343 v0 v1) (hX47 : ∀ (v0 : Int) (v1 : lf_Z), X471 v0 v1 → X472 v0 v1 → X473 v0 v1) (hQ : ∀ (s : lf_Z), Q1 s → Q2 s → Q3 s) (h1 : fm_261_p139 X341 X471 Q1 x2 x3 x4 x5 x6 s) (h2 : fw_261_p139 X342 X472 Q2 x2 x3 x4 x5 x6 s) : fm_261_p139 X343 X473 Q3 x2 x3 x4 x5 x6 s := by
  unfold fm_261_p139 at h1 ⊢
  unfold fw_261_p139 at h2
  exact ⟨h1.1, ⟨h1.2.1, ⟨h1.2.2.1, ⟨h1.2.2.2.1, ⟨(fun c5 => cj_261_p174 hX34 hX47 hQ (h1.2.2.2.2.1 c5) (((((h2 h1.1) h1.2.1) h1.2.2.1) h1.2.2.2.1).1 c5)), (fun c5 => cj_261_p174 hX34 hX47 hQ (h1.2.2.2.2.2 c5) (((((h2 h1.1) h1.2.1) h1.2.2.1) h1.2.2.2.1).2 c5))⟩⟩⟩⟩⟩
def fw_261_p74 (X34 : Int → lf_Z → Prop) (X47 : Int → lf_Z → Prop) (Q : lf_Z → Prop) (x2 : Int) (x3 : Int) (x4 : Int) (s : lf_Z) : Prop := (0 ≤ 50 + (4 * x4) ∧ 50 + (4 * x4) < 1538) → ((0 ≤ (50 + (4 * x4)) + 1 ∧ (50 + (4 * x4)) + 1 < 1538) → ((0 ≤ s.1 96 (50 + (4 * x4)) ∧ s.1 96 (50 + (4 * x4)) < 12) → ((0 ≤ s.1 96 ((50 + (4 * x4)) + 1) ∧ s.1 96 ((50 + (4 * x4)) + 1) < 12) → (lf_R ((s.1 108 (s.1 96 (50 + (4 * x4)))) + 1) → (lf_R (s.1 108 (s.1 96 ((50 + (4 * x4)) + 1))) → ((s.1 108 (s.1 96 ((50 + (4 * x4)) + 1)) ≤ (s.1 108 (s.1 96 (50 + (4 * x4)))) + 1 → (fw_261_p139 X34 X47 Q x2 x3 x4 (s.1 96 (50 + (4 * x4))) (s.1 96 ((50 + (4 * x4)) + 1)) s)) ∧ (¬ (s.1 108 (s.1 96 ((50 + (4 * x4)) + 1)) ≤ (s.1 108 (s.1 96 (50 + (4 * x4)))) + 1) → (fw_261_p139 X34 X47 Q x2 x3 x4 (s.1 96 (50 + (4 * x4))) (s.1 96 ((50 + (4 * x4)) + 1)) (lf_up s.1 108 (s.1 96 ((50 + (4 * x4)) + 1)) ((s.1 108 (s.1 96 (50 + (4 * x4)))) + 1), s.2.1, s.2.2)))))))))
theorem cj_261_p74 {X341 X342 X343 : Int → lf_Z → Prop} {X471 X472 X473 : Int → lf_Z → Prop} {Q1 Q2 Q3 : lf_Z → Prop} {x2 : Int} {x3 : Int} {x4 : Int} {s : lf_Z} (hX34 : ∀ (v0 : Int) (v1 : lf_Z), X341 v0 v1 → X342 v0 v1 → X343 v0 v1) (hX47 : ∀ (v0 : Int) (v1 : lf_Z), X471 v0 v1 → X472 v0 v1 → X473 v0 v1) (hQ : ∀ (s : lf_Z), Q1 s → Q2 s → Q3 s) (h1 : fm_261_p74 X341 X471 Q1 x2 x3 x4 s) (h2 : fw_261_p74 X342 X472 Q2 x2 x3 x4 s) : fm_261_p74 X343 X473 Q3 x2 x3 x4 s := by
  unfold fm_261_p74 at h1 ⊢
  unfold fw_261_p74 at h2
  exact ⟨h1.1, ⟨h1.2.1, ⟨h1.2.2.1, ⟨h1.2.2.2.1, ⟨h1.2.2.2.2.1, ⟨h1.2.2.2.2.2.1, ⟨(fun c7 => cj_261_p139 hX34 hX47 hQ (h1.2.2.2.2.2.2.1 c7) (((((((h2 h1.1) h1.2.1) h1.2.2.1) h1.2.2.2.1) h1.2.2.2.2.1) h1.2.2.2.2.2.1).1 c7)), (fun c7 => cj_261_p139 hX34 hX47 hQ (h1.2.2.2.2.2.2.2 c7) (((((((h2 h1.1) h1.2.1) h1.2.2.1) h1.2.2.2.1) h1.2.2.2.2.1) h1.2.2.2.2.2.1).2 c7))⟩⟩⟩⟩⟩⟩⟩
def fw_261_p47 (X34 : Int → lf_Z → Prop) (Q : lf_Z → Prop) (x2 : Int) (x3 : Int) (X47 : Int → lf_Z → Prop) (x4 : Int) (s : lf_Z) : Prop := lf_R x4 → (lf_R (s.1 96 1) → ((s.1 96 1 ≤ x4 → (X34 (x3 + 1) s)) ∧ (¬ (s.1 96 1 ≤ x4) → (fw_252 x4 (fun z27 s26 => ((z27 = false → (fw_261_p74 X34 X47 Q x2 x3 x4 s26)) ∧ (z27 = true → (lf_R x2 → ((x2 ≠ 0 → (fw_261_p74 X34 X47 Q x2 x3 x4 s26)) ∧ (¬ (x2 ≠ 0) → (fw_261_p174 X34 X47 Q x2 x3 x4 s26))))))) s))))
theorem cj_261_p47 {X341 X342 X343 : Int → lf_Z → Prop} {X471 X472 X473 : Int → lf_Z → Prop} {Q1 Q2 Q3 : lf_Z → Prop} {x2 : Int} {x3 : Int} {x4 : Int} {s : lf_Z} (hX34 : ∀ (v0 : Int) (v1 : lf_Z), X341 v0 v1 → X342 v0 v1 → X343 v0 v1) (hX47 : ∀ (v0 : Int) (v1 : lf_Z), X471 v0 v1 → X472 v0 v1 → X473 v0 v1) (hQ : ∀ (s : lf_Z), Q1 s → Q2 s → Q3 s) (h1 : fm_261_p47 X341 Q1 x2 x3 X471 x4 s) (h2 : fw_261_p47 X342 Q2 x2 x3 X472 x4 s) : fm_261_p47 X343 Q3 x2 x3 X473 x4 s := by
  unfold fm_261_p47 at h1 ⊢
  unfold fw_261_p47 at h2
  exact ⟨h1.1, ⟨h1.2.1, ⟨(fun c3 => hX34 _ _  (h1.2.2.1 c3) (((h2 h1.1) h1.2.1).1 c3)), (fun c3 => cj_252 (fun z27 s26 k5 l5 => ⟨(fun c6 => cj_261_p74 hX34 hX47 hQ (k5.1 c6) (l5.1 c6)), (fun c6 => ⟨(k5.2 c6).1, ⟨(fun c9 => cj_261_p74 hX34 hX47 hQ ((k5.2 c6).2.1 c9) (((l5.2 c6) (k5.2 c6).1).1 c9)), (fun c9 => cj_261_p174 hX34 hX47 hQ ((k5.2 c6).2.2 c9) (((l5.2 c6) (k5.2 c6).1).2 c9))⟩⟩)⟩) (h1.2.2.2 c3) (((h2 h1.1) h1.2.1).2 c3))⟩⟩⟩
def fw_261_p47L (X34 : Int → lf_Z → Prop) (Q : lf_Z → Prop) (x2 : Int) (x3 : Int) (x4 : Int) (s : lf_Z) : Prop := ∃ X47 : Int → lf_Z → Prop, (∀ (x4 : Int) (s : lf_Z), X47 x4 s → fw_261_p47 X34 Q x2 x3 X47 x4 s) ∧ X47 x4 s
theorem cj_261_p47L {X341 X342 X343 : Int → lf_Z → Prop} {Q1 Q2 Q3 : lf_Z → Prop} {x2 : Int} {x3 : Int} {x4 : Int} {s : lf_Z} (hX34 : ∀ (v0 : Int) (v1 : lf_Z), X341 v0 v1 → X342 v0 v1 → X343 v0 v1) (hQ : ∀ (s : lf_Z), Q1 s → Q2 s → Q3 s) (h1 : fm_261_p47L X341 Q1 x2 x3 x4 s) (h2 : fw_261_p47L X342 Q2 x2 x3 x4 s) : fm_261_p47L X343 Q3 x2 x3 x4 s := by
  intro X0 hX0
  obtain ⟨Y, hY, hY0⟩ := h2
  exact h1 (fun v0 s => Y v0 s → X0 v0 s) (fun v0 s hb hy => hX0 v0 s (cj_261_p47 (hX34 := hX34) (X471 := fun v0 s => Y v0 s → X0 v0 s) (X472 := Y) (X473 := X0) (hX47 := fun v0 s a b => a b) hQ hb (hY v0 s hy))) hY0
def fw_261_p34 (Q : lf_Z → Prop) (x2 : Int) (X34 : Int → lf_Z → Prop) (x3 : Int) (s : lf_Z) : Prop := lf_R x3 → (lf_R (s.1 96 0) → ((s.1 96 0 ≤ x3 → (Q s)) ∧ (¬ (s.1 96 0 ≤ x3) → (fw_261_p47L X34 Q x2 x3 0 s))))
theorem cj_261_p34 {X341 X342 X343 : Int → lf_Z → Prop} {Q1 Q2 Q3 : lf_Z → Prop} {x2 : Int} {x3 : Int} {s : lf_Z} (hX34 : ∀ (v0 : Int) (v1 : lf_Z), X341 v0 v1 → X342 v0 v1 → X343 v0 v1) (hQ : ∀ (s : lf_Z), Q1 s → Q2 s → Q3 s) (h1 : fm_261_p34 Q1 x2 X341 x3 s) (h2 : fw_261_p34 Q2 x2 X342 x3 s) : fm_261_p34 Q3 x2 X343 x3 s := by
  unfold fm_261_p34 at h1 ⊢
  unfold fw_261_p34 at h2
  exact ⟨h1.1, ⟨h1.2.1, ⟨(fun c3 => hQ _  (h1.2.2.1 c3) (((h2 h1.1) h1.2.1).1 c3)), (fun c3 => cj_261_p47L hX34 hQ (h1.2.2.2 c3) (((h2 h1.1) h1.2.1).2 c3))⟩⟩⟩
def fw_261_p34L (Q : lf_Z → Prop) (x2 : Int) (x3 : Int) (s : lf_Z) : Prop := ∃ X34 : Int → lf_Z → Prop, (∀ (x3 : Int) (s : lf_Z), X34 x3 s → fw_261_p34 Q x2 X34 x3 s) ∧ X34 x3 s
theorem cj_261_p34L {Q1 Q2 Q3 : lf_Z → Prop} {x2 : Int} {x3 : Int} {s : lf_Z} (hQ : ∀ (s : lf_Z), Q1 s → Q2 s → Q3 s) (h1 : fm_261_p34L Q1 x2 x3 s) (h2 : fw_261_p34L Q2 x2 x3 s) : fm_261_p34L Q3 x2 x3 s := by
  intro X0 hX0
  obtain ⟨Y, hY, hY0⟩ := h2
  exact h1 (fun v0 s => Y v0 s → X0 v0 s) (fun v0 s hb hy => hX0 v0 s (cj_261_p34 (X341 := fun v0 s => Y v0 s → X0 v0 s) (X342 := Y) (X343 := X0) (hX34 := fun v0 s a b => a b) hQ hb (hY v0 s hy))) hY0
def fw_261_p25 (X2 : Int → lf_Z → Prop) (Q : lf_Z → Prop) (x1 : Int) (x2 : Int) (x3 : Int) (y1 : Int) (y2 : Int) (s : lf_Z) : Prop := (0 ≤ y1 ∧ y1 < 12) → (X2 (x3 + 1) (lf_up s.1 108 y1 y2, s.2.1, s.2.2))
theorem cj_261_p25 {X21 X22 X23 : Int → lf_Z → Prop} {Q1 Q2 Q3 : lf_Z → Prop} {x1 : Int} {x2 : Int} {x3 : Int} {y1 : Int} {y2 : Int} {s : lf_Z} (hX2 : ∀ (v0 : Int) (v1 : lf_Z), X21 v0 v1 → X22 v0 v1 → X23 v0 v1) (hQ : ∀ (s : lf_Z), Q1 s → Q2 s → Q3 s) (h1 : fm_261_p25 X21 Q1 x1 x2 x3 y1 y2 s) (h2 : fw_261_p25 X22 Q2 x1 x2 x3 y1 y2 s) : fm_261_p25 X23 Q3 x1 x2 x3 y1 y2 s := by
  unfold fm_261_p25 at h1 ⊢
  unfold fw_261_p25 at h2
  exact ⟨h1.1, hX2 _ _  h1.2 (h2 h1.1)⟩
def fw_261_p2 (Q : lf_Z → Prop) (x1 : Int) (x2 : Int) (X2 : Int → lf_Z → Prop) (x3 : Int) (s : lf_Z) : Prop := lf_R x3 → ((12 ≤ x3 → (fw_261_p34L Q x2 0 s)) ∧ (¬ (12 ≤ x3) → (lf_R x1 → ((x3 ≠ x1 → (fw_261_p25 X2 Q x1 x2 x3 x3 1000 s)) ∧ (¬ (x3 ≠ x1) → (fw_261_p25 X2 Q x1 x2 x3 x3 0 s))))))
theorem cj_261_p2 {X21 X22 X23 : Int → lf_Z → Prop} {Q1 Q2 Q3 : lf_Z → Prop} {x1 : Int} {x2 : Int} {x3 : Int} {s : lf_Z} (hX2 : ∀ (v0 : Int) (v1 : lf_Z), X21 v0 v1 → X22 v0 v1 → X23 v0 v1) (hQ : ∀ (s : lf_Z), Q1 s → Q2 s → Q3 s) (h1 : fm_261_p2 Q1 x1 x2 X21 x3 s) (h2 : fw_261_p2 Q2 x1 x2 X22 x3 s) : fm_261_p2 Q3 x1 x2 X23 x3 s := by
  unfold fm_261_p2 at h1 ⊢
  unfold fw_261_p2 at h2
  exact ⟨h1.1, ⟨(fun c2 => cj_261_p34L hQ (h1.2.1 c2) ((h2 h1.1).1 c2)), (fun c2 => ⟨(h1.2.2 c2).1, ⟨(fun c5 => cj_261_p25 hX2 hQ ((h1.2.2 c2).2.1 c5) ((((h2 h1.1).2 c2) (h1.2.2 c2).1).1 c5)), (fun c5 => cj_261_p25 hX2 hQ ((h1.2.2 c2).2.2 c5) ((((h2 h1.1).2 c2) (h1.2.2 c2).1).2 c5))⟩⟩)⟩⟩
def fw_261_p2L (Q : lf_Z → Prop) (x1 : Int) (x2 : Int) (x3 : Int) (s : lf_Z) : Prop := ∃ X2 : Int → lf_Z → Prop, (∀ (x3 : Int) (s : lf_Z), X2 x3 s → fw_261_p2 Q x1 x2 X2 x3 s) ∧ X2 x3 s
theorem cj_261_p2L {Q1 Q2 Q3 : lf_Z → Prop} {x1 : Int} {x2 : Int} {x3 : Int} {s : lf_Z} (hQ : ∀ (s : lf_Z), Q1 s → Q2 s → Q3 s) (h1 : fm_261_p2L Q1 x1 x2 x3 s) (h2 : fw_261_p2L Q2 x1 x2 x3 s) : fm_261_p2L Q3 x1 x2 x3 s := by
  intro X0 hX0
  obtain ⟨Y, hY, hY0⟩ := h2
  exact h1 (fun v0 s => Y v0 s → X0 v0 s) (fun v0 s hb hy => hX0 v0 s (cj_261_p2 (X21 := fun v0 s => Y v0 s → X0 v0 s) (X22 := Y) (X23 := X0) (hX2 := fun v0 s a b => a b) hQ hb (hY v0 s hy))) hY0
def fw_261 (a1 : Int) (a2 : Int) (Q : lf_Z → Prop) (s : lf_Z) : Prop := fw_261_p2L Q a1 a2 0 s
theorem cj_261 {Q1 Q2 Q3 : lf_Z → Prop} {a1 : Int} {a2 : Int} {s : lf_Z} (hQ : ∀ (s : lf_Z), Q1 s → Q2 s → Q3 s) (h1 : fm_261 a1 a2 Q1 s) (h2 : fw_261 a1 a2 Q2 s) : fm_261 a1 a2 Q3 s := by
  unfold fm_261 at h1 ⊢
  unfold fw_261 at h2
  exact cj_261_p2L hQ h1 h2
def fw_239d (a1 : Int) (Q : Int → lf_Z → Prop) (s : lf_Z) : Prop := (0 ≤ (126 + (6 * a1)) + 1 ∧ (126 + (6 * a1)) + 1 < 1538) → (Q (s.1 96 ((126 + (6 * a1)) + 1)) s)
theorem cj_239d {Q1 Q2 Q3 : Int → lf_Z → Prop} {a1 : Int} {s : lf_Z} (hQ : ∀ (r : Int) (s : lf_Z), Q1 r s → Q2 r s → Q3 r s) (h1 : fm_239d a1 Q1 s) (h2 : fw_239d a1 Q2 s) : fm_239d a1 Q3 s := by
  unfold fm_239d at h1 ⊢
  unfold fw_239d at h2
  exact ⟨h1.1, hQ _ _  h1.2 (h2 h1.1)⟩
def fw_262_p88 (X36 : Int → Int → lf_Z → Prop) (Q : lf_Z → Prop) (x1 : Int) (x2 : Int) (x3 : Int) (x4 : Int) (s : lf_Z) : Prop := X36 x3 (x4 + 1) s
theorem cj_262_p88 {X361 X362 X363 : Int → Int → lf_Z → Prop} {Q1 Q2 Q3 : lf_Z → Prop} {x1 : Int} {x2 : Int} {x3 : Int} {x4 : Int} {s : lf_Z} (hX36 : ∀ (v0 : Int) (v1 : Int) (v2 : lf_Z), X361 v0 v1 v2 → X362 v0 v1 v2 → X363 v0 v1 v2) (hQ : ∀ (s : lf_Z), Q1 s → Q2 s → Q3 s) (h1 : fm_262_p88 X361 Q1 x1 x2 x3 x4 s) (h2 : fw_262_p88 X362 Q2 x1 x2 x3 x4 s) : fm_262_p88 X363 Q3 x1 x2 x3 x4 s := by
  unfold fm_262_p88 at h1 ⊢
  unfold fw_262_p88 at h2
  exact hX36 _ _ _  h1 h2
def fw_262_p36 (Q : lf_Z → Prop) (x1 : Int) (x2 : Int) (X36 : Int → Int → lf_Z → Prop) (x3 : Int) (x4 : Int) (s : lf_Z) : Prop := lf_R x4 → (lf_R (s.1 96 1) → ((s.1 96 1 ≤ x4 → (fw_191d x1 x3 (fun s31 => (Q s31)) s)) ∧ (¬ (s.1 96 1 ≤ x4) → (fw_187 x4 x2 (fun r33 s32 => (lf_R r33 → ((r33 < 0 → (fw_262_p88 X36 Q x1 x2 x3 x4 s32)) ∧ (¬ (r33 < 0) → ((0 ≤ r33 ∧ r33 < 12) → ((0 ≤ x2 ∧ x2 < 12) → (lf_R (s32.1 108 r33) → (lf_R ((s32.1 108 x2) - 1) → ((s32.1 108 r33 ≠ (s32.1 108 x2) - 1 → (fw_262_p88 X36 Q x1 x2 x3 x4 s32)) ∧ (¬ (s32.1 108 r33 ≠ (s32.1 108 x2) - 1) → (lf_R x3 → ((x3 ≤ r33 → (fw_262_p88 X36 Q x1 x2 x3 x4 s32)) ∧ (¬ (x3 ≤ r33) → (fw_262_p88 X36 Q x1 x2 r33 x4 s32)))))))))))))) s))))
theorem cj_262_p36 {X361 X362 X363 : Int → Int → lf_Z → Prop} {Q1 Q2 Q3 : lf_Z → Prop} {x1 : Int} {x2 : Int} {x3 : Int} {x4 : Int} {s : lf_Z} (hX36 : ∀ (v0 : Int) (v1 : Int) (v2 : lf_Z), X361 v0 v1 v2 → X362 v0 v1 v2 → X363 v0 v1 v2) (hQ : ∀ (s : lf_Z), Q1 s → Q2 s → Q3 s) (h1 : fm_262_p36 Q1 x1 x2 X361 x3 x4 s) (h2 : fw_262_p36 Q2 x1 x2 X362 x3 x4 s) : fm_262_p36 Q3 x1 x2 X363 x3 x4 s := by
  unfold fm_262_p36 at h1 ⊢
  unfold fw_262_p36 at h2
  exact ⟨h1.1, ⟨h1.2.1, ⟨(fun c3 => cj_191d (fun s31 k4 l4 => hQ _  k4 l4) (h1.2.2.1 c3) (((h2 h1.1) h1.2.1).1 c3)), (fun c3 => cj_187 (fun r33 s32 k6 l6 => ⟨k6.1, ⟨(fun c8 => cj_262_p88 hX36 hQ (k6.2.1 c8) ((l6 k6.1).1 c8)), (fun c8 => ⟨(k6.2.2 c8).1, ⟨(k6.2.2 c8).2.1, ⟨(k6.2.2 c8).2.2.1, ⟨(k6.2.2 c8).2.2.2.1, ⟨(fun c14 => cj_262_p88 hX36 hQ ((k6.2.2 c8).2.2.2.2.1 c14) (((((((l6 k6.1).2 c8) (k6.2.2 c8).1) (k6.2.2 c8).2.1) (k6.2.2 c8).2.2.1) (k6.2.2 c8).2.2.2.1).1 c14)), (fun c14 => ⟨((k6.2.2 c8).2.2.2.2.2 c14).1, ⟨(fun c17 => cj_262_p88 hX36 hQ (((k6.2.2 c8).2.2.2.2.2 c14).2.1 c17) (((((((((l6 k6.1).2 c8) (k6.2.2 c8).1) (k6.2.2 c8).2.1) (k6.2.2 c8).2.2.1) (k6.2.2 c8).2.2.2.1).2 c14) ((k6.2.2 c8).2.2.2.2.2 c14).1).1 c17)), (fun c17 => cj_262_p88 hX36 hQ (((k6.2.2 c8).2.2.2.2.2 c14).2.2 c17) (((((((((l6 k6.1).2 c8) (k6.2.2 c8).1) (k6.2.2 c8).2.1) (k6.2.2 c8).2.2.1) (k6.2.2 c8).2.2.2.1).2 c14) ((k6.2.2 c8).2.2.2.2.2 c14).1).2 c17))⟩⟩)⟩⟩⟩⟩⟩)⟩⟩) (h1.2.2.2 c3) (((h2 h1.1) h1.2.1).2 c3))⟩⟩⟩
def fw_262_p36L (Q : lf_Z → Prop) (x1 : Int) (x2 : Int) (x3 : Int) (x4 : Int) (s : lf_Z) : Prop := ∃ X36 : Int → Int → lf_Z → Prop, (∀ (x3 : Int) (x4 : Int) (s : lf_Z), X36 x3 x4 s → fw_262_p36 Q x1 x2 X36 x3 x4 s) ∧ X36 x3 x4 s
theorem cj_262_p36L {Q1 Q2 Q3 : lf_Z → Prop} {x1 : Int} {x2 : Int} {x3 : Int} {x4 : Int} {s : lf_Z} (hQ : ∀ (s : lf_Z), Q1 s → Q2 s → Q3 s) (h1 : fm_262_p36L Q1 x1 x2 x3 x4 s) (h2 : fw_262_p36L Q2 x1 x2 x3 x4 s) : fm_262_p36L Q3 x1 x2 x3 x4 s := by
  intro X0 hX0
  obtain ⟨Y, hY, hY0⟩ := h2
  exact h1 (fun v0 v1 s => Y v0 v1 s → X0 v0 v1 s) (fun v0 v1 s hb hy => hX0 v0 v1 s (cj_262_p36 (X361 := fun v0 v1 s => Y v0 v1 s → X0 v0 v1 s) (X362 := Y) (X363 := X0) (hX36 := fun v0 v1 s a b => a b) hQ hb (hY v0 v1 s hy))) hY0
def fw_262 (a1 : Int) (Q : lf_Z → Prop) (s : lf_Z) : Prop := fw_239 a1 (fun r22 s21 => (fw_239b a1 (fun r24 s23 => (lf_R r22 → (lf_R r24 → ((r22 = r24 → (Q s23)) ∧ (¬ (r22 = r24) → ((0 ≤ r22 ∧ r22 < 12) → (lf_R (s23.1 108 r22) → ((s23.1 108 r22 < 1000 → (fw_262_p36L Q a1 r22 12 0 s23)) ∧ (¬ (s23.1 108 r22 < 1000) → (Q s23)))))))))) s21)) s
theorem cj_262 {Q1 Q2 Q3 : lf_Z → Prop} {a1 : Int} {s : lf_Z} (hQ : ∀ (s : lf_Z), Q1 s → Q2 s → Q3 s) (h1 : fm_262 a1 Q1 s) (h2 : fw_262 a1 Q2 s) : fm_262 a1 Q3 s := by
  unfold fm_262 at h1 ⊢
  unfold fw_262 at h2
  exact cj_239 (fun r22 s21 k1 l1 => cj_239b (fun r24 s23 k2 l2 => ⟨k2.1, ⟨k2.2.1, ⟨(fun c5 => hQ _  (k2.2.2.1 c5) (((l2 k2.1) k2.2.1).1 c5)), (fun c5 => ⟨(k2.2.2.2 c5).1, ⟨(k2.2.2.2 c5).2.1, ⟨(fun c9 => cj_262_p36L hQ ((k2.2.2.2 c5).2.2.1 c9) ((((((l2 k2.1) k2.2.1).2 c5) (k2.2.2.2 c5).1) (k2.2.2.2 c5).2.1).1 c9)), (fun c9 => hQ _  ((k2.2.2.2 c5).2.2.2 c9) ((((((l2 k2.1) k2.2.1).2 c5) (k2.2.2.2 c5).1) (k2.2.2.2 c5).2.1).2 c9))⟩⟩⟩)⟩⟩⟩) k1 l1) h1 h2
def fw_260_p163 (X115 : Int → lf_Z → Prop) (Q : lf_Z → Prop) (x1 : Int) (s : lf_Z) : Prop := X115 (x1 + 1) s
theorem cj_260_p163 {X1151 X1152 X1153 : Int → lf_Z → Prop} {Q1 Q2 Q3 : lf_Z → Prop} {x1 : Int} {s : lf_Z} (hX115 : ∀ (v0 : Int) (v1 : lf_Z), X1151 v0 v1 → X1152 v0 v1 → X1153 v0 v1) (hQ : ∀ (s : lf_Z), Q1 s → Q2 s → Q3 s) (h1 : fm_260_p163 X1151 Q1 x1 s) (h2 : fw_260_p163 X1152 Q2 x1 s) : fm_260_p163 X1153 Q3 x1 s := by
  unfold fm_260_p163 at h1 ⊢
  unfold fw_260_p163 at h2
  exact hX115 _ _  h1 h2
def fw_260_p115 (Q : lf_Z → Prop) (X115 : Int → lf_Z → Prop) (x1 : Int) (s : lf_Z) : Prop := lf_R x1 → ((4 ≤ x1 → (fw_278 (fun s25 => (Q (lf_up s25.1 96 3 (lf_w ((s25.1 96 3) + 1)), s25.2.1, s25.2.2))) s)) ∧ (¬ (4 ≤ x1) → (fw_242 x1 (fun r27 s26 => (lf_R r27 → ((r27 ≤ 0 → (fw_260_p163 X115 Q x1 s26)) ∧ (¬ (r27 ≤ 0) → (fw_255 x1 (fun r30 s29 => ((0 ≤ (14 + (3 * r30)) + 2 ∧ (14 + (3 * r30)) + 2 < 1538) → (fw_242 x1 (fun r33 s32 => (fw_255 x1 (fun r35 s34 => (fw_277 r35 (fun r37 s36 => (fw_260_p163 X115 Q x1 (lf_up s36.1 96 ((14 + (3 * r30)) + 2) (lf_w ((s29.1 96 ((14 + (3 * r30)) + 2)) + (r33 * r37))), s36.2.1, s36.2.2))) s34)) s32)) s29))) s26))))) s)))
theorem cj_260_p115 {X1151 X1152 X1153 : Int → lf_Z → Prop} {Q1 Q2 Q3 : lf_Z → Prop} {x1 : Int} {s : lf_Z} (hX115 : ∀ (v0 : Int) (v1 : lf_Z), X1151 v0 v1 → X1152 v0 v1 → X1153 v0 v1) (hQ : ∀ (s : lf_Z), Q1 s → Q2 s → Q3 s) (h1 : fm_260_p115 Q1 X1151 x1 s) (h2 : fw_260_p115 Q2 X1152 x1 s) : fm_260_p115 Q3 X1153 x1 s := by
  unfold fm_260_p115 at h1 ⊢
  unfold fw_260_p115 at h2
  exact ⟨h1.1, ⟨(fun c2 => cj_278 (fun s25 k3 l3 => hQ _  k3 l3) (h1.2.1 c2) ((h2 h1.1).1 c2)), (fun c2 => cj_242 (fun r27 s26 k5 l5 => ⟨k5.1, ⟨(fun c7 => cj_260_p163 hX115 hQ (k5.2.1 c7) ((l5 k5.1).1 c7)), (fun c7 => cj_255 (fun r30 s29 k9 l9 => ⟨k9.1, cj_242 (fun r33 s32 k11 l11 => cj_255 (fun r35 s34 k12 l12 => cj_277 (fun r37 s36 k13 l13 => cj_260_p163 hX115 hQ k13 l13) k12 l12) k11 l11) k9.2 (l9 k9.1)⟩) (k5.2.2 c7) ((l5 k5.1).2 c7))⟩⟩) (h1.2.2 c2) ((h2 h1.1).2 c2))⟩⟩
def fw_260_p115L (Q : lf_Z → Prop) (x1 : Int) (s : lf_Z) : Prop := ∃ X115 : Int → lf_Z → Prop, (∀ (x1 : Int) (s : lf_Z), X115 x1 s → fw_260_p115 Q X115 x1 s) ∧ X115 x1 s
theorem cj_260_p115L {Q1 Q2 Q3 : lf_Z → Prop} {x1 : Int} {s : lf_Z} (hQ : ∀ (s : lf_Z), Q1 s → Q2 s → Q3 s) (h1 : fm_260_p115L Q1 x1 s) (h2 : fw_260_p115L Q2 x1 s) : fm_260_p115L Q3 x1 s := by
  intro X0 hX0
  obtain ⟨Y, hY, hY0⟩ := h2
  exact h1 (fun v0 s => Y v0 s → X0 v0 s) (fun v0 s hb hy => hX0 v0 s (cj_260_p115 (X1151 := fun v0 s => Y v0 s → X0 v0 s) (X1152 := Y) (X1153 := X0) (hX115 := fun v0 s a b => a b) hQ hb (hY v0 s hy))) hY0
def fw_260_p107 (X67 : Int → lf_Z → Prop) (Q : lf_Z → Prop) (x1 : Int) (s : lf_Z) : Prop := X67 (x1 + 1) s
theorem cj_260_p107 {X671 X672 X673 : Int → lf_Z → Prop} {Q1 Q2 Q3 : lf_Z → Prop} {x1 : Int} {s : lf_Z} (hX67 : ∀ (v0 : Int) (v1 : lf_Z), X671 v0 v1 → X672 v0 v1 → X673 v0 v1) (hQ : ∀ (s : lf_Z), Q1 s → Q2 s → Q3 s) (h1 : fm_260_p107 X671 Q1 x1 s) (h2 : fw_260_p107 X672 Q2 x1 s) : fm_260_p107 X673 Q3 x1 s := by
  unfold fm_260_p107 at h1 ⊢
  unfold fw_260_p107 at h2
  exact hX67 _ _  h1 h2
def fw_260_p91 (X67 : Int → lf_Z → Prop) (Q : lf_Z → Prop) (x1 : Int) (x2 : Int) (X91 : Int → lf_Z → Prop) (x3 : Int) (s : lf_Z) : Prop := lf_R x3 → (lf_R x2 → ((x2 ≤ x3 → (fw_260_p107 X67 Q x1 s)) ∧ (¬ (x2 ≤ x3) → (fw_272 x1 (fun s45 => (X91 (x3 + 1) s45)) s))))
theorem cj_260_p91 {X671 X672 X673 : Int → lf_Z → Prop} {X911 X912 X913 : Int → lf_Z → Prop} {Q1 Q2 Q3 : lf_Z → Prop} {x1 : Int} {x2 : Int} {x3 : Int} {s : lf_Z} (hX67 : ∀ (v0 : Int) (v1 : lf_Z), X671 v0 v1 → X672 v0 v1 → X673 v0 v1) (hX91 : ∀ (v0 : Int) (v1 : lf_Z), X911 v0 v1 → X912 v0 v1 → X913 v0 v1) (hQ : ∀ (s : lf_Z), Q1 s → Q2 s → Q3 s) (h1 : fm_260_p91 X671 Q1 x1 x2 X911 x3 s) (h2 : fw_260_p91 X672 Q2 x1 x2 X912 x3 s) : fm_260_p91 X673 Q3 x1 x2 X913 x3 s := by
  unfold fm_260_p91 at h1 ⊢
  unfold fw_260_p91 at h2
  exact ⟨h1.1, ⟨h1.2.1, ⟨(fun c3 => cj_260_p107 hX67 hQ (h1.2.2.1 c3) (((h2 h1.1) h1.2.1).1 c3)), (fun c3 => cj_272 (fun s45 k5 l5 => hX91 _ _  k5 l5) (h1.2.2.2 c3) (((h2 h1.1) h1.2.1).2 c3))⟩⟩⟩
def fw_260_p91L (X67 : Int → lf_Z → Prop) (Q : lf_Z → Prop) (x1 : Int) (x2 : Int) (x3 : Int) (s : lf_Z) : Prop := ∃ X91 : Int → lf_Z → Prop, (∀ (x3 : Int) (s : lf_Z), X91 x3 s → fw_260_p91 X67 Q x1 x2 X91 x3 s) ∧ X91 x3 s
theorem cj_260_p91L {X671 X672 X673 : Int → lf_Z → Prop} {Q1 Q2 Q3 : lf_Z → Prop} {x1 : Int} {x2 : Int} {x3 : Int} {s : lf_Z} (hX67 : ∀ (v0 : Int) (v1 : lf_Z), X671 v0 v1 → X672 v0 v1 → X673 v0 v1) (hQ : ∀ (s : lf_Z), Q1 s → Q2 s → Q3 s) (h1 : fm_260_p91L X671 Q1 x1 x2 x3 s) (h2 : fw_260_p91L X672 Q2 x1 x2 x3 s) : fm_260_p91L X673 Q3 x1 x2 x3 s := by
  intro X0 hX0
  obtain ⟨Y, hY, hY0⟩ := h2
  exact h1 (fun v0 s => Y v0 s → X0 v0 s) (fun v0 s hb hy => hX0 v0 s (cj_260_p91 (hX67 := hX67) (X911 := fun v0 s => Y v0 s → X0 v0 s) (X912 := Y) (X913 := X0) (hX91 := fun v0 s a b => a b) hQ hb (hY v0 s hy))) hY0
def fw_260_p67 (Q : lf_Z → Prop) (X67 : Int → lf_Z → Prop) (x1 : Int) (s : lf_Z) : Prop := lf_R x1 → ((4 ≤ x1 → (fw_260_p115L Q 0 s)) ∧ (¬ (4 ≤ x1) → (fw_242 x1 (fun r39 s38 => (lf_R r39 → ((r39 ≠ 0 → (fw_263 x1 (fun r42 s41 => (fw_260_p91L X67 Q x1 r42 0 s41)) s38)) ∧ (¬ (r39 ≠ 0) → (fw_260_p107 X67 Q x1 s38))))) s)))
theorem cj_260_p67 {X671 X672 X673 : Int → lf_Z → Prop} {Q1 Q2 Q3 : lf_Z → Prop} {x1 : Int} {s : lf_Z} (hX67 : ∀ (v0 : Int) (v1 : lf_Z), X671 v0 v1 → X672 v0 v1 → X673 v0 v1) (hQ : ∀ (s : lf_Z), Q1 s → Q2 s → Q3 s) (h1 : fm_260_p67 Q1 X671 x1 s) (h2 : fw_260_p67 Q2 X672 x1 s) : fm_260_p67 Q3 X673 x1 s := by
  unfold fm_260_p67 at h1 ⊢
  unfold fw_260_p67 at h2
  exact ⟨h1.1, ⟨(fun c2 => cj_260_p115L hQ (h1.2.1 c2) ((h2 h1.1).1 c2)), (fun c2 => cj_242 (fun r39 s38 k4 l4 => ⟨k4.1, ⟨(fun c6 => cj_263 (fun r42 s41 k7 l7 => cj_260_p91L hX67 hQ k7 l7) (k4.2.1 c6) ((l4 k4.1).1 c6)), (fun c6 => cj_260_p107 hX67 hQ (k4.2.2 c6) ((l4 k4.1).2 c6))⟩⟩) (h1.2.2 c2) ((h2 h1.1).2 c2))⟩⟩
def fw_260_p67L (Q : lf_Z → Prop) (x1 : Int) (s : lf_Z) : Prop := ∃ X67 : Int → lf_Z → Prop, (∀ (x1 : Int) (s : lf_Z), X67 x1 s → fw_260_p67 Q X67 x1 s) ∧ X67 x1 s
theorem cj_260_p67L {Q1 Q2 Q3 : lf_Z → Prop} {x1 : Int} {s : lf_Z} (hQ : ∀ (s : lf_Z), Q1 s → Q2 s → Q3 s) (h1 : fm_260_p67L Q1 x1 s) (h2 : fw_260_p67L Q2 x1 s) : fm_260_p67L Q3 x1 s := by
  intro X0 hX0
  obtain ⟨Y, hY, hY0⟩ := h2
  exact h1 (fun v0 s => Y v0 s → X0 v0 s) (fun v0 s hb hy => hX0 v0 s (cj_260_p67 (X671 := fun v0 s => Y v0 s → X0 v0 s) (X672 := Y) (X673 := X0) (hX67 := fun v0 s a b => a b) hQ hb (hY v0 s hy))) hY0
def fw_260_p59 (X2 : Int → lf_Z → Prop) (Q : lf_Z → Prop) (x1 : Int) (s : lf_Z) : Prop := X2 (x1 + 1) s
theorem cj_260_p59 {X21 X22 X23 : Int → lf_Z → Prop} {Q1 Q2 Q3 : lf_Z → Prop} {x1 : Int} {s : lf_Z} (hX2 : ∀ (v0 : Int) (v1 : lf_Z), X21 v0 v1 → X22 v0 v1 → X23 v0 v1) (hQ : ∀ (s : lf_Z), Q1 s → Q2 s → Q3 s) (h1 : fm_260_p59 X21 Q1 x1 s) (h2 : fw_260_p59 X22 Q2 x1 s) : fm_260_p59 X23 Q3 x1 s := by
  unfold fm_260_p59 at h1 ⊢
  unfold fw_260_p59 at h2
  exact hX2 _ _  h1 h2
def fw_260_p38 (X2 : Int → lf_Z → Prop) (Q : lf_Z → Prop) (x1 : Int) (X38 : Int → lf_Z → Prop) (x2 : Int) (s : lf_Z) : Prop := fw_239d x1 (fun r53 s52 => (lf_R x2 → (lf_R r53 → ((r53 < x2 → (fw_260_p59 X2 Q x1 s52)) ∧ (¬ (r53 < x2) → (fw_262 x1 (fun s56 => (X38 (x2 + 1) s56)) s52)))))) s
theorem cj_260_p38 {X21 X22 X23 : Int → lf_Z → Prop} {X381 X382 X383 : Int → lf_Z → Prop} {Q1 Q2 Q3 : lf_Z → Prop} {x1 : Int} {x2 : Int} {s : lf_Z} (hX2 : ∀ (v0 : Int) (v1 : lf_Z), X21 v0 v1 → X22 v0 v1 → X23 v0 v1) (hX38 : ∀ (v0 : Int) (v1 : lf_Z), X381 v0 v1 → X382 v0 v1 → X383 v0 v1) (hQ : ∀ (s : lf_Z), Q1 s → Q2 s → Q3 s) (h1 : fm_260_p38 X21 Q1 x1 X381 x2 s) (h2 : fw_260_p38 X22 Q2 x1 X382 x2 s) : fm_260_p38 X23 Q3 x1 X383 x2 s := by
  unfold fm_260_p38 at h1 ⊢
  unfold fw_260_p38 at h2
  exact cj_239d (fun r53 s52 k1 l1 => ⟨k1.1, ⟨k1.2.1, ⟨(fun c4 => cj_260_p59 hX2 hQ (k1.2.2.1 c4) (((l1 k1.1) k1.2.1).1 c4)), (fun c4 => cj_262 (fun s56 k6 l6 => hX38 _ _  k6 l6) (k1.2.2.2 c4) (((l1 k1.1) k1.2.1).2 c4))⟩⟩⟩) h1 h2
def fw_260_p38L (X2 : Int → lf_Z → Prop) (Q : lf_Z → Prop) (x1 : Int) (x2 : Int) (s : lf_Z) : Prop := ∃ X38 : Int → lf_Z → Prop, (∀ (x2 : Int) (s : lf_Z), X38 x2 s → fw_260_p38 X2 Q x1 X38 x2 s) ∧ X38 x2 s
theorem cj_260_p38L {X21 X22 X23 : Int → lf_Z → Prop} {Q1 Q2 Q3 : lf_Z → Prop} {x1 : Int} {x2 : Int} {s : lf_Z} (hX2 : ∀ (v0 : Int) (v1 : lf_Z), X21 v0 v1 → X22 v0 v1 → X23 v0 v1) (hQ : ∀ (s : lf_Z), Q1 s → Q2 s → Q3 s) (h1 : fm_260_p38L X21 Q1 x1 x2 s) (h2 : fw_260_p38L X22 Q2 x1 x2 s) : fm_260_p38L X23 Q3 x1 x2 s := by
  intro X0 hX0
  obtain ⟨Y, hY, hY0⟩ := h2
  exact h1 (fun v0 s => Y v0 s → X0 v0 s) (fun v0 s hb hy => hX0 v0 s (cj_260_p38 (hX2 := hX2) (X381 := fun v0 s => Y v0 s → X0 v0 s) (X382 := Y) (X383 := X0) (hX38 := fun v0 s a b => a b) hQ hb (hY v0 s hy))) hY0
def fw_260_p2 (Q : lf_Z → Prop) (X2 : Int → lf_Z → Prop) (x1 : Int) (s : lf_Z) : Prop := lf_R x1 → (lf_R (s.1 96 2) → ((s.1 96 2 ≤ x1 → (fw_260_p67L Q 0 s)) ∧ (¬ (s.1 96 2 ≤ x1) → (fw_239b x1 (fun r47 s46 => (lf_R r47 → ((r47 ≠ (-1) → (fw_239b x1 (fun r50 s49 => (fw_261 r50 1 (fun s51 => (fw_260_p38L X2 Q x1 0 s51)) s49)) s46)) ∧ (¬ (r47 ≠ (-1)) → (fw_260_p59 X2 Q x1 s46))))) s))))
theorem cj_260_p2 {X21 X22 X23 : Int → lf_Z → Prop} {Q1 Q2 Q3 : lf_Z → Prop} {x1 : Int} {s : lf_Z} (hX2 : ∀ (v0 : Int) (v1 : lf_Z), X21 v0 v1 → X22 v0 v1 → X23 v0 v1) (hQ : ∀ (s : lf_Z), Q1 s → Q2 s → Q3 s) (h1 : fm_260_p2 Q1 X21 x1 s) (h2 : fw_260_p2 Q2 X22 x1 s) : fm_260_p2 Q3 X23 x1 s := by
  unfold fm_260_p2 at h1 ⊢
  unfold fw_260_p2 at h2
  exact ⟨h1.1, ⟨h1.2.1, ⟨(fun c3 => cj_260_p67L hQ (h1.2.2.1 c3) (((h2 h1.1) h1.2.1).1 c3)), (fun c3 => cj_239b (fun r47 s46 k5 l5 => ⟨k5.1, ⟨(fun c7 => cj_239b (fun r50 s49 k8 l8 => cj_261 (fun s51 k9 l9 => cj_260_p38L hX2 hQ k9 l9) k8 l8) (k5.2.1 c7) ((l5 k5.1).1 c7)), (fun c7 => cj_260_p59 hX2 hQ (k5.2.2 c7) ((l5 k5.1).2 c7))⟩⟩) (h1.2.2.2 c3) (((h2 h1.1) h1.2.1).2 c3))⟩⟩⟩
def fw_260_p2L (Q : lf_Z → Prop) (x1 : Int) (s : lf_Z) : Prop := ∃ X2 : Int → lf_Z → Prop, (∀ (x1 : Int) (s : lf_Z), X2 x1 s → fw_260_p2 Q X2 x1 s) ∧ X2 x1 s
theorem cj_260_p2L {Q1 Q2 Q3 : lf_Z → Prop} {x1 : Int} {s : lf_Z} (hQ : ∀ (s : lf_Z), Q1 s → Q2 s → Q3 s) (h1 : fm_260_p2L Q1 x1 s) (h2 : fw_260_p2L Q2 x1 s) : fm_260_p2L Q3 x1 s := by
  intro X0 hX0
  obtain ⟨Y, hY, hY0⟩ := h2
  exact h1 (fun v0 s => Y v0 s → X0 v0 s) (fun v0 s hb hy => hX0 v0 s (cj_260_p2 (X21 := fun v0 s => Y v0 s → X0 v0 s) (X22 := Y) (X23 := X0) (hX2 := fun v0 s a b => a b) hQ hb (hY v0 s hy))) hY0
def fw_260 (Q : lf_Z → Prop) (s : lf_Z) : Prop := fw_260_p2L Q 0 s
theorem cj_260 {Q1 Q2 Q3 : lf_Z → Prop} {s : lf_Z} (hQ : ∀ (s : lf_Z), Q1 s → Q2 s → Q3 s) (h1 : fm_260 Q1 s) (h2 : fw_260 Q2 s) : fm_260 Q3 s := by
  unfold fm_260 at h1 ⊢
  unfold fw_260 at h2
  exact cj_260_p2L hQ h1 h2
def fw_259 (Q : Bool → lf_Z → Prop) (s : lf_Z) : Prop := lf_R (s.1 96 3) → ((s.1 96 3 ≠ 999 → (fw_244 (fun s22 => (fw_260 (fun s23 => (Q true s23)) s22)) s)) ∧ (¬ (s.1 96 3 ≠ 999) → (Q false s)))
theorem cj_259 {Q1 Q2 Q3 : Bool → lf_Z → Prop} {s : lf_Z} (hQ : ∀ (r : Bool) (s : lf_Z), Q1 r s → Q2 r s → Q3 r s) (h1 : fm_259 Q1 s) (h2 : fw_259 Q2 s) : fm_259 Q3 s := by
  unfold fm_259 at h1 ⊢
  unfold fw_259 at h2
  exact ⟨h1.1, ⟨(fun c2 => cj_244 (fun s22 k3 l3 => cj_260 (fun s23 k4 l4 => hQ _ _  k4 l4) k3 l3) (h1.2.1 c2) ((h2 h1.1).1 c2)), (fun c2 => hQ _ _  (h1.2.2 c2) ((h2 h1.1).2 c2))⟩⟩
def fw_258_p2 (Q : Bool → lf_Z → Prop) (x1 : Int) (X2 : Int → lf_Z → Prop) (x2 : Int) (s : lf_Z) : Prop := lf_R x2 → (lf_R x1 → ((x1 ≤ x2 → (Q true s)) ∧ (¬ (x1 ≤ x2) → (fw_259 (fun z24 s23 => ((z24 = true → (X2 (x2 + 1) s23)) ∧ (z24 = false → (Q false s23)))) s))))
theorem cj_258_p2 {X21 X22 X23 : Int → lf_Z → Prop} {Q1 Q2 Q3 : Bool → lf_Z → Prop} {x1 : Int} {x2 : Int} {s : lf_Z} (hX2 : ∀ (v0 : Int) (v1 : lf_Z), X21 v0 v1 → X22 v0 v1 → X23 v0 v1) (hQ : ∀ (r : Bool) (s : lf_Z), Q1 r s → Q2 r s → Q3 r s) (h1 : fm_258_p2 Q1 x1 X21 x2 s) (h2 : fw_258_p2 Q2 x1 X22 x2 s) : fm_258_p2 Q3 x1 X23 x2 s := by
  unfold fm_258_p2 at h1 ⊢
  unfold fw_258_p2 at h2
  exact ⟨h1.1, ⟨h1.2.1, ⟨(fun c3 => hQ _ _  (h1.2.2.1 c3) (((h2 h1.1) h1.2.1).1 c3)), (fun c3 => cj_259 (fun z24 s23 k5 l5 => ⟨(fun c6 => hX2 _ _  (k5.1 c6) (l5.1 c6)), (fun c6 => hQ _ _  (k5.2 c6) (l5.2 c6))⟩) (h1.2.2.2 c3) (((h2 h1.1) h1.2.1).2 c3))⟩⟩⟩
def fw_258_p2L (Q : Bool → lf_Z → Prop) (x1 : Int) (x2 : Int) (s : lf_Z) : Prop := ∃ X2 : Int → lf_Z → Prop, (∀ (x2 : Int) (s : lf_Z), X2 x2 s → fw_258_p2 Q x1 X2 x2 s) ∧ X2 x2 s
theorem cj_258_p2L {Q1 Q2 Q3 : Bool → lf_Z → Prop} {x1 : Int} {x2 : Int} {s : lf_Z} (hQ : ∀ (r : Bool) (s : lf_Z), Q1 r s → Q2 r s → Q3 r s) (h1 : fm_258_p2L Q1 x1 x2 s) (h2 : fw_258_p2L Q2 x1 x2 s) : fm_258_p2L Q3 x1 x2 s := by
  intro X0 hX0
  obtain ⟨Y, hY, hY0⟩ := h2
  exact h1 (fun v0 s => Y v0 s → X0 v0 s) (fun v0 s hb hy => hX0 v0 s (cj_258_p2 (X21 := fun v0 s => Y v0 s → X0 v0 s) (X22 := Y) (X23 := X0) (hX2 := fun v0 s a b => a b) hQ hb (hY v0 s hy))) hY0
def fw_258 (a1 : Int) (Q : Bool → lf_Z → Prop) (s : lf_Z) : Prop := fw_258_p2L Q a1 0 s
theorem cj_258 {Q1 Q2 Q3 : Bool → lf_Z → Prop} {a1 : Int} {s : lf_Z} (hQ : ∀ (r : Bool) (s : lf_Z), Q1 r s → Q2 r s → Q3 r s) (h1 : fm_258 a1 Q1 s) (h2 : fw_258 a1 Q2 s) : fm_258 a1 Q3 s := by
  unfold fm_258 at h1 ⊢
  unfold fw_258 at h2
  exact cj_258_p2L hQ h1 h2
def fw_279_p4 (Q : Int → lf_Z → Prop) (X4 : Int → Int → lf_Z → Prop) (x1 : Int) (x2 : Int) (s : lf_Z) : Prop := lf_R x2 → (lf_R (s.1 96 0) → ((s.1 96 0 ≤ x2 → (Q x1 s)) ∧ (¬ (s.1 96 0 ≤ x2) → (fw_246 x2 (fun r24 s23 => (X4 (lf_w (x1 + r24)) (x2 + 1) s23)) s))))
theorem cj_279_p4 {X41 X42 X43 : Int → Int → lf_Z → Prop} {Q1 Q2 Q3 : Int → lf_Z → Prop} {x1 : Int} {x2 : Int} {s : lf_Z} (hX4 : ∀ (v0 : Int) (v1 : Int) (v2 : lf_Z), X41 v0 v1 v2 → X42 v0 v1 v2 → X43 v0 v1 v2) (hQ : ∀ (r : Int) (s : lf_Z), Q1 r s → Q2 r s → Q3 r s) (h1 : fm_279_p4 Q1 X41 x1 x2 s) (h2 : fw_279_p4 Q2 X42 x1 x2 s) : fm_279_p4 Q3 X43 x1 x2 s := by
  unfold fm_279_p4 at h1 ⊢
  unfold fw_279_p4 at h2
  exact ⟨h1.1, ⟨h1.2.1, ⟨(fun c3 => hQ _ _  (h1.2.2.1 c3) (((h2 h1.1) h1.2.1).1 c3)), (fun c3 => cj_246 (fun r24 s23 k5 l5 => hX4 _ _ _  k5 l5) (h1.2.2.2 c3) (((h2 h1.1) h1.2.1).2 c3))⟩⟩⟩
def fw_279_p4L (Q : Int → lf_Z → Prop) (x1 : Int) (x2 : Int) (s : lf_Z) : Prop := ∃ X4 : Int → Int → lf_Z → Prop, (∀ (x1 : Int) (x2 : Int) (s : lf_Z), X4 x1 x2 s → fw_279_p4 Q X4 x1 x2 s) ∧ X4 x1 x2 s
theorem cj_279_p4L {Q1 Q2 Q3 : Int → lf_Z → Prop} {x1 : Int} {x2 : Int} {s : lf_Z} (hQ : ∀ (r : Int) (s : lf_Z), Q1 r s → Q2 r s → Q3 r s) (h1 : fm_279_p4L Q1 x1 x2 s) (h2 : fw_279_p4L Q2 x1 x2 s) : fm_279_p4L Q3 x1 x2 s := by
  intro X0 hX0
  obtain ⟨Y, hY, hY0⟩ := h2
  exact h1 (fun v0 v1 s => Y v0 v1 s → X0 v0 v1 s) (fun v0 v1 s hb hy => hX0 v0 v1 s (cj_279_p4 (X41 := fun v0 v1 s => Y v0 v1 s → X0 v0 v1 s) (X42 := Y) (X43 := X0) (hX4 := fun v0 v1 s a b => a b) hQ hb (hY v0 v1 s hy))) hY0
def fw_279 (Q : Int → lf_Z → Prop) (s : lf_Z) : Prop := fw_279_p4L Q 0 0 s
theorem cj_279 {Q1 Q2 Q3 : Int → lf_Z → Prop} {s : lf_Z} (hQ : ∀ (r : Int) (s : lf_Z), Q1 r s → Q2 r s → Q3 r s) (h1 : fm_279 Q1 s) (h2 : fw_279 Q2 s) : fm_279 Q3 s := by
  unfold fm_279 at h1 ⊢
  unfold fw_279 at h2
  exact cj_279_p4L hQ h1 h2
def fw_257 (a1 : Int) (Q : Int → lf_Z → Prop) (s : lf_Z) : Prop := fw_183 a1 1 60 (fun z22 s21 => ((z22 = false → (Q (-1) s21)) ∧ (z22 = true → ((999 < lf_w ((s21.1 96 3) + a1) → (Q (-1) s21)) ∧ (¬ (999 < lf_w ((s21.1 96 3) + a1)) → (fw_258 a1 (fun z24 s23 => ((z24 = false → (Q (-1) s23)) ∧ (z24 = true → (fw_279 (fun r26 s25 => (Q r26 s25)) s23)))) s21)))))) s
theorem cj_257 {Q1 Q2 Q3 : Int → lf_Z → Prop} {a1 : Int} {s : lf_Z} (hQ : ∀ (r : Int) (s : lf_Z), Q1 r s → Q2 r s → Q3 r s) (h1 : fm_257 a1 Q1 s) (h2 : fw_257 a1 Q2 s) : fm_257 a1 Q3 s := by
  unfold fm_257 at h1 ⊢
  unfold fw_257 at h2
  exact cj_183 (fun z22 s21 k1 l1 => ⟨(fun c2 => hQ _ _  (k1.1 c2) (l1.1 c2)), (fun c2 => ⟨(fun c4 => hQ _ _  ((k1.2 c2).1 c4) ((l1.2 c2).1 c4)), (fun c4 => cj_258 (fun z24 s23 k6 l6 => ⟨(fun c7 => hQ _ _  (k6.1 c7) (l6.1 c7)), (fun c7 => cj_279 (fun r26 s25 k9 l9 => hQ _ _  k9 l9) (k6.2 c7) (l6.2 c7))⟩) ((k1.2 c2).2 c4) ((l1.2 c2).2 c4))⟩)⟩) h1 h2
def fw_99 (a1 : Int) (Q : Bool → lf_Z → Prop) (s : lf_Z) : Prop := lf_R a1 → ((a1 < 0 → (Q false s)) ∧ (¬ (a1 < 0) → (lf_R (s.1 1 2) → ((s.1 1 2 ≤ a1 → (Q false s)) ∧ (¬ (s.1 1 2 ≤ a1) → (Q true s))))))
theorem cj_99 {Q1 Q2 Q3 : Bool → lf_Z → Prop} {a1 : Int} {s : lf_Z} (hQ : ∀ (r : Bool) (s : lf_Z), Q1 r s → Q2 r s → Q3 r s) (h1 : fm_99 a1 Q1 s) (h2 : fw_99 a1 Q2 s) : fm_99 a1 Q3 s := by
  unfold fm_99 at h1 ⊢
  unfold fw_99 at h2
  exact ⟨h1.1, ⟨(fun c2 => hQ _ _  (h1.2.1 c2) ((h2 h1.1).1 c2)), (fun c2 => ⟨(h1.2.2 c2).1, ⟨(fun c5 => hQ _ _  ((h1.2.2 c2).2.1 c5) ((((h2 h1.1).2 c2) (h1.2.2 c2).1).1 c5)), (fun c5 => hQ _ _  ((h1.2.2 c2).2.2 c5) ((((h2 h1.1).2 c2) (h1.2.2 c2).1).2 c5))⟩⟩)⟩⟩
def fw_98 (a1 : Int) (a2 : Int) (Q : Bool → lf_Z → Prop) (s : lf_Z) : Prop := fw_99 a1 (fun z22 s21 => ((z22 = false → (Q false s21)) ∧ (z22 = true → (fw_15 a2 (-1) ((s21.1 1 0) - 1) (fun z24 s23 => ((z24 = false → (Q false s23)) ∧ (z24 = true → ((0 ≤ a1 ∧ a1 < 6) → (lf_R (s23.1 20 a1) → (lf_R a2 → ((s23.1 20 a1 ≠ a2 → (fw_67 (s23.1 1 2) (fun s28 => (Q true (lf_up s28.1 20 a1 a2, s28.2.1, s28.2.2))) s23)) ∧ (¬ (s23.1 20 a1 ≠ a2) → (Q false s23))))))))) s21)))) s
theorem cj_98 {Q1 Q2 Q3 : Bool → lf_Z → Prop} {a1 : Int} {a2 : Int} {s : lf_Z} (hQ : ∀ (r : Bool) (s : lf_Z), Q1 r s → Q2 r s → Q3 r s) (h1 : fm_98 a1 a2 Q1 s) (h2 : fw_98 a1 a2 Q2 s) : fm_98 a1 a2 Q3 s := by
  unfold fm_98 at h1 ⊢
  unfold fw_98 at h2
  exact cj_99 (fun z22 s21 k1 l1 => ⟨(fun c2 => hQ _ _  (k1.1 c2) (l1.1 c2)), (fun c2 => cj_15 (fun z24 s23 k4 l4 => ⟨(fun c5 => hQ _ _  (k4.1 c5) (l4.1 c5)), (fun c5 => ⟨(k4.2 c5).1, ⟨(k4.2 c5).2.1, ⟨(k4.2 c5).2.2.1, ⟨(fun c10 => cj_67 (fun s28 k11 l11 => hQ _ _  k11 l11) ((k4.2 c5).2.2.2.1 c10) (((((l4.2 c5) (k4.2 c5).1) (k4.2 c5).2.1) (k4.2 c5).2.2.1).1 c10)), (fun c10 => hQ _ _  ((k4.2 c5).2.2.2.2 c10) (((((l4.2 c5) (k4.2 c5).1) (k4.2 c5).2.1) (k4.2 c5).2.2.1).2 c10))⟩⟩⟩⟩)⟩) (k1.2 c2) (l1.2 c2))⟩) h1 h2
def fw_249 (a1 : Int) (Q : Bool → lf_Z → Prop) (s : lf_Z) : Prop := fw_183 a1 0 ((s.1 96 2) - 1) (fun z22 s21 => (Q z22 s21)) s
theorem cj_249 {Q1 Q2 Q3 : Bool → lf_Z → Prop} {a1 : Int} {s : lf_Z} (hQ : ∀ (r : Bool) (s : lf_Z), Q1 r s → Q2 r s → Q3 r s) (h1 : fm_249 a1 Q1 s) (h2 : fw_249 a1 Q2 s) : fm_249 a1 Q3 s := by
  unfold fm_249 at h1 ⊢
  unfold fw_249 at h2
  exact cj_183 (fun z22 s21 k1 l1 => hQ _ _  k1 l1) h1 h2
def fw_248_p21 (Q : Bool → lf_Z → Prop) (x1 : Int) (x2 : Int) (s : lf_Z) : Prop := fw_239b x1 (fun r25 s24 => (lf_R r25 → (lf_R x2 → ((r25 ≠ x2 → (fw_244 (fun s28 => (fw_191e x1 x2 (fun s29 => (Q true s29)) s28)) s24)) ∧ (¬ (r25 ≠ x2) → (Q false s24)))))) s
theorem cj_248_p21 {Q1 Q2 Q3 : Bool → lf_Z → Prop} {x1 : Int} {x2 : Int} {s : lf_Z} (hQ : ∀ (r : Bool) (s : lf_Z), Q1 r s → Q2 r s → Q3 r s) (h1 : fm_248_p21 Q1 x1 x2 s) (h2 : fw_248_p21 Q2 x1 x2 s) : fm_248_p21 Q3 x1 x2 s := by
  unfold fm_248_p21 at h1 ⊢
  unfold fw_248_p21 at h2
  exact cj_239b (fun r25 s24 k1 l1 => ⟨k1.1, ⟨k1.2.1, ⟨(fun c4 => cj_244 (fun s28 k5 l5 => cj_191e (fun s29 k6 l6 => hQ _ _  k6 l6) k5 l5) (k1.2.2.1 c4) (((l1 k1.1) k1.2.1).1 c4)), (fun c4 => hQ _ _  (k1.2.2.2 c4) (((l1 k1.1) k1.2.1).2 c4))⟩⟩⟩) h1 h2
def fw_248 (a1 : Int) (a2 : Int) (Q : Bool → lf_Z → Prop) (s : lf_Z) : Prop := fw_249 a1 (fun z22 s21 => ((z22 = false → (Q false s21)) ∧ (z22 = true → (lf_R a2 → ((a2 = (-1) → (fw_248_p21 Q a1 a2 s21)) ∧ (¬ (a2 = (-1)) → (fw_185 a2 (fun z31 s30 => ((z31 = false → (Q false s30)) ∧ (z31 = true → (fw_248_p21 Q a1 a2 s30)))) s21))))))) s
theorem cj_248 {Q1 Q2 Q3 : Bool → lf_Z → Prop} {a1 : Int} {a2 : Int} {s : lf_Z} (hQ : ∀ (r : Bool) (s : lf_Z), Q1 r s → Q2 r s → Q3 r s) (h1 : fm_248 a1 a2 Q1 s) (h2 : fw_248 a1 a2 Q2 s) : fm_248 a1 a2 Q3 s := by
  unfold fm_248 at h1 ⊢
  unfold fw_248 at h2
  exact cj_249 (fun z22 s21 k1 l1 => ⟨(fun c2 => hQ _ _  (k1.1 c2) (l1.1 c2)), (fun c2 => ⟨(k1.2 c2).1, ⟨(fun c5 => cj_248_p21 hQ ((k1.2 c2).2.1 c5) (((l1.2 c2) (k1.2 c2).1).1 c5)), (fun c5 => cj_185 (fun z31 s30 k7 l7 => ⟨(fun c8 => hQ _ _  (k7.1 c8) (l7.1 c8)), (fun c8 => cj_248_p21 hQ (k7.2 c8) (l7.2 c8))⟩) ((k1.2 c2).2.2 c5) (((l1.2 c2) (k1.2 c2).1).2 c5))⟩⟩)⟩) h1 h2
def fw_101 (a1 : Int) (Q : lf_Z → Prop) (s : lf_Z) : Prop := Q (lf_up s.1 15 6 (lf_xor (s.1 15 6) (lf_shl 1 a1)), s.2.1, s.2.2)
theorem cj_101 {Q1 Q2 Q3 : lf_Z → Prop} {a1 : Int} {s : lf_Z} (hQ : ∀ (s : lf_Z), Q1 s → Q2 s → Q3 s) (h1 : fm_101 a1 Q1 s) (h2 : fw_101 a1 Q2 s) : fm_101 a1 Q3 s := by
  unfold fm_101 at h1 ⊢
  unfold fw_101 at h2
  exact hQ _  h1 h2
def fw_100 (a1 : Int) (a2 : Int) (Q : Bool → lf_Z → Prop) (s : lf_Z) : Prop := fw_89 a1 (fun z22 s21 => ((z22 = false → (Q false s21)) ∧ (z22 = true → (fw_90 a1 (fun z24 s23 => (lf_R a2 → ((lf_b z24 ≠ a2 → (fw_67 (s23.1 1 2) (fun s26 => (fw_101 a1 (fun s27 => (Q true s27)) s26)) s23)) ∧ (¬ (lf_b z24 ≠ a2) → (Q false s23))))) s21)))) s
theorem cj_100 {Q1 Q2 Q3 : Bool → lf_Z → Prop} {a1 : Int} {a2 : Int} {s : lf_Z} (hQ : ∀ (r : Bool) (s : lf_Z), Q1 r s → Q2 r s → Q3 r s) (h1 : fm_100 a1 a2 Q1 s) (h2 : fw_100 a1 a2 Q2 s) : fm_100 a1 a2 Q3 s := by
  unfold fm_100 at h1 ⊢
  unfold fw_100 at h2
  exact cj_89 (fun z22 s21 k1 l1 => ⟨(fun c2 => hQ _ _  (k1.1 c2) (l1.1 c2)), (fun c2 => cj_90 (fun z24 s23 k4 l4 => ⟨k4.1, ⟨(fun c6 => cj_67 (fun s26 k7 l7 => cj_101 (fun s27 k8 l8 => hQ _ _  k8 l8) k7 l7) (k4.2.1 c6) ((l4 k4.1).1 c6)), (fun c6 => hQ _ _  (k4.2.2 c6) ((l4 k4.1).2 c6))⟩⟩) (k1.2 c2) (l1.2 c2))⟩) h1 h2
def fw_251 (a1 : Int) (Q : Bool → lf_Z → Prop) (s : lf_Z) : Prop := fw_183 a1 0 ((s.1 96 1) - 1) (fun z22 s21 => (Q z22 s21)) s
theorem cj_251 {Q1 Q2 Q3 : Bool → lf_Z → Prop} {a1 : Int} {s : lf_Z} (hQ : ∀ (r : Bool) (s : lf_Z), Q1 r s → Q2 r s → Q3 r s) (h1 : fm_251 a1 Q1 s) (h2 : fw_251 a1 Q2 s) : fm_251 a1 Q3 s := by
  unfold fm_251 at h1 ⊢
  unfold fw_251 at h2
  exact cj_183 (fun z22 s21 k1 l1 => hQ _ _  k1 l1) h1 h2
def fw_250_p52 (Q : Bool → lf_Z → Prop) (y1 : Int) (y2 : Int) (s : lf_Z) : Prop := (0 ≤ y1 ∧ y1 < 1538) → (Q true (lf_up s.1 96 y1 y2, s.2.1, s.2.2))
theorem cj_250_p52 {Q1 Q2 Q3 : Bool → lf_Z → Prop} {y1 : Int} {y2 : Int} {s : lf_Z} (hQ : ∀ (r : Bool) (s : lf_Z), Q1 r s → Q2 r s → Q3 r s) (h1 : fm_250_p52 Q1 y1 y2 s) (h2 : fw_250_p52 Q2 y1 y2 s) : fm_250_p52 Q3 y1 y2 s := by
  unfold fm_250_p52 at h1 ⊢
  unfold fw_250_p52 at h2
  exact ⟨h1.1, hQ _ _  h1.2 (h2 h1.1)⟩
def fw_250 (a1 : Int) (a2 : Int) (Q : Bool → lf_Z → Prop) (s : lf_Z) : Prop := fw_251 a1 (fun z22 s21 => ((z22 = false → (Q false s21)) ∧ (z22 = true → (fw_252 a1 (fun z24 s23 => ((z24 = true → (Q false s23)) ∧ (z24 = false → (fw_245 a1 (fun z26 s25 => (lf_R a2 → ((lf_b z26 ≠ a2 → (fw_244 (fun s28 => ((a2 = 0 → (fw_250_p52 Q ((50 + (4 * a1)) + 3) 0 s28)) ∧ (¬ (a2 = 0) → (fw_250_p52 Q ((50 + (4 * a1)) + 3) 1 s28)))) s25)) ∧ (¬ (lf_b z26 ≠ a2) → (Q false s25))))) s23)))) s21)))) s
theorem cj_250 {Q1 Q2 Q3 : Bool → lf_Z → Prop} {a1 : Int} {a2 : Int} {s : lf_Z} (hQ : ∀ (r : Bool) (s : lf_Z), Q1 r s → Q2 r s → Q3 r s) (h1 : fm_250 a1 a2 Q1 s) (h2 : fw_250 a1 a2 Q2 s) : fm_250 a1 a2 Q3 s := by
  unfold fm_250 at h1 ⊢
  unfold fw_250 at h2
  exact cj_251 (fun z22 s21 k1 l1 => ⟨(fun c2 => hQ _ _  (k1.1 c2) (l1.1 c2)), (fun c2 => cj_252 (fun z24 s23 k4 l4 => ⟨(fun c5 => hQ _ _  (k4.1 c5) (l4.1 c5)), (fun c5 => cj_245 (fun z26 s25 k7 l7 => ⟨k7.1, ⟨(fun c9 => cj_244 (fun s28 k10 l10 => ⟨(fun c11 => cj_250_p52 hQ (k10.1 c11) (l10.1 c11)), (fun c11 => cj_250_p52 hQ (k10.2 c11) (l10.2 c11))⟩) (k7.2.1 c9) ((l7 k7.1).1 c9)), (fun c9 => hQ _ _  (k7.2.2 c9) ((l7 k7.1).2 c9))⟩⟩) (k4.2 c5) (l4.2 c5))⟩) (k1.2 c2) (l1.2 c2))⟩) h1 h2
def fw_102 (a1 : Int) (a2 : Int) (Q : Int → lf_Z → Prop) (s : lf_Z) : Prop := fw_80 a1 (fun z22 s21 => ((z22 = false → (Q (-1) s21)) ∧ (z22 = true → ((0 ≤ a1 ∧ a1 < 4) → (fw_15 a2 1 ((s21.1 16 a1) - 1) (fun z25 s24 => ((z25 = true → (fw_66 (fun r27 s26 => (lf_R r27 → ((r27 = (-1) → (Q r27 s26)) ∧ (¬ (r27 = (-1)) → (fw_67 (s26.1 1 2) (fun s29 => (fw_69 r27 a2 (s29.1 17 a1) (s29.1 18 a1) (fun s30 => (Q r27 s30)) (lf_up s29.1 16 a1 ((s29.1 16 a1) - a2), s29.2.1, s29.2.2))) s26))))) s24)) ∧ (z25 = false → (Q (-1) s24)))) s21))))) s
theorem cj_102 {Q1 Q2 Q3 : Int → lf_Z → Prop} {a1 : Int} {a2 : Int} {s : lf_Z} (hQ : ∀ (r : Int) (s : lf_Z), Q1 r s → Q2 r s → Q3 r s) (h1 : fm_102 a1 a2 Q1 s) (h2 : fw_102 a1 a2 Q2 s) : fm_102 a1 a2 Q3 s := by
  unfold fm_102 at h1 ⊢
  unfold fw_102 at h2
  exact cj_80 (fun z22 s21 k1 l1 => ⟨(fun c2 => hQ _ _  (k1.1 c2) (l1.1 c2)), (fun c2 => ⟨(k1.2 c2).1, cj_15 (fun z25 s24 k5 l5 => ⟨(fun c6 => cj_66 (fun r27 s26 k7 l7 => ⟨k7.1, ⟨(fun c9 => hQ _ _  (k7.2.1 c9) ((l7 k7.1).1 c9)), (fun c9 => cj_67 (fun s29 k11 l11 => cj_69 (fun s30 k12 l12 => hQ _ _  k12 l12) k11 l11) (k7.2.2 c9) ((l7 k7.1).2 c9))⟩⟩) (k5.1 c6) (l5.1 c6)), (fun c6 => hQ _ _  (k5.2 c6) (l5.2 c6))⟩) (k1.2 c2).2 ((l1.2 c2) (k1.2 c2).1)⟩)⟩) h1 h2
def fw_254 (a1 : Int) (Q : Bool → lf_Z → Prop) (s : lf_Z) : Prop := fw_183 a1 0 3 (fun z22 s21 => ((z22 = false → (Q false s21)) ∧ (z22 = true → (fw_242 a1 (fun r24 s23 => (lf_R r24 → ((r24 ≤ 0 → (Q false s23)) ∧ (¬ (r24 ≤ 0) → (Q true s23))))) s21)))) s
theorem cj_254 {Q1 Q2 Q3 : Bool → lf_Z → Prop} {a1 : Int} {s : lf_Z} (hQ : ∀ (r : Bool) (s : lf_Z), Q1 r s → Q2 r s → Q3 r s) (h1 : fm_254 a1 Q1 s) (h2 : fw_254 a1 Q2 s) : fm_254 a1 Q3 s := by
  unfold fm_254 at h1 ⊢
  unfold fw_254 at h2
  exact cj_183 (fun z22 s21 k1 l1 => ⟨(fun c2 => hQ _ _  (k1.1 c2) (l1.1 c2)), (fun c2 => cj_242 (fun r24 s23 k4 l4 => ⟨k4.1, ⟨(fun c6 => hQ _ _  (k4.2.1 c6) ((l4 k4.1).1 c6)), (fun c6 => hQ _ _  (k4.2.2 c6) ((l4 k4.1).2 c6))⟩⟩) (k1.2 c2) (l1.2 c2))⟩) h1 h2
def fw_253 (a1 : Int) (a2 : Int) (Q : Int → lf_Z → Prop) (s : lf_Z) : Prop := fw_241 (fun r22 s21 => (fw_254 a1 (fun z24 s23 => ((z24 = false → (Q (-1) s23)) ∧ (z24 = true → (fw_242 a1 (fun r26 s25 => (fw_183 a2 1 (r26 - 1) (fun z28 s27 => ((z28 = false → (Q (-1) s27)) ∧ (z28 = true → (lf_R r22 → ((0 ≤ r22 → (fw_244 (fun s30 => ((0 ≤ 114 + (3 * a1) ∧ 114 + (3 * a1) < 1538) → (fw_255 a1 (fun r33 s32 => (fw_256 a1 (fun r35 s34 => (fw_247 r22 a2 r33 r35 (fun s36 => (Q r22 s36)) s34)) s32)) (lf_up s30.1 96 (114 + (3 * a1)) ((s30.1 96 (114 + (3 * a1))) - a2), s30.2.1, s30.2.2)))) s27)) ∧ (¬ (0 ≤ r22) → (Q (-1) s27))))))) s25)) s23)))) s21)) s
theorem cj_253 {Q1 Q2 Q3 : Int → lf_Z → Prop} {a1 : Int} {a2 : Int} {s : lf_Z} (hQ : ∀ (r : Int) (s : lf_Z), Q1 r s → Q2 r s → Q3 r s) (h1 : fm_253 a1 a2 Q1 s) (h2 : fw_253 a1 a2 Q2 s) : fm_253 a1 a2 Q3 s := by
  unfold fm_253 at h1 ⊢
  unfold fw_253 at h2
  exact cj_241 (fun r22 s21 k1 l1 => cj_254 (fun z24 s23 k2 l2 => ⟨(fun c3 => hQ _ _  (k2.1 c3) (l2.1 c3)), (fun c3 => cj_242 (fun r26 s25 k5 l5 => cj_183 (fun z28 s27 k6 l6 => ⟨(fun c7 => hQ _ _  (k6.1 c7) (l6.1 c7)), (fun c7 => ⟨(k6.2 c7).1, ⟨(fun c10 => cj_244 (fun s30 k11 l11 => ⟨k11.1, cj_255 (fun r33 s32 k13 l13 => cj_256 (fun r35 s34 k14 l14 => cj_247 (fun s36 k15 l15 => hQ _ _  k15 l15) k14 l14) k13 l13) k11.2 (l11 k11.1)⟩) ((k6.2 c7).2.1 c10) (((l6.2 c7) (k6.2 c7).1).1 c10)), (fun c10 => hQ _ _  ((k6.2 c7).2.2 c10) (((l6.2 c7) (k6.2 c7).1).2 c10))⟩⟩)⟩) k5 l5) (k2.2 c3) (l2.2 c3))⟩) k1 l1) h1 h2
def fw_104 (a1 : Int) (a2 : Int) (a3 : Int) (Q : Bool → lf_Z → Prop) (s : lf_Z) : Prop := lf_R a1 → ((a1 < 23 ∨ 32 < a1 → (Q true s)) ∧ (a1 = 23 → (fw_14 a2 a3 (fun r23 s22 => (lf_R r23 → ((r23 = (-1) → (Q false s22)) ∧ (¬ (r23 = (-1)) → (Q true s22))))) s)) ∧ (a1 = 24 → (fw_17 a2 a3 0 (fun r26 s25 => (lf_R r26 → ((r26 = (-1) → (Q false s25)) ∧ (¬ (r26 = (-1)) → (Q true s25))))) s)) ∧ (a1 = 25 → (fw_17 a2 a3 1 (fun r29 s28 => (lf_R r29 → ((r29 = (-1) → (Q false s28)) ∧ (¬ (r29 = (-1)) → (Q true s28))))) s)) ∧ (a1 = 26 → (fw_23 a2 0 0 a3 (fun r32 s31 => (lf_R r32 → ((r32 = (-1) → (Q false s31)) ∧ (¬ (r32 = (-1)) → (Q true s31))))) s)) ∧ (a1 = 27 → (fw_63 a2 a3 (fun r35 s34 => (lf_R r35 → ((r35 = (-1) → (Q false s34)) ∧ (¬ (r35 = (-1)) → (Q true s34))))) s)) ∧ (a1 = 28 → (fw_98 a2 a3 (fun z38 s37 => (Q z38 s37)) s)) ∧ (a1 = 29 → (fw_100 a2 0 (fun z40 s39 => (Q z40 s39)) s)) ∧ (a1 = 30 → (fw_100 a2 1 (fun z42 s41 => (Q z42 s41)) s)) ∧ (a1 = 31 → (fw_102 a2 a3 (fun r44 s43 => (lf_R r44 → ((r44 = (-1) → (Q false s43)) ∧ (¬ (r44 = (-1)) → (Q true s43))))) s)) ∧ (a1 = 32 → (fw_71 a2 (fun z47 s46 => (Q z47 s46)) s)))
theorem cj_104 {Q1 Q2 Q3 : Bool → lf_Z → Prop} {a1 : Int} {a2 : Int} {a3 : Int} {s : lf_Z} (hQ : ∀ (r : Bool) (s : lf_Z), Q1 r s → Q2 r s → Q3 r s) (h1 : fm_104 a1 a2 a3 Q1 s) (h2 : fw_104 a1 a2 a3 Q2 s) : fm_104 a1 a2 a3 Q3 s := by
  unfold fm_104 at h1 ⊢
  unfold fw_104 at h2
  exact ⟨h1.1, ⟨(fun c2 => hQ _ _  (h1.2.1 c2) ((h2 h1.1).1 c2)), (fun c2 => cj_14 (fun r23 s22 k4 l4 => ⟨k4.1, ⟨(fun c6 => hQ _ _  (k4.2.1 c6) ((l4 k4.1).1 c6)), (fun c6 => hQ _ _  (k4.2.2 c6) ((l4 k4.1).2 c6))⟩⟩) (h1.2.2.1 c2) ((h2 h1.1).2.1 c2)), (fun c2 => cj_17 (fun r26 s25 k9 l9 => ⟨k9.1, ⟨(fun c11 => hQ _ _  (k9.2.1 c11) ((l9 k9.1).1 c11)), (fun c11 => hQ _ _  (k9.2.2 c11) ((l9 k9.1).2 c11))⟩⟩) (h1.2.2.2.1 c2) ((h2 h1.1).2.2.1 c2)), (fun c2 => cj_17 (fun r29 s28 k14 l14 => ⟨k14.1, ⟨(fun c16 => hQ _ _  (k14.2.1 c16) ((l14 k14.1).1 c16)), (fun c16 => hQ _ _  (k14.2.2 c16) ((l14 k14.1).2 c16))⟩⟩) (h1.2.2.2.2.1 c2) ((h2 h1.1).2.2.2.1 c2)), (fun c2 => cj_23 (fun r32 s31 k19 l19 => ⟨k19.1, ⟨(fun c21 => hQ _ _  (k19.2.1 c21) ((l19 k19.1).1 c21)), (fun c21 => hQ _ _  (k19.2.2 c21) ((l19 k19.1).2 c21))⟩⟩) (h1.2.2.2.2.2.1 c2) ((h2 h1.1).2.2.2.2.1 c2)), (fun c2 => cj_63 (fun r35 s34 k24 l24 => ⟨k24.1, ⟨(fun c26 => hQ _ _  (k24.2.1 c26) ((l24 k24.1).1 c26)), (fun c26 => hQ _ _  (k24.2.2 c26) ((l24 k24.1).2 c26))⟩⟩) (h1.2.2.2.2.2.2.1 c2) ((h2 h1.1).2.2.2.2.2.1 c2)), (fun c2 => cj_98 (fun z38 s37 k29 l29 => hQ _ _  k29 l29) (h1.2.2.2.2.2.2.2.1 c2) ((h2 h1.1).2.2.2.2.2.2.1 c2)), (fun c2 => cj_100 (fun z40 s39 k31 l31 => hQ _ _  k31 l31) (h1.2.2.2.2.2.2.2.2.1 c2) ((h2 h1.1).2.2.2.2.2.2.2.1 c2)), (fun c2 => cj_100 (fun z42 s41 k33 l33 => hQ _ _  k33 l33) (h1.2.2.2.2.2.2.2.2.2.1 c2) ((h2 h1.1).2.2.2.2.2.2.2.2.1 c2)), (fun c2 => cj_102 (fun r44 s43 k35 l35 => ⟨k35.1, ⟨(fun c37 => hQ _ _  (k35.2.1 c37) ((l35 k35.1).1 c37)), (fun c37 => hQ _ _  (k35.2.2 c37) ((l35 k35.1).2 c37))⟩⟩) (h1.2.2.2.2.2.2.2.2.2.2.1 c2) ((h2 h1.1).2.2.2.2.2.2.2.2.2.1 c2)), (fun c2 => cj_71 (fun z47 s46 k40 l40 => hQ _ _  k40 l40) (h1.2.2.2.2.2.2.2.2.2.2.2 c2) ((h2 h1.1).2.2.2.2.2.2.2.2.2.2 c2))⟩⟩
def fw_103_p15 (Q : Int → lf_Z → Prop) (u2 : Nat) (X15 : Int → lf_Z → Prop) (x3 : Int) (s : lf_Z) : Prop := lf_R x3 → (lf_R (s.1 (35 + 7 * u2) 7) → ((s.1 (35 + 7 * u2) 7 ≤ x3 → (Q (-1) s)) ∧ (¬ (s.1 (35 + 7 * u2) 7 ≤ x3) → ((24 ≤ x3 → (Q (-1) s)) ∧ (¬ (24 ≤ x3) → ((0 ≤ x3 ∧ x3 < 24) → (fw_104 (s.1 (39 + 7 * u2) x3) (s.1 (40 + 7 * u2) x3) (s.1 (41 + 7 * u2) x3) (fun z28 s27 => ((z28 = true → (X15 (x3 + 1) s27)) ∧ (z28 = false → (Q x3 s27)))) s)))))))
theorem cj_103_p15 {X151 X152 X153 : Int → lf_Z → Prop} {Q1 Q2 Q3 : Int → lf_Z → Prop} {u2 : Nat} {x3 : Int} {s : lf_Z} (hX15 : ∀ (v0 : Int) (v1 : lf_Z), X151 v0 v1 → X152 v0 v1 → X153 v0 v1) (hQ : ∀ (r : Int) (s : lf_Z), Q1 r s → Q2 r s → Q3 r s) (h1 : fm_103_p15 Q1 u2 X151 x3 s) (h2 : fw_103_p15 Q2 u2 X152 x3 s) : fm_103_p15 Q3 u2 X153 x3 s := by
  unfold fm_103_p15 at h1 ⊢
  unfold fw_103_p15 at h2
  exact ⟨h1.1, ⟨h1.2.1, ⟨(fun c3 => hQ _ _  (h1.2.2.1 c3) (((h2 h1.1) h1.2.1).1 c3)), (fun c3 => ⟨(fun c5 => hQ _ _  ((h1.2.2.2 c3).1 c5) ((((h2 h1.1) h1.2.1).2 c3).1 c5)), (fun c5 => ⟨((h1.2.2.2 c3).2 c5).1, cj_104 (fun z28 s27 k8 l8 => ⟨(fun c9 => hX15 _ _  (k8.1 c9) (l8.1 c9)), (fun c9 => hQ _ _  (k8.2 c9) (l8.2 c9))⟩) ((h1.2.2.2 c3).2 c5).2 (((((h2 h1.1) h1.2.1).2 c3).2 c5) ((h1.2.2.2 c3).2 c5).1)⟩)⟩)⟩⟩⟩
def fw_103_p15L (Q : Int → lf_Z → Prop) (u2 : Nat) (x3 : Int) (s : lf_Z) : Prop := ∃ X15 : Int → lf_Z → Prop, (∀ (x3 : Int) (s : lf_Z), X15 x3 s → fw_103_p15 Q u2 X15 x3 s) ∧ X15 x3 s
theorem cj_103_p15L {Q1 Q2 Q3 : Int → lf_Z → Prop} {u2 : Nat} {x3 : Int} {s : lf_Z} (hQ : ∀ (r : Int) (s : lf_Z), Q1 r s → Q2 r s → Q3 r s) (h1 : fm_103_p15L Q1 u2 x3 s) (h2 : fw_103_p15L Q2 u2 x3 s) : fm_103_p15L Q3 u2 x3 s := by
  intro X0 hX0
  obtain ⟨Y, hY, hY0⟩ := h2
  exact h1 (fun v0 s => Y v0 s → X0 v0 s) (fun v0 s hb hy => hX0 v0 s (cj_103_p15 (X151 := fun v0 s => Y v0 s → X0 v0 s) (X152 := Y) (X153 := X0) (hX15 := fun v0 s a b => a b) hQ hb (hY v0 s hy))) hY0
def fw_103 (a1 : Int) (Q : Int → lf_Z → Prop) (s : lf_Z) : Prop := fw_62 a1 (fun r23 s21 => ((r23 = none → (Q (-2) s21)) ∧ (∀ t22 : Nat, r23 = some t22 → t22 < 4 → (fw_103_p15L Q t22 0 s21)))) s
theorem cj_103 {Q1 Q2 Q3 : Int → lf_Z → Prop} {a1 : Int} {s : lf_Z} (hQ : ∀ (r : Int) (s : lf_Z), Q1 r s → Q2 r s → Q3 r s) (h1 : fm_103 a1 Q1 s) (h2 : fw_103 a1 Q2 s) : fm_103 a1 Q3 s := by
  unfold fm_103 at h1 ⊢
  unfold fw_103 at h2
  exact cj_62 (fun r23 s21 k1 l1 => ⟨(fun c2 => hQ _ _  (k1.1 c2) (l1.1 c2)), (fun t22 et22 => ⟨(k1.2 t22 et22).1, cj_103_p15L hQ (k1.2 t22 et22).2 (l1.2 t22 et22 (k1.2 t22 et22).1)⟩)⟩) h1 h2
def fw_281 (a1 : Int) (Q : Bool → lf_Z → Prop) (s : lf_Z) : Prop := (0 ≤ a1 + 1 ∧ a1 + 1 < 2820) → ((0 ≤ a1 + 2 ∧ a1 + 2 < 2820) → ((0 ≤ a1 ∧ a1 < 2820) → (lf_R (s.1 98 a1) → ((s.1 98 a1 < 3 ∨ 12 < s.1 98 a1 → (Q true s)) ∧ (s.1 98 a1 = 3 → (fw_182 (s.1 98 (a1 + 1)) (s.1 98 (a1 + 2)) (fun r26 s25 => (lf_R r26 → ((r26 < 0 → (Q false s25)) ∧ (¬ (r26 < 0) → (Q true s25))))) s)) ∧ (s.1 98 a1 = 4 → (fw_184 (s.1 98 (a1 + 1)) (s.1 98 (a1 + 2)) 0 (fun r29 s28 => (lf_R r29 → ((r29 < 0 → (Q false s28)) ∧ (¬ (r29 < 0) → (Q true s28))))) s)) ∧ (s.1 98 a1 = 5 → (fw_184 (s.1 98 (a1 + 1)) (s.1 98 (a1 + 2)) 1 (fun r32 s31 => (lf_R r32 → ((r32 < 0 → (Q false s31)) ∧ (¬ (r32 < 0) → (Q true s31))))) s)) ∧ (s.1 98 a1 = 6 → (fw_190 (s.1 98 (a1 + 1)) 0 0 (s.1 98 (a1 + 2)) (fun r35 s34 => (lf_R r35 → ((r35 < 0 → (Q false s34)) ∧ (¬ (r35 < 0) → (Q true s34))))) s)) ∧ (s.1 98 a1 = 7 → (fw_240 (s.1 98 (a1 + 1)) (s.1 98 (a1 + 2)) (fun r38 s37 => (lf_R r38 → ((r38 < 0 → (Q false s37)) ∧ (¬ (r38 < 0) → (Q true s37))))) s)) ∧ (s.1 98 a1 = 8 → (fw_248 (s.1 98 (a1 + 1)) (s.1 98 (a1 + 2)) (fun z41 s40 => (Q z41 s40)) s)) ∧ (s.1 98 a1 = 9 → (fw_250 (s.1 98 (a1 + 1)) 0 (fun z43 s42 => (Q z43 s42)) s)) ∧ (s.1 98 a1 = 10 → (fw_250 (s.1 98 (a1 + 1)) 1 (fun z45 s44 => (Q z45 s44)) s)) ∧ (s.1 98 a1 = 11 → (fw_253 (s.1 98 (a1 + 1)) (s.1 98 (a1 + 2)) (fun r47 s46 => (lf_R r47 → ((r47 < 0 → (Q false s46)) ∧ (¬ (r47 < 0) → (Q true s46))))) s)) ∧ (s.1 98 a1 = 12 → (fw_258 (s.1 98 (a1 + 1)) (fun z50 s49 => (Q z50 s49)) s))))))
theorem cj_281 {Q1 Q2 Q3 : Bool → lf_Z → Prop} {a1 : Int} {s : lf_Z} (hQ : ∀ (r : Bool) (s : lf_Z), Q1 r s → Q2 r s → Q3 r s) (h1 : fm_281 a1 Q1 s) (h2 : fw_281 a1 Q2 s) : fm_281 a1 Q3 s := by
  unfold fm_281 at h1 ⊢
  unfold fw_281 at h2
  exact ⟨h1.1, ⟨h1.2.1, ⟨h1.2.2.1, ⟨h1.2.2.2.1, ⟨(fun c5 => hQ _ _  (h1.2.2.2.2.1 c5) (((((h2 h1.1) h1.2.1) h1.2.2.1) h1.2.2.2.1).1 c5)), (fun c5 => cj_182 (fun r26 s25 k7 l7 => ⟨k7.1, ⟨(fun c9 => hQ _ _  (k7.2.1 c9) ((l7 k7.1).1 c9)), (fun c9 => hQ _ _  (k7.2.2 c9) ((l7 k7.1).2 c9))⟩⟩) (h1.2.2.2.2.2.1 c5) (((((h2 h1.1) h1.2.1) h1.2.2.1) h1.2.2.2.1).2.1 c5)), (fun c5 => cj_184 (fun r29 s28 k12 l12 => ⟨k12.1, ⟨(fun c14 => hQ _ _  (k12.2.1 c14) ((l12 k12.1).1 c14)), (fun c14 => hQ _ _  (k12.2.2 c14) ((l12 k12.1).2 c14))⟩⟩) (h1.2.2.2.2.2.2.1 c5) (((((h2 h1.1) h1.2.1) h1.2.2.1) h1.2.2.2.1).2.2.1 c5)), (fun c5 => cj_184 (fun r32 s31 k17 l17 => ⟨k17.1, ⟨(fun c19 => hQ _ _  (k17.2.1 c19) ((l17 k17.1).1 c19)), (fun c19 => hQ _ _  (k17.2.2 c19) ((l17 k17.1).2 c19))⟩⟩) (h1.2.2.2.2.2.2.2.1 c5) (((((h2 h1.1) h1.2.1) h1.2.2.1) h1.2.2.2.1).2.2.2.1 c5)), (fun c5 => cj_190 (fun r35 s34 k22 l22 => ⟨k22.1, ⟨(fun c24 => hQ _ _  (k22.2.1 c24) ((l22 k22.1).1 c24)), (fun c24 => hQ _ _  (k22.2.2 c24) ((l22 k22.1).2 c24))⟩⟩) (h1.2.2.2.2.2.2.2.2.1 c5) (((((h2 h1.1) h1.2.1) h1.2.2.1) h1.2.2.2.1).2.2.2.2.1 c5)), (fun c5 => cj_240 (fun r38 s37 k27 l27 => ⟨k27.1, ⟨(fun c29 => hQ _ _  (k27.2.1 c29) ((l27 k27.1).1 c29)), (fun c29 => hQ _ _  (k27.2.2 c29) ((l27 k27.1).2 c29))⟩⟩) (h1.2.2.2.2.2.2.2.2.2.1 c5) (((((h2 h1.1) h1.2.1) h1.2.2.1) h1.2.2.2.1).2.2.2.2.2.1 c5)), (fun c5 => cj_248 (fun z41 s40 k32 l32 => hQ _ _  k32 l32) (h1.2.2.2.2.2.2.2.2.2.2.1 c5) (((((h2 h1.1) h1.2.1) h1.2.2.1) h1.2.2.2.1).2.2.2.2.2.2.1 c5)), (fun c5 => cj_250 (fun z43 s42 k34 l34 => hQ _ _  k34 l34) (h1.2.2.2.2.2.2.2.2.2.2.2.1 c5) (((((h2 h1.1) h1.2.1) h1.2.2.1) h1.2.2.2.1).2.2.2.2.2.2.2.1 c5)), (fun c5 => cj_250 (fun z45 s44 k36 l36 => hQ _ _  k36 l36) (h1.2.2.2.2.2.2.2.2.2.2.2.2.1 c5) (((((h2 h1.1) h1.2.1) h1.2.2.1) h1.2.2.2.1).2.2.2.2.2.2.2.2.1 c5)), (fun c5 => cj_253 (fun r47 s46 k38 l38 => ⟨k38.1, ⟨(fun c40 => hQ _ _  (k38.2.1 c40) ((l38 k38.1).1 c40)), (fun c40 => hQ _ _  (k38.2.2 c40) ((l38 k38.1).2 c40))⟩⟩) (h1.2.2.2.2.2.2.2.2.2.2.2.2.2.1 c5) (((((h2 h1.1) h1.2.1) h1.2.2.1) h1.2.2.2.1).2.2.2.2.2.2.2.2.2.1 c5)), (fun c5 => cj_258 (fun z50 s49 k43 l43 => hQ _ _  k43 l43) (h1.2.2.2.2.2.2.2.2.2.2.2.2.2.2 c5) (((((h2 h1.1) h1.2.1) h1.2.2.1) h1.2.2.2.1).2.2.2.2.2.2.2.2.2.2 c5))⟩⟩⟩⟩⟩
def fw_280_p22 (Q : Int → lf_Z → Prop) (x1 : Int) (X22 : Int → lf_Z → Prop) (x2 : Int) (s : lf_Z) : Prop := (0 ≤ 705 * x1 ∧ 705 * x1 < 2820) → (lf_R x2 → (lf_R (s.1 98 (705 * x1)) → ((s.1 98 (705 * x1) ≤ x2 → (Q (-1) s)) ∧ (¬ (s.1 98 (705 * x1) ≤ x2) → (fw_281 (((705 * x1) + 1) + (4 * x2)) (fun z27 s26 => ((z27 = true → (X22 (x2 + 1) s26)) ∧ (z27 = false → (Q x2 s26)))) s)))))
theorem cj_280_p22 {X221 X222 X223 : Int → lf_Z → Prop} {Q1 Q2 Q3 : Int → lf_Z → Prop} {x1 : Int} {x2 : Int} {s : lf_Z} (hX22 : ∀ (v0 : Int) (v1 : lf_Z), X221 v0 v1 → X222 v0 v1 → X223 v0 v1) (hQ : ∀ (r : Int) (s : lf_Z), Q1 r s → Q2 r s → Q3 r s) (h1 : fm_280_p22 Q1 x1 X221 x2 s) (h2 : fw_280_p22 Q2 x1 X222 x2 s) : fm_280_p22 Q3 x1 X223 x2 s := by
  unfold fm_280_p22 at h1 ⊢
  unfold fw_280_p22 at h2
  exact ⟨h1.1, ⟨h1.2.1, ⟨h1.2.2.1, ⟨(fun c4 => hQ _ _  (h1.2.2.2.1 c4) ((((h2 h1.1) h1.2.1) h1.2.2.1).1 c4)), (fun c4 => cj_281 (fun z27 s26 k6 l6 => ⟨(fun c7 => hX22 _ _  (k6.1 c7) (l6.1 c7)), (fun c7 => hQ _ _  (k6.2 c7) (l6.2 c7))⟩) (h1.2.2.2.2 c4) ((((h2 h1.1) h1.2.1) h1.2.2.1).2 c4))⟩⟩⟩⟩
def fw_280_p22L (Q : Int → lf_Z → Prop) (x1 : Int) (x2 : Int) (s : lf_Z) : Prop := ∃ X22 : Int → lf_Z → Prop, (∀ (x2 : Int) (s : lf_Z), X22 x2 s → fw_280_p22 Q x1 X22 x2 s) ∧ X22 x2 s
theorem cj_280_p22L {Q1 Q2 Q3 : Int → lf_Z → Prop} {x1 : Int} {x2 : Int} {s : lf_Z} (hQ : ∀ (r : Int) (s : lf_Z), Q1 r s → Q2 r s → Q3 r s) (h1 : fm_280_p22L Q1 x1 x2 s) (h2 : fw_280_p22L Q2 x1 x2 s) : fm_280_p22L Q3 x1 x2 s := by
  intro X0 hX0
  obtain ⟨Y, hY, hY0⟩ := h2
  exact h1 (fun v0 s => Y v0 s → X0 v0 s) (fun v0 s hb hy => hX0 v0 s (cj_280_p22 (X221 := fun v0 s => Y v0 s → X0 v0 s) (X222 := Y) (X223 := X0) (hX22 := fun v0 s a b => a b) hQ hb (hY v0 s hy))) hY0
def fw_280 (a1 : Int) (Q : Int → lf_Z → Prop) (s : lf_Z) : Prop := fw_183 a1 0 ((s.1 96 7) - 1) (fun z22 s21 => ((z22 = true → (fw_280_p22L Q a1 0 s21)) ∧ (z22 = false → (Q (-2) s21)))) s
theorem cj_280 {Q1 Q2 Q3 : Int → lf_Z → Prop} {a1 : Int} {s : lf_Z} (hQ : ∀ (r : Int) (s : lf_Z), Q1 r s → Q2 r s → Q3 r s) (h1 : fm_280 a1 Q1 s) (h2 : fw_280 a1 Q2 s) : fm_280 a1 Q3 s := by
  unfold fm_280 at h1 ⊢
  unfold fw_280 at h2
  exact cj_183 (fun z22 s21 k1 l1 => ⟨(fun c2 => cj_280_p22L hQ (k1.1 c2) (l1.1 c2)), (fun c2 => hQ _ _  (k1.2 c2) (l1.2 c2))⟩) h1 h2
def fw_106_p100 (Q : lf_Z → Prop) (y0 : Int) (s : lf_Z) : Prop := fw_99 y0 (fun z28 s27 => ((z28 = false → (Q s27)) ∧ (z28 = true → (lf_R (s27.1 1 0) → ((s27.1 1 0 = 0 → (Q s27)) ∧ (¬ (s27.1 1 0 = 0) → (lf_R (s27.1 15 8) → ((s27.1 1 0) ≠ 0 → ((0 ≤ y0 ∧ y0 < 6) → (Q (lf_up s27.1 20 y0 ((s27.1 15 8).tmod (s27.1 1 0)), s27.2.1, s27.2.2))))))))))) s
theorem cj_106_p100 {Q1 Q2 Q3 : lf_Z → Prop} {y0 : Int} {s : lf_Z} (hQ : ∀ (s : lf_Z), Q1 s → Q2 s → Q3 s) (h1 : fm_106_p100 Q1 y0 s) (h2 : fw_106_p100 Q2 y0 s) : fm_106_p100 Q3 y0 s := by
  unfold fm_106_p100 at h1 ⊢
  unfold fw_106_p100 at h2
  exact cj_99 (fun z28 s27 k1 l1 => ⟨(fun c2 => hQ _  (k1.1 c2) (l1.1 c2)), (fun c2 => ⟨(k1.2 c2).1, ⟨(fun c5 => hQ _  ((k1.2 c2).2.1 c5) (((l1.2 c2) (k1.2 c2).1).1 c5)), (fun c5 => ⟨((k1.2 c2).2.2 c5).1, ⟨((k1.2 c2).2.2 c5).2.1, ⟨((k1.2 c2).2.2 c5).2.2.1, hQ _  ((k1.2 c2).2.2 c5).2.2.2 ((((((l1.2 c2) (k1.2 c2).1).2 c5) ((k1.2 c2).2.2 c5).1) ((k1.2 c2).2.2 c5).2.1) ((k1.2 c2).2.2 c5).2.2.1)⟩⟩⟩)⟩⟩)⟩) h1 h2
def fw_106_p43 (Q : lf_Z → Prop) (y0 : Int) (s : lf_Z) : Prop := fw_89 y0 (fun z36 s35 => ((z36 = false → (Q s35)) ∧ (z36 = true → (fw_101 y0 (fun s37 => (Q s37)) s35)))) s
theorem cj_106_p43 {Q1 Q2 Q3 : lf_Z → Prop} {y0 : Int} {s : lf_Z} (hQ : ∀ (s : lf_Z), Q1 s → Q2 s → Q3 s) (h1 : fm_106_p43 Q1 y0 s) (h2 : fw_106_p43 Q2 y0 s) : fm_106_p43 Q3 y0 s := by
  unfold fm_106_p43 at h1 ⊢
  unfold fw_106_p43 at h2
  exact cj_89 (fun z36 s35 k1 l1 => ⟨(fun c2 => hQ _  (k1.1 c2) (l1.1 c2)), (fun c2 => cj_101 (fun s37 k4 l4 => hQ _  k4 l4) (k1.2 c2) (l1.2 c2))⟩) h1 h2
def fw_106 (Q : lf_Z → Prop) (s : lf_Z) : Prop := lf_R (s.1 15 8) → (lf_R ((s.1 15 8).tmod 5) → (((s.1 15 8).tmod 5 ≠ 0 → (((s.1 15 8).tmod 5 ≠ 1 → (lf_R (s.1 15 7) → ((999 ≤ s.1 15 7 → (Q s)) ∧ (¬ (999 ≤ s.1 15 7) → (fw_72 (fun s24 => (Q s24)) s))))) ∧ (¬ ((s.1 15 8).tmod 5 ≠ 1) → (lf_R (s.1 1 2) → ((s.1 1 2 ≠ 0 → ((s.1 1 2) ≠ 0 → (fw_106_p100 Q ((s.1 15 8).tmod (s.1 1 2)) s))) ∧ (¬ (s.1 1 2 ≠ 0) → (fw_106_p100 Q (-1) s))))))) ∧ (¬ ((s.1 15 8).tmod 5 ≠ 0) → (lf_R (s.1 1 1) → ((s.1 1 1 ≠ 0 → ((s.1 1 1) ≠ 0 → (fw_106_p43 Q ((s.1 15 8).tmod (s.1 1 1)) s))) ∧ (¬ (s.1 1 1 ≠ 0) → (fw_106_p43 Q (-1) s)))))))
theorem cj_106 {Q1 Q2 Q3 : lf_Z → Prop} {s : lf_Z} (hQ : ∀ (s : lf_Z), Q1 s → Q2 s → Q3 s) (h1 : fm_106 Q1 s) (h2 : fw_106 Q2 s) : fm_106 Q3 s := by
  unfold fm_106 at h1 ⊢
  unfold fw_106 at h2
  exact ⟨h1.1, ⟨h1.2.1, ⟨(fun c3 => ⟨(fun c4 => ⟨((h1.2.2.1 c3).1 c4).1, ⟨(fun c6 => hQ _  (((h1.2.2.1 c3).1 c4).2.1 c6) ((((((h2 h1.1) h1.2.1).1 c3).1 c4) ((h1.2.2.1 c3).1 c4).1).1 c6)), (fun c6 => cj_72 (fun s24 k8 l8 => hQ _  k8 l8) (((h1.2.2.1 c3).1 c4).2.2 c6) ((((((h2 h1.1) h1.2.1).1 c3).1 c4) ((h1.2.2.1 c3).1 c4).1).2 c6))⟩⟩), (fun c4 => ⟨((h1.2.2.1 c3).2 c4).1, ⟨(fun c11 => ⟨(((h1.2.2.1 c3).2 c4).2.1 c11).1, cj_106_p100 hQ (((h1.2.2.1 c3).2 c4).2.1 c11).2 (((((((h2 h1.1) h1.2.1).1 c3).2 c4) ((h1.2.2.1 c3).2 c4).1).1 c11) (((h1.2.2.1 c3).2 c4).2.1 c11).1)⟩), (fun c11 => cj_106_p100 hQ (((h1.2.2.1 c3).2 c4).2.2 c11) ((((((h2 h1.1) h1.2.1).1 c3).2 c4) ((h1.2.2.1 c3).2 c4).1).2 c11))⟩⟩)⟩), (fun c3 => ⟨(h1.2.2.2 c3).1, ⟨(fun c16 => ⟨((h1.2.2.2 c3).2.1 c16).1, cj_106_p43 hQ ((h1.2.2.2 c3).2.1 c16).2 ((((((h2 h1.1) h1.2.1).2 c3) (h1.2.2.2 c3).1).1 c16) ((h1.2.2.2 c3).2.1 c16).1)⟩), (fun c16 => cj_106_p43 hQ ((h1.2.2.2 c3).2.2 c16) (((((h2 h1.1) h1.2.1).2 c3) (h1.2.2.2 c3).1).2 c16))⟩⟩)⟩⟩⟩
def fw_105_p66 (Q : Int → lf_Z → Prop) (x2 : Int) (X66 : Int → lf_Z → Prop) (x3 : Int) (s : lf_Z) : Prop := lf_R x3 → (lf_R x2 → ((x2 ≤ x3 → (fw_97 (fun r30 s29 => (Q r30 s29)) s)) ∧ (¬ (x2 ≤ x3) → (fw_106 (fun s31 => (fw_94 (fun s32 => (X66 (x3 + 1) s32)) s31)) s))))
theorem cj_105_p66 {X661 X662 X663 : Int → lf_Z → Prop} {Q1 Q2 Q3 : Int → lf_Z → Prop} {x2 : Int} {x3 : Int} {s : lf_Z} (hX66 : ∀ (v0 : Int) (v1 : lf_Z), X661 v0 v1 → X662 v0 v1 → X663 v0 v1) (hQ : ∀ (r : Int) (s : lf_Z), Q1 r s → Q2 r s → Q3 r s) (h1 : fm_105_p66 Q1 x2 X661 x3 s) (h2 : fw_105_p66 Q2 x2 X662 x3 s) : fm_105_p66 Q3 x2 X663 x3 s := by
  unfold fm_105_p66 at h1 ⊢
  unfold fw_105_p66 at h2
  exact ⟨h1.1, ⟨h1.2.1, ⟨(fun c3 => cj_97 (fun r30 s29 k4 l4 => hQ _ _  k4 l4) (h1.2.2.1 c3) (((h2 h1.1) h1.2.1).1 c3)), (fun c3 => cj_106 (fun s31 k6 l6 => cj_94 (fun s32 k7 l7 => hX66 _ _  k7 l7) k6 l6) (h1.2.2.2 c3) (((h2 h1.1) h1.2.1).2 c3))⟩⟩⟩
def fw_105_p66L (Q : Int → lf_Z → Prop) (x2 : Int) (x3 : Int) (s : lf_Z) : Prop := ∃ X66 : Int → lf_Z → Prop, (∀ (x3 : Int) (s : lf_Z), X66 x3 s → fw_105_p66 Q x2 X66 x3 s) ∧ X66 x3 s
theorem cj_105_p66L {Q1 Q2 Q3 : Int → lf_Z → Prop} {x2 : Int} {x3 : Int} {s : lf_Z} (hQ : ∀ (r : Int) (s : lf_Z), Q1 r s → Q2 r s → Q3 r s) (h1 : fm_105_p66L Q1 x2 x3 s) (h2 : fw_105_p66L Q2 x2 x3 s) : fm_105_p66L Q3 x2 x3 s := by
  intro X0 hX0
  obtain ⟨Y, hY, hY0⟩ := h2
  exact h1 (fun v0 s => Y v0 s → X0 v0 s) (fun v0 s hb hy => hX0 v0 s (cj_105_p66 (X661 := fun v0 s => Y v0 s → X0 v0 s) (X662 := Y) (X663 := X0) (hX66 := fun v0 s a b => a b) hQ hb (hY v0 s hy))) hY0
def fw_105 (a1 : Int) (a2 : Int) (Q : Int → lf_Z → Prop) (s : lf_Z) : Prop := fw_15 a1 0 9999 (fun z22 s21 => ((z22 = false → (Q (-1) s21)) ∧ (z22 = true → (fw_15 a2 1 30 (fun z24 s23 => ((z24 = false → (Q (-1) s23)) ∧ (z24 = true → (lf_R (s23.1 1 1) → ((s23.1 1 1 ≠ 0 → (fw_67 (s23.1 1 2) (fun s26 => (fw_105_p66L Q a2 0 (lf_up s26.1 15 8 ((a1 * 3) + 41), s26.2.1, s26.2.2))) s23)) ∧ (¬ (s23.1 1 1 ≠ 0) → (Q (-1) s23))))))) s21)))) s
theorem cj_105 {Q1 Q2 Q3 : Int → lf_Z → Prop} {a1 : Int} {a2 : Int} {s : lf_Z} (hQ : ∀ (r : Int) (s : lf_Z), Q1 r s → Q2 r s → Q3 r s) (h1 : fm_105 a1 a2 Q1 s) (h2 : fw_105 a1 a2 Q2 s) : fm_105 a1 a2 Q3 s := by
  unfold fm_105 at h1 ⊢
  unfold fw_105 at h2
  exact cj_15 (fun z22 s21 k1 l1 => ⟨(fun c2 => hQ _ _  (k1.1 c2) (l1.1 c2)), (fun c2 => cj_15 (fun z24 s23 k4 l4 => ⟨(fun c5 => hQ _ _  (k4.1 c5) (l4.1 c5)), (fun c5 => ⟨(k4.2 c5).1, ⟨(fun c8 => cj_67 (fun s26 k9 l9 => cj_105_p66L hQ k9 l9) ((k4.2 c5).2.1 c8) (((l4.2 c5) (k4.2 c5).1).1 c8)), (fun c8 => hQ _ _  ((k4.2 c5).2.2 c8) (((l4.2 c5) (k4.2 c5).1).2 c8))⟩⟩)⟩) (k1.2 c2) (l1.2 c2))⟩) h1 h2
def fw_283 (Q : lf_Z → Prop) (s : lf_Z) : Prop := lf_R (s.1 96 6) → (lf_R (s.1 96 1) → ((s.1 96 1) ≠ 0 → (lf_R ((s.1 96 6).tmod 5) → (((s.1 96 6).tmod 5 ≠ 0 ∧ (s.1 96 6).tmod 5 ≠ 1 → (lf_R (s.1 96 3) → ((999 ≤ s.1 96 3 → (Q s)) ∧ (¬ (999 ≤ s.1 96 3) → (fw_260 (fun s26 => (Q s26)) s))))) ∧ ((s.1 96 6).tmod 5 = 0 → (fw_252 ((s.1 96 6).tmod (s.1 96 1)) (fun z28 s27 => ((z28 = true → (Q s27)) ∧ (z28 = false → ((0 ≤ (50 + (4 * ((s.1 96 6).tmod (s.1 96 1)))) + 3 ∧ (50 + (4 * ((s.1 96 6).tmod (s.1 96 1)))) + 3 < 1538) → (Q (lf_up s27.1 96 ((50 + (4 * ((s.1 96 6).tmod (s.1 96 1)))) + 3) (lf_w (1 - (s27.1 96 ((50 + (4 * ((s.1 96 6).tmod (s.1 96 1)))) + 3)))), s27.2.1, s27.2.2)))))) s)) ∧ ((s.1 96 6).tmod 5 = 1 → (lf_R (s.1 96 2) → ((s.1 96 2 ≤ 0 → (Q s)) ∧ (¬ (s.1 96 2 ≤ 0) → ((s.1 96 2) ≠ 0 → (lf_R (s.1 96 0) → ((s.1 96 0) ≠ 0 → (fw_191e ((s.1 96 6).tmod (s.1 96 2)) ((s.1 96 6).tmod (s.1 96 0)) (fun s34 => (Q s34)) s))))))))))))
theorem cj_283 {Q1 Q2 Q3 : lf_Z → Prop} {s : lf_Z} (hQ : ∀ (s : lf_Z), Q1 s → Q2 s → Q3 s) (h1 : fm_283 Q1 s) (h2 : fw_283 Q2 s) : fm_283 Q3 s := by
  unfold fm_283 at h1 ⊢
  unfold fw_283 at h2
  exact ⟨h1.1, ⟨h1.2.1, ⟨h1.2.2.1, ⟨h1.2.2.2.1, ⟨(fun c5 => ⟨(h1.2.2.2.2.1 c5).1, ⟨(fun c7 => hQ _  ((h1.2.2.2.2.1 c5).2.1 c7) (((((((h2 h1.1) h1.2.1) h1.2.2.1) h1.2.2.2.1).1 c5) (h1.2.2.2.2.1 c5).1).1 c7)), (fun c7 => cj_260 (fun s26 k9 l9 => hQ _  k9 l9) ((h1.2.2.2.2.1 c5).2.2 c7) (((((((h2 h1.1) h1.2.1) h1.2.2.1) h1.2.2.2.1).1 c5) (h1.2.2.2.2.1 c5).1).2 c7))⟩⟩), (fun c5 => cj_252 (fun z28 s27 k11 l11 => ⟨(fun c12 => hQ _  (k11.1 c12) (l11.1 c12)), (fun c12 => ⟨(k11.2 c12).1, hQ _  (k11.2 c12).2 ((l11.2 c12) (k11.2 c12).1)⟩)⟩) (h1.2.2.2.2.2.1 c5) (((((h2 h1.1) h1.2.1) h1.2.2.1) h1.2.2.2.1).2.1 c5)), (fun c5 => ⟨(h1.2.2.2.2.2.2 c5).1, ⟨(fun c17 => hQ _  ((h1.2.2.2.2.2.2 c5).2.1 c17) (((((((h2 h1.1) h1.2.1) h1.2.2.1) h1.2.2.2.1).2.2 c5) (h1.2.2.2.2.2.2 c5).1).1 c17)), (fun c17 => ⟨((h1.2.2.2.2.2.2 c5).2.2 c17).1, ⟨((h1.2.2.2.2.2.2 c5).2.2 c17).2.1, ⟨((h1.2.2.2.2.2.2 c5).2.2 c17).2.2.1, cj_191e (fun s34 k22 l22 => hQ _  k22 l22) ((h1.2.2.2.2.2.2 c5).2.2 c17).2.2.2 ((((((((((h2 h1.1) h1.2.1) h1.2.2.1) h1.2.2.2.1).2.2 c5) (h1.2.2.2.2.2.2 c5).1).2 c17) ((h1.2.2.2.2.2.2 c5).2.2 c17).1) ((h1.2.2.2.2.2.2 c5).2.2 c17).2.1) ((h1.2.2.2.2.2.2 c5).2.2 c17).2.2.1)⟩⟩⟩)⟩⟩)⟩⟩⟩⟩⟩
def fw_282_p51 (Q : Int → lf_Z → Prop) (x2 : Int) (X51 : Int → lf_Z → Prop) (x3 : Int) (s : lf_Z) : Prop := lf_R x3 → (lf_R x2 → ((x2 ≤ x3 → (fw_279 (fun r30 s29 => (Q r30 s29)) s)) ∧ (¬ (x2 ≤ x3) → (fw_283 (fun s31 => (fw_276 (fun s32 => (X51 (x3 + 1) s32)) s31)) s))))
theorem cj_282_p51 {X511 X512 X513 : Int → lf_Z → Prop} {Q1 Q2 Q3 : Int → lf_Z → Prop} {x2 : Int} {x3 : Int} {s : lf_Z} (hX51 : ∀ (v0 : Int) (v1 : lf_Z), X511 v0 v1 → X512 v0 v1 → X513 v0 v1) (hQ : ∀ (r : Int) (s : lf_Z), Q1 r s → Q2 r s → Q3 r s) (h1 : fm_282_p51 Q1 x2 X511 x3 s) (h2 : fw_282_p51 Q2 x2 X512 x3 s) : fm_282_p51 Q3 x2 X513 x3 s := by
  unfold fm_282_p51 at h1 ⊢
  unfold fw_282_p51 at h2
  exact ⟨h1.1, ⟨h1.2.1, ⟨(fun c3 => cj_279 (fun r30 s29 k4 l4 => hQ _ _  k4 l4) (h1.2.2.1 c3) (((h2 h1.1) h1.2.1).1 c3)), (fun c3 => cj_283 (fun s31 k6 l6 => cj_276 (fun s32 k7 l7 => hX51 _ _  k7 l7) k6 l6) (h1.2.2.2 c3) (((h2 h1.1) h1.2.1).2 c3))⟩⟩⟩
def fw_282_p51L (Q : Int → lf_Z → Prop) (x2 : Int) (x3 : Int) (s : lf_Z) : Prop := ∃ X51 : Int → lf_Z → Prop, (∀ (x3 : Int) (s : lf_Z), X51 x3 s → fw_282_p51 Q x2 X51 x3 s) ∧ X51 x3 s
theorem cj_282_p51L {Q1 Q2 Q3 : Int → lf_Z → Prop} {x2 : Int} {x3 : Int} {s : lf_Z} (hQ : ∀ (r : Int) (s : lf_Z), Q1 r s → Q2 r s → Q3 r s) (h1 : fm_282_p51L Q1 x2 x3 s) (h2 : fw_282_p51L Q2 x2 x3 s) : fm_282_p51L Q3 x2 x3 s := by
  intro X0 hX0
  obtain ⟨Y, hY, hY0⟩ := h2
  exact h1 (fun v0 s => Y v0 s → X0 v0 s) (fun v0 s hb hy => hX0 v0 s (cj_282_p51 (X511 := fun v0 s => Y v0 s → X0 v0 s) (X512 := Y) (X513 := X0) (hX51 := fun v0 s a b => a b) hQ hb (hY v0 s hy))) hY0
def fw_282 (a1 : Int) (a2 : Int) (Q : Int → lf_Z → Prop) (s : lf_Z) : Prop := fw_183 a1 0 9999 (fun z22 s21 => ((z22 = false → (Q (-1) s21)) ∧ (z22 = true → (fw_183 a2 1 30 (fun z24 s23 => ((z24 = false → (Q (-1) s23)) ∧ (z24 = true → (lf_R (s23.1 96 1) → ((s23.1 96 1 ≠ 0 → (fw_244 (fun s26 => (fw_282_p51L Q a2 0 (lf_up s26.1 96 6 ((a1 * 3) + 41), s26.2.1, s26.2.2))) s23)) ∧ (¬ (s23.1 96 1 ≠ 0) → (Q (-1) s23))))))) s21)))) s
theorem cj_282 {Q1 Q2 Q3 : Int → lf_Z → Prop} {a1 : Int} {a2 : Int} {s : lf_Z} (hQ : ∀ (r : Int) (s : lf_Z), Q1 r s → Q2 r s → Q3 r s) (h1 : fm_282 a1 a2 Q1 s) (h2 : fw_282 a1 a2 Q2 s) : fm_282 a1 a2 Q3 s := by
  unfold fm_282 at h1 ⊢
  unfold fw_282 at h2
  exact cj_183 (fun z22 s21 k1 l1 => ⟨(fun c2 => hQ _ _  (k1.1 c2) (l1.1 c2)), (fun c2 => cj_183 (fun z24 s23 k4 l4 => ⟨(fun c5 => hQ _ _  (k4.1 c5) (l4.1 c5)), (fun c5 => ⟨(k4.2 c5).1, ⟨(fun c8 => cj_244 (fun s26 k9 l9 => cj_282_p51L hQ k9 l9) ((k4.2 c5).2.1 c8) (((l4.2 c5) (k4.2 c5).1).1 c8)), (fun c8 => hQ _ _  ((k4.2 c5).2.2 c8) (((l4.2 c5) (k4.2 c5).1).2 c8))⟩⟩)⟩) (k1.2 c2) (l1.2 c2))⟩) h1 h2
def fw_109_p42 (Q : lf_Z → Prop) (X42 : Int → Int → lf_Z → Prop) (x3 : Int) (x4 : Int) (s : lf_Z) : Prop := lf_R x4 → ((6 ≤ x4 → (((0 : Int) ≤ x3 ∧ (0 : Int) ≤ 0 ∧ (0 : Int) ≤ 12 ∧ (x3 : Int) + 12 ≤ 1170 ∧ (0 : Int) + 12 ≤ 12) → ((0 ≤ x3 + 12 ∧ x3 + 12 < 1170) → ((0 ≤ (x3 + 12) + 1 ∧ (x3 + 12) + 1 < 1170) → ((0 ≤ (x3 + 12) + 2 ∧ (x3 + 12) + 2 < 1170) → (Q (lf_up (lf_up (lf_up (lf_cp s.1 23 21 x3 0 12) 15 6 ((lf_cp s.1 23 21 x3 0 12) 23 (x3 + 12))) 15 7 ((lf_cp s.1 23 21 x3 0 12) 23 ((x3 + 12) + 1))) 15 8 ((lf_cp s.1 23 21 x3 0 12) 23 ((x3 + 12) + 2)), s.2.1, s.2.2))))))) ∧ (¬ (6 ≤ x4) → ((0 ≤ x3 ∧ x3 < 1170) → ((0 ≤ x4 ∧ x4 < 6) → ((0 ≤ x3 + 1 ∧ x3 + 1 < 1170) → (X42 (x3 + 2) (x4 + 1) (lf_up (lf_up s.1 19 x4 (s.1 23 x3)) 20 x4 (s.1 23 (x3 + 1)), s.2.1, s.2.2)))))))
theorem cj_109_p42 {X421 X422 X423 : Int → Int → lf_Z → Prop} {Q1 Q2 Q3 : lf_Z → Prop} {x3 : Int} {x4 : Int} {s : lf_Z} (hX42 : ∀ (v0 : Int) (v1 : Int) (v2 : lf_Z), X421 v0 v1 v2 → X422 v0 v1 v2 → X423 v0 v1 v2) (hQ : ∀ (s : lf_Z), Q1 s → Q2 s → Q3 s) (h1 : fm_109_p42 Q1 X421 x3 x4 s) (h2 : fw_109_p42 Q2 X422 x3 x4 s) : fm_109_p42 Q3 X423 x3 x4 s := by
  unfold fm_109_p42 at h1 ⊢
  unfold fw_109_p42 at h2
  exact ⟨h1.1, ⟨(fun c2 => ⟨(h1.2.1 c2).1, ⟨(h1.2.1 c2).2.1, ⟨(h1.2.1 c2).2.2.1, ⟨(h1.2.1 c2).2.2.2.1, hQ _  (h1.2.1 c2).2.2.2.2 ((((((h2 h1.1).1 c2) (h1.2.1 c2).1) (h1.2.1 c2).2.1) (h1.2.1 c2).2.2.1) (h1.2.1 c2).2.2.2.1)⟩⟩⟩⟩), (fun c2 => ⟨(h1.2.2 c2).1, ⟨(h1.2.2 c2).2.1, ⟨(h1.2.2 c2).2.2.1, hX42 _ _ _  (h1.2.2 c2).2.2.2 (((((h2 h1.1).2 c2) (h1.2.2 c2).1) (h1.2.2 c2).2.1) (h1.2.2 c2).2.2.1)⟩⟩⟩)⟩⟩
def fw_109_p42L (Q : lf_Z → Prop) (x3 : Int) (x4 : Int) (s : lf_Z) : Prop := ∃ X42 : Int → Int → lf_Z → Prop, (∀ (x3 : Int) (x4 : Int) (s : lf_Z), X42 x3 x4 s → fw_109_p42 Q X42 x3 x4 s) ∧ X42 x3 x4 s
theorem cj_109_p42L {Q1 Q2 Q3 : lf_Z → Prop} {x3 : Int} {x4 : Int} {s : lf_Z} (hQ : ∀ (s : lf_Z), Q1 s → Q2 s → Q3 s) (h1 : fm_109_p42L Q1 x3 x4 s) (h2 : fw_109_p42L Q2 x3 x4 s) : fm_109_p42L Q3 x3 x4 s := by
  intro X0 hX0
  obtain ⟨Y, hY, hY0⟩ := h2
  exact h1 (fun v0 v1 s => Y v0 v1 s → X0 v0 v1 s) (fun v0 v1 s hb hy => hX0 v0 v1 s (cj_109_p42 (X421 := fun v0 v1 s => Y v0 v1 s → X0 v0 v1 s) (X422 := Y) (X423 := X0) (hX42 := fun v0 v1 s a b => a b) hQ hb (hY v0 v1 s hy))) hY0
def fw_109_p5 (Q : lf_Z → Prop) (X5 : Int → Int → lf_Z → Prop) (x3 : Int) (x4 : Int) (s : lf_Z) : Prop := lf_R x4 → ((4 ≤ x4 → (fw_109_p42L Q x3 0 s)) ∧ (¬ (4 ≤ x4) → ((0 ≤ x3 ∧ x3 < 1170) → ((0 ≤ x3 + 1 ∧ x3 + 1 < 1170) → ((0 ≤ x3 + 2 ∧ x3 + 2 < 1170) → (fw_69 x4 (s.1 23 x3) (s.1 23 (x3 + 1)) (s.1 23 (x3 + 2)) (fun s33 => (X5 (x3 + 3) (x4 + 1) s33)) s))))))
theorem cj_109_p5 {X51 X52 X53 : Int → Int → lf_Z → Prop} {Q1 Q2 Q3 : lf_Z → Prop} {x3 : Int} {x4 : Int} {s : lf_Z} (hX5 : ∀ (v0 : Int) (v1 : Int) (v2 : lf_Z), X51 v0 v1 v2 → X52 v0 v1 v2 → X53 v0 v1 v2) (hQ : ∀ (s : lf_Z), Q1 s → Q2 s → Q3 s) (h1 : fm_109_p5 Q1 X51 x3 x4 s) (h2 : fw_109_p5 Q2 X52 x3 x4 s) : fm_109_p5 Q3 X53 x3 x4 s := by
  unfold fm_109_p5 at h1 ⊢
  unfold fw_109_p5 at h2
  exact ⟨h1.1, ⟨(fun c2 => cj_109_p42L hQ (h1.2.1 c2) ((h2 h1.1).1 c2)), (fun c2 => ⟨(h1.2.2 c2).1, ⟨(h1.2.2 c2).2.1, ⟨(h1.2.2 c2).2.2.1, cj_69 (fun s33 k7 l7 => hX5 _ _ _  k7 l7) (h1.2.2 c2).2.2.2 (((((h2 h1.1).2 c2) (h1.2.2 c2).1) (h1.2.2 c2).2.1) (h1.2.2 c2).2.2.1)⟩⟩⟩)⟩⟩
def fw_109_p5L (Q : lf_Z → Prop) (x3 : Int) (x4 : Int) (s : lf_Z) : Prop := ∃ X5 : Int → Int → lf_Z → Prop, (∀ (x3 : Int) (x4 : Int) (s : lf_Z), X5 x3 x4 s → fw_109_p5 Q X5 x3 x4 s) ∧ X5 x3 x4 s
theorem cj_109_p5L {Q1 Q2 Q3 : lf_Z → Prop} {x3 : Int} {x4 : Int} {s : lf_Z} (hQ : ∀ (s : lf_Z), Q1 s → Q2 s → Q3 s) (h1 : fm_109_p5L Q1 x3 x4 s) (h2 : fw_109_p5L Q2 x3 x4 s) : fm_109_p5L Q3 x3 x4 s := by
  intro X0 hX0
  obtain ⟨Y, hY, hY0⟩ := h2
  exact h1 (fun v0 v1 s => Y v0 v1 s → X0 v0 v1 s) (fun v0 v1 s hb hy => hX0 v0 v1 s (cj_109_p5 (X51 := fun v0 v1 s => Y v0 v1 s → X0 v0 v1 s) (X52 := Y) (X53 := X0) (hX5 := fun v0 v1 s a b => a b) hQ hb (hY v0 v1 s hy))) hY0
def fw_109 (a2 : Int) (Q : lf_Z → Prop) (s : lf_Z) : Prop := fw_109_p5L Q a2 0 s
theorem cj_109 {Q1 Q2 Q3 : lf_Z → Prop} {a2 : Int} {s : lf_Z} (hQ : ∀ (s : lf_Z), Q1 s → Q2 s → Q3 s) (h1 : fm_109 a2 Q1 s) (h2 : fw_109 a2 Q2 s) : fm_109 a2 Q3 s := by
  unfold fm_109 at h1 ⊢
  unfold fw_109 at h2
  exact cj_109_p5L hQ h1 h2
def fw_108_p34 (Q : Bool → lf_Z → Prop) (X34 : Int → lf_Z → Prop) (x3 : Int) (s : lf_Z) : Prop := lf_R x3 → (lf_R (s.1 1 2) → ((s.1 1 2 ≤ x3 → (lf_R (((s.1 22 2) + 30) - 1) → (Q true (lf_up (lf_up s.1 22 2 ((((s.1 22 2) + 30) - 1).tmod 30)) 22 3 ((s.1 22 3) - 1), s.2.1, s.2.2)))) ∧ (¬ (s.1 1 2 ≤ x3) → ((0 ≤ x3 ∧ x3 < 6) → (X34 (x3 + 1) (lf_up (lf_up s.1 19 x3 (s.1 10 x3)) 20 x3 (-1), s.2.1, s.2.2))))))
theorem cj_108_p34 {X341 X342 X343 : Int → lf_Z → Prop} {Q1 Q2 Q3 : Bool → lf_Z → Prop} {x3 : Int} {s : lf_Z} (hX34 : ∀ (v0 : Int) (v1 : lf_Z), X341 v0 v1 → X342 v0 v1 → X343 v0 v1) (hQ : ∀ (r : Bool) (s : lf_Z), Q1 r s → Q2 r s → Q3 r s) (h1 : fm_108_p34 Q1 X341 x3 s) (h2 : fw_108_p34 Q2 X342 x3 s) : fm_108_p34 Q3 X343 x3 s := by
  unfold fm_108_p34 at h1 ⊢
  unfold fw_108_p34 at h2
  exact ⟨h1.1, ⟨h1.2.1, ⟨(fun c3 => ⟨(h1.2.2.1 c3).1, hQ _ _  (h1.2.2.1 c3).2 ((((h2 h1.1) h1.2.1).1 c3) (h1.2.2.1 c3).1)⟩), (fun c3 => ⟨(h1.2.2.2 c3).1, hX34 _ _  (h1.2.2.2 c3).2 ((((h2 h1.1) h1.2.1).2 c3) (h1.2.2.2 c3).1)⟩)⟩⟩⟩
def fw_108_p34L (Q : Bool → lf_Z → Prop) (x3 : Int) (s : lf_Z) : Prop := ∃ X34 : Int → lf_Z → Prop, (∀ (x3 : Int) (s : lf_Z), X34 x3 s → fw_108_p34 Q X34 x3 s) ∧ X34 x3 s
theorem cj_108_p34L {Q1 Q2 Q3 : Bool → lf_Z → Prop} {x3 : Int} {s : lf_Z} (hQ : ∀ (r : Bool) (s : lf_Z), Q1 r s → Q2 r s → Q3 r s) (h1 : fm_108_p34L Q1 x3 s) (h2 : fw_108_p34L Q2 x3 s) : fm_108_p34L Q3 x3 s := by
  intro X0 hX0
  obtain ⟨Y, hY, hY0⟩ := h2
  exact h1 (fun v0 s => Y v0 s → X0 v0 s) (fun v0 s hb hy => hX0 v0 s (cj_108_p34 (X341 := fun v0 s => Y v0 s → X0 v0 s) (X342 := Y) (X343 := X0) (hX34 := fun v0 s a b => a b) hQ hb (hY v0 s hy))) hY0
def fw_108 (Q : Bool → lf_Z → Prop) (s : lf_Z) : Prop := lf_R (s.1 22 3) → ((s.1 22 3 ≠ 0 → (fw_109 ((s.1 22 2) * 39) (fun s22 => ((0 ≤ s22.1 22 2 ∧ s22.1 22 2 < 30) → (fw_108_p34L Q (s22.1 24 (s22.1 22 2)) s22))) s)) ∧ (¬ (s.1 22 3 ≠ 0) → (Q false s)))
theorem cj_108 {Q1 Q2 Q3 : Bool → lf_Z → Prop} {s : lf_Z} (hQ : ∀ (r : Bool) (s : lf_Z), Q1 r s → Q2 r s → Q3 r s) (h1 : fm_108 Q1 s) (h2 : fw_108 Q2 s) : fm_108 Q3 s := by
  unfold fm_108 at h1 ⊢
  unfold fw_108 at h2
  exact ⟨h1.1, ⟨(fun c2 => cj_109 (fun s22 k3 l3 => ⟨k3.1, cj_108_p34L hQ k3.2 (l3 k3.1)⟩) (h1.2.1 c2) ((h2 h1.1).1 c2)), (fun c2 => hQ _ _  (h1.2.2 c2) ((h2 h1.1).2 c2))⟩⟩
def fw_107 (Q : Int → lf_Z → Prop) (s : lf_Z) : Prop := fw_108 (fun z22 s21 => ((z22 = true → (Q (s21.1 22 3) s21)) ∧ (z22 = false → (Q (-1) s21)))) s
theorem cj_107 {Q1 Q2 Q3 : Int → lf_Z → Prop} {s : lf_Z} (hQ : ∀ (r : Int) (s : lf_Z), Q1 r s → Q2 r s → Q3 r s) (h1 : fm_107 Q1 s) (h2 : fw_107 Q2 s) : fm_107 Q3 s := by
  unfold fm_107 at h1 ⊢
  unfold fw_107 at h2
  exact cj_108 (fun z22 s21 k1 l1 => ⟨(fun c2 => hQ _ _  (k1.1 c2) (l1.1 c2)), (fun c2 => hQ _ _  (k1.2 c2) (l1.2 c2))⟩) h1 h2
def fw_239e (a1 : Int) (Q : Int → lf_Z → Prop) (s : lf_Z) : Prop := (0 ≤ (126 + (6 * a1)) + 5 ∧ (126 + (6 * a1)) + 5 < 1538) → (Q (s.1 96 ((126 + (6 * a1)) + 5)) s)
theorem cj_239e {Q1 Q2 Q3 : Int → lf_Z → Prop} {a1 : Int} {s : lf_Z} (hQ : ∀ (r : Int) (s : lf_Z), Q1 r s → Q2 r s → Q3 r s) (h1 : fm_239e a1 Q1 s) (h2 : fw_239e a1 Q2 s) : fm_239e a1 Q3 s := by
  unfold fm_239e at h1 ⊢
  unfold fw_239e at h2
  exact ⟨h1.1, hQ _ _  h1.2 (h2 h1.1)⟩
def fw_238_p254 (Q : Int → lf_Z → Prop) (x1 : Int) (X254 : Int → lf_Z → Prop) (x2 : Int) (s : lf_Z) : Prop := lf_R x2 → (lf_R (s.1 96 0) → ((s.1 96 0 ≤ x2 → (Q (s.1 96 9) s)) ∧ (¬ (s.1 96 0 ≤ x2) → ((0 ≤ (x1 + 29) + x2 ∧ (x1 + 29) + x2 < 1538) → ((0 ≤ (14 + (3 * x2)) + 2 ∧ (14 + (3 * x2)) + 2 < 1538) → (X254 (x2 + 1) (lf_up s.1 96 ((14 + (3 * x2)) + 2) (s.1 96 ((x1 + 29) + x2)), s.2.1, s.2.2)))))))
theorem cj_238_p254 {X2541 X2542 X2543 : Int → lf_Z → Prop} {Q1 Q2 Q3 : Int → lf_Z → Prop} {x1 : Int} {x2 : Int} {s : lf_Z} (hX254 : ∀ (v0 : Int) (v1 : lf_Z), X2541 v0 v1 → X2542 v0 v1 → X2543 v0 v1) (hQ : ∀ (r : Int) (s : lf_Z), Q1 r s → Q2 r s → Q3 r s) (h1 : fm_238_p254 Q1 x1 X2541 x2 s) (h2 : fw_238_p254 Q2 x1 X2542 x2 s) : fm_238_p254 Q3 x1 X2543 x2 s := by
  unfold fm_238_p254 at h1 ⊢
  unfold fw_238_p254 at h2
  exact ⟨h1.1, ⟨h1.2.1, ⟨(fun c3 => hQ _ _  (h1.2.2.1 c3) (((h2 h1.1) h1.2.1).1 c3)), (fun c3 => ⟨(h1.2.2.2 c3).1, ⟨(h1.2.2.2 c3).2.1, hX254 _ _  (h1.2.2.2 c3).2.2 (((((h2 h1.1) h1.2.1).2 c3) (h1.2.2.2 c3).1) (h1.2.2.2 c3).2.1)⟩⟩)⟩⟩⟩
def fw_238_p254L (Q : Int → lf_Z → Prop) (x1 : Int) (x2 : Int) (s : lf_Z) : Prop := ∃ X254 : Int → lf_Z → Prop, (∀ (x2 : Int) (s : lf_Z), X254 x2 s → fw_238_p254 Q x1 X254 x2 s) ∧ X254 x2 s
theorem cj_238_p254L {Q1 Q2 Q3 : Int → lf_Z → Prop} {x1 : Int} {x2 : Int} {s : lf_Z} (hQ : ∀ (r : Int) (s : lf_Z), Q1 r s → Q2 r s → Q3 r s) (h1 : fm_238_p254L Q1 x1 x2 s) (h2 : fw_238_p254L Q2 x1 x2 s) : fm_238_p254L Q3 x1 x2 s := by
  intro X0 hX0
  obtain ⟨Y, hY, hY0⟩ := h2
  exact h1 (fun v0 s => Y v0 s → X0 v0 s) (fun v0 s hb hy => hX0 v0 s (cj_238_p254 (X2541 := fun v0 s => Y v0 s → X0 v0 s) (X2542 := Y) (X2543 := X0) (hX254 := fun v0 s a b => a b) hQ hb (hY v0 s hy))) hY0
def fw_238_p243 (X165 : Int → lf_Z → Prop) (Q : Int → lf_Z → Prop) (x1 : Int) (x2 : Int) (y1 : Int) (y3 : Int) (s : lf_Z) : Prop := fw_191e y1 y3 (fun s41 => (X165 (x2 + 1) s41)) s
theorem cj_238_p243 {X1651 X1652 X1653 : Int → lf_Z → Prop} {Q1 Q2 Q3 : Int → lf_Z → Prop} {x1 : Int} {x2 : Int} {y1 : Int} {y3 : Int} {s : lf_Z} (hX165 : ∀ (v0 : Int) (v1 : lf_Z), X1651 v0 v1 → X1652 v0 v1 → X1653 v0 v1) (hQ : ∀ (r : Int) (s : lf_Z), Q1 r s → Q2 r s → Q3 r s) (h1 : fm_238_p243 X1651 Q1 x1 x2 y1 y3 s) (h2 : fw_238_p243 X1652 Q2 x1 x2 y1 y3 s) : fm_238_p243 X1653 Q3 x1 x2 y1 y3 s := by
  unfold fm_238_p243 at h1 ⊢
  unfold fw_238_p243 at h2
  exact cj_191e (fun s41 k1 l1 => hX165 _ _  k1 l1) h1 h2
