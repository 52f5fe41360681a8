def fw_238_p210 (X165 : Int → lf_Z → Prop) (Q : Int → lf_Z → Prop) (x1 : Int) (x2 : Int) (y1 : Int) (y3 : Int) (s : lf_Z) : Prop := fw_191d y1 y3 (fun s37 => ((0 ≤ x1 ∧ x1 < 1538) → (lf_R x2 → (lf_R (s37.1 96 x1) → ((s37.1 96 x1 ≤ x2 → (fw_238_p243 X165 Q x1 x2 x2 (-1) s37)) ∧ (¬ (s37.1 96 x1 ≤ x2) → ((0 ≤ (x1 + 18) + (2 * x2) ∧ (x1 + 18) + (2 * x2) < 1538) → (fw_238_p243 X165 Q x1 x2 x2 (s37.1 96 ((x1 + 18) + (2 * x2))) s37)))))))) s
theorem cj_238_p210 {X1651 X1652 X1653 : Int → lf_Z → Prop} {Q1 Q2 Q3 : Int → lf_Z → Prop} {x1 : Int} {x2 : Int} {y1 : Int} {y3 : Int} {s : lf_Z} (hX165 : ∀ (v0 : Int) (v1 : lf_Z), X1651 v0 v1 → X1652 v0 v1 → X1653 v0 v1) (hQ : ∀ (r : Int) (s : lf_Z), Q1 r s → Q2 r s → Q3 r s) (h1 : fm_238_p210 X1651 Q1 x1 x2 y1 y3 s) (h2 : fw_238_p210 X1652 Q2 x1 x2 y1 y3 s) : fm_238_p210 X1653 Q3 x1 x2 y1 y3 s := by
  unfold fm_238_p210 at h1 ⊢
  unfold fw_238_p210 at h2
  exact cj_191d (fun s37 k1 l1 => ⟨k1.1, ⟨k1.2.1, ⟨k1.2.2.1, ⟨(fun c5 => cj_238_p243 hX165 hQ (k1.2.2.2.1 c5) ((((l1 k1.1) k1.2.1) k1.2.2.1).1 c5)), (fun c5 => ⟨(k1.2.2.2.2 c5).1, cj_238_p243 hX165 hQ (k1.2.2.2.2 c5).2 (((((l1 k1.1) k1.2.1) k1.2.2.1).2 c5) (k1.2.2.2.2 c5).1)⟩)⟩⟩⟩⟩) h1 h2
def fw_238_p165 (Q : Int → lf_Z → Prop) (x1 : Int) (X165 : Int → lf_Z → Prop) (x2 : Int) (s : lf_Z) : Prop := lf_R x2 → (lf_R (s.1 96 2) → ((s.1 96 2 ≤ x2 → (fw_238_p254L Q x1 0 s)) ∧ (¬ (s.1 96 2 ≤ x2) → ((0 ≤ x1 ∧ x1 < 1538) → (lf_R (s.1 96 x1) → ((s.1 96 x1 ≤ x2 → (fw_239e x2 (fun r36 s35 => (fw_238_p210 X165 Q x1 x2 x2 r36 s35)) s)) ∧ (¬ (s.1 96 x1 ≤ x2) → ((0 ≤ (x1 + 17) + (2 * x2) ∧ (x1 + 17) + (2 * x2) < 1538) → (fw_238_p210 X165 Q x1 x2 x2 (s.1 96 ((x1 + 17) + (2 * x2))) s)))))))))
theorem cj_238_p165 {X1651 X1652 X1653 : Int → lf_Z → Prop} {Q1 Q2 Q3 : Int → lf_Z → Prop} {x1 : Int} {x2 : Int} {s : lf_Z} (hX165 : ∀ (v0 : Int) (v1 : lf_Z), X1651 v0 v1 → X1652 v0 v1 → X1653 v0 v1) (hQ : ∀ (r : Int) (s : lf_Z), Q1 r s → Q2 r s → Q3 r s) (h1 : fm_238_p165 Q1 x1 X1651 x2 s) (h2 : fw_238_p165 Q2 x1 X1652 x2 s) : fm_238_p165 Q3 x1 X1653 x2 s := by
  unfold fm_238_p165 at h1 ⊢
  unfold fw_238_p165 at h2
  exact ⟨h1.1, ⟨h1.2.1, ⟨(fun c3 => cj_238_p254L hQ (h1.2.2.1 c3) (((h2 h1.1) h1.2.1).1 c3)), (fun c3 => ⟨(h1.2.2.2 c3).1, ⟨(h1.2.2.2 c3).2.1, ⟨(fun c7 => cj_239e (fun r36 s35 k8 l8 => cj_238_p210 hX165 hQ k8 l8) ((h1.2.2.2 c3).2.2.1 c7) ((((((h2 h1.1) h1.2.1).2 c3) (h1.2.2.2 c3).1) (h1.2.2.2 c3).2.1).1 c7)), (fun c7 => ⟨((h1.2.2.2 c3).2.2.2 c7).1, cj_238_p210 hX165 hQ ((h1.2.2.2 c3).2.2.2 c7).2 (((((((h2 h1.1) h1.2.1).2 c3) (h1.2.2.2 c3).1) (h1.2.2.2 c3).2.1).2 c7) ((h1.2.2.2 c3).2.2.2 c7).1)⟩)⟩⟩⟩)⟩⟩⟩
def fw_238_p165L (Q : Int → lf_Z → Prop) (x1 : Int) (x2 : Int) (s : lf_Z) : Prop := ∃ X165 : Int → lf_Z → Prop, (∀ (x2 : Int) (s : lf_Z), X165 x2 s → fw_238_p165 Q x1 X165 x2 s) ∧ X165 x2 s
theorem cj_238_p165L {Q1 Q2 Q3 : Int → lf_Z → Prop} {x1 : Int} {x2 : Int} {s : lf_Z} (hQ : ∀ (r : Int) (s : lf_Z), Q1 r s → Q2 r s → Q3 r s) (h1 : fm_238_p165L Q1 x1 x2 s) (h2 : fw_238_p165L Q2 x1 x2 s) : fm_238_p165L Q3 x1 x2 s := by
  intro X0 hX0
  obtain ⟨Y, hY, hY0⟩ := h2
  exact h1 (fun v0 s => Y v0 s → X0 v0 s) (fun v0 s hb hy => hX0 v0 s (cj_238_p165 (X1651 := fun v0 s => Y v0 s → X0 v0 s) (X1652 := Y) (X1653 := X0) (hX165 := fun v0 s a b => a b) hQ hb (hY v0 s hy))) hY0
def fw_238_p132 (Q : Int → lf_Z → Prop) (x1 : Int) (X132 : Int → lf_Z → Prop) (x2 : Int) (s : lf_Z) : Prop := lf_R x2 → ((12 ≤ x2 → (fw_238_p165L Q x1 0 s)) ∧ (¬ (12 ≤ x2) → ((0 ≤ (x1 + 5) + x2 ∧ (x1 + 5) + x2 < 1538) → ((0 ≤ 114 + x2 ∧ 114 + x2 < 1538) → (X132 (x2 + 1) (lf_up s.1 96 (114 + x2) (s.1 96 ((x1 + 5) + x2)), s.2.1, s.2.2))))))
theorem cj_238_p132 {X1321 X1322 X1323 : Int → lf_Z → Prop} {Q1 Q2 Q3 : Int → lf_Z → Prop} {x1 : Int} {x2 : Int} {s : lf_Z} (hX132 : ∀ (v0 : Int) (v1 : lf_Z), X1321 v0 v1 → X1322 v0 v1 → X1323 v0 v1) (hQ : ∀ (r : Int) (s : lf_Z), Q1 r s → Q2 r s → Q3 r s) (h1 : fm_238_p132 Q1 x1 X1321 x2 s) (h2 : fw_238_p132 Q2 x1 X1322 x2 s) : fm_238_p132 Q3 x1 X1323 x2 s := by
  unfold fm_238_p132 at h1 ⊢
  unfold fw_238_p132 at h2
  exact ⟨h1.1, ⟨(fun c2 => cj_238_p165L hQ (h1.2.1 c2) ((h2 h1.1).1 c2)), (fun c2 => ⟨(h1.2.2 c2).1, ⟨(h1.2.2 c2).2.1, hX132 _ _  (h1.2.2 c2).2.2 ((((h2 h1.1).2 c2) (h1.2.2 c2).1) (h1.2.2 c2).2.1)⟩⟩)⟩⟩
def fw_238_p132L (Q : Int → lf_Z → Prop) (x1 : Int) (x2 : Int) (s : lf_Z) : Prop := ∃ X132 : Int → lf_Z → Prop, (∀ (x2 : Int) (s : lf_Z), X132 x2 s → fw_238_p132 Q x1 X132 x2 s) ∧ X132 x2 s
theorem cj_238_p132L {Q1 Q2 Q3 : Int → lf_Z → Prop} {x1 : Int} {x2 : Int} {s : lf_Z} (hQ : ∀ (r : Int) (s : lf_Z), Q1 r s → Q2 r s → Q3 r s) (h1 : fm_238_p132L Q1 x1 x2 s) (h2 : fw_238_p132L Q2 x1 x2 s) : fm_238_p132L Q3 x1 x2 s := by
  intro X0 hX0
  obtain ⟨Y, hY, hY0⟩ := h2
  exact h1 (fun v0 s => Y v0 s → X0 v0 s) (fun v0 s hb hy => hX0 v0 s (cj_238_p132 (X1321 := fun v0 s => Y v0 s → X0 v0 s) (X1322 := Y) (X1323 := X0) (hX132 := fun v0 s a b => a b) hQ hb (hY v0 s hy))) hY0
def fw_238_p94 (X40 : Int → lf_Z → Prop) (Q : Int → lf_Z → Prop) (x1 : Int) (x2 : Int) (y1 : Int) (y2 : Int) (s : lf_Z) : Prop := (0 ≤ y1 ∧ y1 < 1538) → (X40 (x2 + 1) (lf_up s.1 96 y1 y2, s.2.1, s.2.2))
theorem cj_238_p94 {X401 X402 X403 : Int → lf_Z → Prop} {Q1 Q2 Q3 : Int → lf_Z → Prop} {x1 : Int} {x2 : Int} {y1 : Int} {y2 : Int} {s : lf_Z} (hX40 : ∀ (v0 : Int) (v1 : lf_Z), X401 v0 v1 → X402 v0 v1 → X403 v0 v1) (hQ : ∀ (r : Int) (s : lf_Z), Q1 r s → Q2 r s → Q3 r s) (h1 : fm_238_p94 X401 Q1 x1 x2 y1 y2 s) (h2 : fw_238_p94 X402 Q2 x1 x2 y1 y2 s) : fm_238_p94 X403 Q3 x1 x2 y1 y2 s := by
  unfold fm_238_p94 at h1 ⊢
  unfold fw_238_p94 at h2
  exact ⟨h1.1, hX40 _ _  h1.2 (h2 h1.1)⟩
def fw_238_p89 (X40 : Int → lf_Z → Prop) (Q : Int → lf_Z → Prop) (x1 : Int) (x2 : Int) (y1 : Int) (s : lf_Z) : Prop := fw_238_p94 X40 Q x1 x2 y1 1 s
theorem cj_238_p89 {X401 X402 X403 : Int → lf_Z → Prop} {Q1 Q2 Q3 : Int → lf_Z → Prop} {x1 : Int} {x2 : Int} {y1 : Int} {s : lf_Z} (hX40 : ∀ (v0 : Int) (v1 : lf_Z), X401 v0 v1 → X402 v0 v1 → X403 v0 v1) (hQ : ∀ (r : Int) (s : lf_Z), Q1 r s → Q2 r s → Q3 r s) (h1 : fm_238_p89 X401 Q1 x1 x2 y1 s) (h2 : fw_238_p89 X402 Q2 x1 x2 y1 s) : fm_238_p89 X403 Q3 x1 x2 y1 s := by
  unfold fm_238_p89 at h1 ⊢
  unfold fw_238_p89 at h2
  exact cj_238_p94 hX40 hQ h1 h2
def fw_238_p40 (Q : Int → lf_Z → Prop) (x1 : Int) (X40 : Int → lf_Z → Prop) (x2 : Int) (s : lf_Z) : Prop := lf_R x2 → (lf_R (s.1 96 1) → ((s.1 96 1 ≤ x2 → ((0 ≤ x1 + 3 ∧ x1 + 3 < 1538) → ((0 ≤ x1 + 4 ∧ x1 + 4 < 1538) → (fw_238_p132L Q x1 0 (lf_up (lf_up s.1 96 3 (s.1 96 (x1 + 3))) 96 6 ((lf_up s.1 96 3 (s.1 96 (x1 + 3))) 96 (x1 + 4)), s.2.1, s.2.2))))) ∧ (¬ (s.1 96 1 ≤ x2) → ((0 ≤ x1 + 1 ∧ x1 + 1 < 1538) → (lf_R (s.1 96 (x1 + 1)) → ((s.1 96 (x1 + 1) ≤ x2 → (fw_238_p89 X40 Q x1 x2 ((50 + (4 * x2)) + 3) s)) ∧ (¬ (s.1 96 (x1 + 1) ≤ x2) → ((0 ≤ x1 + 2 ∧ x1 + 2 < 1538) → (fw_210 (s.1 96 (x1 + 2)) x2 (fun z51 s50 => ((z51 = false → (fw_238_p94 X40 Q x1 x2 ((50 + (4 * x2)) + 3) 0 s50)) ∧ (z51 = true → (fw_238_p89 X40 Q x1 x2 ((50 + (4 * x2)) + 3) s50)))) s)))))))))
theorem cj_238_p40 {X401 X402 X403 : Int → lf_Z → Prop} {Q1 Q2 Q3 : Int → lf_Z → Prop} {x1 : Int} {x2 : Int} {s : lf_Z} (hX40 : ∀ (v0 : Int) (v1 : lf_Z), X401 v0 v1 → X402 v0 v1 → X403 v0 v1) (hQ : ∀ (r : Int) (s : lf_Z), Q1 r s → Q2 r s → Q3 r s) (h1 : fm_238_p40 Q1 x1 X401 x2 s) (h2 : fw_238_p40 Q2 x1 X402 x2 s) : fm_238_p40 Q3 x1 X403 x2 s := by
  unfold fm_238_p40 at h1 ⊢
  unfold fw_238_p40 at h2
  exact ⟨h1.1, ⟨h1.2.1, ⟨(fun c3 => ⟨(h1.2.2.1 c3).1, ⟨(h1.2.2.1 c3).2.1, cj_238_p132L hQ (h1.2.2.1 c3).2.2 (((((h2 h1.1) h1.2.1).1 c3) (h1.2.2.1 c3).1) (h1.2.2.1 c3).2.1)⟩⟩), (fun c3 => ⟨(h1.2.2.2 c3).1, ⟨(h1.2.2.2 c3).2.1, ⟨(fun c9 => cj_238_p89 hX40 hQ ((h1.2.2.2 c3).2.2.1 c9) ((((((h2 h1.1) h1.2.1).2 c3) (h1.2.2.2 c3).1) (h1.2.2.2 c3).2.1).1 c9)), (fun c9 => ⟨((h1.2.2.2 c3).2.2.2 c9).1, cj_210 (fun z51 s50 k12 l12 => ⟨(fun c13 => cj_238_p94 hX40 hQ (k12.1 c13) (l12.1 c13)), (fun c13 => cj_238_p89 hX40 hQ (k12.2 c13) (l12.2 c13))⟩) ((h1.2.2.2 c3).2.2.2 c9).2 (((((((h2 h1.1) h1.2.1).2 c3) (h1.2.2.2 c3).1) (h1.2.2.2 c3).2.1).2 c9) ((h1.2.2.2 c3).2.2.2 c9).1)⟩)⟩⟩⟩)⟩⟩⟩
def fw_238_p40L (Q : Int → lf_Z → Prop) (x1 : Int) (x2 : Int) (s : lf_Z) : Prop := ∃ X40 : Int → lf_Z → Prop, (∀ (x2 : Int) (s : lf_Z), X40 x2 s → fw_238_p40 Q x1 X40 x2 s) ∧ X40 x2 s
theorem cj_238_p40L {Q1 Q2 Q3 : Int → lf_Z → Prop} {x1 : Int} {x2 : Int} {s : lf_Z} (hQ : ∀ (r : Int) (s : lf_Z), Q1 r s → Q2 r s → Q3 r s) (h1 : fm_238_p40L Q1 x1 x2 s) (h2 : fw_238_p40L Q2 x1 x2 s) : fm_238_p40L Q3 x1 x2 s := by
  intro X0 hX0
  obtain ⟨Y, hY, hY0⟩ := h2
  exact h1 (fun v0 s => Y v0 s → X0 v0 s) (fun v0 s hb hy => hX0 v0 s (cj_238_p40 (X401 := fun v0 s => Y v0 s → X0 v0 s) (X402 := Y) (X403 := X0) (hX40 := fun v0 s a b => a b) hQ hb (hY v0 s hy))) hY0
def fw_238 (Q : Int → lf_Z → Prop) (s : lf_Z) : Prop := lf_R (s.1 96 9) → ((s.1 96 9 ≠ 0 → (fw_238_p40L Q (278 + (42 * ((s.1 96 9) - 1))) 0 (lf_up s.1 96 9 ((s.1 96 9) - 1), s.2.1, s.2.2))) ∧ (¬ (s.1 96 9 ≠ 0) → (Q (-1) s)))
theorem cj_238 {Q1 Q2 Q3 : Int → lf_Z → Prop} {s : lf_Z} (hQ : ∀ (r : Int) (s : lf_Z), Q1 r s → Q2 r s → Q3 r s) (h1 : fm_238 Q1 s) (h2 : fw_238 Q2 s) : fm_238 Q3 s := by
  unfold fm_238 at h1 ⊢
  unfold fw_238 at h2
  exact ⟨h1.1, ⟨(fun c2 => cj_238_p40L hQ (h1.2.1 c2) ((h2 h1.1).1 c2)), (fun c2 => hQ _ _  (h1.2.2 c2) ((h2 h1.1).2 c2))⟩⟩
def fw_146 (a1 : Int) (a2 : Int) (Q : Int → lf_Z → Prop) (s : lf_Z) : Prop := lf_R (s.1 25 2) → ((s.1 25 2 < 6 → ((0 ≤ s.1 25 2 ∧ s.1 25 2 < 6) → (Q ((s.1 25 2) + 1) (lf_up (lf_up (lf_up s.1 26 (s.1 25 2) a1) 27 (s.1 25 2) a2) 25 2 ((s.1 25 2) + 1), s.2.1, s.2.2)))) ∧ (¬ (s.1 25 2 < 6) → (Q (-2) s)))
theorem cj_146 {Q1 Q2 Q3 : Int → lf_Z → Prop} {a1 : Int} {a2 : Int} {s : lf_Z} (hQ : ∀ (r : Int) (s : lf_Z), Q1 r s → Q2 r s → Q3 r s) (h1 : fm_146 a1 a2 Q1 s) (h2 : fw_146 a1 a2 Q2 s) : fm_146 a1 a2 Q3 s := by
  unfold fm_146 at h1 ⊢
  unfold fw_146 at h2
  exact ⟨h1.1, ⟨(fun c2 => ⟨(h1.2.1 c2).1, hQ _ _  (h1.2.1 c2).2 (((h2 h1.1).1 c2) (h1.2.1 c2).1)⟩), (fun c2 => hQ _ _  (h1.2.2 c2) ((h2 h1.1).2 c2))⟩⟩
def fw_145 (a1 : Int) (a2 : Int) (Q : Int → lf_Z → Prop) (s : lf_Z) : Prop := lf_R a1 → ((a1 ≠ (-1) → (fw_18 a1 (fun z23 s22 => ((z23 = false → (Q (-2) s22)) ∧ (z23 = true → (fw_15 a2 0 60 (fun z25 s24 => ((z25 = true → (fw_146 a1 a2 (fun r27 s26 => (Q r27 s26)) s24)) ∧ (z25 = false → (Q (-2) s24)))) s22)))) s)) ∧ (¬ (a1 ≠ (-1)) → (Q 0 (lf_up s.1 25 2 0, s.2.1, s.2.2))))
theorem cj_145 {Q1 Q2 Q3 : Int → lf_Z → Prop} {a1 : Int} {a2 : Int} {s : lf_Z} (hQ : ∀ (r : Int) (s : lf_Z), Q1 r s → Q2 r s → Q3 r s) (h1 : fm_145 a1 a2 Q1 s) (h2 : fw_145 a1 a2 Q2 s) : fm_145 a1 a2 Q3 s := by
  unfold fm_145 at h1 ⊢
  unfold fw_145 at h2
  exact ⟨h1.1, ⟨(fun c2 => cj_18 (fun z23 s22 k3 l3 => ⟨(fun c4 => hQ _ _  (k3.1 c4) (l3.1 c4)), (fun c4 => cj_15 (fun z25 s24 k6 l6 => ⟨(fun c7 => cj_146 (fun r27 s26 k8 l8 => hQ _ _  k8 l8) (k6.1 c7) (l6.1 c7)), (fun c7 => hQ _ _  (k6.2 c7) (l6.2 c7))⟩) (k3.2 c4) (l3.2 c4))⟩) (h1.2.1 c2) ((h2 h1.1).1 c2)), (fun c2 => hQ _ _  (h1.2.2 c2) ((h2 h1.1).2 c2))⟩⟩
def fw_305 (a1 : Int) (a2 : Int) (Q : Int → lf_Z → Prop) (s : lf_Z) : Prop := lf_R a1 → ((a1 ≠ (-1) → (fw_185 a1 (fun z23 s22 => ((z23 = false → (Q (-2) s22)) ∧ (z23 = true → (fw_183 a2 0 60 (fun z25 s24 => ((z25 = false → (Q (-2) s24)) ∧ (z25 = true → (lf_R (s24.1 96 10) → ((s24.1 96 10 ≠ 6 → ((0 ≤ 162 + (2 * (s24.1 96 10)) ∧ 162 + (2 * (s24.1 96 10)) < 1538) → ((0 ≤ (162 + (2 * ((lf_up s24.1 96 (162 + (2 * (s24.1 96 10))) a1) 96 10))) + 1 ∧ (162 + (2 * ((lf_up s24.1 96 (162 + (2 * (s24.1 96 10))) a1) 96 10))) + 1 < 1538) → (Q (((lf_up (lf_up s24.1 96 (162 + (2 * (s24.1 96 10))) a1) 96 ((162 + (2 * ((lf_up s24.1 96 (162 + (2 * (s24.1 96 10))) a1) 96 10))) + 1) a2) 96 10) + 1) (lf_up (lf_up (lf_up s24.1 96 (162 + (2 * (s24.1 96 10))) a1) 96 ((162 + (2 * ((lf_up s24.1 96 (162 + (2 * (s24.1 96 10))) a1) 96 10))) + 1) a2) 96 10 (((lf_up (lf_up s24.1 96 (162 + (2 * (s24.1 96 10))) a1) 96 ((162 + (2 * ((lf_up s24.1 96 (162 + (2 * (s24.1 96 10))) a1) 96 10))) + 1) a2) 96 10) + 1), s24.2.1, s24.2.2))))) ∧ (¬ (s24.1 96 10 ≠ 6) → (Q (-2) s24))))))) s22)))) s)) ∧ (¬ (a1 ≠ (-1)) → (Q 0 (lf_up s.1 96 10 0, s.2.1, s.2.2))))
theorem cj_305 {Q1 Q2 Q3 : Int → lf_Z → Prop} {a1 : Int} {a2 : Int} {s : lf_Z} (hQ : ∀ (r : Int) (s : lf_Z), Q1 r s → Q2 r s → Q3 r s) (h1 : fm_305 a1 a2 Q1 s) (h2 : fw_305 a1 a2 Q2 s) : fm_305 a1 a2 Q3 s := by
  unfold fm_305 at h1 ⊢
  unfold fw_305 at h2
  exact ⟨h1.1, ⟨(fun c2 => cj_185 (fun z23 s22 k3 l3 => ⟨(fun c4 => hQ _ _  (k3.1 c4) (l3.1 c4)), (fun c4 => cj_183 (fun z25 s24 k6 l6 => ⟨(fun c7 => hQ _ _  (k6.1 c7) (l6.1 c7)), (fun c7 => ⟨(k6.2 c7).1, ⟨(fun c10 => ⟨((k6.2 c7).2.1 c10).1, ⟨((k6.2 c7).2.1 c10).2.1, hQ _ _  ((k6.2 c7).2.1 c10).2.2 (((((l6.2 c7) (k6.2 c7).1).1 c10) ((k6.2 c7).2.1 c10).1) ((k6.2 c7).2.1 c10).2.1)⟩⟩), (fun c10 => hQ _ _  ((k6.2 c7).2.2 c10) (((l6.2 c7) (k6.2 c7).1).2 c10))⟩⟩)⟩) (k3.2 c4) (l3.2 c4))⟩) (h1.2.1 c2) ((h2 h1.1).1 c2)), (fun c2 => hQ _ _  (h1.2.2 c2) ((h2 h1.1).2 c2))⟩⟩
def fw_163_p72 (Q : Bool → lf_Z → Prop) (x1 : Int) (x2 : Int) (x3 : Int) (x4 : Int) (x5 : Int) (y0 : Int) (s : lf_Z) : Prop := lf_R y0 → ((y0 = 0 → ((y0 = 0 ∨ y0 = 1) → ((y0 = 0 → (Q false s)) ∧ (y0 = 1 → (Q true s))))) ∧ (¬ (y0 = 0) → ((0 ≤ x1 ∧ x1 < 16) → ((y0 = 0 ∨ y0 = 1) → ((y0 = 0 → (Q false (lf_up s.1 28 x1 (lf_w (((lf_w ((lf_w (x4 * x2)) * x5)).tdiv 10) - x3)), s.2.1, s.2.2))) ∧ (y0 = 1 → (Q true (lf_up s.1 28 x1 (lf_w (((lf_w ((lf_w (x4 * x2)) * x5)).tdiv 10) - x3)), s.2.1, s.2.2))))))))
theorem cj_163_p72 {Q1 Q2 Q3 : Bool → lf_Z → Prop} {x1 : Int} {x2 : Int} {x3 : Int} {x4 : Int} {x5 : Int} {y0 : Int} {s : lf_Z} (hQ : ∀ (r : Bool) (s : lf_Z), Q1 r s → Q2 r s → Q3 r s) (h1 : fm_163_p72 Q1 x1 x2 x3 x4 x5 y0 s) (h2 : fw_163_p72 Q2 x1 x2 x3 x4 x5 y0 s) : fm_163_p72 Q3 x1 x2 x3 x4 x5 y0 s := by
  unfold fm_163_p72 at h1 ⊢
  unfold fw_163_p72 at h2
  exact ⟨h1.1, ⟨(fun c2 => ⟨(h1.2.1 c2).1, ⟨(fun c4 => hQ _ _  ((h1.2.1 c2).2.1 c4) ((((h2 h1.1).1 c2) (h1.2.1 c2).1).1 c4)), (fun c4 => hQ _ _  ((h1.2.1 c2).2.2 c4) ((((h2 h1.1).1 c2) (h1.2.1 c2).1).2 c4))⟩⟩), (fun c2 => ⟨(h1.2.2 c2).1, ⟨(h1.2.2 c2).2.1, ⟨(fun c9 => hQ _ _  ((h1.2.2 c2).2.2.1 c9) (((((h2 h1.1).2 c2) (h1.2.2 c2).1) (h1.2.2 c2).2.1).1 c9)), (fun c9 => hQ _ _  ((h1.2.2 c2).2.2.2 c9) (((((h2 h1.1).2 c2) (h1.2.2 c2).1) (h1.2.2 c2).2.1).2 c9))⟩⟩⟩)⟩⟩
def fw_163_p71 (Q : Bool → lf_Z → Prop) (x1 : Int) (x2 : Int) (x3 : Int) (x4 : Int) (x5 : Int) (s : lf_Z) : Prop := fw_163_p72 Q x1 x2 x3 x4 x5 0 s
theorem cj_163_p71 {Q1 Q2 Q3 : Bool → lf_Z → Prop} {x1 : Int} {x2 : Int} {x3 : Int} {x4 : Int} {x5 : Int} {s : lf_Z} (hQ : ∀ (r : Bool) (s : lf_Z), Q1 r s → Q2 r s → Q3 r s) (h1 : fm_163_p71 Q1 x1 x2 x3 x4 x5 s) (h2 : fw_163_p71 Q2 x1 x2 x3 x4 x5 s) : fm_163_p71 Q3 x1 x2 x3 x4 x5 s := by
  unfold fm_163_p71 at h1 ⊢
  unfold fw_163_p71 at h2
  exact cj_163_p72 hQ h1 h2
def fw_163_p37 (Q : Bool → lf_Z → Prop) (x1 : Int) (x2 : Int) (x3 : Int) (x4 : Int) (x5 : Int) (y0 : Int) (s : lf_Z) : Prop := lf_R y0 → ((y0 = 0 → (fw_163_p71 Q x1 x2 x3 x4 x5 s)) ∧ (¬ (y0 = 0) → (fw_15 x4 0 999 (fun z27 s26 => ((z27 = false → (fw_163_p71 Q x1 x2 x3 x4 x5 s26)) ∧ (z27 = true → (fw_15 x5 1 99 (fun z29 s28 => ((z29 = false → (fw_163_p71 Q x1 x2 x3 x4 x5 s28)) ∧ (z29 = true → (fw_163_p72 Q x1 x2 x3 x4 x5 1 s28)))) s26)))) s)))
theorem cj_163_p37 {Q1 Q2 Q3 : Bool → lf_Z → Prop} {x1 : Int} {x2 : Int} {x3 : Int} {x4 : Int} {x5 : Int} {y0 : Int} {s : lf_Z} (hQ : ∀ (r : Bool) (s : lf_Z), Q1 r s → Q2 r s → Q3 r s) (h1 : fm_163_p37 Q1 x1 x2 x3 x4 x5 y0 s) (h2 : fw_163_p37 Q2 x1 x2 x3 x4 x5 y0 s) : fm_163_p37 Q3 x1 x2 x3 x4 x5 y0 s := by
  unfold fm_163_p37 at h1 ⊢
  unfold fw_163_p37 at h2
  exact ⟨h1.1, ⟨(fun c2 => cj_163_p71 hQ (h1.2.1 c2) ((h2 h1.1).1 c2)), (fun c2 => cj_15 (fun z27 s26 k4 l4 => ⟨(fun c5 => cj_163_p71 hQ (k4.1 c5) (l4.1 c5)), (fun c5 => cj_15 (fun z29 s28 k7 l7 => ⟨(fun c8 => cj_163_p71 hQ (k7.1 c8) (l7.1 c8)), (fun c8 => cj_163_p72 hQ (k7.2 c8) (l7.2 c8))⟩) (k4.2 c5) (l4.2 c5))⟩) (h1.2.2 c2) ((h2 h1.1).2 c2))⟩⟩
def fw_163_p36 (Q : Bool → lf_Z → Prop) (x1 : Int) (x2 : Int) (x3 : Int) (x4 : Int) (x5 : Int) (s : lf_Z) : Prop := fw_163_p37 Q x1 x2 x3 x4 x5 0 s
theorem cj_163_p36 {Q1 Q2 Q3 : Bool → lf_Z → Prop} {x1 : Int} {x2 : Int} {x3 : Int} {x4 : Int} {x5 : Int} {s : lf_Z} (hQ : ∀ (r : Bool) (s : lf_Z), Q1 r s → Q2 r s → Q3 r s) (h1 : fm_163_p36 Q1 x1 x2 x3 x4 x5 s) (h2 : fw_163_p36 Q2 x1 x2 x3 x4 x5 s) : fm_163_p36 Q3 x1 x2 x3 x4 x5 s := by
  unfold fm_163_p36 at h1 ⊢
  unfold fw_163_p36 at h2
  exact cj_163_p37 hQ h1 h2
def fw_163 (a1 : Int) (a2 : Int) (a3 : Int) (a4 : Int) (a5 : Int) (Q : Bool → lf_Z → Prop) (s : lf_Z) : Prop := fw_89 a1 (fun z22 s21 => ((z22 = false → (fw_163_p36 Q a1 a2 a3 a4 a5 s21)) ∧ (z22 = true → (fw_15 a2 0 10 (fun z31 s30 => ((z31 = false → (fw_163_p36 Q a1 a2 a3 a4 a5 s30)) ∧ (z31 = true → (fw_15 a3 0 999 (fun z33 s32 => ((z33 = false → (fw_163_p36 Q a1 a2 a3 a4 a5 s32)) ∧ (z33 = true → (fw_163_p37 Q a1 a2 a3 a4 a5 1 s32)))) s30)))) s21)))) s
theorem cj_163 {Q1 Q2 Q3 : Bool → lf_Z → Prop} {a1 : Int} {a2 : Int} {a3 : Int} {a4 : Int} {a5 : Int} {s : lf_Z} (hQ : ∀ (r : Bool) (s : lf_Z), Q1 r s → Q2 r s → Q3 r s) (h1 : fm_163 a1 a2 a3 a4 a5 Q1 s) (h2 : fw_163 a1 a2 a3 a4 a5 Q2 s) : fm_163 a1 a2 a3 a4 a5 Q3 s := by
  unfold fm_163 at h1 ⊢
  unfold fw_163 at h2
  exact cj_89 (fun z22 s21 k1 l1 => ⟨(fun c2 => cj_163_p36 hQ (k1.1 c2) (l1.1 c2)), (fun c2 => cj_15 (fun z31 s30 k4 l4 => ⟨(fun c5 => cj_163_p36 hQ (k4.1 c5) (l4.1 c5)), (fun c5 => cj_15 (fun z33 s32 k7 l7 => ⟨(fun c8 => cj_163_p36 hQ (k7.1 c8) (l7.1 c8)), (fun c8 => cj_163_p37 hQ (k7.2 c8) (l7.2 c8))⟩) (k4.2 c5) (l4.2 c5))⟩) (k1.2 c2) (l1.2 c2))⟩) h1 h2
def fw_318 (a1 : Int) (a2 : Int) (a3 : Int) (a4 : Int) (a5 : Int) (Q : Bool → lf_Z → Prop) (s : lf_Z) : Prop := fw_251 a1 (fun z22 s21 => ((z22 = false → (Q false s21)) ∧ (z22 = true → (fw_252 a1 (fun z24 s23 => ((z24 = true → (Q false s23)) ∧ (z24 = false → (fw_183 a2 0 10 (fun z26 s25 => ((z26 = false → (Q false s25)) ∧ (z26 = true → (fw_183 a3 0 999 (fun z28 s27 => ((z28 = false → (Q false s27)) ∧ (z28 = true → (fw_183 a4 0 999 (fun z30 s29 => ((z30 = false → (Q false s29)) ∧ (z30 = true → (fw_183 a5 1 99 (fun z32 s31 => ((z32 = true → ((0 ≤ 174 + (5 * a1) ∧ 174 + (5 * a1) < 1538) → ((0 ≤ (174 + (5 * a1)) + 1 ∧ (174 + (5 * a1)) + 1 < 1538) → ((0 ≤ (174 + (5 * a1)) + 2 ∧ (174 + (5 * a1)) + 2 < 1538) → ((0 ≤ (174 + (5 * a1)) + 3 ∧ (174 + (5 * a1)) + 3 < 1538) → ((0 ≤ (174 + (5 * a1)) + 4 ∧ (174 + (5 * a1)) + 4 < 1538) → (Q true (lf_up (lf_up (lf_up (lf_up (lf_up s31.1 96 (174 + (5 * a1)) 1) 96 ((174 + (5 * a1)) + 1) a2) 96 ((174 + (5 * a1)) + 2) a3) 96 ((174 + (5 * a1)) + 3) a4) 96 ((174 + (5 * a1)) + 4) a5, s31.2.1, s31.2.2)))))))) ∧ (z32 = false → (Q false s31)))) s29)))) s27)))) s25)))) s23)))) s21)))) s
theorem cj_318 {Q1 Q2 Q3 : Bool → lf_Z → Prop} {a1 : Int} {a2 : Int} {a3 : Int} {a4 : Int} {a5 : Int} {s : lf_Z} (hQ : ∀ (r : Bool) (s : lf_Z), Q1 r s → Q2 r s → Q3 r s) (h1 : fm_318 a1 a2 a3 a4 a5 Q1 s) (h2 : fw_318 a1 a2 a3 a4 a5 Q2 s) : fm_318 a1 a2 a3 a4 a5 Q3 s := by
  unfold fm_318 at h1 ⊢
  unfold fw_318 at h2
  exact cj_251 (fun z22 s21 k1 l1 => ⟨(fun c2 => hQ _ _  (k1.1 c2) (l1.1 c2)), (fun c2 => cj_252 (fun z24 s23 k4 l4 => ⟨(fun c5 => hQ _ _  (k4.1 c5) (l4.1 c5)), (fun c5 => cj_183 (fun z26 s25 k7 l7 => ⟨(fun c8 => hQ _ _  (k7.1 c8) (l7.1 c8)), (fun c8 => cj_183 (fun z28 s27 k10 l10 => ⟨(fun c11 => hQ _ _  (k10.1 c11) (l10.1 c11)), (fun c11 => cj_183 (fun z30 s29 k13 l13 => ⟨(fun c14 => hQ _ _  (k13.1 c14) (l13.1 c14)), (fun c14 => cj_183 (fun z32 s31 k16 l16 => ⟨(fun c17 => ⟨(k16.1 c17).1, ⟨(k16.1 c17).2.1, ⟨(k16.1 c17).2.2.1, ⟨(k16.1 c17).2.2.2.1, ⟨(k16.1 c17).2.2.2.2.1, hQ _ _  (k16.1 c17).2.2.2.2.2 ((((((l16.1 c17) (k16.1 c17).1) (k16.1 c17).2.1) (k16.1 c17).2.2.1) (k16.1 c17).2.2.2.1) (k16.1 c17).2.2.2.2.1)⟩⟩⟩⟩⟩), (fun c17 => hQ _ _  (k16.2 c17) (l16.2 c17))⟩) (k13.2 c14) (l13.2 c14))⟩) (k10.2 c11) (l10.2 c11))⟩) (k7.2 c8) (l7.2 c8))⟩) (k4.2 c5) (l4.2 c5))⟩) (k1.2 c2) (l1.2 c2))⟩) h1 h2
def fw_174 (Q : lf_Z → Prop) (s : lf_Z) : Prop := Q (lf_up (lf_up (lf_up (lf_cp (lf_cp (lf_cp (lf_cp (lf_cp (lf_cp s.1 16 80 0 0 4) 17 81 0 0 4) 18 82 0 0 4) 19 83 0 0 6) 20 84 0 0 6) 21 85 0 0 12) 79 6 ((lf_cp (lf_cp (lf_cp (lf_cp (lf_cp (lf_cp s.1 16 80 0 0 4) 17 81 0 0 4) 18 82 0 0 4) 19 83 0 0 6) 20 84 0 0 6) 21 85 0 0 12) 15 6)) 79 7 ((lf_cp (lf_cp (lf_cp (lf_cp (lf_cp (lf_cp s.1 16 80 0 0 4) 17 81 0 0 4) 18 82 0 0 4) 19 83 0 0 6) 20 84 0 0 6) 21 85 0 0 12) 15 7)) 79 8 ((lf_cp (lf_cp (lf_cp (lf_cp (lf_cp (lf_cp s.1 16 80 0 0 4) 17 81 0 0 4) 18 82 0 0 4) 19 83 0 0 6) 20 84 0 0 6) 21 85 0 0 12) 15 8), s.2.1, s.2.2)
theorem cj_174 {Q1 Q2 Q3 : lf_Z → Prop} {s : lf_Z} (hQ : ∀ (s : lf_Z), Q1 s → Q2 s → Q3 s) (h1 : fm_174 Q1 s) (h2 : fw_174 Q2 s) : fm_174 Q3 s := by
  unfold fm_174 at h1 ⊢
  unfold fw_174 at h2
  exact hQ _  h1 h2
def fw_175 (Q : lf_Z → Prop) (s : lf_Z) : Prop := Q (lf_up (lf_up (lf_cp (lf_cp s.1 23 87 0 0 1170) 24 88 0 0 30) 86 2 ((lf_cp (lf_cp s.1 23 87 0 0 1170) 24 88 0 0 30) 22 2)) 86 3 ((lf_cp (lf_cp s.1 23 87 0 0 1170) 24 88 0 0 30) 22 3), s.2.1, s.2.2)
theorem cj_175 {Q1 Q2 Q3 : lf_Z → Prop} {s : lf_Z} (hQ : ∀ (s : lf_Z), Q1 s → Q2 s → Q3 s) (h1 : fm_175 Q1 s) (h2 : fw_175 Q2 s) : fm_175 Q3 s := by
  unfold fm_175 at h1 ⊢
  unfold fw_175 at h2
  exact hQ _  h1 h2
def fw_176 (Q : lf_Z → Prop) (s : lf_Z) : Prop := Q (lf_up (lf_cp (lf_cp (lf_cp (lf_cp (lf_cp s.1 26 90 0 0 6) 27 91 0 0 6) 28 92 0 0 16) 29 93 0 0 4) 30 94 0 0 4) 89 2 ((lf_cp (lf_cp (lf_cp (lf_cp (lf_cp s.1 26 90 0 0 6) 27 91 0 0 6) 28 92 0 0 16) 29 93 0 0 4) 30 94 0 0 4) 25 2), s.2.1, s.2.2)
theorem cj_176 {Q1 Q2 Q3 : lf_Z → Prop} {s : lf_Z} (hQ : ∀ (s : lf_Z), Q1 s → Q2 s → Q3 s) (h1 : fm_176 Q1 s) (h2 : fw_176 Q2 s) : fm_176 Q3 s := by
  unfold fm_176 at h1 ⊢
  unfold fw_176 at h2
  exact hQ _  h1 h2
def fw_173 (Q : Int → lf_Z → Prop) (s : lf_Z) : Prop := fw_174 (fun s21 => (fw_175 (fun s22 => (fw_176 (fun s23 => (Q (s23.1 15 7) s23)) s22)) s21)) (lf_up (lf_up (lf_up (lf_up (lf_up s.1 78 0 (s.1 1 0)) 78 1 (s.1 1 1)) 78 2 (s.1 1 2)) 78 3 (s.1 0 11)) 78 4 (s.1 0 12), s.2.1, s.2.2)
theorem cj_173 {Q1 Q2 Q3 : Int → lf_Z → Prop} {s : lf_Z} (hQ : ∀ (r : Int) (s : lf_Z), Q1 r s → Q2 r s → Q3 r s) (h1 : fm_173 Q1 s) (h2 : fw_173 Q2 s) : fm_173 Q3 s := by
  unfold fm_173 at h1 ⊢
  unfold fw_173 at h2
  exact cj_174 (fun s21 k1 l1 => cj_175 (fun s22 k2 l2 => cj_176 (fun s23 k3 l3 => hQ _ _  k3 l3) k2 l2) k1 l1) h1 h2
def fw_181_p2 (Q : lf_Z → Prop) (X2 : Int → lf_Z → Prop) (x2 : Int) (s : lf_Z) : Prop := lf_R x2 → ((1538 ≤ x2 → (Q s)) ∧ (¬ (1538 ≤ x2) → ((0 ≤ x2 ∧ x2 < 1538) → (X2 (x2 + 1) (lf_up s.1 97 x2 (s.1 96 x2), s.2.1, s.2.2)))))
theorem cj_181_p2 {X21 X22 X23 : Int → lf_Z → Prop} {Q1 Q2 Q3 : lf_Z → Prop} {x2 : Int} {s : lf_Z} (hX2 : ∀ (v0 : Int) (v1 : lf_Z), X21 v0 v1 → X22 v0 v1 → X23 v0 v1) (hQ : ∀ (s : lf_Z), Q1 s → Q2 s → Q3 s) (h1 : fm_181_p2 Q1 X21 x2 s) (h2 : fw_181_p2 Q2 X22 x2 s) : fm_181_p2 Q3 X23 x2 s := by
  unfold fm_181_p2 at h1 ⊢
  unfold fw_181_p2 at h2
  exact ⟨h1.1, ⟨(fun c2 => hQ _  (h1.2.1 c2) ((h2 h1.1).1 c2)), (fun c2 => ⟨(h1.2.2 c2).1, hX2 _ _  (h1.2.2 c2).2 (((h2 h1.1).2 c2) (h1.2.2 c2).1)⟩)⟩⟩
def fw_181_p2L (Q : lf_Z → Prop) (x2 : Int) (s : lf_Z) : Prop := ∃ X2 : Int → lf_Z → Prop, (∀ (x2 : Int) (s : lf_Z), X2 x2 s → fw_181_p2 Q X2 x2 s) ∧ X2 x2 s
theorem cj_181_p2L {Q1 Q2 Q3 : lf_Z → Prop} {x2 : Int} {s : lf_Z} (hQ : ∀ (s : lf_Z), Q1 s → Q2 s → Q3 s) (h1 : fm_181_p2L Q1 x2 s) (h2 : fw_181_p2L Q2 x2 s) : fm_181_p2L Q3 x2 s := by
  intro X0 hX0
  obtain ⟨Y, hY, hY0⟩ := h2
  exact h1 (fun v0 s => Y v0 s → X0 v0 s) (fun v0 s hb hy => hX0 v0 s (cj_181_p2 (X21 := fun v0 s => Y v0 s → X0 v0 s) (X22 := Y) (X23 := X0) (hX2 := fun v0 s a b => a b) hQ hb (hY v0 s hy))) hY0
def fw_181 (Q : lf_Z → Prop) (s : lf_Z) : Prop := fw_181_p2L Q 0 s
theorem cj_181 {Q1 Q2 Q3 : lf_Z → Prop} {s : lf_Z} (hQ : ∀ (s : lf_Z), Q1 s → Q2 s → Q3 s) (h1 : fm_181 Q1 s) (h2 : fw_181 Q2 s) : fm_181 Q3 s := by
  unfold fm_181 at h1 ⊢
  unfold fw_181 at h2
  exact cj_181_p2L hQ h1 h2
def fw_325 (Q : Int → lf_Z → Prop) (s : lf_Z) : Prop := fw_181 (fun s21 => (Q (s21.1 96 3) s21)) s
theorem cj_325 {Q1 Q2 Q3 : Int → lf_Z → Prop} {s : lf_Z} (hQ : ∀ (r : Int) (s : lf_Z), Q1 r s → Q2 r s → Q3 r s) (h1 : fm_325 Q1 s) (h2 : fw_325 Q2 s) : fm_325 Q3 s := by
  unfold fm_325 at h1 ⊢
  unfold fw_325 at h2
  exact cj_181 (fun s21 k1 l1 => hQ _ _  k1 l1) h1 h2
def fw_2b_p9 (Q : lf_Z → Prop) (X9 : Int → lf_Z → Prop) (x1 : Int) (s : lf_Z) : Prop := lf_R x1 → ((12 ≤ x1 → (Q s)) ∧ (¬ (12 ≤ x1) → ((0 ≤ (x1 * 12) + x1 ∧ (x1 * 12) + x1 < 144) → (X9 (x1 + 1) (lf_up s.1 13 ((x1 * 12) + x1) 0, s.2.1, s.2.2)))))
theorem cj_2b_p9 {X91 X92 X93 : Int → lf_Z → Prop} {Q1 Q2 Q3 : lf_Z → Prop} {x1 : Int} {s : lf_Z} (hX9 : ∀ (v0 : Int) (v1 : lf_Z), X91 v0 v1 → X92 v0 v1 → X93 v0 v1) (hQ : ∀ (s : lf_Z), Q1 s → Q2 s → Q3 s) (h1 : fm_2b_p9 Q1 X91 x1 s) (h2 : fw_2b_p9 Q2 X92 x1 s) : fm_2b_p9 Q3 X93 x1 s := by
  unfold fm_2b_p9 at h1 ⊢
  unfold fw_2b_p9 at h2
  exact ⟨h1.1, ⟨(fun c2 => hQ _  (h1.2.1 c2) ((h2 h1.1).1 c2)), (fun c2 => ⟨(h1.2.2 c2).1, hX9 _ _  (h1.2.2 c2).2 (((h2 h1.1).2 c2) (h1.2.2 c2).1)⟩)⟩⟩
def fw_2b_p9L (Q : lf_Z → Prop) (x1 : Int) (s : lf_Z) : Prop := ∃ X9 : Int → lf_Z → Prop, (∀ (x1 : Int) (s : lf_Z), X9 x1 s → fw_2b_p9 Q X9 x1 s) ∧ X9 x1 s
theorem cj_2b_p9L {Q1 Q2 Q3 : lf_Z → Prop} {x1 : Int} {s : lf_Z} (hQ : ∀ (s : lf_Z), Q1 s → Q2 s → Q3 s) (h1 : fm_2b_p9L Q1 x1 s) (h2 : fw_2b_p9L Q2 x1 s) : fm_2b_p9L Q3 x1 s := by
  intro X0 hX0
  obtain ⟨Y, hY, hY0⟩ := h2
  exact h1 (fun v0 s => Y v0 s → X0 v0 s) (fun v0 s hb hy => hX0 v0 s (cj_2b_p9 (X91 := fun v0 s => Y v0 s → X0 v0 s) (X92 := Y) (X93 := X0) (hX9 := fun v0 s a b => a b) hQ hb (hY v0 s hy))) hY0
def fw_2b (Q : lf_Z → Prop) (s : lf_Z) : Prop := fw_2b_p9L Q 0 (lf_fl s.1 13 144 1000, s.2.1, s.2.2)
theorem cj_2b {Q1 Q2 Q3 : lf_Z → Prop} {s : lf_Z} (hQ : ∀ (s : lf_Z), Q1 s → Q2 s → Q3 s) (h1 : fm_2b Q1 s) (h2 : fw_2b Q2 s) : fm_2b Q3 s := by
  unfold fm_2b at h1 ⊢
  unfold fw_2b at h2
  exact cj_2b_p9L hQ h1 h2
def fw_178_p33 (Q : lf_Z → Prop) (X33 : Int → lf_Z → Prop) (x4 : Int) (s : lf_Z) : Prop := lf_R x4 → (lf_R (s.1 1 1) → ((s.1 1 1 ≤ x4 → (Q s)) ∧ (¬ (s.1 1 1 ≤ x4) → (fw_20 x4 (fun s24 => (X33 (x4 + 1) s24)) s))))
theorem cj_178_p33 {X331 X332 X333 : Int → lf_Z → Prop} {Q1 Q2 Q3 : lf_Z → Prop} {x4 : Int} {s : lf_Z} (hX33 : ∀ (v0 : Int) (v1 : lf_Z), X331 v0 v1 → X332 v0 v1 → X333 v0 v1) (hQ : ∀ (s : lf_Z), Q1 s → Q2 s → Q3 s) (h1 : fm_178_p33 Q1 X331 x4 s) (h2 : fw_178_p33 Q2 X332 x4 s) : fm_178_p33 Q3 X333 x4 s := by
  unfold fm_178_p33 at h1 ⊢
  unfold fw_178_p33 at h2
  exact ⟨h1.1, ⟨h1.2.1, ⟨(fun c3 => hQ _  (h1.2.2.1 c3) (((h2 h1.1) h1.2.1).1 c3)), (fun c3 => cj_20 (fun s24 k5 l5 => hX33 _ _  k5 l5) (h1.2.2.2 c3) (((h2 h1.1) h1.2.1).2 c3))⟩⟩⟩
def fw_178_p33L (Q : lf_Z → Prop) (x4 : Int) (s : lf_Z) : Prop := ∃ X33 : Int → lf_Z → Prop, (∀ (x4 : Int) (s : lf_Z), X33 x4 s → fw_178_p33 Q X33 x4 s) ∧ X33 x4 s
theorem cj_178_p33L {Q1 Q2 Q3 : lf_Z → Prop} {x4 : Int} {s : lf_Z} (hQ : ∀ (s : lf_Z), Q1 s → Q2 s → Q3 s) (h1 : fm_178_p33L Q1 x4 s) (h2 : fw_178_p33L Q2 x4 s) : fm_178_p33L Q3 x4 s := by
  intro X0 hX0
  obtain ⟨Y, hY, hY0⟩ := h2
  exact h1 (fun v0 s => Y v0 s → X0 v0 s) (fun v0 s hb hy => hX0 v0 s (cj_178_p33 (X331 := fun v0 s => Y v0 s → X0 v0 s) (X332 := Y) (X333 := X0) (hX33 := fun v0 s a b => a b) hQ hb (hY v0 s hy))) hY0
def fw_178 (a1 : Int) (a2 : Int) (a3 : Int) (Q : lf_Z → Prop) (s : lf_Z) : Prop := fw_2b (fun s21 => (fw_178_p33L Q 0 s21)) (lf_fl (lf_up (lf_up (lf_up s.1 1 0 a1) 1 1 a2) 1 2 a3) 12 12 0, s.2.1, s.2.2)
theorem cj_178 {Q1 Q2 Q3 : lf_Z → Prop} {a1 : Int} {a2 : Int} {a3 : Int} {s : lf_Z} (hQ : ∀ (s : lf_Z), Q1 s → Q2 s → Q3 s) (h1 : fm_178 a1 a2 a3 Q1 s) (h2 : fw_178 a1 a2 a3 Q2 s) : fm_178 a1 a2 a3 Q3 s := by
  unfold fm_178 at h1 ⊢
  unfold fw_178 at h2
  exact cj_2b (fun s21 k1 l1 => cj_178_p33L hQ k1 l1) h1 h2
def fw_174b (Q : lf_Z → Prop) (s : lf_Z) : Prop := Q (lf_up (lf_up (lf_up (lf_cp (lf_cp (lf_cp (lf_cp (lf_cp (lf_cp s.1 80 16 0 0 4) 81 17 0 0 4) 82 18 0 0 4) 83 19 0 0 6) 84 20 0 0 6) 85 21 0 0 12) 15 6 ((lf_cp (lf_cp (lf_cp (lf_cp (lf_cp (lf_cp s.1 80 16 0 0 4) 81 17 0 0 4) 82 18 0 0 4) 83 19 0 0 6) 84 20 0 0 6) 85 21 0 0 12) 79 6)) 15 7 ((lf_cp (lf_cp (lf_cp (lf_cp (lf_cp (lf_cp s.1 80 16 0 0 4) 81 17 0 0 4) 82 18 0 0 4) 83 19 0 0 6) 84 20 0 0 6) 85 21 0 0 12) 79 7)) 15 8 ((lf_cp (lf_cp (lf_cp (lf_cp (lf_cp (lf_cp s.1 80 16 0 0 4) 81 17 0 0 4) 82 18 0 0 4) 83 19 0 0 6) 84 20 0 0 6) 85 21 0 0 12) 79 8), s.2.1, s.2.2)
theorem cj_174b {Q1 Q2 Q3 : lf_Z → Prop} {s : lf_Z} (hQ : ∀ (s : lf_Z), Q1 s → Q2 s → Q3 s) (h1 : fm_174b Q1 s) (h2 : fw_174b Q2 s) : fm_174b Q3 s := by
  unfold fm_174b at h1 ⊢
  unfold fw_174b at h2
  exact hQ _  h1 h2
def fw_175b (Q : lf_Z → Prop) (s : lf_Z) : Prop := Q (lf_up (lf_up (lf_cp (lf_cp s.1 87 23 0 0 1170) 88 24 0 0 30) 22 2 ((lf_cp (lf_cp s.1 87 23 0 0 1170) 88 24 0 0 30) 86 2)) 22 3 ((lf_cp (lf_cp s.1 87 23 0 0 1170) 88 24 0 0 30) 86 3), s.2.1, s.2.2)
theorem cj_175b {Q1 Q2 Q3 : lf_Z → Prop} {s : lf_Z} (hQ : ∀ (s : lf_Z), Q1 s → Q2 s → Q3 s) (h1 : fm_175b Q1 s) (h2 : fw_175b Q2 s) : fm_175b Q3 s := by
  unfold fm_175b at h1 ⊢
  unfold fw_175b at h2
  exact hQ _  h1 h2
def fw_176b (Q : lf_Z → Prop) (s : lf_Z) : Prop := Q (lf_up (lf_cp (lf_cp (lf_cp (lf_cp (lf_cp s.1 90 26 0 0 6) 91 27 0 0 6) 92 28 0 0 16) 93 29 0 0 4) 94 30 0 0 4) 25 2 ((lf_cp (lf_cp (lf_cp (lf_cp (lf_cp s.1 90 26 0 0 6) 91 27 0 0 6) 92 28 0 0 16) 93 29 0 0 4) 94 30 0 0 4) 89 2), s.2.1, s.2.2)
theorem cj_176b {Q1 Q2 Q3 : lf_Z → Prop} {s : lf_Z} (hQ : ∀ (s : lf_Z), Q1 s → Q2 s → Q3 s) (h1 : fm_176b Q1 s) (h2 : fw_176b Q2 s) : fm_176b Q3 s := by
  unfold fm_176b at h1 ⊢
  unfold fw_176b at h2
  exact hQ _  h1 h2
def fw_177 (Q : Int → lf_Z → Prop) (s : lf_Z) : Prop := fw_178 (s.1 78 0) (s.1 78 1) (s.1 78 2) (fun s21 => (fw_61 (s21.1 78 4) (fun s22 => (fw_174b (fun s23 => (fw_175b (fun s24 => (fw_176b (fun s25 => (Q (s25.1 15 7) s25)) s24)) s23)) s22)) (lf_up s21.1 0 11 (s21.1 78 3), s21.2.1, s21.2.2))) s
theorem cj_177 {Q1 Q2 Q3 : Int → lf_Z → Prop} {s : lf_Z} (hQ : ∀ (r : Int) (s : lf_Z), Q1 r s → Q2 r s → Q3 r s) (h1 : fm_177 Q1 s) (h2 : fw_177 Q2 s) : fm_177 Q3 s := by
  unfold fm_177 at h1 ⊢
  unfold fw_177 at h2
  exact cj_178 (fun s21 k1 l1 => cj_61 (fun s22 k2 l2 => cj_174b (fun s23 k3 l3 => cj_175b (fun s24 k4 l4 => cj_176b (fun s25 k5 l5 => hQ _ _  k5 l5) k4 l4) k3 l3) k2 l2) k1 l1) h1 h2
def fw_181b_p2 (Q : lf_Z → Prop) (X2 : Int → lf_Z → Prop) (x2 : Int) (s : lf_Z) : Prop := lf_R x2 → ((1538 ≤ x2 → (Q s)) ∧ (¬ (1538 ≤ x2) → ((0 ≤ x2 ∧ x2 < 1538) → (X2 (x2 + 1) (lf_up s.1 96 x2 (s.1 97 x2), s.2.1, s.2.2)))))
theorem cj_181b_p2 {X21 X22 X23 : Int → lf_Z → Prop} {Q1 Q2 Q3 : lf_Z → Prop} {x2 : Int} {s : lf_Z} (hX2 : ∀ (v0 : Int) (v1 : lf_Z), X21 v0 v1 → X22 v0 v1 → X23 v0 v1) (hQ : ∀ (s : lf_Z), Q1 s → Q2 s → Q3 s) (h1 : fm_181b_p2 Q1 X21 x2 s) (h2 : fw_181b_p2 Q2 X22 x2 s) : fm_181b_p2 Q3 X23 x2 s := by
  unfold fm_181b_p2 at h1 ⊢
  unfold fw_181b_p2 at h2
  exact ⟨h1.1, ⟨(fun c2 => hQ _  (h1.2.1 c2) ((h2 h1.1).1 c2)), (fun c2 => ⟨(h1.2.2 c2).1, hX2 _ _  (h1.2.2 c2).2 (((h2 h1.1).2 c2) (h1.2.2 c2).1)⟩)⟩⟩
def fw_181b_p2L (Q : lf_Z → Prop) (x2 : Int) (s : lf_Z) : Prop := ∃ X2 : Int → lf_Z → Prop, (∀ (x2 : Int) (s : lf_Z), X2 x2 s → fw_181b_p2 Q X2 x2 s) ∧ X2 x2 s
theorem cj_181b_p2L {Q1 Q2 Q3 : lf_Z → Prop} {x2 : Int} {s : lf_Z} (hQ : ∀ (s : lf_Z), Q1 s → Q2 s → Q3 s) (h1 : fm_181b_p2L Q1 x2 s) (h2 : fw_181b_p2L Q2 x2 s) : fm_181b_p2L Q3 x2 s := by
  intro X0 hX0
  obtain ⟨Y, hY, hY0⟩ := h2
  exact h1 (fun v0 s => Y v0 s → X0 v0 s) (fun v0 s hb hy => hX0 v0 s (cj_181b_p2 (X21 := fun v0 s => Y v0 s → X0 v0 s) (X22 := Y) (X23 := X0) (hX2 := fun v0 s a b => a b) hQ hb (hY v0 s hy))) hY0
def fw_181b (Q : lf_Z → Prop) (s : lf_Z) : Prop := fw_181b_p2L Q 0 s
theorem cj_181b {Q1 Q2 Q3 : lf_Z → Prop} {s : lf_Z} (hQ : ∀ (s : lf_Z), Q1 s → Q2 s → Q3 s) (h1 : fm_181b Q1 s) (h2 : fw_181b Q2 s) : fm_181b Q3 s := by
  unfold fm_181b at h1 ⊢
  unfold fw_181b at h2
  exact cj_181b_p2L hQ h1 h2
def fw_326 (Q : Int → lf_Z → Prop) (s : lf_Z) : Prop := fw_181b (fun s21 => (Q (s21.1 96 3) s21)) s
theorem cj_326 {Q1 Q2 Q3 : Int → lf_Z → Prop} {s : lf_Z} (hQ : ∀ (r : Int) (s : lf_Z), Q1 r s → Q2 r s → Q3 r s) (h1 : fm_326 Q1 s) (h2 : fw_326 Q2 s) : fm_326 Q3 s := by
  unfold fm_326 at h1 ⊢
  unfold fw_326 at h2
  exact cj_181b (fun s21 k1 l1 => hQ _ _  k1 l1) h1 h2
