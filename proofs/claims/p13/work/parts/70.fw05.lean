def fw_238_p210 (X165 : Int → lf_Z → Prop) (Q : Int → lf_Z → Prop) (x1 : Int) (x2 : Int) (y1 : Int) (y3 : Int) (s : lf_Z) : Prop := fw_191d y1 y3 (fun s37 => ((0 ≤ x1 ∧ x1 < 1538) → (lf_R x2 → (lf_R (s37.1 96 x1) → ((s37.1 96 x1 ≤ x2 → (fw_238_p243 X165 Q x1 x2 x2 (-1) s37)) ∧ (¬ (s37.1 96 x1 ≤ x2) → ((0 ≤ (x1 + 18) + (2 * x2) ∧ (x1 + 18) + (2 * x2) < 1538) → (fw_238_p243 X165 Q x1 x2 x2 (s37.1 96 ((x1 + 18) + (2 * x2))) s37)))))))) s
theorem cj_238_p210 {X1651 X1652 X1653 : Int → lf_Z → Prop} {Q1 Q2 Q3 : Int → lf_Z → Prop} {x1 : Int} {x2 : Int} {y1 : Int} {y3 : Int} {s : lf_Z} (hX165 : ∀ (v0 : Int) (v1 : lf_Z), X1651 v0 v1 → X1652 v0 v1 → X1653 v0 v1) (hQ : ∀ (r : Int) (s : lf_Z), Q1 r s → Q2 r s → Q3 r s) (h1 : fm_238_p210 X1651 Q1 x1 x2 y1 y3 s) (h2 : fw_238_p210 X1652 Q2 x1 x2 y1 y3 s) : fm_238_p210 X1653 Q3 x1 x2 y1 y3 s := by
  unfold fm_238_p210 at h1 ⊢
  unfold fw_238_p210 at h2
  exact cj_191d (fun s37 k1 l1 => ⟨k1.1, ⟨k1.2.1, ⟨k1.2.2.1, ⟨(fun c5 => cj_238_p243 hX165 hQ (k1.2.2.2.1 c5) ((((l1 k1.1) k1.2.1) k1.2.2.1).1 c5)), (fun c5 => ⟨(k1.2.2.2.2 c5).1, cj_238_p243 hX165 hQ (k1.2.2.2.2 c5).2 (((((l1 k1.1) k1.2.1) k1.2.2.1).2 c5) (k1.2.2.2.2 c5).1)⟩)⟩⟩⟩⟩) h1 h2
def fw_238_p165 (Q : Int → lf_Z → Prop) (x1 : Int) (X165 : Int → lf_Z → Prop) (x2 : Int) (s : lf_Z) : Prop := lf_R x2 → (lf_R (s.1 96 2) → ((s.1 96 2 ≤ x2 → (fw_238_p254L Q x1 0 s)) ∧ (¬ (s.1 96 2 ≤ x2) → ((0 ≤ x1 ∧ x1 < 1538) → (lf_R (s.1 96 x1) → ((s.1 96 x1 ≤ x2 → (fw_239e x2 (fun r36 s35 => (fw_238_p210 X165 Q x1 x2 x2 r36 s35)) s)) ∧ (¬ (s.1 96 x1 ≤ x2) → ((0 ≤ (x1 + 17) + (2 * x2) ∧ (x1 + 17) + (2 * x2) < 1538) → (fw_238_p210 X165 Q x1 x2 x2 (s.1 96 ((x1 + 17) + (2 * x2))) s)))))))))
theorem cj_238_p165 {X1651 X1652 X1653 : Int → lf_Z → Prop} {Q1 Q2 Q3 : Int → lf_Z → Prop} {x1 : Int} {x2 : Int} {s : lf_Z} (hX165 : ∀ (v0 : Int) (v1 : lf_Z), X1651 v0 v1 → X1652 v0 v1 → X1653 v0 v1) (hQ : ∀ (r : Int) (s : lf_Z), Q1 r s → Q2 r s → Q3 r s) (h1 : fm_238_p165 Q1 x1 X1651 x2 s) (h2 : fw_238_p165 Q2 x1 X1652 x2 s) : fm_238_p165 Q3 x1 X1653 x2 s := by
  unfold fm_238_p165 at h1 ⊢
  unfold fw_238_p165 at h2
  exact ⟨h1.1, ⟨h1.2.1, ⟨(fun c3 => cj_238_p254L hQ (h1.2.2.1 c3) (((h2 h1.1) h1.2.1).1 c3)), (fun c3 => ⟨(h1.2.2.2 c3).1, ⟨(h1.2.2.2 c3).2.1, ⟨(fun c7 => cj_239e (fun r36 s35 k8 l8 => cj_238_p210 hX165 hQ k8 l8) ((h1.2.2.2 c3).2.2.1 c7) ((((((h2 h1.1) h1.2.1).2 c3) (h1.2.2.2 c3).1) (h1.2.2.2 c3).2.1).1 c7)), (fun c7 => ⟨((h1.2.2.2 c3).2.2.2 c7).1, cj_238_p210 hX165 hQ ((h1.2.2.2 c3).2.2.2 c7).2 (((((((h2 h1.1) h1.2.1).2 c3) (h1.2.2.2 c3).1) (h1.2.2.2 c3).2.1).2 c7) ((h1.2.2.2 c3).2.2.2 c7).1)⟩)⟩⟩⟩)⟩⟩⟩
def fw_238_p165L (Q : Int → lf_Z → Prop) (x1 : Int) (x2 : Int) (s : lf_Z) : Prop := ∃ X165 : Int → lf_Z → Prop, (∀ (x2 : Int) (s : lf_Z), X165 x2 s → fw_238_p165 Q x1 X165 x2 s) ∧ X165 x2 s
theorem cj_238_p165L {Q1 Q2 Q3 : Int → lf_Z → Prop} {x1 : Int} {x2 : Int} {s : lf_Z} (hQ : ∀ (r : Int) (s : lf_Z), Q1 r s → Q2 r s → Q3 r s) (h1 : fm_238_p165L Q1 x1 x2 s) (h2 : fw_238_p165L Q2 x1 x2 s) : fm_238_p165L Q3 x1 x2 s := by
  intro X0 hX0
  obtain ⟨Y, hY, hY0⟩ := h2
  exact h1 (fun v0 s => Y v0 s → X0 v0 s) (fun v0 s hb hy => hX0 v0 s (cj_238_p165 (X1651 := fun v0 s => Y v0 s → X0 v0 s) (X1652 := Y) (X1653 := X0) (hX165 := fun v0 s a b => a b) hQ hb (hY v0 s hy))) hY0
def fw_238_p132 (Q : Int → lf_Z → Prop) (x1 : Int) (X132 : Int → lf_Z → Prop) (x2 : Int) (s : lf_Z) : Prop := lf_R x2 → ((12 ≤ x2 → (fw_238_p165L Q x1 0 s)) ∧ (¬ (12 ≤ x2) → ((0 ≤ (x1 + 5) + x2 ∧ (x1 + 5) + x2 < 1538) → ((0 ≤ 114 + x2 ∧ 114 + x2 < 1538) → (X132 (x2 + 1) (lf_up s.1 96 (114 + x2) (s.1 96 ((x1 + 5) + x2)), s.2.1, s.2.2))))))
theorem cj_238_p132 {X1321 X1322 X1323 : Int → lf_Z → Prop} {Q1 Q2 Q3 : Int → lf_Z → Prop} {x1 : Int} {x2 : Int} {s : lf_Z} (hX132 : ∀ (v0 : Int) (v1 : lf_Z), X1321 v0 v1 → X1322 v0 v1 → X1323 v0 v1) (hQ : ∀ (r : Int) (s : lf_Z), Q1 r s → Q2 r s → Q3 r s) (h1 : fm_238_p132 Q1 x1 X1321 x2 s) (h2 : fw_238_p132 Q2 x1 X1322 x2 s) : fm_238_p132 Q3 x1 X1323 x2 s := by
  unfold fm_238_p132 at h1 ⊢
  unfold fw_238_p132 at h2
  exact ⟨h1.1, ⟨(fun c2 => cj_238_p165L hQ (h1.2.1 c2) ((h2 h1.1).1 c2)), (fun c2 => ⟨(h1.2.2 c2).1, ⟨(h1.2.2 c2).2.1, hX132 _ _  (h1.2.2 c2).2.2 ((((h2 h1.1).2 c2) (h1.2.2 c2).1) (h1.2.2 c2).2.1)⟩⟩)⟩⟩
def fw_238_p132L (Q : Int → lf_Z → Prop) (x1 : Int) (x2 : Int) (s : lf_Z) : Prop := ∃ X132 : Int → lf_Z → Prop, (∀ (x2 : Int) (s : lf_Z), X132 x2 s → fw_238_p132 Q x1 X132 x2 s) ∧ X132 x2 s
theorem cj_238_p132L {Q1 Q2 Q3 : Int → lf_Z → Prop} {x1 : Int} {x2 : Int} {s : lf_Z} (hQ : ∀ (r : Int) (s : lf_Z), Q1 r s → Q2 r s → Q3 r s) (h1 : fm_238_p132L Q1 x1 x2 s) (h2 : fw_238_p132L Q2 x1 x2 s) : fm_238_p132L Q3 x1 x2 s := by
  intro X0 hX0
  obtain ⟨Y, hY, hY0⟩ := h2
  exact h1 (fun v0 s => Y v0 s → X0 v0 s) (fun v0 s hb hy => hX0 v0 s (cj_238_p132 (X1321 := fun v0 s => Y v0 s → X0 v0 s) (X1322 := Y) (X1323 := X0) (hX132 := fun v0 s a b => a b) hQ hb (hY v0 s hy))) hY0
def fw_238_p94 (X40 : Int → lf_Z → Prop) (Q : Int → lf_Z → Prop) (x1 : Int) (x2 : Int) (y1 : Int) (y2 : Int) (s : lf_Z) : Prop := (0 ≤ y1 ∧ y1 < 1538) → (X40 (x2 + 1) (lf_up s.1 96 y1 y2, s.2.1, s.2.2))
theorem cj_238_p94 {X401 X402 X403 : Int → lf_Z → Prop} {Q1 Q2 Q3 : Int → lf_Z → Prop} {x1 : Int} {x2 : Int} {y1 : Int} {y2 : Int} {s : lf_Z} (hX40 : ∀ (v0 : Int) (v1 : lf_Z), X401 v0 v1 → X402 v0 v1 → X403 v0 v1) (hQ : ∀ (r : Int) (s : lf_Z), Q1 r s → Q2 r s → Q3 r s) (h1 : fm_238_p94 X401 Q1 x1 x2 y1 y2 s) (h2 : fw_238_p94 X402 Q2 x1 x2 y1 y2 s) : fm_238_p94 X403 Q3 x1 x2 y1 y2 s := by
  unfold fm_238_p94 at h1 ⊢
  unfold fw_238_p94 at h2
  exact ⟨h1.1, hX40 _ _  h1.2 (h2 h1.1)⟩
def fw_238_p89 (X40 : Int → lf_Z → Prop) (Q : Int → lf_Z → Prop) (x1 : Int) (x2 : Int) (y1 : Int) (s : lf_Z) : Prop := fw_238_p94 X40 Q x1 x2 y1 1 s
theorem cj_238_p89 {X401 X402 X403 : Int → lf_Z → Prop} {Q1 Q2 Q3 : Int → lf_Z → Prop} {x1 : Int} {x2 : Int} {y1 : Int} {s : lf_Z} (hX40 : ∀ (v0 : Int) (v1 : lf_Z), X401 v0 v1 → X402 v0 v1 → X403 v0 v1) (hQ : ∀ (r : Int) (s : lf_Z), Q1 r s → Q2 r s → Q3 r s) (h1 : fm_238_p89 X401 Q1 x1 x2 y1 s) (h2 : fw_238_p89 X402 Q2 x1 x2 y1 s) : fm_238_p89 X403 Q3 x1 x2 y1 s := by
  unfold fm_238_p89 at h1 ⊢
  unfold fw_238_p89 at h2
  exact cj_238_p94 hX40 hQ h1 h2
def fw_238_p40 (Q : Int → lf_Z → Prop) (x1 : Int) (X40 : Int → lf_Z → Prop) (x2 : Int) (s : lf_Z) : Prop := lf_R x2 → (lf_R (s.1 96 1) → ((s.1 96 1 ≤ x2 → ((0 ≤ x1 + 3 ∧ x1 + 3 < 1538) → ((0 ≤ x1 + 4 ∧ x1 + 4 < 1538) → (fw_238_p132L Q x1 0 (lf_up (lf_up s.1 96 3 (s.1 96 (x1 + 3))) 96 6 ((lf_up s.1 96 3 (s.1 96 (x1 + 3))) 96 (x1 + 4)), s.2.1, s.2.2))))) ∧ (¬ (s.1 96 1 ≤ x2) → ((0 ≤ x1 + 1 ∧ x1 + 1 < 1538) → (lf_R (s.1 96 (x1 + 1)) → ((s.1 96 (x1 + 1) ≤ x2 → (fw_238_p89 X40 Q x1 x2 ((50 + (4 * x2)) + 3) s)) ∧ (¬ (s.1 96 (x1 + 1) ≤ x2) → ((0 ≤ x1 + 2 ∧ x1 + 2 < 1538) → (fw_210 (s.1 96 (x1 + 2)) x2 (fun z51 s50 => ((z51 = false → (fw_238_p94 X40 Q x1 x2 ((50 + (4 * x2)) + 3) 0 s50)) ∧ (z51 = true → (fw_238_p89 X40 Q x1 x2 ((50 + (4 * x2)) + 3) s50)))) s)))))))))
theorem cj_238_p40 {X401 X402 X403 : Int → lf_Z → Prop} {Q1 Q2 Q3 : Int → lf_Z → Prop} {x1 : Int} {x2 : Int} {s : lf_Z} (hX40 : ∀ (v0 : Int) (v1 : lf_Z), X401 v0 v1 → X402 v0 v1 → X403 v0 v1) (hQ : ∀ (r : Int) (s : lf_Z), Q1 r s → Q2 r s → Q3 r s) (h1 : fm_238_p40 Q1 x1 X401 x2 s) (h2 : fw_238_p40 Q2 x1 X402 x2 s) : fm_238_p40 Q3 x1 X403 x2 s := by
  unfold fm_238_p40 at h1 ⊢
  unfold fw_238_p40 at h2
  exact ⟨h1.1, ⟨h1.2.1, ⟨(fun c3 => ⟨(h1.2.2.1 c3).1, ⟨(h1.2.2.1 c3).2.1, cj_238_p132L hQ (h1.2.2.1 c3).2.2 (((((h2 h1.1) h1.2.1).1 c3) (h1.2.2.1 c3).1) (h1.2.2.1 c3).2.1)⟩⟩), (fun c3 => ⟨(h1.2.2.2 c3).1, ⟨(h1.2.2.2 c3).2.1, ⟨(fun c9 => cj_238_p89 hX40 hQ ((h1.2.2.2 c3).2.2.1 c9) ((((((h2 h1.1) h1.2.1).2 c3) (h1.2.2.2 c3).1) (h1.2.2.2 c3).2.1).1 c9)), (fun c9 => ⟨((h1.2.2.2 c3).2.2.2 c9).1, cj_210 (fun z51 s50 k12 l12 => ⟨(fun c13 => cj_238_p94 hX40 hQ (k12.1 c13) (l12.1 c13)), (fun c13 => cj_238_p89 hX40 hQ (k12.2 c13) (l12.2 c13))⟩) ((h1.2.2.2 c3).2.2.2 c9).2 (((((((h2 h1.1) h1.2.1).2 c3) (h1.2.2.2 c3).1) (h1.2.2.2 c3).2.1).2 c9) ((h1.2.2.2 c3).2.2.2 c9).1)⟩)⟩⟩⟩)⟩⟩⟩
def fw_238_p40L (Q : Int → lf_Z → Prop) (x1 : Int) (x2 : Int) (s : lf_Z) : Prop := ∃ X40 : Int → lf_Z → Prop, (∀ (x2 : Int) (s : lf_Z), X40 x2 s → fw_238_p40 Q x1 X40 x2 s) ∧ X40 x2 s
theorem cj_238_p40L {Q1 Q2 Q3 : Int → lf_Z → Prop} {x1 : Int} {x2 : Int} {s : lf_Z} (hQ : ∀ (r : Int) (s : lf_Z), Q1 r s → Q2 r s → Q3 r s) (h1 : fm_238_p40L Q1 x1 x2 s) (h2 : fw_238_p40L Q2 x1 x2 s) : fm_238_p40L Q3 x1 x2 s := by
  intro X0 hX0
  obtain ⟨Y, hY, hY0⟩ := h2
  exact h1 (fun v0 s => Y v0 s → X0 v0 s) (fun v0 s hb hy => hX0 v0 s (cj_238_p40 (X401 := fun v0 s => Y v0 s → X0 v0 s) (X402 := Y) (X403 := X0) (hX40 := fun v0 s a b => a b) hQ hb (hY v0 s hy))) hY0
def fw_238 (Q : Int → lf_Z → Prop) (s : lf_Z) : Prop := lf_R (s.1 96 9) → ((s.1 96 9 ≠ 0 → (fw_238_p40L Q (278 + (42 * ((s.1 96 9) - 1))) 0 (lf_up s.1 96 9 ((s.1 96 9) - 1), s.2.1, s.2.2))) ∧ (¬ (s.1 96 9 ≠ 0) → (Q (-1) s)))
theorem cj_238 {Q1 Q2 Q3 : Int → lf_Z → Prop} {s : lf_Z} (hQ : ∀ (r : Int) (s : lf_Z), Q1 r s → Q2 r s → Q3 r s) (h1 : fm_238 Q1 s) (h2 : fw_238 Q2 s) : fm_238 Q3 s := by
  unfold fm_238 at h1 ⊢
  unfold fw_238 at h2
  exact ⟨h1.1, ⟨(fun c2 => cj_238_p40L hQ (h1.2.1 c2) ((h2 h1.1).1 c2)), (fun c2 => hQ _ _  (h1.2.2 c2) ((h2 h1.1).2 c2))⟩⟩
def fw_146 (a1 : Int) (a2 : Int) (Q : Int → lf_Z → Prop) (s : lf_Z) : Prop := lf_R (s.1 25 2) → ((s.1 25 2 < 6 → ((0 ≤ s.1 25 2 ∧ s.1 25 2 < 6) → (Q ((s.1 25 2) + 1) (lf_up (lf_up (lf_up s.1 26 (s.1 25 2) a1) 27 (s.1 25 2) a2) 25 2 ((s.1 25 2) + 1), s.2.1, s.2.2)))) ∧ (¬ (s.1 25 2 < 6) → (Q (-2) s)))
theorem cj_146 {Q1 Q2 Q3 : Int → lf_Z → Prop} {a1 : Int} {a2 : Int} {s : lf_Z} (hQ : ∀ (r : Int) (s : lf_Z), Q1 r s → Q2 r s → Q3 r s) (h1 : fm_146 a1 a2 Q1 s) (h2 : fw_146 a1 a2 Q2 s) : fm_146 a1 a2 Q3 s := by
  unfold fm_146 at h1 ⊢
  unfold fw_146 at h2
  exact ⟨h1.1, ⟨(fun c2 => ⟨(h1.2.1 c2).1, hQ _ _  (h1.2.1 c2).2 (((h2 h1.1).1 c2) (h1.2.1 c2).1)⟩), (fun c2 => hQ _ _  (h1.2.2 c2) ((h2 h1.1).2 c2))⟩⟩
def fw_145 (a1 : Int) (a2 : Int) (Q : Int → lf_Z → Prop) (s : lf_Z) : Prop := lf_R a1 → ((a1 ≠ (-1) → (fw_18 a1 (fun z23 s22 => ((z23 = false → (Q (-2) s22)) ∧ (z23 = true → (fw_15 a2 0 60 (fun z25 s24 => ((z25 = true → (fw_146 a1 a2 (fun r27 s26 => (Q r27 s26)) s24)) ∧ (z25 = false → (Q (-2) s24)))) s22)))) s)) ∧ (¬ (a1 ≠ (-1)) → (Q 0 (lf_up s.1 25 2 0, s.2.1, s.2.2))))
theorem cj_145 {Q1 Q2 Q3 : Int → lf_Z → Prop} {a1 : Int} {a2 : Int} {s : lf_Z} (hQ : ∀ (r : Int) (s : lf_Z), Q1 r s → Q2 r s → Q3 r s) (h1 : fm_145 a1 a2 Q1 s) (h2 : fw_145 a1 a2 Q2 s) : fm_145 a1 a2 Q3 s := by
  unfold fm_145 at h1 ⊢
  unfold fw_145 at h2
  exact ⟨h1.1, ⟨(fun c2 => cj_18 (fun z23 s22 k3 l3 => ⟨(fun c4 => hQ _ _  (k3.1 c4) (l3.1 c4)), (fun c4 => cj_15 (fun z25 s24 k6 l6 => ⟨(fun c7 => cj_146 (fun r27 s26 k8 l8 => hQ _ _  k8 l8) (k6.1 c7) (l6.1 c7)), (fun c7 => hQ _ _  (k6.2 c7) (l6.2 c7))⟩) (k3.2 c4) (l3.2 c4))⟩) (h1.2.1 c2) ((h2 h1.1).1 c2)), (fun c2 => hQ _ _  (h1.2.2 c2) ((h2 h1.1).2 c2))⟩⟩
def fw_305 (a1 : Int) (a2 : Int) (Q : Int → lf_Z → Prop) (s : lf_Z) : Prop := lf_R a1 → ((a1 ≠ (-1) → (fw_185 a1 (fun z23 s22 => ((z23 = false → (Q (-2) s22)) ∧ (z23 = true → (fw_183 a2 0 60 (fun z25 s24 => ((z25 = false → (Q (-2) s24)) ∧ (z25 = true → (lf_R (s24.1 96 10) → ((s24.1 96 10 ≠ 6 → ((0 ≤ 162 + (2 * (s24.1 96 10)) ∧ 162 + (2 * (s24.1 96 10)) < 1538) → ((0 ≤ (162 + (2 * ((lf_up s24.1 96 (162 + (2 * (s24.1 96 10))) a1) 96 10))) + 1 ∧ (162 + (2 * ((lf_up s24.1 96 (162 + (2 * (s24.1 96 10))) a1) 96 10))) + 1 < 1538) → (Q (((lf_up (lf_up s24.1 96 (162 + (2 * (s24.1 96 10))) a1) 96 ((162 + (2 * ((lf_up s24.1 96 (162 + (2 * (s24.1 96 10))) a1) 96 10))) + 1) a2) 96 10) + 1) (lf_up (lf_up (lf_up s24.1 96 (162 + (2 * (s24.1 96 10))) a1) 96 ((162 + (2 * ((lf_up s24.1 96 (162 + (2 * (s24.1 96 10))) a1) 96 10))) + 1) a2) 96 10 (((lf_up (lf_up s24.1 96 (162 + (2 * (s24.1 96 10))) a1) 96 ((162 + (2 * ((lf_up s24.1 96 (162 + (2 * (s24.1 96 10))) a1) 96 10))) + 1) a2) 96 10) + 1), s24.2.1, s24.2.2))))) ∧ (¬ (s24.1 96 10 ≠ 6) → (Q (-2) s24))))))) s22)))) s)) ∧ (¬ (a1 ≠ (-1)) → (Q 0 (lf_up s.1 96 10 0, s.2.1, s.2.2))))
theorem cj_305 {Q1 Q2 Q3 : Int → lf_Z → Prop} {a1 : Int} {a2 : Int} {s : lf_Z} (hQ : ∀ (r : Int) (s : lf_Z), Q1 r s → Q2 r s → Q3 r s) (h1 : fm_305 a1 a2 Q1 s) (h2 : fw_305 a1 a2 Q2 s) : fm_305 a1 a2 Q3 s := by
  unfold fm_305 at h1 ⊢
  unfold fw_305 at h2
  exact ⟨h1.1, ⟨(fun c2 => cj_185 (fun z23 s22 k3 l3 => ⟨(fun c4 => hQ _ _  (k3.1 c4) (l3.1 c4)), (fun c4 => cj_183 (fun z25 s24 k6 l6 => ⟨(fun c7 => hQ _ _  (k6.1 c7) (l6.1 c7)), (fun c7 => ⟨(k6.2 c7).1, ⟨(fun c10 => ⟨((k6.2 c7).2.1 c10).1, ⟨((k6.2 c7).2.1 c10).2.1, hQ _ _  ((k6.2 c7).2.1 c10).2.2 (((((l6.2 c7) (k6.2 c7).1).1 c10) ((k6.2 c7).2.1 c10).1) ((k6.2 c7).2.1 c10).2.1)⟩⟩), (fun c10 => hQ _ _  ((k6.2 c7).2.2 c10) (((l6.2 c7) (k6.2 c7).1).2 c10))⟩⟩)⟩) (k3.2 c4) (l3.2 c4))⟩) (h1.2.1 c2) ((h2 h1.1).1 c2)), (fun c2 => hQ _ _  (h1.2.2 c2) ((h2 h1.1).2 c2))⟩⟩
def fw_163_p72 (Q : Bool → lf_Z → Prop) (x1 : Int) (x2 : Int) (x3 : Int) (x4 : Int) (x5 : Int) (y0 : Int) (s : lf_Z) : Prop := lf_R y0 → ((y0 = 0 → ((y0 = 0 ∨ y0 = 1) → ((y0 = 0 → (Q false s)) ∧ (y0 = 1 → (Q true s))))) ∧ (¬ (y0 = 0) → ((0 ≤ x1 ∧ x1 < 16) → ((y0 = 0 ∨ y0 = 1) → ((y0 = 0 → (Q false (lf_up s.1 28 x1 (lf_w (((lf_w ((lf_w (x4 * x2)) * x5)).tdiv 10) - x3)), s.2.1, s.2.2))) ∧ (y0 = 1 → (Q true (lf_up s.1 28 x1 (lf_w (((lf_w ((lf_w (x4 * x2)) * x5)).tdiv 10) - x3)), s.2.1, s.2.2))))))))
theorem cj_163_p72 {Q1 Q2 Q3 : Bool → lf_Z → Prop} {x1 : Int} {x2 : Int} {x3 : Int} {x4 : Int} {x5 : Int} {y0 : Int} {s : lf_Z} (hQ : ∀ (r : Bool) (s : lf_Z), Q1 r s → Q2 r s → Q3 r s) (h1 : fm_163_p72 Q1 x1 x2 x3 x4 x5 y0 s) (h2 : fw_163_p72 Q2 x1 x2 x3 x4 x5 y0 s) : fm_163_p72 Q3 x1 x2 x3 x4 x5 y0 s := by
  unfold fm_163_p72 at h1 ⊢
  unfold fw_163_p72 at h2
  exact ⟨h1.1, ⟨(fun c2 => ⟨(h1.2.1 c2).1, ⟨(fun c4 => hQ _ _  ((h1.2.1 c2).2.1 c4) ((((h2 h1.1).1 c2) (h1.2.1 c2).1).1 c4)), (fun c4 => hQ _ _  ((h1.2.1 c2).2.2 c4) ((((h2 h1.1).1 c2) (h1.2.1 c2).1).2 c4))⟩⟩), (fun c2 => ⟨(h1.2.2 c2).1, ⟨(h1.2.2 c2).2.1, ⟨(fun c9 => hQ _ _  ((h1.2.2 c2).2.2.1 c9) (((((h2 h1.1).2 c2) (h1.2.2 c2).1) (h1.2.2 c2).2.1).1 c9)), (fun c9 => hQ _ _  ((h1.2.2 c2).2.2.2 c9) (((((h2 h1.1).2 c2) (h1.2.2 c2).1) (h1.2.2 c2).2.1).2 c9))⟩⟩⟩)⟩⟩
def fw_163_p71 (Q : Bool → lf_Z → Prop) (x1 : Int) (x2 : Int) (x3 : Int) (x4 : Int) (x5 : Int) (s : lf_Z) : Prop := fw_163_p72 Q x1 x2 x3 x4 x5 0 s
theorem cj_163_p71 {Q1 Q2 Q3 : Bool → lf_Z → Prop} {x1 : Int} {x2 : Int} {x3 : Int} {x4 : Int} {x5 : Int} {s : lf_Z} (hQ : ∀ (r : Bool) (s : lf_Z), Q1 r s → Q2 r s → Q3 r s) (h1 : fm_163_p71 Q1 x1 x2 x3 x4 x5 s) (h2 : fw_163_p71 Q2 x1 x2 x3 x4 x5 s) : fm_163_p71 Q3 x1 x2 x3 x4 x5 s := by
  unfold fm_163_p71 at h1 ⊢
  unfold fw_163_p71 at h2
  exact cj_163_p72 hQ h1 h2
def fw_163_p37 (Q : Bool → lf_Z → Prop) (x1 : Int) (x2 : Int) (x3 : Int) (x4 : Int) (x5 : Int) (y0 : Int) (s : lf_Z) : Prop := lf_R y0 → ((y0 = 0 → (fw_163_p71 Q x1 x2 x3 x4 x5 s)) ∧ (¬ (y0 = 0) → (fw_15 x4 0 999 (fun z27 s26 => ((z27 = false → (fw_163_p71 Q x1 x2 x3 x4 x5 s26)) ∧ (z27 = true → (fw_15 x5 1 99 (fun z29 s28 => ((z29 = false → (fw_163_p71 Q x1 x2 x3 x4 x5 s28)) ∧ (z29 = true → (fw_163_p72 Q x1 x2 x3 x4 x5 1 s28)))) s26)))) s)))
theorem cj_163_p37 {Q1 Q2 Q3 : Bool → lf_Z → Prop} {x1 : Int} {x2 : Int} {x3 : Int} {x4 : Int} {x5 : Int} {y0 : Int} {s : lf_Z} (hQ : ∀ (r : Bool) (s : lf_Z), Q1 r s → Q2 r s → Q3 r s) (h1 : fm_163_p37 Q1 x1 x2 x3 x4 x5 y0 s) (h2 : fw_163_p37 Q2 x1 x2 x3 x4 x5 y0 s) : fm_163_p37 Q3 x1 x2 x3 x4 x5 y0 s := by
  unfold fm_163_p37 at h1 ⊢
  unfold fw_163_p37 at h2
  exact ⟨h1.1, ⟨(fun c2 => cj_163_p71 hQ (h1.2.1 c2) ((h2 h1.1).1 c2)), (fun c2 => cj_15 (fun z27 s26 k4 l4 => ⟨(fun c5 => cj_163_p71 hQ (k4.1 c5) (l4.1 c5)), (fun c5 => cj_15 (fun z29 s28 k7 l7 => ⟨(fun c8 => cj_163_p71 hQ (k7.1 c8) (l7.1 c8)), (fun c8 => cj_163_p72 hQ (k7.2 c8) (l7.2 c8))⟩) (k4.2 c5) (l4.2 c5))⟩) (h1.2.2 c2) ((h2 h1.1).2 c2))⟩⟩
def fw_163_p36 (Q : Bool → lf_Z → Prop) (x1 : Int) (x2 : Int) (x3 : Int) (x4 : Int) (x5 : Int) (s : lf_Z) : Prop := fw_163_p37 Q x1 x2 x3 x4 x5 0 s
theorem cj_163_p36 {Q1 Q2 Q3 : Bool → lf_Z → Prop} {x1 : Int} {x2 : Int} {x3 : Int} {x4 : Int} {x5 : Int} {s : lf_Z} (hQ : ∀ (r : Bool) (s : lf_Z), Q1 r s → Q2 r s → Q3 r s) (h1 : fm_163_p36 Q1 x1 x2 x3 x4 x5 s) (h2 : fw_163_p36 Q2 x1 x2 x3 x4 x5 s) : fm_163_p36 Q3 x1 x2 x3 x4 x5 s := by
  unfold fm_163_p36 at h1 ⊢
  unfold fw_163_p36 at h2
  exact cj_163_p37 hQ h1 h2
def fw_163 (a1 : Int) (a2 : Int) (a3 : Int) (a4 : Int) (a5 : Int) (Q : Bool → lf_Z → Prop) (s : lf_Z) : Prop := fw_89 a1 (fun z22 s21 => ((z22 = false → (fw_163_p36 Q a1 a2 a3 a4 a5 s21)) ∧ (z22 = true → (fw_15 a2 0 10 (fun z31 s30 => ((z31 = false → (fw_163_p36 Q a1 a2 a3 a4 a5 s30)) ∧ (z31 = true → (fw_15 a3 0 999 (fun z33 s32 => ((z33 = false → (fw_163_p36 Q a1 a2 a3 a4 a5 s32)) ∧ (z33 = true → (fw_163_p37 Q a1 a2 a3 a4 a5 1 s32)))) s30)))) s21)))) s
theorem cj_163 {Q1 Q2 Q3 : Bool → lf_Z → Prop} {a1 : Int} {a2 : Int} {a3 : Int} {a4 : Int} {a5 : Int} {s : lf_Z} (hQ : ∀ (r : Bool) (s : lf_Z), Q1 r s → Q2 r s → Q3 r s) (h1 : fm_163 a1 a2 a3 a4 a5 Q1 s) (h2 : fw_163 a1 a2 a3 a4 a5 Q2 s) : fm_163 a1 a2 a3 a4 a5 Q3 s := by
  unfold fm_163 at h1 ⊢
  unfold fw_163 at h2
  exact cj_89 (fun z22 s21 k1 l1 => ⟨(fun c2 => cj_163_p36 hQ (k1.1 c2) (l1.1 c2)), (fun c2 => cj_15 (fun z31 s30 k4 l4 => ⟨(fun c5 => cj_163_p36 hQ (k4.1 c5) (l4.1 c5)), (fun c5 => cj_15 (fun z33 s32 k7 l7 => ⟨(fun c8 => cj_163_p36 hQ (k7.1 c8) (l7.1 c8)), (fun c8 => cj_163_p37 hQ (k7.2 c8) (l7.2 c8))⟩) (k4.2 c5) (l4.2 c5))⟩) (k1.2 c2) (l1.2 c2))⟩) h1 h2
def fw_318 (a1 : Int) (a2 : Int) (a3 : Int) (a4 : Int) (a5 : Int) (Q : Bool → lf_Z → Prop) (s : lf_Z) : Prop := fw_251 a1 (fun z22 s21 => ((z22 = false → (Q false s21)) ∧ (z22 = true → (fw_252 a1 (fun z24 s23 => ((z24 = true → (Q false s23)) ∧ (z24 = false → (fw_183 a2 0 10 (fun z26 s25 => ((z26 = false → (Q false s25)) ∧ (z26 = true → (fw_183 a3 0 999 (fun z28 s27 => ((z28 = false → (Q false s27)) ∧ (z28 = true → (fw_183 a4 0 999 (fun z30 s29 => ((z30 = false → (Q false s29)) ∧ (z30 = true → (fw_183 a5 1 99 (fun z32 s31 => ((z32 = true → ((0 ≤ 174 + (5 * a1) ∧ 174 + (5 * a1) < 1538) → ((0 ≤ (174 + (5 * a1)) + 1 ∧ (174 + (5 * a1)) + 1 < 1538) → ((0 ≤ (174 + (5 * a1)) + 2 ∧ (174 + (5 * a1)) + 2 < 1538) → ((0 ≤ (174 + (5 * a1)) + 3 ∧ (174 + (5 * a1)) + 3 < 1538) → ((0 ≤ (174 + (5 * a1)) + 4 ∧ (174 + (5 * a1)) + 4 < 1538) → (Q true (lf_up (lf_up (lf_up (lf_up (lf_up s31.1 96 (174 + (5 * a1)) 1) 96 ((174 + (5 * a1)) + 1) a2) 96 ((174 + (5 * a1)) + 2) a3) 96 ((174 + (5 * a1)) + 3) a4) 96 ((174 + (5 * a1)) + 4) a5, s31.2.1, s31.2.2)))))))) ∧ (z32 = false → (Q false s31)))) s29)))) s27)))) s25)))) s23)))) s21)))) s
theorem cj_318 {Q1 Q2 Q3 : Bool → lf_Z → Prop} {a1 : Int} {a2 : Int} {a3 : Int} {a4 : Int} {a5 : Int} {s : lf_Z} (hQ : ∀ (r : Bool) (s : lf_Z), Q1 r s → Q2 r s → Q3 r s) (h1 : fm_318 a1 a2 a3 a4 a5 Q1 s) (h2 : fw_318 a1 a2 a3 a4 a5 Q2 s) : fm_318 a1 a2 a3 a4 a5 Q3 s := by
  unfold fm_318 at h1 ⊢
  unfold fw_318 at h2
  exact cj_251 (fun z22 s21 k1 l1 => ⟨(fun c2 => hQ _ _  (k1.1 c2) (l1.1 c2)), (fun c2 => cj_252 (fun z24 s23 k4 l4 => ⟨(fun c5 => hQ _ _  (k4.1 c5) (l4.1 c5)), (fun c5 => cj_183 (fun z26 s25 k7 l7 => ⟨(fun c8 => hQ _ _  (k7.1 c8) (l7.1 c8)), (fun c8 => cj_183 (fun z28 s27 k10 l10 => ⟨(fun c11 => hQ _ _  (k10.1 c11) (l10.1 c11)), (fun c11 => cj_183 (fun z30 s29 k13 l13 => ⟨(fun c14 => hQ _ _  (k13.1 c14) (l13.1 c14)), (fun c14 => cj_183 (fun z32 s31 k16 l16 => ⟨(fun c17 => ⟨(k16.1 c17).1, ⟨(k16.1 c17).2.1, ⟨(k16.1 c17).2.2.1, ⟨(k16.1 c17).2.2.2.1, ⟨(k16.1 c17).2.2.2.2.1, hQ _ _  (k16.1 c17).2.2.2.2.2 ((((((l16.1 c17) (k16.1 c17).1) (k16.1 c17).2.1) (k16.1 c17).2.2.1) (k16.1 c17).2.2.2.1) (k16.1 c17).2.2.2.2.1)⟩⟩⟩⟩⟩), (fun c17 => hQ _ _  (k16.2 c17) (l16.2 c17))⟩) (k13.2 c14) (l13.2 c14))⟩) (k10.2 c11) (l10.2 c11))⟩) (k7.2 c8) (l7.2 c8))⟩) (k4.2 c5) (l4.2 c5))⟩) (k1.2 c2) (l1.2 c2))⟩) h1 h2
def fw_174 (Q : lf_Z → Prop) (s : lf_Z) : Prop := Q (lf_up (lf_up (lf_up (lf_cp (lf_cp (lf_cp (lf_cp (lf_cp (lf_cp s.1 16 80 0 0 4) 17 81 0 0 4) 18 82 0 0 4) 19 83 0 0 6) 20 84 0 0 6) 21 85 0 0 12) 79 6 ((lf_cp (lf_cp (lf_cp (lf_cp (lf_cp (lf_cp s.1 16 80 0 0 4) 17 81 0 0 4) 18 82 0 0 4) 19 83 0 0 6) 20 84 0 0 6) 21 85 0 0 12) 15 6)) 79 7 ((lf_cp (lf_cp (lf_cp (lf_cp (lf_cp (lf_cp s.1 16 80 0 0 4) 17 81 0 0 4) 18 82 0 0 4) 19 83 0 0 6) 20 84 0 0 6) 21 85 0 0 12) 15 7)) 79 8 ((lf_cp (lf_cp (lf_cp (lf_cp (lf_cp (lf_cp s.1 16 80 0 0 4) 17 81 0 0 4) 18 82 0 0 4) 19 83 0 0 6) 20 84 0 0 6) 21 85 0 0 12) 15 8), s.2.1, s.2.2)
theorem cj_174 {Q1 Q2 Q3 : lf_Z → Prop} {s : lf_Z} (hQ : ∀ (s : lf_Z), Q1 s → Q2 s → Q3 s) (h1 : fm_174 Q1 s) (h2 : fw_174 Q2 s) : fm_174 Q3 s := by
  unfold fm_174 at h1 ⊢
  unfold fw_174 at h2
  exact hQ _  h1 h2
def fw_175 (Q : lf_Z → Prop) (s : lf_Z) : Prop := Q (lf_up (lf_up (lf_cp (lf_cp s.1 23 87 0 0 1170) 24 88 0 0 30) 86 2 ((lf_cp (lf_cp s.1 23 87 0 0 1170) 24 88 0 0 30) 22 2)) 86 3 ((lf_cp (lf_cp s.1 23 87 0 0 1170) 24 88 0 0 30) 22 3), s.2.1, s.2.2)
theorem cj_175 {Q1 Q2 Q3 : lf_Z → Prop} {s : lf_Z} (hQ : ∀ (s : lf_Z), Q1 s → Q2 s → Q3 s) (h1 : fm_175 Q1 s) (h2 : fw_175 Q2 s) : fm_175 Q3 s := by
  unfold fm_175 at h1 ⊢
  unfold fw_175 at h2
  exact hQ _  h1 h2
def fw_176 (Q : lf_Z → Prop) (s : lf_Z) : Prop := Q (lf_up (lf_cp (lf_cp (lf_cp (lf_cp (lf_cp s.1 26 90 0 0 6) 27 91 0 0 6) 28 92 0 0 16) 29 93 0 0 4) 30 94 0 0 4) 89 2 ((lf_cp (lf_cp (lf_cp (lf_cp (lf_cp s.1 26 90 0 0 6) 27 91 0 0 6) 28 92 0 0 16) 29 93 0 0 4) 30 94 0 0 4) 25 2), s.2.1, s.2.2)
theorem cj_176 {Q1 Q2 Q3 : lf_Z → Prop} {s : lf_Z} (hQ : ∀ (s : lf_Z), Q1 s → Q2 s → Q3 s) (h1 : fm_176 Q1 s) (h2 : fw_176 Q2 s) : fm_176 Q3 s := by
  unfold fm_176 at h1 ⊢
  unfold fw_176 at h2
  exact hQ _  h1 h2
def fw_173 (Q : Int → lf_Z → Prop) (s : lf_Z) : Prop := fw_174 (fun s21 => (fw_175 (fun s22 => (fw_176 (fun s23 => (Q (s23.1 15 7) s23)) s22)) s21)) (lf_up (lf_up (lf_up (lf_up (lf_up s.1 78 0 (s.1 1 0)) 78 1 (s.1 1 1)) 78 2 (s.1 1 2)) 78 3 (s.1 0 11)) 78 4 (s.1 0 12), s.2.1, s.2.2)
theorem cj_173 {Q1 Q2 Q3 : Int → lf_Z → Prop} {s : lf_Z} (hQ : ∀ (r : Int) (s : lf_Z), Q1 r s → Q2 r s → Q3 r s) (h1 : fm_173 Q1 s) (h2 : fw_173 Q2 s) : fm_173 Q3 s := by
  unfold fm_173 at h1 ⊢
  unfold fw_173 at h2
  exact cj_174 (fun s21 k1 l1 => cj_175 (fun s22 k2 l2 => cj_176 (fun s23 k3 l3 => hQ _ _  k3 l3) k2 l2) k1 l1) h1 h2
def fw_181_p2 (Q : lf_Z → Prop) (X2 : Int → lf_Z → Prop) (x2 : Int) (s : lf_Z) : Prop := lf_R x2 → ((1538 ≤ x2 → (Q s)) ∧ (¬ (1538 ≤ x2) → ((0 ≤ x2 ∧ x2 < 1538) → (X2 (x2 + 1) (lf_up s.1 97 x2 (s.1 96 x2), s.2.1, s.2.2)))))
theorem cj_181_p2 {X21 X22 X23 : Int → lf_Z → Prop} {Q1 Q2 Q3 : lf_Z → Prop} {x2 : Int} {s : lf_Z} (hX2 : ∀ (v0 : Int) (v1 : lf_Z), X21 v0 v1 → X22 v0 v1 → X23 v0 v1) (hQ : ∀ (s : lf_Z), Q1 s → Q2 s → Q3 s) (h1 : fm_181_p2 Q1 X21 x2 s) (h2 : fw_181_p2 Q2 X22 x2 s) : fm_181_p2 Q3 X23 x2 s := by
  unfold fm_181_p2 at h1 ⊢
  unfold fw_181_p2 at h2
  exact ⟨h1.1, ⟨(fun c2 => hQ _  (h1.2.1 c2) ((h2 h1.1).1 c2)), (fun c2 => ⟨(h1.2.2 c2).1, hX2 _ _  (h1.2.2 c2).2 (((h2 h1.1).2 c2) (h1.2.2 c2).1)⟩)⟩⟩
def fw_181_p2L (Q : lf_Z → Prop) (x2 : Int) (s : lf_Z) : Prop := ∃ X2 : Int → lf_Z → Prop, (∀ (x2 : Int) (s : lf_Z), X2 x2 s → fw_181_p2 Q X2 x2 s) ∧ X2 x2 s
theorem cj_181_p2L {Q1 Q2 Q3 : lf_Z → Prop} {x2 : Int} {s : lf_Z} (hQ : ∀ (s : lf_Z), Q1 s → Q2 s → Q3 s) (h1 : fm_181_p2L Q1 x2 s) (h2 : fw_181_p2L Q2 x2 s) : fm_181_p2L Q3 x2 s := by
  intro X0 hX0
  obtain ⟨Y, hY, hY0⟩ := h2
  exact h1 (fun v0 s => Y v0 s → X0 v0 s) (fun v0 s hb hy => hX0 v0 s (cj_181_p2 (X21 := fun v0 s => Y v0 s → X0 v0 s) (X22 := Y) (X23 := X0) (hX2 := fun v0 s a b => a b) hQ hb (hY v0 s hy))) hY0
def fw_181 (Q : lf_Z → Prop) (s : lf_Z) : Prop := fw_181_p2L Q 0 s
theorem cj_181 {Q1 Q2 Q3 : lf_Z → Prop} {s : lf_Z} (hQ : ∀ (s : lf_Z), Q1 s → Q2 s → Q3 s) (h1 : fm_181 Q1 s) (h2 : fw_181 Q2 s) : fm_181 Q3 s := by
  unfold fm_181 at h1 ⊢
  unfold fw_181 at h2
  exact cj_181_p2L hQ h1 h2
def fw_325 (Q : Int → lf_Z → Prop) (s : lf_Z) : Prop := fw_181 (fun s21 => (Q (s21.1 96 3) s21)) s
theorem cj_325 {Q1 Q2 Q3 : Int → lf_Z → Prop} {s : lf_Z} (hQ : ∀ (r : Int) (s : lf_Z), Q1 r s → Q2 r s → Q3 r s) (h1 : fm_325 Q1 s) (h2 : fw_325 Q2 s) : fm_325 Q3 s := by
  unfold fm_325 at h1 ⊢
  unfold fw_325 at h2
  exact cj_181 (fun s21 k1 l1 => hQ _ _  k1 l1) h1 h2
def fw_2b_p9 (Q : lf_Z → Prop) (X9 : Int → lf_Z → Prop) (x1 : Int) (s : lf_Z) : Prop := lf_R x1 → ((12 ≤ x1 → (Q s)) ∧ (¬ (12 ≤ x1) → ((0 ≤ (x1 * 12) + x1 ∧ (x1 * 12) + x1 < 144) → (X9 (x1 + 1) (lf_up s.1 13 ((x1 * 12) + x1) 0, s.2.1, s.2.2)))))
theorem cj_2b_p9 {X91 X92 X93 : Int → lf_Z → Prop} {Q1 Q2 Q3 : lf_Z → Prop} {x1 : Int} {s : lf_Z} (hX9 : ∀ (v0 : Int) (v1 : lf_Z), X91 v0 v1 → X92 v0 v1 → X93 v0 v1) (hQ : ∀ (s : lf_Z), Q1 s → Q2 s → Q3 s) (h1 : fm_2b_p9 Q1 X91 x1 s) (h2 : fw_2b_p9 Q2 X92 x1 s) : fm_2b_p9 Q3 X93 x1 s := by
  unfold fm_2b_p9 at h1 ⊢
  unfold fw_2b_p9 at h2
  exact ⟨h1.1, ⟨(fun c2 => hQ _  (h1.2.1 c2) ((h2 h1.1).1 c2)), (fun c2 => ⟨(h1.2.2 c2).1, hX9 _ _  (h1.2.2 c2).2 (((h2 h1.1).2 c2) (h1.2.2 c2).1)⟩)⟩⟩
def fw_2b_p9L (Q : lf_Z → Prop) (x1 : Int) (s : lf_Z) : Prop := ∃ X9 : Int → lf_Z → Prop, (∀ (x1 : Int) (s : lf_Z), X9 x1 s → fw_2b_p9 Q X9 x1 s) ∧ X9 x1 s
theorem cj_2b_p9L {Q1 Q2 Q3 : lf_Z → Prop} {x1 : Int} {s : lf_Z} (hQ : ∀ (s : lf_Z), Q1 s → Q2 s → Q3 s) (h1 : fm_2b_p9L Q1 x1 s) (h2 : fw_2b_p9L Q2 x1 s) : fm_2b_p9L Q3 x1 s := by
  intro X0 hX0
  obtain ⟨Y, hY, hY0⟩ := h2
  exact h1 (fun v0 s => Y v0 s → X0 v0 s) (fun v0 s hb hy => hX0 v0 s (cj_2b_p9 (X91 := fun v0 s => Y v0 s → X0 v0 s) (X92 := Y) (X93 := X0) (hX9 := fun v0 s a b => a b) hQ hb (hY v0 s hy))) hY0
def fw_2b (Q : lf_Z → Prop) (s : lf_Z) : Prop := fw_2b_p9L Q 0 (lf_fl s.1 13 144 1000, s.2.1, s.2.2)
theorem cj_2b {Q1 Q2 Q3 : lf_Z → Prop} {s : lf_Z} (hQ : ∀ (s : lf_Z), Q1 s → Q2 s → Q3 s) (h1 : fm_2b Q1 s) (h2 : fw_2b Q2 s) : fm_2b Q3 s := by
  unfold fm_2b at h1 ⊢
  unfold fw_2b at h2
  exact cj_2b_p9L hQ h1 h2
def fw_178_p33 (Q : lf_Z → Prop) (X33 : Int → lf_Z → Prop) (x4 : Int) (s : lf_Z) : Prop := lf_R x4 → (lf_R (s.1 1 1) → ((s.1 1 1 ≤ x4 → (Q s)) ∧ (¬ (s.1 1 1 ≤ x4) → (fw_20 x4 (fun s24 => (X33 (x4 + 1) s24)) s))))
theorem cj_178_p33 {X331 X332 X333 : Int → lf_Z → Prop} {Q1 Q2 Q3 : lf_Z → Prop} {x4 : Int} {s : lf_Z} (hX33 : ∀ (v0 : Int) (v1 : lf_Z), X331 v0 v1 → X332 v0 v1 → X333 v0 v1) (hQ : ∀ (s : lf_Z), Q1 s → Q2 s → Q3 s) (h1 : fm_178_p33 Q1 X331 x4 s) (h2 : fw_178_p33 Q2 X332 x4 s) : fm_178_p33 Q3 X333 x4 s := by
  unfold fm_178_p33 at h1 ⊢
  unfold fw_178_p33 at h2
  exact ⟨h1.1, ⟨h1.2.1, ⟨(fun c3 => hQ _  (h1.2.2.1 c3) (((h2 h1.1) h1.2.1).1 c3)), (fun c3 => cj_20 (fun s24 k5 l5 => hX33 _ _  k5 l5) (h1.2.2.2 c3) (((h2 h1.1) h1.2.1).2 c3))⟩⟩⟩
def fw_178_p33L (Q : lf_Z → Prop) (x4 : Int) (s : lf_Z) : Prop := ∃ X33 : Int → lf_Z → Prop, (∀ (x4 : Int) (s : lf_Z), X33 x4 s → fw_178_p33 Q X33 x4 s) ∧ X33 x4 s
theorem cj_178_p33L {Q1 Q2 Q3 : lf_Z → Prop} {x4 : Int} {s : lf_Z} (hQ : ∀ (s : lf_Z), Q1 s → Q2 s → Q3 s) (h1 : fm_178_p33L Q1 x4 s) (h2 : fw_178_p33L Q2 x4 s) : fm_178_p33L Q3 x4 s := by
  intro X0 hX0
  obtain ⟨Y, hY, hY0⟩ := h2
  exact h1 (fun v0 s => Y v0 s → X0 v0 s) (fun v0 s hb hy => hX0 v0 s (cj_178_p33 (X331 := fun v0 s => Y v0 s → X0 v0 s) (X332 := Y) (X333 := X0) (hX33 := fun v0 s a b => a b) hQ hb (hY v0 s hy))) hY0
def fw_178 (a1 : Int) (a2 : Int) (a3 : Int) (Q : lf_Z → Prop) (s : lf_Z) : Prop := fw_2b (fun s21 => (fw_178_p33L Q 0 s21)) (lf_fl (lf_up (lf_up (lf_up s.1 1 0 a1) 1 1 a2) 1 2 a3) 12 12 0, s.2.1, s.2.2)
theorem cj_178 {Q1 Q2 Q3 : lf_Z → Prop} {a1 : Int} {a2 : Int} {a3 : Int} {s : lf_Z} (hQ : ∀ (s : lf_Z), Q1 s → Q2 s → Q3 s) (h1 : fm_178 a1 a2 a3 Q1 s) (h2 : fw_178 a1 a2 a3 Q2 s) : fm_178 a1 a2 a3 Q3 s := by
  unfold fm_178 at h1 ⊢
  unfold fw_178 at h2
  exact cj_2b (fun s21 k1 l1 => cj_178_p33L hQ k1 l1) h1 h2
def fw_174b (Q : lf_Z → Prop) (s : lf_Z) : Prop := Q (lf_up (lf_up (lf_up (lf_cp (lf_cp (lf_cp (lf_cp (lf_cp (lf_cp s.1 80 16 0 0 4) 81 17 0 0 4) 82 18 0 0 4) 83 19 0 0 6) 84 20 0 0 6) 85 21 0 0 12) 15 6 ((lf_cp (lf_cp (lf_cp (lf_cp (lf_cp (lf_cp s.1 80 16 0 0 4) 81 17 0 0 4) 82 18 0 0 4) 83 19 0 0 6) 84 20 0 0 6) 85 21 0 0 12) 79 6)) 15 7 ((lf_cp (lf_cp (lf_cp (lf_cp (lf_cp (lf_cp s.1 80 16 0 0 4) 81 17 0 0 4) 82 18 0 0 4) 83 19 0 0 6) 84 20 0 0 6) 85 21 0 0 12) 79 7)) 15 8 ((lf_cp (lf_cp (lf_cp (lf_cp (lf_cp (lf_cp s.1 80 16 0 0 4) 81 17 0 0 4) 82 18 0 0 4) 83 19 0 0 6) 84 20 0 0 6) 85 21 0 0 12) 79 8), s.2.1, s.2.2)
theorem cj_174b {Q1 Q2 Q3 : lf_Z → Prop} {s : lf_Z} (hQ : ∀ (s : lf_Z), Q1 s → Q2 s → Q3 s) (h1 : fm_174b Q1 s) (h2 : fw_174b Q2 s) : fm_174b Q3 s := by
  unfold fm_174b at h1 ⊢
  unfold fw_174b at h2
  exact hQ _  h1 h2
def fw_175b (Q : lf_Z → Prop) (s : lf_Z) : Prop := Q (lf_up (lf_up (lf_cp (lf_cp s.1 87 23 0 0 1170) 88 24 0 0 30) 22 2 ((lf_cp (lf_cp s.1 87 23 0 0 1170) 88 24 0 0 30) 86 2)) 22 3 ((lf_cp (lf_cp s.1 87 23 0 0 1170) 88 24 0 0 30) 86 3), s.2.1, s.2.2)
theorem cj_175b {Q1 Q2 Q3 : lf_Z → Prop} {s : lf_Z} (hQ : ∀ (s : lf_Z), Q1 s → Q2 s → Q3 s) (h1 : fm_175b Q1 s) (h2 : fw_175b Q2 s) : fm_175b Q3 s := by
  unfold fm_175b at h1 ⊢
  unfold fw_175b at h2
  exact hQ _  h1 h2
def fw_176b (Q : lf_Z → Prop) (s : lf_Z) : Prop := Q (lf_up (lf_cp (lf_cp (lf_cp (lf_cp (lf_cp s.1 90 26 0 0 6) 91 27 0 0 6) 92 28 0 0 16) 93 29 0 0 4) 94 30 0 0 4) 25 2 ((lf_cp (lf_cp (lf_cp (lf_cp (lf_cp s.1 90 26 0 0 6) 91 27 0 0 6) 92 28 0 0 16) 93 29 0 0 4) 94 30 0 0 4) 89 2), s.2.1, s.2.2)
theorem cj_176b {Q1 Q2 Q3 : lf_Z → Prop} {s : lf_Z} (hQ : ∀ (s : lf_Z), Q1 s → Q2 s → Q3 s) (h1 : fm_176b Q1 s) (h2 : fw_176b Q2 s) : fm_176b Q3 s := by
  unfold fm_176b at h1 ⊢
  unfold fw_176b at h2
  exact hQ _  h1 h2
def fw_177 (Q : Int → lf_Z → Prop) (s : lf_Z) : Prop := fw_178 (s.1 78 0) (s.1 78 1) (s.1 78 2) (fun s21 => (fw_61 (s21.1 78 4) (fun s22 => (fw_174b (fun s23 => (fw_175b (fun s24 => (fw_176b (fun s25 => (Q (s25.1 15 7) s25)) s24)) s23)) s22)) (lf_up s21.1 0 11 (s21.1 78 3), s21.2.1, s21.2.2))) s
theorem cj_177 {Q1 Q2 Q3 : Int → lf_Z → Prop} {s : lf_Z} (hQ : ∀ (r : Int) (s : lf_Z), Q1 r s → Q2 r s → Q3 r s) (h1 : fm_177 Q1 s) (h2 : fw_177 Q2 s) : fm_177 Q3 s := by
  unfold fm_177 at h1 ⊢
  unfold fw_177 at h2
  exact cj_178 (fun s21 k1 l1 => cj_61 (fun s22 k2 l2 => cj_174b (fun s23 k3 l3 => cj_175b (fun s24 k4 l4 => cj_176b (fun s25 k5 l5 => hQ _ _  k5 l5) k4 l4) k3 l3) k2 l2) k1 l1) h1 h2
def fw_181b_p2 (Q : lf_Z → Prop) (X2 : Int → lf_Z → Prop) (x2 : Int) (s : lf_Z) : Prop := lf_R x2 → ((1538 ≤ x2 → (Q s)) ∧ (¬ (1538 ≤ x2) → ((0 ≤ x2 ∧ x2 < 1538) → (X2 (x2 + 1) (lf_up s.1 96 x2 (s.1 97 x2), s.2.1, s.2.2)))))
theorem cj_181b_p2 {X21 X22 X23 : Int → lf_Z → Prop} {Q1 Q2 Q3 : lf_Z → Prop} {x2 : Int} {s : lf_Z} (hX2 : ∀ (v0 : Int) (v1 : lf_Z), X21 v0 v1 → X22 v0 v1 → X23 v0 v1) (hQ : ∀ (s : lf_Z), Q1 s → Q2 s → Q3 s) (h1 : fm_181b_p2 Q1 X21 x2 s) (h2 : fw_181b_p2 Q2 X22 x2 s) : fm_181b_p2 Q3 X23 x2 s := by
  unfold fm_181b_p2 at h1 ⊢
  unfold fw_181b_p2 at h2
  exact ⟨h1.1, ⟨(fun c2 => hQ _  (h1.2.1 c2) ((h2 h1.1).1 c2)), (fun c2 => ⟨(h1.2.2 c2).1, hX2 _ _  (h1.2.2 c2).2 (((h2 h1.1).2 c2) (h1.2.2 c2).1)⟩)⟩⟩
def fw_181b_p2L (Q : lf_Z → Prop) (x2 : Int) (s : lf_Z) : Prop := ∃ X2 : Int → lf_Z → Prop, (∀ (x2 : Int) (s : lf_Z), X2 x2 s → fw_181b_p2 Q X2 x2 s) ∧ X2 x2 s
theorem cj_181b_p2L {Q1 Q2 Q3 : lf_Z → Prop} {x2 : Int} {s : lf_Z} (hQ : ∀ (s : lf_Z), Q1 s → Q2 s → Q3 s) (h1 : fm_181b_p2L Q1 x2 s) (h2 : fw_181b_p2L Q2 x2 s) : fm_181b_p2L Q3 x2 s := by
  intro X0 hX0
  obtain ⟨Y, hY, hY0⟩ := h2
  exact h1 (fun v0 s => Y v0 s → X0 v0 s) (fun v0 s hb hy => hX0 v0 s (cj_181b_p2 (X21 := fun v0 s => Y v0 s → X0 v0 s) (X22 := Y) (X23 := X0) (hX2 := fun v0 s a b => a b) hQ hb (hY v0 s hy))) hY0
def fw_181b (Q : lf_Z → Prop) (s : lf_Z) : Prop := fw_181b_p2L Q 0 s
theorem cj_181b {Q1 Q2 Q3 : lf_Z → Prop} {s : lf_Z} (hQ : ∀ (s : lf_Z), Q1 s → Q2 s → Q3 s) (h1 : fm_181b Q1 s) (h2 : fw_181b Q2 s) : fm_181b Q3 s := by
  unfold fm_181b at h1 ⊢
  unfold fw_181b at h2
  exact cj_181b_p2L hQ h1 h2
def fw_326 (Q : Int → lf_Z → Prop) (s : lf_Z) : Prop := fw_181b (fun s21 => (Q (s21.1 96 3) s21)) s
theorem cj_326 {Q1 Q2 Q3 : Int → lf_Z → Prop} {s : lf_Z} (hQ : ∀ (r : Int) (s : lf_Z), Q1 r s → Q2 r s → Q3 r s) (h1 : fm_326 Q1 s) (h2 : fw_326 Q2 s) : fm_326 Q3 s := by
  unfold fm_326 at h1 ⊢
  unfold fw_326 at h2
  exact cj_181b (fun s21 k1 l1 => hQ _ _  k1 l1) h1 h2
/-! bits of an int -/
section BT
variable {a b : Int}
def bt_g (a : Int) (k : Nat) : Bool := (Int32.ofInt a).toBitVec.getLsbD k
theorem bt_1 : ∀ i, i < 32 → (1#32).getLsbD i = decide (i = 0) := by decide
theorem bt_k : ∀ k : Nat, k < 31 → ((Int32.ofInt (k : Int) &&& 31).toBitVec.smod 32).toNat = k := by decide +kernel
theorem bt_a1 (x : BitVec 32) (k : Nat) (hk : k < 31) : (x.sshiftRight k &&& 1#32) = if x.getLsbD k = true then 1#32 else 0#32 := by
  apply BitVec.eq_of_getLsbD_eq
  intro i hi
  rw [BitVec.getLsbD_and, bt_1 i hi]
  by_cases c : i = 0
  · subst c
    rw [BitVec.getLsbD_sshiftRight]
    cases h : x.getLsbD k with
    | true =>
      have : k + 0 < 32 := by omega
      have c32 : k < 32 := by omega
      have n32 : ¬ 32 ≤ k := by omega
      simp [h, this, c32, n32]
    | false =>
      have : k + 0 < 32 := by omega
      have c32 : k < 32 := by omega
      have n32 : ¬ 32 ≤ k := by omega
      simp [h, this, c32, n32]
  · have h1 : decide (i = 0) = false := decide_eq_false c
    rw [h1, Bool.and_false]
    cases h : x.getLsbD k with
    | true => rw [if_pos rfl, bt_1 i hi, h1]
    | false => rw [if_neg (by decide)]; simp
/-- one bit -/
theorem bt_tb {k : Nat} (h : k < 31) : lf_and (lf_shr a (k : Int)) 1 = if bt_g a k = true then 1 else 0 := by
  unfold lf_and lf_shr bt_g
  rw [Int32.ofInt_toInt]
  have e : ((Int32.ofInt a >>> (Int32.ofInt (k : Int) &&& 31)) &&& Int32.ofInt 1).toInt = ((Int32.ofInt a).toBitVec.sshiftRight ((Int32.ofInt (k : Int) &&& 31).toBitVec.smod 32).toNat &&& 1#32).toInt := rfl
  rw [e, bt_k k h, bt_a1 _ k h]
  split <;> rfl
theorem bt_or {k : Nat} : bt_g (lf_or a b) k = (bt_g a k || bt_g b k) := by
  unfold bt_g lf_or
  rw [Int32.ofInt_toInt]
  exact BitVec.getLsbD_or
theorem bt_and {k : Nat} : bt_g (lf_and a b) k = (bt_g a k && bt_g b k) := by
  unfold bt_g lf_and
  rw [Int32.ofInt_toInt]
  exact BitVec.getLsbD_and
theorem bt_xor {k : Nat} : bt_g (lf_xor a b) k = (bt_g a k ^^ bt_g b k) := by
  unfold bt_g lf_xor
  rw [Int32.ofInt_toInt]
  exact BitVec.getLsbD_xor
theorem bt_s1 : ∀ j : Nat, j < 31 → ∀ k : Nat, k < 32 → bt_g (lf_shl 1 (j : Int)) k = decide (k = j) := by decide +kernel
theorem bt_0 {k : Nat} : bt_g 0 k = false := by
  unfold bt_g
  have e : (Int32.ofInt 0).toBitVec = 0#32 := rfl
  rw [e]; simp
/-- a bit by its number -/
def bt_t (a k : Int) : Bool := bt_g a k.toNat
theorem bt_T {k : Int} (h0 : 0 ≤ k) (h1 : k < 31) : lf_and (lf_shr a k) 1 = if bt_t a k = true then 1 else 0 := by
  obtain ⟨n, rfl⟩ := Int.eq_ofNat_of_zero_le h0
  exact bt_tb (by omega)
theorem bt_Tor {k j : Int} (h0 : 0 ≤ k) (h1 : k < 31) (j0 : 0 ≤ j) (j1 : j < 31) : bt_t (lf_or a (lf_shl 1 j)) k = (bt_t a k || decide (k = j)) := by
  obtain ⟨n, rfl⟩ := Int.eq_ofNat_of_zero_le h0
  obtain ⟨m, rfl⟩ := Int.eq_ofNat_of_zero_le j0
  unfold bt_t
  rw [bt_or, Int.toNat_natCast, bt_s1 m (by omega) n (by omega)]
  congr 1
  by_cases e : n = m
  · rw [decide_eq_true e, decide_eq_true (by rw [e])]
  · rw [decide_eq_false e, decide_eq_false (by omega)]
theorem bt_Txor {k j : Int} (h0 : 0 ≤ k) (h1 : k < 31) (j0 : 0 ≤ j) (j1 : j < 31) : bt_t (lf_xor a (lf_shl 1 j)) k = (bt_t a k ^^ decide (k = j)) := by
  obtain ⟨n, rfl⟩ := Int.eq_ofNat_of_zero_le h0
  obtain ⟨m, rfl⟩ := Int.eq_ofNat_of_zero_le j0
  unfold bt_t
  rw [bt_xor, Int.toNat_natCast, bt_s1 m (by omega) n (by omega)]
  congr 1
  by_cases e : n = m
  · rw [decide_eq_true e, decide_eq_true (by rw [e])]
  · rw [decide_eq_false e, decide_eq_false (by omega)]
theorem bt_To0 {k : Int} : bt_t (lf_or a 0) k = bt_t a k := by
  unfold bt_t
  rw [bt_or, bt_0, Bool.or_false]
/-- has of the reference -/
theorem fl_210 {Q : Bool → lf_Z → Prop} {s : lf_Z} (h0 : 0 ≤ b) (h1 : b < 31) (h : Q (bt_t a b) s) : fw_210 a b Q s := by
  unfold fw_210
  rw [bt_T h0 h1]
  cases e : bt_t a b with
  | true =>
    rw [e] at h
    exact ⟨fun q => absurd rfl q, fun _ => h⟩
  | false =>
    rw [e] at h
    exact ⟨fun _ => h, fun q => absurd (show (if false = true then (1 : Int) else 0) ≠ 1 by decide) q⟩
end BT
/-! distances: what the class's table and the reference's rounds both are -/
section DM
/-- how many of 0 .. n-1 -/
def dm_cn (P : Nat → Bool) : Nat → Nat
  | 0 => 0
  | n + 1 => dm_cn P n + (if P n = true then 1 else 0)
variable {P P' : Nat → Bool} {n : Nat}
theorem dm_cnB : ∀ n : Nat, dm_cn P n ≤ n := by
  intro n
  induction n with
  | zero => exact Nat.le_refl _
  | succ n ih => show dm_cn P n + (if P n = true then 1 else 0) ≤ n + 1; split <;> omega
theorem dm_cnM (h : ∀ j, P j = true → P' j = true) : ∀ n : Nat, dm_cn P n ≤ dm_cn P' n := by
  intro n
  induction n with
  | zero => exact Nat.le_refl _
  | succ n ih =>
    show dm_cn P n + (if P n = true then 1 else 0) ≤ dm_cn P' n + (if P' n = true then 1 else 0)
    by_cases c : P n = true
    · rw [if_pos c, if_pos (h n c)]; omega
    · rw [if_neg c]; split <;> omega
theorem dm_cnL (h : ∀ j, P j = true → P' j = true) {k : Nat} (h1 : P' k = true) (h2 : P k = false) : ∀ n : Nat, k < n → dm_cn P n < dm_cn P' n := by
  intro n
  induction n with
  | zero => intro q; omega
  | succ n ih =>
    intro q
    show dm_cn P n + (if P n = true then 1 else 0) < dm_cn P' n + (if P' n = true then 1 else 0)
    by_cases e : k = n
    · subst e
      have := dm_cnM h k
      rw [h1, h2, if_pos rfl, if_neg (by decide)]; omega
    · have := ih (by omega)
      by_cases c : P n = true
      · rw [if_pos c, if_pos (h n c)]; omega
      · rw [if_neg c]; split <;> omega
/-- d is the distance on 0 .. n-1 by edges E; 1000: none -/
def dm_M (n : Int) (E : Int → Int → Prop) (d : Int → Int → Int) : Prop :=
  (∀ i, 0 ≤ i → i < n → d i i = 0) ∧ (∀ i j, 0 ≤ i → i < n → 0 ≤ j → j < n → 0 ≤ d i j ∧ d i j ≤ 1000 ∧ (i ≠ j → 1 ≤ d i j)) ∧ (∀ i j, 0 ≤ i → i < n → 0 ≤ j → j < n → d i j = d j i)
  ∧ (∀ i j k, 0 ≤ i → i < n → 0 ≤ j → j < n → 0 ≤ k → k < n → d i k ≤ d i j + d j k) ∧ (∀ i j, E i j → 0 ≤ i ∧ i < n ∧ 0 ≤ j ∧ j < n ∧ d i j ≤ 1)
  ∧ (∀ i j, 0 ≤ i → i < n → 0 ≤ j → j < n → i ≠ j → d i j = 1000 ∨ ∃ v, E i v ∧ d v j = d i j - 1)
variable {m : Int} {E E' : Int → Int → Prop} {d d' : Int → Int → Int}
/-- all levels below a finite distance are there -/
theorem dm_lv (h : dm_M m E d) {t : Int} (t0 : 0 ≤ t) (t1 : t < m) : ∀ (L : Nat) (s : Int), 0 ≤ s → s < m → d s t = L → (L : Int) < 1000 → ∀ k : Nat, k ≤ L → ∃ v, 0 ≤ v ∧ v < m ∧ d v t = k := by
  obtain ⟨h1, h2, h3, h4, h5, h6⟩ := h
  intro L
  induction L with
  | zero =>
    intro s s0 s1 e _ k hk
    exact ⟨s, s0, s1, by omega⟩
  | succ L ih =>
    intro s s0 s1 e hL k hk
    by_cases q : k = L + 1
    · exact ⟨s, s0, s1, by omega⟩
    · have ne : s ≠ t := fun q => by
        subst q
        have := h1 s s0 s1
        omega
      rcases h6 s t s0 s1 t0 t1 ne with w | ⟨v, hv, w⟩
      · omega
      · have b := h5 s v hv
        exact ih v b.2.2.1 b.2.2.2.1 (by omega) (by omega) k (by omega)
/-- a finite distance is below n -/
theorem dm_fin (h : dm_M m E d) {s t : Int} (s0 : 0 ≤ s) (s1 : s < m) (t0 : 0 ≤ t) (t1 : t < m) (hf : d s t ≠ 1000) : d s t < m := by
  have hb := h.2.1 s t s0 s1 t0 t1
  obtain ⟨L, hL⟩ := Int.eq_ofNat_of_zero_le hb.1
  obtain ⟨n, hn⟩ := Int.eq_ofNat_of_zero_le (show 0 ≤ m by omega)
  have lv := dm_lv h t0 t1 L s s0 s1 hL (by omega)
  have key : ∀ k : Nat, k ≤ L → k + 1 ≤ dm_cn (fun j => decide (d j t ≤ k)) n := by
    intro k
    induction k with
    | zero =>
      intro hk
      obtain ⟨v, v0, v1, e⟩ := lv 0 hk
      obtain ⟨u, hu⟩ := Int.eq_ofNat_of_zero_le v0
      have := dm_cnL (P := fun _ => false) (P' := fun j => decide (d j t ≤ ((0 : Nat) : Int))) (fun j q => by cases q) (k := u) (decide_eq_true (by rw [← hu, e]; exact Int.le_refl _)) rfl n (by omega)
      omega
    | succ k ih =>
      intro hk
      have := ih (by omega)
      obtain ⟨v, v0, v1, e⟩ := lv (k + 1) hk
      obtain ⟨u, hu⟩ := Int.eq_ofNat_of_zero_le v0
      have := dm_cnL (P := fun j => decide (d j t ≤ (k : Int))) (P' := fun j => decide (d j t ≤ ((k + 1 : Nat) : Int))) (fun j q => decide_eq_true (by have := of_decide_eq_true q; omega)) (k := u) (decide_eq_true (by rw [← hu, e]; exact Int.le_refl _)) (decide_eq_false (by rw [← hu, e]; omega)) n (by omega)
      omega
  have := key L (Nat.le_refl _)
  have := dm_cnB (P := fun j => decide (d j t ≤ (L : Int))) n
  omega
/-- two distances by the same edges are the same -/
theorem dm_uq (h : dm_M m E d) (h' : dm_M m E d') {t : Int} (t0 : 0 ≤ t) (t1 : t < m) : ∀ (L : Nat) (s : Int), 0 ≤ s → s < m → d s t = L → (L : Int) < 1000 → d' s t ≤ L := by
  obtain ⟨h1, h2, h3, h4, h5, h6⟩ := h
  obtain ⟨g1, g2, g3, g4, g5, g6⟩ := h'
  intro L
  induction L with
  | zero =>
    intro s s0 s1 e _
    by_cases q : s = t
    · subst q
      have := g1 s s0 s1
      omega
    · have := (h2 s t s0 s1 t0 t1).2.2 q
      omega
  | succ L ih =>
    intro s s0 s1 e hL
    have ne : s ≠ t := fun q => by
      subst q
      have := h1 s s0 s1
      omega
    rcases h6 s t s0 s1 t0 t1 ne with w | ⟨v, hv, w⟩
    · omega
    · have b := h5 s v hv
      have a := ih v b.2.2.1 b.2.2.2.1 (by omega) (by omega)
      have c := g5 s v hv
      have := g4 s v t s0 s1 b.2.2.1 b.2.2.2.1 t0 t1
      omega
theorem dm_eq (h : dm_M m E d) (h' : dm_M m E d') {s t : Int} (s0 : 0 ≤ s) (s1 : s < m) (t0 : 0 ≤ t) (t1 : t < m) : d s t = d' s t := by
  have a := h.2.1 s t s0 s1 t0 t1
  have b := h'.2.1 s t s0 s1 t0 t1
  obtain ⟨L, hL⟩ := Int.eq_ofNat_of_zero_le a.1
  obtain ⟨K, hK⟩ := Int.eq_ofNat_of_zero_le b.1
  by_cases c : d s t = 1000
  · by_cases c' : d' s t = 1000
    · omega
    · have := dm_uq h' h t0 t1 K s s0 s1 hK (by omega)
      omega
  · have x := dm_uq h h' t0 t1 L s s0 s1 hL (by omega)
    have y := dm_uq h' h t0 t1 K s s0 s1 hK (by omega)
    omega
/-! one edge more -/
def dm_nw (d : Int → Int → Int) (a b : Int) (i j : Int) : Int := min (d i j) (min (d i a + 1 + d b j) (d i b + 1 + d a j))
def dm_E (E : Int → Int → Prop) (a b : Int) (i j : Int) : Prop := E i j ∨ (i = a ∧ j = b) ∨ (i = b ∧ j = a)
/-- old or new -/
def dm_on (d : Int → Int → Int) (a b i j x : Int) : Prop := x = d i j ∨ x = dm_nw d a b i j
variable {a b i j : Int}
theorem dm_st (h : dm_M m E d) (a0 : 0 ≤ a) (a1 : a < m) (b0 : 0 ≤ b) (b1 : b < m) (i0 : 0 ≤ i) (i1 : i < m) (j0 : 0 ≤ j) (j1 : j < m) {xa xb ya yb : Int} (ha : dm_on d a b i a xa) (hb : dm_on d a b i b xb) (ka : dm_on d a b a j ya) (kb : dm_on d a b b j yb) : min (d i j) (min (xa + 1 + yb) (xb + 1 + ya)) = dm_nw d a b i j := by
  obtain ⟨h1, h2, h3, h4, h5, h6⟩ := h
  have e1 := h1 a a0 a1
  have e2 := h1 b b0 b1
  have t1 := h4 i a j i0 i1 a0 a1 j0 j1
  have t2 := h4 i b j i0 i1 b0 b1 j0 j1
  have n1 := (h2 i a i0 i1 a0 a1).1
  have n2 := (h2 i b i0 i1 b0 b1).1
  have n3 := (h2 a j a0 a1 j0 j1).1
  have n4 := (h2 b j b0 b1 j0 j1).1
  have n5 := (h2 a b a0 a1 b0 b1).1
  have n6 := h3 a b a0 a1 b0 b1
  unfold dm_on dm_nw at *
  rw [e1] at ha ka
  rw [e2] at hb kb
  rcases ha with ha | ha <;> rcases hb with hb | hb <;> rcases ka with ka | ka <;> rcases kb with kb | kb <;> omega
theorem dm_add (h : dm_M m E d) (a0 : 0 ≤ a) (a1 : a < m) (b0 : 0 ≤ b) (b1 : b < m) (hab : a ≠ b) : dm_M m (dm_E E a b) (dm_nw d a b) := by
  obtain ⟨h1, h2, h3, h4, h5, h6⟩ := h
  have ea := h1 a a0 a1
  have eb := h1 b b0 b1
  have nw : ∀ i j, 0 ≤ i → i < m → 0 ≤ j → j < m → dm_nw d a b i j ≤ d i j ∧ dm_nw d a b i j ≤ d i a + 1 + d b j ∧ dm_nw d a b i j ≤ d i b + 1 + d a j := fun i j i0 i1 j0 j1 => by unfold dm_nw; omega
  have tri : ∀ i j k, 0 ≤ i → i < m → 0 ≤ j → j < m → 0 ≤ k → k < m → dm_nw d a b i k ≤ dm_nw d a b i j + dm_nw d a b j k := by
    intro i j k i0 i1 j0 j1 k0 k1
    have q1 := h4 i j k i0 i1 j0 j1 k0 k1
    have q2 := h4 i j a i0 i1 j0 j1 a0 a1
    have q3 := h4 i j b i0 i1 j0 j1 b0 b1
    have q4 := h4 a j k a0 a1 j0 j1 k0 k1
    have q5 := h4 b j k b0 b1 j0 j1 k0 k1
    have q6 := h4 i a k i0 i1 a0 a1 k0 k1
    have q7 := h4 i b k i0 i1 b0 b1 k0 k1
    have n1 := (h2 b j b0 b1 j0 j1).1
    have n2 := (h2 a j a0 a1 j0 j1).1
    have n3 := (h2 j a j0 j1 a0 a1).1
    have n4 := (h2 j b j0 j1 b0 b1).1
    unfold dm_nw
    omega
  have edge : ∀ i j, dm_E E a b i j → 0 ≤ i ∧ i < m ∧ 0 ≤ j ∧ j < m ∧ dm_nw d a b i j ≤ 1 := by
    intro i j he
    rcases he with he | ⟨e1, e2⟩ | ⟨e1, e2⟩
    · have := h5 i j he
      have := nw i j this.1 this.2.1 this.2.2.1 this.2.2.2.1
      omega
    · subst e1 e2
      have := nw i j a0 a1 b0 b1
      omega
    · subst e1 e2
      have := nw i j b0 b1 a0 a1
      omega
  have pos : ∀ i j, 0 ≤ i → i < m → 0 ≤ j → j < m → 0 ≤ dm_nw d a b i j ∧ dm_nw d a b i j ≤ 1000 ∧ (i ≠ j → 1 ≤ dm_nw d a b i j) := by
    intro i j i0 i1 j0 j1
    have q := h2 i j i0 i1 j0 j1
    have n1 := (h2 i a i0 i1 a0 a1).1
    have n2 := (h2 i b i0 i1 b0 b1).1
    have n3 := (h2 a j a0 a1 j0 j1).1
    have n4 := (h2 b j b0 b1 j0 j1).1
    unfold dm_nw
    refine ⟨by omega, by omega, fun e => ?_⟩
    have := q.2.2 e
    omega
  refine ⟨fun i i0 i1 => ?_, pos, fun i j i0 i1 j0 j1 => ?_, tri, edge, fun i j i0 i1 j0 j1 ne => ?_⟩
  · have := nw i i i0 i1 i0 i1
    have := (pos i i i0 i1 i0 i1).1
    have := h1 i i0 i1
    omega
  · have e1 := h3 i j i0 i1 j0 j1
    have e2 := h3 i a i0 i1 a0 a1
    have e3 := h3 i b i0 i1 b0 b1
    have e4 := h3 a j a0 a1 j0 j1
    have e5 := h3 b j b0 b1 j0 j1
    unfold dm_nw
    omega
  · have fin : ∀ v, dm_E E a b i v → dm_nw d a b v j ≤ dm_nw d a b i j - 1 → dm_nw d a b i j = 1000 ∨ ∃ v, dm_E E a b i v ∧ dm_nw d a b v j = dm_nw d a b i j - 1 := by
      intro v he hv
      have q := edge i v he
      have := tri i v j i0 i1 q.2.2.1 q.2.2.2.1 j0 j1
      exact Or.inr ⟨v, he, by omega⟩
    have via : ∀ c e : Int, 0 ≤ c → c < m → 0 ≤ e → e < m → dm_E E a b c e → (∀ v, 0 ≤ v → v < m → dm_nw d a b v j ≤ d v c + 1 + d e j) → dm_nw d a b i j = d i c + 1 + d e j → d c c = 0 → dm_nw d a b i j < 1000 → dm_nw d a b i j = 1000 ∨ ∃ v, dm_E E a b i v ∧ dm_nw d a b v j = dm_nw d a b i j - 1 := by
      intro c e c0 c1 e0 e1 he hv hd cc lt
      by_cases ic : i = c
      · subst ic
        have := nw e j e0 e1 j0 j1
        exact fin e he (by omega)
      · have n1 := (h2 e j e0 e1 j0 j1).1
        rcases h6 i c i0 i1 c0 c1 ic with w | ⟨v, v1, v2⟩
        · omega
        · have q := h5 i v v1
          have := hv v q.2.2.1 q.2.2.2.1
          exact fin v (Or.inl v1) (by omega)
    have split3 : dm_nw d a b i j = d i j ∨ dm_nw d a b i j = d i a + 1 + d b j ∨ dm_nw d a b i j = d i b + 1 + d a j := by unfold dm_nw; omega
    by_cases lt : dm_nw d a b i j < 1000
    · rcases split3 with q | q | q
      · rcases h6 i j i0 i1 j0 j1 ne with w | ⟨v, v1, v2⟩
        · omega
        · have q2 := h5 i v v1
          have := nw v j q2.2.2.1 q2.2.2.2.1 j0 j1
          exact fin v (Or.inl v1) (by omega)
      · exact via a b a0 a1 b0 b1 (Or.inr (Or.inl ⟨rfl, rfl⟩)) (fun v v0 v1 => (nw v j v0 v1 j0 j1).2.1) q ea lt
      · exact via b a b0 b1 a0 a1 (Or.inr (Or.inr ⟨rfl, rfl⟩)) (fun v v0 v1 => (nw v j v0 v1 j0 j1).2.2) q eb lt
    · have := pos i j i0 i1 j0 j1
      exact Or.inl (by omega)
/-- no edges: all apart -/
theorem dm_0 : dm_M m (fun _ _ => False) (fun i j => if i = j then 0 else 1000) := by
  refine ⟨fun i _ _ => if_pos rfl, fun i j _ _ _ _ => ?_, fun i j _ _ _ _ => ?_, fun i j k _ _ _ _ _ _ => ?_, fun i j h => h.elim, fun i j _ _ _ _ ne => Or.inl (if_neg ne)⟩
  · dsimp only
    by_cases e : i = j
    · rw [if_pos e]; exact ⟨by decide, by decide, fun q => absurd e q⟩
    · rw [if_neg e]; exact ⟨by decide, by decide, fun _ => by decide⟩
  · dsimp only
    by_cases e : i = j
    · rw [if_pos e, if_pos e.symm]
    · rw [if_neg e, if_neg (fun q => e q.symm)]
  · dsimp only
    (repeat' split) <;> omega
/-- one place more, without edges -/
theorem dm_ext (h : dm_M m E d) (h0 : 0 ≤ m) (e1 : d m m = 0) (e2 : ∀ i, 0 ≤ i → i < m → d i m = 1000 ∧ d m i = 1000) : dm_M (m + 1) E d := by
  obtain ⟨h1, h2, h3, h4, h5, h6⟩ := h
  refine ⟨fun i i0 i1 => ?_, fun i j i0 i1 j0 j1 => ?_, fun i j i0 i1 j0 j1 => ?_, fun i j k i0 i1 j0 j1 k0 k1 => ?_, fun i j he => ?_, fun i j i0 i1 j0 j1 ne => ?_⟩
  · by_cases q : i = m
    · rw [q]; exact e1
    · exact h1 i i0 (by omega)
  · by_cases q : i = m
    · by_cases r : j = m
      · subst q r; rw [e1]; exact ⟨by decide, by decide, fun w => absurd rfl w⟩
      · subst q; rw [(e2 j j0 (by omega)).2]; exact ⟨by decide, by decide, fun _ => by decide⟩
    · by_cases r : j = m
      · subst r; rw [(e2 i i0 (by omega)).1]; exact ⟨by decide, by decide, fun _ => by decide⟩
      · exact h2 i j i0 (by omega) j0 (by omega)
  · by_cases q : i = m
    · by_cases r : j = m
      · subst q r; rfl
      · subst q; have := e2 j j0 (by omega); omega
    · by_cases r : j = m
      · subst r; have := e2 i i0 (by omega); omega
      · exact h3 i j i0 (by omega) j0 (by omega)
  · by_cases q : i = m
    · by_cases r : k = m
      · subst q r
        rw [e1]
        by_cases w : j = k
        · subst w; rw [e1]; decide
        · have := e2 j j0 (by omega); omega
      · subst q
        have := e2 k k0 (by omega)
        by_cases w : j = i
        · subst w; omega
        · have := e2 j j0 (by omega)
          have := (h2 j k j0 (by omega) k0 (by omega)).1
          omega
    · by_cases r : k = m
      · subst r
        have := e2 i i0 (by omega)
        by_cases w : j = k
        · subst w; omega
        · have := e2 j j0 (by omega)
          have := (h2 i j i0 (by omega) j0 (by omega)).1
          omega
      · by_cases w : j = m
        · subst w
          have := e2 i i0 (by omega)
          have := e2 k k0 (by omega)
          have := (h2 i k i0 (by omega) k0 (by omega)).2.1
          omega
        · exact h4 i j k i0 (by omega) j0 (by omega) k0 (by omega)
  · have := h5 i j he
    omega
  · by_cases q : i = m
    · subst q; exact Or.inl (e2 j j0 (by omega)).2
    · by_cases r : j = m
      · subst r; exact Or.inl (e2 i i0 (by omega)).1
      · exact h6 i j i0 (by omega) j0 (by omega) ne
end DM
/-! what the class's cells and the reference's row say alike; steps of the reference -/
section RR
abbrev rr_H : Type := Int × Int × (Int → Int)
variable {s t : lf_Z} {A B : Int → Int} {x c n1 n2 : Int} {H : List rr_H}
def rr_op (sh w : Int) : Int := if bt_t sh w = true then 0 else 1
/-- how all stands, as the class keeps it in one row -/
def rr_sn (sz pl cm ap sp dn : Int → Int) (sh mi dr : Int) (j : Int) : Int :=
  if j < 12 then (if j % 3 = 0 then sz (j / 3) else if j % 3 = 1 then pl (j / 3) else cm (j / 3))
  else if j < 24 then (if j % 2 = 0 then ap ((j - 12) / 2) else sp ((j - 12) / 2))
  else if j < 36 then dn (j - 24) else if j = 36 then sh else if j = 37 then mi else dr
/-- f: such a row; the reference's cells -/
def rr_S (n1 n2 : Int) (f : Int → Int) (A : Int → Int) : Prop :=
  A 3 = f 37 ∧ A 6 = f 38 ∧ (∀ b : Int, 0 ≤ b → b < 4 → A (114 + 3 * b) = f (3 * b) ∧ (f (3 * b) ≠ 0 → A (114 + 3 * b + 1) = f (3 * b + 1) ∧ A (114 + 3 * b + 2) = f (3 * b + 2)))
  ∧ (∀ p : Int, 0 ≤ p → p < n2 → A (126 + 6 * p + 3) = f (12 + 2 * p) ∧ A (126 + 6 * p + 4) = f (12 + 2 * p + 1)) ∧ (∀ s : Int, 0 ≤ s → s < 12 → A (14 + 3 * s + 2) = f (24 + s))
  ∧ (∀ w : Int, 0 ≤ w → w < n1 → A (50 + 4 * w + 3) = rr_op (f 36) w)
def rr_h (A : Int → Int) (x : Int) (h : rr_H) : Prop :=
  A x = h.1 ∧ A (x + 1) = h.2.1 ∧ (∀ w : Int, 0 ≤ w → w < h.2.1 → bt_t (A (x + 2)) w = !(bt_t (h.2.2 36) w)) ∧ A (x + 3) = h.2.2 37 ∧ A (x + 4) = h.2.2 38
  ∧ (∀ b : Int, 0 ≤ b → b < 4 → A (x + 5 + 3 * b) = h.2.2 (3 * b) ∧ (h.2.2 (3 * b) ≠ 0 → A (x + 5 + (3 * b + 1)) = h.2.2 (3 * b + 1) ∧ A (x + 5 + (3 * b + 2)) = h.2.2 (3 * b + 2)))
  ∧ (∀ p : Int, 0 ≤ p → p < h.1 → p < 6 → A (x + 17 + 2 * p) = h.2.2 (12 + 2 * p) ∧ A (x + 18 + 2 * p) = h.2.2 (12 + 2 * p + 1)) ∧ (∀ s : Int, 0 ≤ s → s < 12 → A (x + 29 + s) = h.2.2 (24 + s))
def rr_hs (A : Int → Int) : List rr_H → Prop
  | [] => True
  | h :: H => rr_h A (278 + 42 * H.length) h ∧ rr_hs A H
theorem rr_hM {y : Int} {h : rr_H} (e : ∀ j : Int, 0 ≤ j → j < 42 → B (y + j) = A (x + j)) (a : rr_h A x h) (w16 : h.2.1 ≤ 16) : rr_h B y h := by
  obtain ⟨a1, a2, a3, a4, a5, a6, a7, a8⟩ := a
  have e' : ∀ j k : Int, k = y + j → 0 ≤ j → j < 42 → B k = A (x + j) := fun j k q a b => by rw [q]; exact e j a b
  refine ⟨(e' 0 y (by omega) (by decide) (by decide)).trans ((by rw [Int.add_zero] : A (x + 0) = A x).trans a1), (e 1 (by decide) (by decide)).trans a2, fun w w0 w1 => by rw [e 2 (by decide) (by decide)]; exact a3 w w0 w1, (e 3 (by decide) (by decide)).trans a4, (e 4 (by decide) (by decide)).trans a5, fun b b0 b1 => ⟨?_, fun q => ⟨?_, ?_⟩⟩, fun p p0 p1 p6 => ⟨?_, ?_⟩, fun s s0 s1 => ?_⟩
  · have := (a6 b b0 b1).1
    rw [show x + 5 + 3 * b = x + (5 + 3 * b) by omega] at this
    exact (e' (5 + 3 * b) _ (by omega) (by omega) (by omega)).trans this
  · have := ((a6 b b0 b1).2 q).1
    rw [show x + 5 + (3 * b + 1) = x + (5 + (3 * b + 1)) by omega] at this
    exact (e' (5 + (3 * b + 1)) _ (by omega) (by omega) (by omega)).trans this
  · have := ((a6 b b0 b1).2 q).2
    rw [show x + 5 + (3 * b + 2) = x + (5 + (3 * b + 2)) by omega] at this
    exact (e' (5 + (3 * b + 2)) _ (by omega) (by omega) (by omega)).trans this
  · have := (a7 p p0 p1 p6).1
    rw [show x + 17 + 2 * p = x + (17 + 2 * p) by omega] at this
    exact (e' (17 + 2 * p) _ (by omega) (by omega) (by omega)).trans this
  · have := (a7 p p0 p1 p6).2
    rw [show x + 18 + 2 * p = x + (18 + 2 * p) by omega] at this
    exact (e' (18 + 2 * p) _ (by omega) (by omega) (by omega)).trans this
  · have := a8 s s0 s1
    rw [show x + 29 + s = x + (29 + s) by omega] at this
    exact (e' (29 + s) _ (by omega) (by omega) (by omega)).trans this
/-- how many ways there were then -/
def rr_w (H : List rr_H) : Prop := ∀ h ∈ H, h.2.1 ≤ 16
theorem rr_hsC : ∀ H : List rr_H, rr_w H → (∀ i : Int, 278 ≤ i → i < 278 + 42 * H.length → B i = A i) → rr_hs A H → rr_hs B H := by
  intro H
  induction H with
  | nil => intro _ _ _; trivial
  | cons h H ih =>
    intro hw e a
    rw [List.length_cons] at e
    exact ⟨rr_hM (fun j j0 j1 => e _ (by omega) (by omega)) a.1 (hw h List.mem_cons_self), ih (fun g hg => hw g (List.mem_cons_of_mem _ hg)) (fun i i0 i1 => e i i0 (by omega)) a.2⟩
/-- the oldest goes, the others move down -/
theorem rr_hsD : ∀ H : List rr_H, rr_w H → (∀ i : Int, 278 ≤ i → i + 42 < 278 + 42 * H.length → B i = A (i + 42)) → rr_hs A H → rr_hs B H.dropLast := by
  intro H
  induction H with
  | nil => intro _ _ _; trivial
  | cons h H ih =>
    intro hw e a
    cases H with
    | nil => trivial
    | cons g T =>
      have hl : (((g :: T).dropLast).length : Int) = T.length := by rw [List.length_dropLast, List.length_cons]; omega
      have hl2 : ((h :: g :: T).length : Int) = (T.length : Int) + 2 := by rw [List.length_cons, List.length_cons]; omega
      have hl3 : ((g :: T).length : Int) = (T.length : Int) + 1 := by rw [List.length_cons]; omega
      rw [hl2] at e
      have a1 := a.1
      rw [hl3] at a1
      refine ⟨?_, ih (fun k hk => hw k (List.mem_cons_of_mem _ hk)) (fun i i0 i1 => e i i0 (by rw [hl3] at i1; omega)) a.2⟩
      show rr_h B (278 + 42 * (((g :: T).dropLast).length : Int)) h
      rw [hl]
      refine rr_hM (fun j j0 j1 => ?_) a1 (hw h List.mem_cons_self)
      rw [e _ (by omega) (by omega), show 278 + 42 * (T.length : Int) + j + 42 = 278 + 42 * ((T.length : Int) + 1) + j by omega]
/-! keep of the reference -/
def rr_N1 (A B : Int → Int) (x w : Int) : Prop := B x = A 2 ∧ B (x + 1) = A 1 ∧ ∀ k : Int, 0 ≤ k → k < 16 → bt_t (B (x + 2)) k = (decide (k < w) && decide (A (50 + 4 * k + 3) = 1))
def rr_N2 (A B : Int → Int) (x k : Int) : Prop := B (x + 3) = A 3 ∧ B (x + 4) = A 6 ∧ ∀ j : Int, 0 ≤ j → j < k → B (x + 5 + j) = A (114 + j)
def rr_N3 (A B : Int → Int) (x k : Int) : Prop := ∀ p : Int, 0 ≤ p → p < k → B (x + 17 + 2 * p) = A (126 + 6 * p + 3) ∧ B (x + 18 + 2 * p) = A (126 + 6 * p + 4)
def rr_N4 (A B : Int → Int) (x k : Int) : Prop := ∀ s : Int, 0 ≤ s → s < k → B (x + 29 + s) = A (14 + 3 * s + 2)
def rr_D (A B : Int → Int) (x : Int) : Prop := ∀ i : Int, ¬ (x ≤ i ∧ i < x + 42) → B i = A i
/-- cells but the row are the same -/
def rr_f (s t : lf_Z) : Prop := (∀ c : Nat, c ≠ 96 → t.1 c = s.1 c) ∧ t.2 = s.2
theorem rr_fr : rr_f s s := ⟨fun _ _ => rfl, rfl⟩
theorem rr_ft {u : lf_Z} (h : rr_f s t) (g : rr_f t u) : rr_f s u := ⟨fun c hc => (g.1 c hc).trans (h.1 c hc), g.2.trans h.2⟩
theorem rr_fu {i v : Int} (h : rr_f s t) : rr_f s (lf_up t.1 96 i v, t.2.1, t.2.2) := ⟨fun c hc => (zu_r hc).trans (h.1 c hc), h.2⟩
theorem fl_246 {a : Int} {Q : Int → lf_Z → Prop} (h : Q (s.1 96 (14 + 3 * a + 2)) s) : fw_246 a Q s := by unfold fw_246; exact fun _ => h
theorem fl_239 {a : Int} {Q : Int → lf_Z → Prop} (h : Q (s.1 96 (126 + 6 * a + 3)) s) : fw_239 a Q s := by unfold fw_239; exact fun _ => h
theorem fl_239b {a : Int} {Q : Int → lf_Z → Prop} (h : Q (s.1 96 (126 + 6 * a + 4)) s) : fw_239b a Q s := by unfold fw_239b; exact fun _ => h
theorem fl_245 {a : Int} {Q : Bool → lf_Z → Prop} (h : Q (decide (s.1 96 (50 + 4 * a + 3) = 1)) s) : fw_245 a Q s := by
  unfold fw_245
  intro _ _
  refine ⟨fun c => ?_, fun c => ?_⟩
  · rw [decide_eq_false c] at h; exact h
  · rw [decide_eq_true (Classical.not_not.mp c)] at h; exact h
theorem fl_244p {Q : lf_Z → Prop} (hc : s.1 96 9 = c) (c0 : 0 ≤ c) (c1 : c < 30) (hn : s.1 96 1 ≤ 16) (hn0 : 0 ≤ s.1 96 1)
    (kk : ∀ t : lf_Z, rr_f s t → t.1 96 9 = c + 1 → (∀ i : Int, i ≠ 9 → ¬ (278 + 42 * c ≤ i ∧ i < 278 + 42 * c + 42) → t.1 96 i = s.1 96 i) → rr_N1 (s.1 96) (t.1 96) (278 + 42 * c) (s.1 96 1) → rr_N2 (s.1 96) (t.1 96) (278 + 42 * c) 12 → rr_N3 (s.1 96) (t.1 96) (278 + 42 * c) 6 → rr_N4 (s.1 96) (t.1 96) (278 + 42 * c) 12 → Q t) : fw_244_p58 Q s := by
  unfold fw_244_p58
  rw [hc]
  intro _ _ _
  generalize hA : s.1 96 = A at *
  have hx : 278 ≤ 278 + 42 * c := by omega
  generalize hxx : 278 + 42 * c = x at *
  have p268 : ∀ t : lf_Z, rr_f s t → rr_D A (t.1 96) x → rr_N1 A (t.1 96) x (A 1) → rr_N2 A (t.1 96) x 12 → rr_N3 A (t.1 96) x 6 → fw_244_p268L Q x 0 t := by
    intro t tf tD n1 n2 n3
    refine ⟨fun k t => 0 ≤ k ∧ k ≤ 12 ∧ rr_f s t ∧ rr_D A (t.1 96) x ∧ rr_N1 A (t.1 96) x (A 1) ∧ rr_N2 A (t.1 96) x 12 ∧ rr_N3 A (t.1 96) x 6 ∧ rr_N4 A (t.1 96) x k, ?_, ⟨Int.le_refl 0, by decide, tf, tD, n1, n2, n3, fun q a b => by omega⟩⟩
    intro k t ⟨k0, k1, tf, tD, n1, n2, n3, n4⟩
    unfold fw_244_p268
    intro _
    refine ⟨fun q => ?_, fun q => fl_246 (fun _ => ?_)⟩
    · have hk : k = 12 := by omega
      subst hk
      have e9 : t.1 96 9 = c := (tD 9 (by omega)).trans hc
      rw [e9]
      have e : ∀ j : Int, j ≠ 9 → ((lf_up t.1 96 9 (c + 1), t.2.1, t.2.2) : lf_Z).1 96 j = t.1 96 j := fun j hj => zu_i hj
      refine kk _ (rr_fu tf) zu_s (fun i h9 hi => (e i h9).trans (tD i hi)) ?_ ?_ ?_ ?_
      · exact ⟨(e x (by omega)).trans n1.1, (e (x + 1) (by omega)).trans n1.2.1, fun j j0 j1 => by rw [e (x + 2) (by omega)]; exact n1.2.2 j j0 j1⟩
      · exact ⟨(e (x + 3) (by omega)).trans n2.1, (e (x + 4) (by omega)).trans n2.2.1, fun j j0 j1 => (e _ (by omega)).trans (n2.2.2 j j0 j1)⟩
      · exact fun p p0 p1 => ⟨(e _ (by omega)).trans (n3 p p0 p1).1, (e _ (by omega)).trans (n3 p p0 p1).2⟩
      · exact fun q q0 q1 => (e _ (by omega)).trans (n4 q q0 q1)
    · have eA : t.1 96 (14 + 3 * k + 2) = A (14 + 3 * k + 2) := tD _ (by omega)
      rw [eA]
      have e : ∀ j : Int, j ≠ x + 29 + k → ((lf_up t.1 96 (x + 29 + k) (A (14 + 3 * k + 2)), t.2.1, t.2.2) : lf_Z).1 96 j = t.1 96 j := fun j hj => zu_i hj
      refine ⟨by omega, by omega, rr_fu tf, fun i hi => (e i (by omega)).trans (tD i hi), ?_, ?_, ?_, ?_⟩
      · exact ⟨(e x (by omega)).trans n1.1, (e (x + 1) (by omega)).trans n1.2.1, fun j j0 j1 => by rw [e (x + 2) (by omega)]; exact n1.2.2 j j0 j1⟩
      · exact ⟨(e (x + 3) (by omega)).trans n2.1, (e (x + 4) (by omega)).trans n2.2.1, fun j j0 j1 => (e _ (by omega)).trans (n2.2.2 j j0 j1)⟩
      · exact fun p p0 p1 => ⟨(e _ (by omega)).trans (n3 p p0 p1).1, (e _ (by omega)).trans (n3 p p0 p1).2⟩
      · intro q q0 q1
        by_cases y : q = k
        · rw [y]; exact zu_s
        · exact (e _ (by omega)).trans (n4 q q0 (by omega))
  have p216 : ∀ t : lf_Z, rr_f s t → rr_D A (t.1 96) x → rr_N1 A (t.1 96) x (A 1) → rr_N2 A (t.1 96) x 12 → fw_244_p216L Q x 0 t := by
    intro t tf tD n1 n2
    refine ⟨fun k t => 0 ≤ k ∧ k ≤ 6 ∧ rr_f s t ∧ rr_D A (t.1 96) x ∧ rr_N1 A (t.1 96) x (A 1) ∧ rr_N2 A (t.1 96) x 12 ∧ rr_N3 A (t.1 96) x k, ?_, ⟨Int.le_refl 0, by decide, tf, tD, n1, n2, fun q a b => by omega⟩⟩
    intro k t ⟨k0, k1, tf, tD, n1, n2, n3⟩
    unfold fw_244_p216
    intro _
    refine ⟨fun q => ?_, fun q => fl_239 (fun _ => fl_239b (fun _ => ?_))⟩
    · have hk : k = 6 := by omega
      subst hk
      exact p268 t tf tD n1 n2 n3
    · have eA : t.1 96 (126 + 6 * k + 3) = A (126 + 6 * k + 3) := tD _ (by omega)
      have eB : ((lf_up t.1 96 (x + 17 + 2 * k) (A (126 + 6 * k + 3)), t.2.1, t.2.2) : lf_Z).1 96 (126 + 6 * k + 4) = A (126 + 6 * k + 4) := (zu_i (by omega)).trans (tD _ (by omega))
      rw [eA, eB]
      have e : ∀ j : Int, j ≠ x + 17 + 2 * k → j ≠ x + 18 + 2 * k → ((lf_up ((lf_up t.1 96 (x + 17 + 2 * k) (A (126 + 6 * k + 3)), t.2.1, t.2.2) : lf_Z).1 96 (x + 18 + 2 * k) (A (126 + 6 * k + 4)), t.2.1, t.2.2) : lf_Z).1 96 j = t.1 96 j := fun j hj hk => (zu_i hk).trans (zu_i hj)
      refine ⟨by omega, by omega, rr_fu (rr_fu tf), fun i hi => (e i (by omega) (by omega)).trans (tD i hi), ?_, ?_, ?_⟩
      · exact ⟨(e x (by omega) (by omega)).trans n1.1, (e (x + 1) (by omega) (by omega)).trans n1.2.1, fun j j0 j1 => by rw [e (x + 2) (by omega) (by omega)]; exact n1.2.2 j j0 j1⟩
      · exact ⟨(e (x + 3) (by omega) (by omega)).trans n2.1, (e (x + 4) (by omega) (by omega)).trans n2.2.1, fun j j0 j1 => (e _ (by omega) (by omega)).trans (n2.2.2 j j0 j1)⟩
      · intro q q0 q1
        by_cases y : q = k
        · rw [y]; exact ⟨(zu_i (by omega)).trans zu_s, zu_s⟩
        · exact ⟨(e _ (by omega) (by omega)).trans (n3 q q0 (by omega)).1, (e _ (by omega) (by omega)).trans (n3 q q0 (by omega)).2⟩
  have p183 : ∀ t : lf_Z, rr_f s t → rr_D A (t.1 96) x → rr_N1 A (t.1 96) x (A 1) → t.1 96 (x + 3) = A 3 → t.1 96 (x + 4) = A 6 → fw_244_p183L Q x 0 t := by
    intro t tf tD n1 n3 n4
    refine ⟨fun k t => 0 ≤ k ∧ k ≤ 12 ∧ rr_f s t ∧ rr_D A (t.1 96) x ∧ rr_N1 A (t.1 96) x (A 1) ∧ rr_N2 A (t.1 96) x k, ?_, ⟨Int.le_refl 0, by decide, tf, tD, n1, n3, n4, fun q a b => by omega⟩⟩
    intro k t ⟨k0, k1, tf, tD, n1, n2⟩
    unfold fw_244_p183
    intro _
    refine ⟨fun q => ?_, fun q _ _ => ?_⟩
    · have hk : k = 12 := by omega
      subst hk
      exact p216 t tf tD n1 n2
    · have eA : t.1 96 (114 + k) = A (114 + k) := tD _ (by omega)
      rw [eA]
      have e : ∀ j : Int, j ≠ x + 5 + k → ((lf_up t.1 96 (x + 5 + k) (A (114 + k)), t.2.1, t.2.2) : lf_Z).1 96 j = t.1 96 j := fun j hj => zu_i hj
      refine ⟨by omega, by omega, rr_fu tf, fun i hi => (e i (by omega)).trans (tD i hi), ?_, (e (x + 3) (by omega)).trans n2.1, (e (x + 4) (by omega)).trans n2.2.1, ?_⟩
      · exact ⟨(e x (by omega)).trans n1.1, (e (x + 1) (by omega)).trans n1.2.1, fun j j0 j1 => by rw [e (x + 2) (by omega)]; exact n1.2.2 j j0 j1⟩
      · intro q q0 q1
        by_cases y : q = k
        · rw [y]; exact zu_s
        · exact (e _ (by omega)).trans (n2.2.2 q q0 (by omega))
  obtain ⟨u, hu⟩ : ∃ u : lf_Z, u = (lf_up (lf_up (lf_up s.1 96 x (A 2)) 96 (x + 1) ((lf_up s.1 96 x (A 2)) 96 1)) 96 (x + 2) 0, s.2.1, s.2.2) := ⟨_, rfl⟩
  rw [← hu]
  have e1 : (lf_up s.1 96 x (A 2)) 96 1 = A 1 := (lf_up_i (by omega)).trans (by rw [hA])
  have e : ∀ j : Int, j ≠ x → j ≠ x + 1 → j ≠ x + 2 → u.1 96 j = A j := fun j h1 h2 h3 => by rw [hu]; exact (zu_i h3).trans ((lf_up_i h2).trans ((lf_up_i h1).trans (by rw [hA])))
  have ux : u.1 96 x = A 2 := by rw [hu]; exact (zu_i (by omega)).trans ((lf_up_i (by omega)).trans lf_up_s)
  have uy : u.1 96 (x + 1) = A 1 := by rw [hu]; exact (zu_i (by omega)).trans (lf_up_s.trans e1)
  have uz : u.1 96 (x + 2) = 0 := by rw [hu]; exact zu_s
  have uf : rr_f s u := by
    rw [hu]
    exact ⟨fun q hq => (zu_r hq).trans ((lf_up_row hq).trans (lf_up_row hq)), rfl⟩
  refine ⟨fun w t => 0 ≤ w ∧ w ≤ A 1 ∧ rr_f s t ∧ rr_D A (t.1 96) x ∧ rr_N1 A (t.1 96) x w, ?_, ⟨Int.le_refl 0, hn0, uf, fun i hi => e i (by omega) (by omega) (by omega), ux, uy, fun k k0 k1 => ?_⟩⟩
  · intro w t ⟨w0, w1, tf, tD, n1⟩
    have t1 : t.1 96 1 = A 1 := tD 1 (by omega)
    have t3 : t.1 96 3 = A 3 := tD 3 (by omega)
    unfold fw_244_p110
    intro _ _
    rw [t1]
    refine ⟨fun q _ _ => ?_, fun q _ => fl_245 ?_⟩
    · have hw : w = A 1 := by omega
      subst hw
      rw [t3]
      have t6 : (lf_up t.1 96 (x + 3) (A 3)) 96 6 = A 6 := (lf_up_i (by omega)).trans (tD 6 (by omega))
      rw [t6]
      have e : ∀ j : Int, j ≠ x + 3 → j ≠ x + 4 → ((lf_up (lf_up t.1 96 (x + 3) (A 3)) 96 (x + 4) (A 6), t.2.1, t.2.2) : lf_Z).1 96 j = t.1 96 j := fun j hj hk => (zu_i hk).trans (lf_up_i hj)
      refine p183 _ ⟨fun q hq => (zu_r hq).trans ((lf_up_row hq).trans (tf.1 q hq)), tf.2⟩ (fun i hi => (e i (by omega) (by omega)).trans (tD i hi)) ?_ ((zu_i (by omega)).trans lf_up_s) zu_s
      exact ⟨(e x (by omega) (by omega)).trans n1.1, (e (x + 1) (by omega) (by omega)).trans n1.2.1, fun j j0 j1 => by rw [e (x + 2) (by omega) (by omega)]; exact n1.2.2 j j0 j1⟩
    · have eA : t.1 96 (50 + 4 * w + 3) = A (50 + 4 * w + 3) := tD _ (by omega)
      rw [eA]
      have fin : ∀ y3 : Int, (∀ k : Int, 0 ≤ k → k < 16 → bt_t (lf_or (t.1 96 (x + 2)) y3) k = (bt_t (t.1 96 (x + 2)) k || (decide (k = w) && decide (A (50 + 4 * w + 3) = 1)))) → fw_244_p144 (fun w t => 0 ≤ w ∧ w ≤ A 1 ∧ rr_f s t ∧ rr_D A (t.1 96) x ∧ rr_N1 A (t.1 96) x w) Q x w (x + 2) (t.1 96 (x + 2)) y3 t := by
        intro y3 hy
        unfold fw_244_p144
        intro _
        have e : ∀ j : Int, j ≠ x + 2 → ((lf_up t.1 96 (x + 2) (lf_or (t.1 96 (x + 2)) y3), t.2.1, t.2.2) : lf_Z).1 96 j = t.1 96 j := fun j hj => zu_i hj
        have e2 : ((lf_up t.1 96 (x + 2) (lf_or (t.1 96 (x + 2)) y3), t.2.1, t.2.2) : lf_Z).1 96 (x + 2) = lf_or (t.1 96 (x + 2)) y3 := zu_s
        refine ⟨by omega, by omega, rr_fu tf, fun i hi => (e i (by omega)).trans (tD i hi), (e x (by omega)).trans n1.1, (e (x + 1) (by omega)).trans n1.2.1, fun k k0 k1 => ?_⟩
        rw [e2, hy k k0 k1, n1.2.2 k k0 k1]
        by_cases kw : k = w
        · subst kw
          rw [decide_eq_false (show ¬ k < k by omega), decide_eq_true (show k < k + 1 by omega), decide_eq_true (show k = k from rfl), Bool.false_and, Bool.true_and, Bool.false_or]
        · rw [decide_eq_false kw, Bool.false_and, Bool.or_false]
          by_cases lt : k < w
          · rw [decide_eq_true lt, decide_eq_true (show k < w + 1 by omega)]
          · rw [decide_eq_false lt, decide_eq_false (show ¬ k < w + 1 by omega)]
      refine ⟨fun z => fin 0 (fun k k0 k1 => ?_), fun z => fin _ (fun k k0 k1 => ?_)⟩
      · rw [bt_To0, z, Bool.and_false, Bool.or_false]
      · rw [bt_Tor k0 (by omega) w0 (by omega), z, Bool.and_true]
  · rw [uz, decide_eq_false (show ¬ k < 0 by omega), Bool.false_and]
    unfold bt_t
    exact bt_0
/-- a step more -/
def rr_K (h : rr_H) (H : List rr_H) : List rr_H := h :: (if H.length = 30 then H.dropLast else H)
theorem rr_hN {f : Int → Int} (hS : rr_S (A 1) (A 2) f A) (hn2 : A 2 ≤ 6) (hn : A 1 ≤ 16) (n1 : rr_N1 A B x (A 1)) (n2 : rr_N2 A B x 12) (n3 : rr_N3 A B x 6) (n4 : rr_N4 A B x 12) : rr_h B x (A 2, A 1, f) := by
  obtain ⟨s1, s2, s3, s4, s5, s6⟩ := hS
  refine ⟨n1.1, n1.2.1, fun w w0 w1 => ?_, n2.1.trans s1, n2.2.1.trans s2, fun b b0 b1 => ⟨?_, fun q => ⟨?_, ?_⟩⟩, fun p p0 p1 p6 => ?_, fun s s0 s1 => (n4 s s0 s1).trans (s5 s s0 s1)⟩
  · have w1 : w < A 1 := w1
    rw [n1.2.2 w w0 (by omega), s6 w w0 w1, decide_eq_true w1, Bool.true_and]
    unfold rr_op
    show decide ((if bt_t (f 36) w = true then (0 : Int) else 1) = 1) = !(bt_t (f 36) w)
    cases bt_t (f 36) w <;> rfl
  · exact (n2.2.2 (3 * b) (by omega) (by omega)).trans (s3 b b0 b1).1
  · refine (n2.2.2 (3 * b + 1) (by omega) (by omega)).trans ?_
    rw [show 114 + (3 * b + 1) = 114 + 3 * b + 1 by omega]
    exact ((s3 b b0 b1).2 q).1
  · refine (n2.2.2 (3 * b + 2) (by omega) (by omega)).trans ?_
    rw [show 114 + (3 * b + 2) = 114 + 3 * b + 2 by omega]
    exact ((s3 b b0 b1).2 q).2
  · have p1 : p < A 2 := p1
    have a := n3 p p0 p6
    have b := s4 p p0 p1
    exact ⟨a.1.trans b.1, a.2.trans b.2⟩
theorem rr_Sc {f : Int → Int} (hS : rr_S n1 n2 f A) (h16 : n1 ≤ 16) (h6 : n2 ≤ 6) (e : ∀ i : Int, i ≠ 9 → i < 278 → B i = A i) : rr_S n1 n2 f B := by
  obtain ⟨s1, s2, s3, s4, s5, s6⟩ := hS
  refine ⟨(e 3 (by decide) (by decide)).trans s1, (e 6 (by decide) (by decide)).trans s2, fun b b0 b1 => ⟨(e _ (by omega) (by omega)).trans (s3 b b0 b1).1, fun q => ⟨(e _ (by omega) (by omega)).trans ((s3 b b0 b1).2 q).1, (e _ (by omega) (by omega)).trans ((s3 b b0 b1).2 q).2⟩⟩, fun p p0 p1 => ⟨(e _ (by omega) (by omega)).trans (s4 p p0 p1).1, (e _ (by omega) (by omega)).trans (s4 p p0 p1).2⟩, fun s s0 s1 => (e _ (by omega) (by omega)).trans (s5 s s0 s1), fun w w0 w1 => (e _ (by omega) (by omega)).trans (s6 w w0 w1)⟩
/-- keep: all stands as before, one step more -/
theorem fl_244 {f : Int → Int} {Q : lf_Z → Prop} (hS : rr_S (s.1 96 1) (s.1 96 2) f (s.1 96)) (h9 : s.1 96 9 = H.length) (hl : H.length ≤ 30) (hH : rr_hs (s.1 96) H) (hw : rr_w H) (hn : s.1 96 1 ≤ 16) (hn0 : 0 ≤ s.1 96 1) (hn2 : s.1 96 2 ≤ 6)
    (kk : ∀ t : lf_Z, rr_f s t → (∀ i : Int, i ≠ 9 → i < 278 → t.1 96 i = s.1 96 i) → t.1 96 9 = (rr_K (s.1 96 2, s.1 96 1, f) H).length → rr_hs (t.1 96) (rr_K (s.1 96 2, s.1 96 1, f) H) → rr_S (s.1 96 1) (s.1 96 2) f (t.1 96) → Q t) : fw_244 Q s := by
  unfold fw_244
  intro _
  rw [h9]
  refine ⟨fun c => fl_244p h9 (by omega) (by omega) hn hn0 (fun t tf t9 tD n1 n2 n3 n4 => ?_), fun c => ?_⟩
  · have c : H.length ≠ 30 := fun q => c (by rw [q]; rfl)
    have eK : rr_K (s.1 96 2, s.1 96 1, f) H = (s.1 96 2, s.1 96 1, f) :: H := by unfold rr_K; rw [if_neg c]
    have e : ∀ i : Int, i ≠ 9 → i < 278 → t.1 96 i = s.1 96 i := fun i h1 h2 => tD i h1 (by omega)
    refine kk t tf e ?_ ?_ (rr_Sc hS hn hn2 e)
    · rw [eK, t9, List.length_cons]; omega
    · rw [eK]
      exact ⟨rr_hN hS hn2 hn n1 n2 n3 n4, rr_hsC H hw (fun i i0 i1 => tD i (by omega) (by omega)) hH⟩
  · have c : H.length = 30 := by omega
    refine ⟨fun k t => 0 ≤ k ∧ k ≤ 1218 ∧ rr_f s t ∧ (∀ i : Int, ¬ (278 ≤ i ∧ i < 278 + k) → t.1 96 i = s.1 96 i) ∧ ∀ i : Int, 278 ≤ i → i < 278 + k → t.1 96 i = s.1 96 (i + 42), ?_, ⟨Int.le_refl 0, by decide, rr_fr, fun _ _ => rfl, fun i a b => by omega⟩⟩
    intro k t ⟨k0, k1, tf, tD, tM⟩
    unfold fw_244_p14
    intro _
    refine ⟨fun q => ?_, fun q _ _ => ?_⟩
    · have hk : k = 1218 := by omega
      subst hk
      have e9 : t.1 96 9 = H.length := (tD 9 (by omega)).trans h9
      rw [e9, c]
      obtain ⟨u, hu⟩ : ∃ u : lf_Z, u = (lf_up t.1 96 9 (((30 : Nat) : Int) - 1), t.2.1, t.2.2) := ⟨_, rfl⟩
      rw [← hu]
      have u9 : u.1 96 9 = 29 := by rw [hu]; exact zu_s
      have ue : ∀ i : Int, i ≠ 9 → u.1 96 i = t.1 96 i := fun i hi => by rw [hu]; exact zu_i hi
      have uf : rr_f s u := by rw [hu]; exact rr_fu tf
      have u1 : u.1 96 1 = s.1 96 1 := (ue 1 (by decide)).trans (tD 1 (by omega))
      have u2 : u.1 96 2 = s.1 96 2 := (ue 2 (by decide)).trans (tD 2 (by omega))
      have uS : rr_S (u.1 96 1) (u.1 96 2) f (u.1 96) := by
        rw [u1, u2]
        exact rr_Sc hS hn hn2 (fun i i9 i2 => (ue i i9).trans (tD i (by omega)))
      refine fl_244p u9 (by decide) (by decide) (by rw [u1]; exact hn) (by rw [u1]; exact hn0) (fun y yf y9 yD n1 n2 n3 n4 => ?_)
      have eK : rr_K (s.1 96 2, s.1 96 1, f) H = (s.1 96 2, s.1 96 1, f) :: H.dropLast := by unfold rr_K; rw [if_pos c]
      have dl : H.dropLast.length = 29 := by rw [List.length_dropLast, c]
      have e : ∀ i : Int, i ≠ 9 → i < 278 → y.1 96 i = s.1 96 i := fun i i9 i2 => (yD i i9 (by omega)).trans ((ue i i9).trans (tD i (by omega)))
      refine kk y (rr_ft uf yf) e ?_ ?_ (rr_Sc hS hn hn2 e)
      · rw [eK, y9, List.length_cons, dl]; rfl
      · rw [eK]
        refine ⟨?_, ?_⟩
        · have g := rr_hN uS (by rw [u2]; exact hn2) (by rw [u1]; exact hn) n1 n2 n3 n4
          rw [u1, u2] at g
          rw [dl]
          exact g
        · refine rr_hsD H hw (fun i i0 i1 => ?_) hH
          rw [yD i (by omega) (by rw [c] at i1; omega), ue i (by omega)]
          exact tM i i0 (by rw [c] at i1; omega)
    · have eA : t.1 96 (320 + k) = s.1 96 (320 + k) := tD _ (by omega)
      rw [eA]
      refine ⟨by omega, by omega, rr_fu tf, fun i hi => (zu_i (by omega)).trans (tD i (by omega)), fun i i0 i1 => ?_⟩
      by_cases y : i = 278 + k
      · rw [y, show 278 + k + 42 = 320 + k by omega]; exact zu_s
      · exact (zu_i y).trans (tM i i0 (by omega))
end RR
/-! the class's stand and its ring of steps -/
section RC
variable {s t : lf_Z} {f : Int → Int} {H : List rr_H} {R R' P P' : Int → Int} {lt k : Int} {I I' : Nat → Int → Int}
/-- the stand as one row -/
def rc_S (I : Nat → Int → Int) (f : Int → Int) : Prop :=
  (∀ b : Int, 0 ≤ b → b < 4 → I 16 b = f (3 * b) ∧ I 17 b = f (3 * b + 1) ∧ I 18 b = f (3 * b + 2)) ∧ (∀ p : Int, 0 ≤ p → p < 6 → I 19 p = f (12 + 2 * p) ∧ I 20 p = f (12 + 2 * p + 1)) ∧ (∀ s : Int, 0 ≤ s → s < 12 → I 21 s = f (24 + s)) ∧ I 15 6 = f 36 ∧ I 15 7 = f 37 ∧ I 15 8 = f 38
def rc_p (lt k : Int) : Int := if k ≤ lt then lt - k else lt + 30 - k
/-- the ring: the latest first -/
def rc_hs (R P : Int → Int) (lt : Int) : List rr_H → Int → Prop
  | [], _ => True
  | h :: H, k => (P (rc_p lt k) = h.1 ∧ ∀ j : Int, 0 ≤ j → j < 39 → R (rc_p lt k * 39 + j) = h.2.2 j) ∧ rc_hs R P lt H (k + 1)
def rc_H (I : Nat → Int → Int) (H : List rr_H) : Prop := I 22 3 = H.length ∧ H.length ≤ 30 ∧ 0 ≤ I 22 2 ∧ I 22 2 < 30 ∧ rc_hs (I 23) (I 24) (I 22 2) H 0
theorem rc_hsD : ∀ (H : List rr_H) (k : Int), rc_hs R P lt H k → rc_hs R P lt H.dropLast k := by
  intro H
  induction H with
  | nil => intro _ _; trivial
  | cons h H ih =>
    intro k a
    cases H with
    | nil => trivial
    | cons g T => exact ⟨a.1, ih (k + 1) a.2⟩
/-- one step on in the ring -/
theorem rc_hsN (h0 : 0 ≤ lt) (h1 : lt < 30) (eP : ∀ i : Int, i ≠ rc_p lt 29 → P' i = P i) (eR : ∀ i : Int, ¬ (rc_p lt 29 * 39 ≤ i ∧ i < rc_p lt 29 * 39 + 39) → R' i = R i) : ∀ (H : List rr_H) (k : Int), 0 ≤ k → k + H.length ≤ 29 → rc_hs R P lt H k → rc_hs R' P' (rc_p lt 29) H (k + 1) := by
  intro H
  induction H with
  | nil => intro _ _ _ _; trivial
  | cons h H ih =>
    intro k k0 k1 a
    rw [List.length_cons] at k1
    have e : rc_p (rc_p lt 29) (k + 1) = rc_p lt k := by unfold rc_p; (repeat' split) <;> omega
    have ne : rc_p lt k ≠ rc_p lt 29 := by unfold rc_p; (repeat' split) <;> omega
    refine ⟨?_, ih (k + 1) (by omega) (by omega) a.2⟩
    rw [e]
    exact ⟨(eP _ ne).trans a.1.1, fun j j0 j1 => (eR _ (by omega)).trans (a.1.2 j j0 j1)⟩
theorem rc_pB (h0 : 0 ≤ lt) (h1 : lt < 30) (k0 : 0 ≤ k) (k1 : k < 30) : 0 ≤ rc_p lt k ∧ rc_p lt k < 30 := by unfold rc_p; split <;> omega
theorem rc_p29 (h0 : 0 ≤ lt) (h1 : lt < 30) : (lt + 1).tmod 30 = rc_p lt 29 := by
  rw [Int.tmod_eq_emod_of_nonneg (by omega)]
  unfold rc_p
  split <;> omega
/-- the latest goes -/
theorem rc_hsU (h0 : 0 ≤ lt) (h1 : lt < 30) : ∀ (H : List rr_H) (k : Int), 1 ≤ k → k + H.length ≤ 30 → rc_hs R P lt H k → rc_hs R P (rc_p lt 1) H (k - 1) := by
  intro H
  induction H with
  | nil => intro _ _ _ _; trivial
  | cons h H ih =>
    intro k k0 k1 a
    rw [List.length_cons] at k1
    have e : rc_p (rc_p lt 1) (k - 1) = rc_p lt k := by unfold rc_p; (repeat' split) <;> omega
    have := ih (k + 1) (by omega) (by omega) a.2
    rw [show k + 1 - 1 = k - 1 + 1 by omega] at this
    refine ⟨?_, this⟩
    rw [e]
    exact a.1
theorem lf_cp_i {F : Nat → Int → Int} {x y : Nat} {p q n j : Int} (h : ¬ (q ≤ j ∧ j < q + n)) : lf_cp F x y p q n y j = F y j := by unfold lf_cp; rw [if_neg (fun w => h w.2)]
theorem lf_cp_s {F : Nat → Int → Int} {x y : Nat} {p q n j : Int} (h0 : q ≤ j) (h1 : j < q + n) : lf_cp F x y p q n y j = F x (p + (j - q)) := by unfold lf_cp; rw [if_pos ⟨rfl, h0, h1⟩]
theorem lf_cp_row {F : Nat → Int → Int} {x y a : Nat} {p q n : Int} (h : a ≠ y) : lf_cp F x y p q n a = F a := funext fun _ => lf_cp_c h
/-- the stand is written into the ring -/
theorem fl_68 {a : Int} {Q : lf_Z → Prop} (hS : rc_S s.1 f) (kk : ∀ t : lf_Z, (∀ c : Nat, c ≠ 23 → t.1 c = s.1 c) → t.2 = s.2 → (∀ j : Int, 0 ≤ j → j < 39 → t.1 23 (a + j) = f j) → (∀ i : Int, ¬ (a ≤ i ∧ i < a + 39) → t.1 23 i = s.1 23 i) → Q t) : fw_68 a Q s := by
  obtain ⟨s1, s2, s3, s4, s5, s6⟩ := hS
  have p57 : ∀ t : lf_Z, (∀ c : Nat, c ≠ 23 → t.1 c = s.1 c) → t.2 = s.2 → (∀ j : Int, 0 ≤ j → j < 12 → t.1 23 (a + j) = f j) → (∀ i : Int, ¬ (a ≤ i ∧ i < a + 39) → t.1 23 i = s.1 23 i) → fw_68_p57L Q (a + 12) 0 t := by
    intro t tc t2 tj ti
    refine ⟨fun x k t => 0 ≤ k ∧ k ≤ 6 ∧ x = a + 12 + 2 * k ∧ (∀ c : Nat, c ≠ 23 → t.1 c = s.1 c) ∧ t.2 = s.2 ∧ (∀ j : Int, 0 ≤ j → j < 12 + 2 * k → t.1 23 (a + j) = f j) ∧ ∀ i : Int, ¬ (a ≤ i ∧ i < a + 39) → t.1 23 i = s.1 23 i, ?_, ⟨Int.le_refl 0, by decide, by omega, tc, t2, fun j j0 j1 => tj j j0 (by omega), ti⟩⟩
    intro x k t ⟨k0, k1, ex, tc, t2, tj, ti⟩
    unfold fw_68_p57
    intro _
    refine ⟨fun q _ _ _ _ => ?_, fun q _ _ _ => ?_⟩
    · have hk : k = 6 := by omega
      subst hk
      have hx : x = a + 24 := by omega
      subst hx
      have e15 : ∀ j : Int, (lf_cp t.1 21 23 0 (a + 24) 12) 15 j = s.1 15 j := fun j => (lf_cp_c (by decide)).trans (congrFun (tc 15 (by decide)) j)
      rw [e15 6, e15 7, e15 8]
      have e : ∀ j : Int, j ≠ a + 24 + 12 → j ≠ a + 24 + 12 + 1 → j ≠ a + 24 + 12 + 2 → ((lf_up (lf_up (lf_up (lf_cp t.1 21 23 0 (a + 24) 12) 23 (a + 24 + 12) (s.1 15 6)) 23 (a + 24 + 12 + 1) (s.1 15 7)) 23 (a + 24 + 12 + 2) (s.1 15 8), t.2.1, t.2.2) : lf_Z).1 23 j = (lf_cp t.1 21 23 0 (a + 24) 12) 23 j := fun j h1 h2 h3 => (zu_i h3).trans ((lf_up_i h2).trans (lf_up_i h1))
      refine kk _ (fun c hc => (zu_r hc).trans ((lf_up_row hc).trans ((lf_up_row hc).trans ((lf_cp_row hc).trans (tc c hc))))) t2 (fun j j0 j1 => ?_) (fun i hi => (e i (by omega) (by omega) (by omega)).trans ((lf_cp_i (by omega)).trans (ti i hi)))
      by_cases c1 : j < 24
      · exact (e _ (by omega) (by omega) (by omega)).trans ((lf_cp_i (by omega)).trans (tj j j0 (by omega)))
      · by_cases c2 : j < 36
        · refine (e _ (by omega) (by omega) (by omega)).trans ((lf_cp_s (by omega) (by omega)).trans ?_)
          rw [tc 21 (by decide), show (0 : Int) + (a + j - (a + 24)) = j - 24 by omega, s3 (j - 24) (by omega) (by omega), show 24 + (j - 24) = j by omega]
        · rcases (show j = 36 ∨ j = 37 ∨ j = 38 by omega) with y | y | y
          · subst y
            rw [show a + 36 = a + 24 + 12 by omega]
            exact (zu_i (by omega)).trans ((lf_up_i (by omega)).trans (lf_up_s.trans s4))
          · subst y
            rw [show a + 37 = a + 24 + 12 + 1 by omega]
            exact (zu_i (by omega)).trans (lf_up_s.trans s5)
          · subst y
            rw [show a + 38 = a + 24 + 12 + 2 by omega]
            exact zu_s.trans s6
    · rw [tc 19 (by decide), tc 20 (by decide)]
      refine ⟨by omega, by omega, by omega, fun c hc => (zu_r hc).trans ((lf_up_row hc).trans (tc c hc)), t2, fun j j0 j1 => ?_, fun i hi => (zu_i (by omega)).trans ((lf_up_i (by omega)).trans (ti i hi))⟩
      have a2 := s2 k k0 (by omega)
      by_cases y : j = 12 + 2 * k + 1
      · rw [show a + j = x + 1 by omega, y]
        exact zu_s.trans a2.2
      · by_cases y2 : j = 12 + 2 * k
        · rw [show a + j = x by omega, y2]
          exact (zu_i (by omega)).trans (lf_up_s.trans a2.1)
        · exact (zu_i (by omega)).trans ((lf_up_i (by omega)).trans (tj j j0 (by omega)))
  unfold fw_68
  refine ⟨fun x k t => 0 ≤ k ∧ k ≤ 4 ∧ x = a + 3 * k ∧ (∀ c : Nat, c ≠ 23 → t.1 c = s.1 c) ∧ t.2 = s.2 ∧ (∀ j : Int, 0 ≤ j → j < 3 * k → t.1 23 (a + j) = f j) ∧ ∀ i : Int, ¬ (a ≤ i ∧ i < a + 39) → t.1 23 i = s.1 23 i, ?_, ⟨Int.le_refl 0, by decide, by omega, fun _ _ => rfl, rfl, fun j j0 j1 => by omega, fun _ _ => rfl⟩⟩
  intro x k t ⟨k0, k1, ex, tc, t2, tj, ti⟩
  unfold fw_68_p5
  intro _
  refine ⟨fun q => ?_, fun q _ _ _ _ => ?_⟩
  · have hk : k = 4 := by omega
    subst hk
    have hx : x = a + 12 := by omega
    subst hx
    exact p57 t tc t2 (fun j j0 j1 => tj j j0 (by omega)) ti
  · rw [tc 16 (by decide), tc 17 (by decide), tc 18 (by decide)]
    refine ⟨by omega, by omega, by omega, fun c hc => (zu_r hc).trans ((lf_up_row hc).trans ((lf_up_row hc).trans (tc c hc))), t2, fun j j0 j1 => ?_, fun i hi => (zu_i (by omega)).trans ((lf_up_i (by omega)).trans ((lf_up_i (by omega)).trans (ti i hi)))⟩
    have a2 := s1 k k0 (by omega)
    by_cases y : j = 3 * k + 2
    · rw [show a + j = x + 2 by omega, y]
      exact zu_s.trans a2.2.2
    · by_cases y2 : j = 3 * k + 1
      · rw [show a + j = x + 1 by omega, y2]
        exact (zu_i (by omega)).trans (lf_up_s.trans a2.2.1)
      · by_cases y3 : j = 3 * k
        · rw [show a + j = x by omega, y3]
          exact (zu_i (by omega)).trans ((lf_up_i (by omega)).trans (lf_up_s.trans a2.1))
        · exact (zu_i (by omega)).trans ((lf_up_i (by omega)).trans ((lf_up_i (by omega)).trans (tj j j0 (by omega))))
/-- keep: a step more; nothing but the ring is touched -/
def rc_f (s t : lf_Z) : Prop := (∀ c : Nat, c ≠ 22 → c ≠ 23 → c ≠ 24 → t.1 c = s.1 c) ∧ (∀ i : Int, i ≠ 2 → i ≠ 3 → t.1 22 i = s.1 22 i) ∧ t.2 = s.2
theorem fl_67 {p w : Int} {Q : lf_Z → Prop} (hS : rc_S s.1 f) (hH : rc_H s.1 H) (kk : ∀ t : lf_Z, rc_f s t → rc_H t.1 (rr_K (p, w, f) H) → Q t) : fw_67 p Q s := by
  obtain ⟨h1, h2, h3, h4, h5⟩ := hH
  unfold fw_67
  intro _ _
  rw [rc_p29 h3 h4]
  have hB := rc_pB h3 h4 (k := 29) (by decide) (by decide)
  generalize hlt : s.1 22 2 = lt at *
  obtain ⟨u, hu⟩ : ∃ u : lf_Z, u = (lf_up (lf_up s.1 22 2 (rc_p lt 29)) 22 3 (min 30 (s.1 22 3 + 1)), s.2.1, s.2.2) := ⟨_, rfl⟩
  rw [← hu]
  have uc : ∀ c : Nat, c ≠ 22 → u.1 c = s.1 c := fun c hc => by rw [hu]; exact (zu_r hc).trans (lf_up_row hc)
  have u2 : u.1 22 2 = rc_p lt 29 := by rw [hu]; exact (zu_i (by decide)).trans lf_up_s
  have u3 : u.1 22 3 = min 30 (s.1 22 3 + 1) := by rw [hu]; exact zu_s
  have ui : ∀ i : Int, i ≠ 2 → i ≠ 3 → u.1 22 i = s.1 22 i := fun i a b => by rw [hu]; exact (zu_i b).trans (lf_up_i a)
  have uS : rc_S u.1 f := by
    unfold rc_S at hS ⊢
    rw [uc 16 (by decide), uc 17 (by decide), uc 18 (by decide), uc 19 (by decide), uc 20 (by decide), uc 21 (by decide), uc 15 (by decide)]
    exact hS
  refine fl_68 uS (fun t tc t2 tj ti => ?_)
  intro _
  have e2 : t.1 22 2 = rc_p lt 29 := by rw [tc 22 (by decide)]; exact u2
  rw [e2]
  obtain ⟨v, hv⟩ : ∃ v : lf_Z, v = (lf_up t.1 24 (rc_p lt 29) p, t.2.1, t.2.2) := ⟨_, rfl⟩
  rw [← hv]
  have vc : ∀ c : Nat, c ≠ 24 → v.1 c = t.1 c := fun c hc => by rw [hv]; exact zu_r hc
  have v24 : ∀ i : Int, i ≠ rc_p lt 29 → v.1 24 i = s.1 24 i := fun i hi => by
    rw [hv]
    refine (zu_i hi).trans ?_
    rw [tc 24 (by decide), uc 24 (by decide)]
  have v24s : v.1 24 (rc_p lt 29) = p := by rw [hv]; exact zu_s
  have v23 : ∀ i : Int, ¬ (rc_p lt 29 * 39 ≤ i ∧ i < rc_p lt 29 * 39 + 39) → v.1 23 i = s.1 23 i := fun i hi => by
    rw [vc 23 (by decide), ti i hi, uc 23 (by decide)]
  have v23s : ∀ j : Int, 0 ≤ j → j < 39 → v.1 23 (rc_p lt 29 * 39 + j) = f j := fun j j0 j1 => by
    rw [vc 23 (by decide)]; exact tj j j0 j1
  have v2 : v.1 22 2 = rc_p lt 29 := by rw [vc 22 (by decide)]; exact e2
  have v3 : v.1 22 3 = min 30 (s.1 22 3 + 1) := by rw [vc 22 (by decide), tc 22 (by decide)]; exact u3
  have p0 : rc_p (rc_p lt 29) 0 = rc_p lt 29 := by
    have : rc_p (rc_p lt 29) 0 = if 0 ≤ rc_p lt 29 then rc_p lt 29 - 0 else rc_p lt 29 + 30 - 0 := rfl
    rw [this, if_pos hB.1]; omega
  refine kk v ⟨fun c a b d => by rw [vc c d, tc c b, uc c a], fun i a b => by rw [vc 22 (by decide), tc 22 (by decide)]; exact ui i a b, ?_⟩ ⟨?_, ?_, by rw [v2]; exact hB.1, by rw [v2]; exact hB.2, ?_⟩
  · rw [hv]
    show t.2 = s.2
    rw [t2, hu]
  · rw [v3, h1]
    unfold rr_K
    rw [List.length_cons]
    by_cases c : H.length = 30
    · rw [if_pos c, List.length_dropLast, c]; decide
    · rw [if_neg c]; omega
  · unfold rr_K
    rw [List.length_cons]
    by_cases c : H.length = 30
    · rw [if_pos c, List.length_dropLast, c]; decide
    · rw [if_neg c]; omega
  · rw [v2]
    unfold rr_K
    refine ⟨?_, ?_⟩
    · rw [p0]
      exact ⟨v24s, v23s⟩
    · by_cases c : H.length = 30
      · rw [if_pos c]
        refine rc_hsN h3 h4 v24 v23 _ 0 (Int.le_refl 0) ?_ (rc_hsD H 0 h5)
        rw [List.length_dropLast, c]; decide
      · rw [if_neg c]
        exact rc_hsN h3 h4 v24 v23 _ 0 (Int.le_refl 0) (by omega) h5
end RC
/-! undo -/
section UN
variable {s t : lf_Z} {A B f g : Int → Int} {x n0 n1 n2 p w : Int} {H : List rr_H}
/-- behind undo: people told since stand as told -/
def rr_un (p n2 : Int) (tl g : Int → Int) (j : Int) : Int := if 12 ≤ j ∧ j < 24 ∧ p ≤ (j - 12) / 2 ∧ (j - 12) / 2 < n2 then (if j % 2 = 0 then tl ((j - 12) / 2) else -1) else g j
/-- no harm where no stretch is, no way shut that isn't told -/
def rr_W (n0 n1 : Int) (f : Int → Int) : Prop := (∀ s : Int, n0 ≤ s → s < 12 → f (24 + s) = 0) ∧ ∀ w : Int, n1 ≤ w → w < 16 → bt_t (f 36) w = false
def rr_WH (n0 n1 : Int) (H : List rr_H) : Prop := ∀ h ∈ H, rr_W n0 h.2.1 h.2.2 ∧ h.2.1 ≤ n1
theorem rr_unN (h : ¬ (12 ≤ x ∧ x < 24)) {tl : Int → Int} : rr_un p n2 tl g x = g x := if_neg (fun q => h ⟨q.1, q.2.1⟩)
theorem rr_unO {q : Int} {tl : Int → Int} (h : q < p) (q0 : 0 ≤ q) (q6 : q < 6) : rr_un p n2 tl g (12 + 2 * q) = g (12 + 2 * q) ∧ rr_un p n2 tl g (12 + 2 * q + 1) = g (12 + 2 * q + 1) := ⟨if_neg (fun c => by omega), if_neg (fun c => by omega)⟩
theorem rr_unY {q : Int} {tl : Int → Int} (h : p ≤ q) (q0 : 0 ≤ q) (q6 : q < 6) (q2 : q < n2) : rr_un p n2 tl g (12 + 2 * q) = tl q ∧ rr_un p n2 tl g (12 + 2 * q + 1) = -1 := by
  unfold rr_un
  rw [if_pos (by omega), if_pos (by omega), if_pos (by omega), if_neg (by omega), show (12 + 2 * q - 12) / 2 = q by omega]
  exact ⟨rfl, rfl⟩
/-- what undo leaves of the reference's row -/
def rr_D2 (A B : Int → Int) : Prop := ∀ i : Int, ¬ (i = 3 ∨ i = 6 ∨ (114 ≤ i ∧ i < 126) ∨ (126 ≤ i ∧ i < 162 ∧ ((i - 126) % 6 = 3 ∨ (i - 126) % 6 = 4)) ∨ (14 ≤ i ∧ i < 50 ∧ (i - 14) % 3 = 2) ∨ (50 ≤ i ∧ i < 114 ∧ (i - 50) % 4 = 3)) → B i = A i
def rr_U1 (A B : Int → Int) (x k : Int) (w : Int) : Prop := ∀ j : Int, 0 ≤ j → j < k → B (50 + 4 * j + 3) = if w ≤ j then 1 else if bt_t (A (x + 2)) j = true then 1 else 0
def rr_U2 (A B : Int → Int) (x k : Int) : Prop := B 3 = A (x + 3) ∧ B 6 = A (x + 4) ∧ ∀ j : Int, 0 ≤ j → j < k → B (114 + j) = A (x + 5 + j)
def rr_U3 (A B : Int → Int) (x k : Int) (p : Int) : Prop := ∀ q : Int, 0 ≤ q → q < k → B (126 + 6 * q + 3) = (if p ≤ q then A (126 + 6 * q + 5) else A (x + 17 + 2 * q)) ∧ B (126 + 6 * q + 4) = (if p ≤ q then -1 else A (x + 18 + 2 * q))
theorem fl_191d {a v : Int} {Q : lf_Z → Prop} (h : Q (lf_up s.1 96 (126 + 6 * a + 3) v, s.2.1, s.2.2)) : fw_191d a v Q s := by unfold fw_191d; exact fun _ => h
theorem fl_191e {a v : Int} {Q : lf_Z → Prop} (h : Q (lf_up s.1 96 (126 + 6 * a + 4) v, s.2.1, s.2.2)) : fw_191e a v Q s := by unfold fw_191e; exact fun _ => h
theorem fl_239e {a : Int} {Q : Int → lf_Z → Prop} (h : Q (s.1 96 (126 + 6 * a + 5)) s) : fw_239e a Q s := by unfold fw_239e; exact fun _ => h
/-- the reference's loops, behind the count -/
theorem fl_238p {Q : Int → lf_Z → Prop} (hx : 278 ≤ x) (hA : s.1 96 = A) (h1 : 0 ≤ A 1 ∧ A 1 ≤ 16) (h2 : 0 ≤ A 2 ∧ A 2 ≤ 6) (h0 : 0 ≤ A 0 ∧ A 0 ≤ 12)
    (kk : ∀ t : lf_Z, rr_f s t → rr_D2 A (t.1 96) → rr_U1 A (t.1 96) x (A 1) (A (x + 1)) → rr_U2 A (t.1 96) x 12 → rr_U3 A (t.1 96) x (A 2) (A x) → (∀ q : Int, 0 ≤ q → q < A 0 → t.1 96 (14 + 3 * q + 2) = A (x + 29 + q)) → (∀ q : Int, A 0 ≤ q → q < 12 → t.1 96 (14 + 3 * q + 2) = A (14 + 3 * q + 2)) → Q (A 9) t) : fw_238_p40L Q x 0 s := by
  have p254 : ∀ t : lf_Z, rr_f s t → rr_D2 A (t.1 96) → rr_U1 A (t.1 96) x (A 1) (A (x + 1)) → rr_U2 A (t.1 96) x 12 → rr_U3 A (t.1 96) x (A 2) (A x) → (∀ q : Int, 0 ≤ q → q < 12 → t.1 96 (14 + 3 * q + 2) = A (14 + 3 * q + 2)) → fw_238_p254L Q x 0 t := by
    intro t tf tD u1 u2 u3 td
    refine ⟨fun k t => 0 ≤ k ∧ k ≤ A 0 ∧ rr_f s t ∧ rr_D2 A (t.1 96) ∧ rr_U1 A (t.1 96) x (A 1) (A (x + 1)) ∧ rr_U2 A (t.1 96) x 12 ∧ rr_U3 A (t.1 96) x (A 2) (A x) ∧ (∀ q : Int, 0 ≤ q → q < k → t.1 96 (14 + 3 * q + 2) = A (x + 29 + q)) ∧ ∀ q : Int, k ≤ q → q < 12 → t.1 96 (14 + 3 * q + 2) = A (14 + 3 * q + 2), ?_, ⟨Int.le_refl 0, h0.1, tf, tD, u1, u2, u3, fun q a b => by omega, td⟩⟩
    intro k t ⟨k0, k1, tf, tD, u1, u2, u3, td, te⟩
    have e0 : t.1 96 0 = A 0 := tD 0 (by omega)
    have e9 : t.1 96 9 = A 9 := tD 9 (by omega)
    unfold fw_238_p254
    intro _ _
    rw [e0, e9]
    refine ⟨fun q => ?_, fun q _ _ => ?_⟩
    · have hk : k = A 0 := by omega
      rw [hk] at td te
      exact kk t tf tD u1 u2 u3 td te
    · rw [tD (x + 29 + k) (by omega)]
      have e : ∀ j : Int, j ≠ 14 + 3 * k + 2 → ((lf_up t.1 96 (14 + 3 * k + 2) (A (x + 29 + k)), t.2.1, t.2.2) : lf_Z).1 96 j = t.1 96 j := fun j hj => zu_i hj
      refine ⟨by omega, by omega, rr_fu tf, fun i hi => (e i (by omega)).trans (tD i hi), fun j j0 j1 => (e _ (by omega)).trans (u1 j j0 j1), ⟨(e 3 (by omega)).trans u2.1, (e 6 (by omega)).trans u2.2.1, fun j j0 j1 => (e _ (by omega)).trans (u2.2.2 j j0 j1)⟩, fun j j0 j1 => ⟨(e _ (by omega)).trans (u3 j j0 j1).1, (e _ (by omega)).trans (u3 j j0 j1).2⟩, fun j j0 j1 => ?_, fun j j0 j1 => (e _ (by omega)).trans (te j (by omega) j1)⟩
      by_cases y : j = k
      · rw [y]; exact zu_s
      · exact (e _ (by omega)).trans (td j j0 (by omega))
  have p165 : ∀ t : lf_Z, rr_f s t → rr_D2 A (t.1 96) → rr_U1 A (t.1 96) x (A 1) (A (x + 1)) → rr_U2 A (t.1 96) x 12 → (∀ q : Int, 0 ≤ q → q < 12 → t.1 96 (14 + 3 * q + 2) = A (14 + 3 * q + 2)) → fw_238_p165L Q x 0 t := by
    intro t tf tD u1 u2 td
    refine ⟨fun k t => 0 ≤ k ∧ k ≤ A 2 ∧ rr_f s t ∧ rr_D2 A (t.1 96) ∧ rr_U1 A (t.1 96) x (A 1) (A (x + 1)) ∧ rr_U2 A (t.1 96) x 12 ∧ rr_U3 A (t.1 96) x k (A x) ∧ ∀ q : Int, 0 ≤ q → q < 12 → t.1 96 (14 + 3 * q + 2) = A (14 + 3 * q + 2), ?_, ⟨Int.le_refl 0, h2.1, tf, tD, u1, u2, fun q a b => by omega, td⟩⟩
    intro k t ⟨k0, k1, tf, tD, u1, u2, u3, td⟩
    have e2 : t.1 96 2 = A 2 := tD 2 (by omega)
    have ex : t.1 96 x = A x := tD x (by omega)
    unfold fw_238_p165
    intro _ _
    rw [e2, ex]
    have fin : ∀ v1 v2 : Int, v1 = (if A x ≤ k then A (126 + 6 * k + 5) else A (x + 17 + 2 * k)) → v2 = (if A x ≤ k then -1 else A (x + 18 + 2 * k)) → k < A 2 → (fun k t => 0 ≤ k ∧ k ≤ A 2 ∧ rr_f s t ∧ rr_D2 A (t.1 96) ∧ rr_U1 A (t.1 96) x (A 1) (A (x + 1)) ∧ rr_U2 A (t.1 96) x 12 ∧ rr_U3 A (t.1 96) x k (A x) ∧ ∀ q : Int, 0 ≤ q → q < 12 → t.1 96 (14 + 3 * q + 2) = A (14 + 3 * q + 2)) (k + 1) ((lf_up ((lf_up t.1 96 (126 + 6 * k + 3) v1, t.2.1, t.2.2) : lf_Z).1 96 (126 + 6 * k + 4) v2, t.2.1, t.2.2) : lf_Z) := by
      intro v1 v2 e1 e2 lt
      have e : ∀ j : Int, j ≠ 126 + 6 * k + 3 → j ≠ 126 + 6 * k + 4 → ((lf_up ((lf_up t.1 96 (126 + 6 * k + 3) v1, t.2.1, t.2.2) : lf_Z).1 96 (126 + 6 * k + 4) v2, t.2.1, t.2.2) : lf_Z).1 96 j = t.1 96 j := fun j hj hk => (zu_i hk).trans (zu_i hj)
      refine ⟨by omega, by omega, rr_fu (rr_fu tf), fun i hi => (e i (by omega) (by omega)).trans (tD i hi), fun j j0 j1 => (e _ (by omega) (by omega)).trans (u1 j j0 j1), ⟨(e 3 (by omega) (by omega)).trans u2.1, (e 6 (by omega) (by omega)).trans u2.2.1, fun j j0 j1 => (e _ (by omega) (by omega)).trans (u2.2.2 j j0 j1)⟩, fun j j0 j1 => ?_, fun j j0 j1 => (e _ (by omega) (by omega)).trans (td j j0 j1)⟩
      by_cases y : j = k
      · rw [y]
        exact ⟨(zu_i (by omega)).trans (zu_s.trans e1), zu_s.trans e2⟩
      · exact ⟨(e _ (by omega) (by omega)).trans (u3 j j0 (by omega)).1, (e _ (by omega) (by omega)).trans (u3 j j0 (by omega)).2⟩
    have p210 : ∀ v1 : Int, v1 = (if A x ≤ k then A (126 + 6 * k + 5) else A (x + 17 + 2 * k)) → k < A 2 → fw_238_p210 (fun k t => 0 ≤ k ∧ k ≤ A 2 ∧ rr_f s t ∧ rr_D2 A (t.1 96) ∧ rr_U1 A (t.1 96) x (A 1) (A (x + 1)) ∧ rr_U2 A (t.1 96) x 12 ∧ rr_U3 A (t.1 96) x k (A x) ∧ ∀ q : Int, 0 ≤ q → q < 12 → t.1 96 (14 + 3 * q + 2) = A (14 + 3 * q + 2)) Q x k k v1 t := by
      intro v1 e1 lt
      unfold fw_238_p210
      refine fl_191d (fun _ => ?_)
      intro _
      have ex' : ((lf_up t.1 96 (126 + 6 * k + 3) v1, t.2.1, t.2.2) : lf_Z).1 96 x = A x := (zu_i (by omega)).trans ex
      have e18 : ((lf_up t.1 96 (126 + 6 * k + 3) v1, t.2.1, t.2.2) : lf_Z).1 96 (x + 18 + 2 * k) = A (x + 18 + 2 * k) := (zu_i (by omega)).trans (tD _ (by omega))
      rw [ex', e18]
      intro _
      refine ⟨fun q => ?_, fun q _ => ?_⟩
      · unfold fw_238_p243
        exact fl_191e (fin v1 (-1) e1 (by rw [if_pos q]) lt)
      · unfold fw_238_p243
        exact fl_191e (fin v1 _ e1 (by rw [if_neg q]) lt)
    refine ⟨fun q => ?_, fun q _ _ => ⟨fun c => fl_239e ?_, fun c _ => ?_⟩⟩
    · have hk : k = A 2 := by omega
      rw [hk] at u3
      exact p254 t tf tD u1 u2 u3 td
    · rw [tD (126 + 6 * k + 5) (by omega)]
      exact p210 _ (by rw [if_pos c]) (by omega)
    · rw [tD (x + 17 + 2 * k) (by omega)]
      exact p210 _ (by rw [if_neg c]) (by omega)
  have p132 : ∀ t : lf_Z, rr_f s t → rr_D2 A (t.1 96) → rr_U1 A (t.1 96) x (A 1) (A (x + 1)) → t.1 96 3 = A (x + 3) → t.1 96 6 = A (x + 4) → (∀ q : Int, 0 ≤ q → q < 12 → t.1 96 (14 + 3 * q + 2) = A (14 + 3 * q + 2)) → fw_238_p132L Q x 0 t := by
    intro t tf tD u1 a3 a6 td
    refine ⟨fun k t => 0 ≤ k ∧ k ≤ 12 ∧ rr_f s t ∧ rr_D2 A (t.1 96) ∧ rr_U1 A (t.1 96) x (A 1) (A (x + 1)) ∧ rr_U2 A (t.1 96) x k ∧ ∀ q : Int, 0 ≤ q → q < 12 → t.1 96 (14 + 3 * q + 2) = A (14 + 3 * q + 2), ?_, ⟨Int.le_refl 0, by decide, tf, tD, u1, ⟨a3, a6, fun q a b => by omega⟩, td⟩⟩
    intro k t ⟨k0, k1, tf, tD, u1, u2, td⟩
    unfold fw_238_p132
    intro _
    refine ⟨fun q => ?_, fun q _ _ => ?_⟩
    · have hk : k = 12 := by omega
      subst hk
      exact p165 t tf tD u1 u2 td
    · rw [tD (x + 5 + k) (by omega)]
      have e : ∀ j : Int, j ≠ 114 + k → ((lf_up t.1 96 (114 + k) (A (x + 5 + k)), t.2.1, t.2.2) : lf_Z).1 96 j = t.1 96 j := fun j hj => zu_i hj
      refine ⟨by omega, by omega, rr_fu tf, fun i hi => (e i (by omega)).trans (tD i hi), fun j j0 j1 => (e _ (by omega)).trans (u1 j j0 j1), ⟨(e 3 (by omega)).trans u2.1, (e 6 (by omega)).trans u2.2.1, fun j j0 j1 => ?_⟩, fun j j0 j1 => (e _ (by omega)).trans (td j j0 j1)⟩
      by_cases y : j = k
      · rw [y]; exact zu_s
      · exact (e _ (by omega)).trans (u2.2.2 j j0 (by omega))
  refine ⟨fun k t => 0 ≤ k ∧ k ≤ A 1 ∧ rr_f s t ∧ rr_D2 A (t.1 96) ∧ rr_U1 A (t.1 96) x k (A (x + 1)) ∧ ∀ q : Int, 0 ≤ q → q < 12 → t.1 96 (14 + 3 * q + 2) = A (14 + 3 * q + 2), ?_, ⟨Int.le_refl 0, h1.1, rr_fr, fun i _ => by rw [hA], fun q a b => by omega, fun q _ _ => by rw [hA]⟩⟩
  intro k t ⟨k0, k1, tf, tD, u1, td⟩
  have e1 : t.1 96 1 = A 1 := tD 1 (by omega)
  unfold fw_238_p40
  intro _ _
  rw [e1]
  refine ⟨fun q _ _ => ?_, fun q _ _ => ?_⟩
  · have hk : k = A 1 := by omega
    rw [hk] at u1
    rw [tD (x + 3) (by omega)]
    have e4 : (lf_up t.1 96 3 (A (x + 3))) 96 (x + 4) = A (x + 4) := (lf_up_i (by omega)).trans (tD _ (by omega))
    rw [e4]
    have e : ∀ j : Int, j ≠ 3 → j ≠ 6 → ((lf_up (lf_up t.1 96 3 (A (x + 3))) 96 6 (A (x + 4)), t.2.1, t.2.2) : lf_Z).1 96 j = t.1 96 j := fun j hj hk => (zu_i hk).trans (lf_up_i hj)
    exact p132 _ ⟨fun q hq => (zu_r hq).trans ((lf_up_row hq).trans (tf.1 q hq)), tf.2⟩ (fun i hi => (e i (by omega) (by omega)).trans (tD i hi)) (fun j j0 j1 => (e _ (by omega) (by omega)).trans (u1 j j0 j1)) ((zu_i (by decide)).trans lf_up_s) zu_s (fun j j0 j1 => (e _ (by omega) (by omega)).trans (td j j0 j1))
  · rw [tD (x + 1) (by omega)]
    have fin : ∀ v : Int, v = (if A (x + 1) ≤ k then 1 else if bt_t (A (x + 2)) k = true then 1 else 0) → fw_238_p94 (fun k t => 0 ≤ k ∧ k ≤ A 1 ∧ rr_f s t ∧ rr_D2 A (t.1 96) ∧ rr_U1 A (t.1 96) x k (A (x + 1)) ∧ ∀ q : Int, 0 ≤ q → q < 12 → t.1 96 (14 + 3 * q + 2) = A (14 + 3 * q + 2)) Q x k (50 + 4 * k + 3) v t := by
      intro v hv
      unfold fw_238_p94
      intro _
      have e : ∀ j : Int, j ≠ 50 + 4 * k + 3 → ((lf_up t.1 96 (50 + 4 * k + 3) v, t.2.1, t.2.2) : lf_Z).1 96 j = t.1 96 j := fun j hj => zu_i hj
      refine ⟨by omega, by omega, rr_fu tf, fun i hi => (e i (by omega)).trans (tD i hi), fun j j0 j1 => ?_, fun j j0 j1 => (e _ (by omega)).trans (td j j0 j1)⟩
      by_cases y : j = k
      · rw [y]; exact zu_s.trans hv
      · exact (e _ (by omega)).trans (u1 j j0 (by omega))
    refine ⟨fun c => ?_, fun c _ => ?_⟩
    · unfold fw_238_p89
      exact fin 1 (by rw [if_pos c])
    · rw [tD (x + 2) (by omega)]
      refine fl_210 k0 (by omega) ⟨fun z => fin 0 (by rw [if_neg c, z]; rfl), fun z => ?_⟩
      unfold fw_238_p89
      exact fin 1 (by rw [if_neg c, z]; rfl)
/-- undo of the reference -/
theorem fl_238 {tl : Int → Int} {Q : Int → lf_Z → Prop} (hn0 : 0 ≤ s.1 96 0 ∧ s.1 96 0 ≤ 12) (hn1 : 0 ≤ s.1 96 1 ∧ s.1 96 1 ≤ 16) (hn2 : 0 ≤ s.1 96 2 ∧ s.1 96 2 ≤ 6) (hS : rr_S (s.1 96 1) (s.1 96 2) f (s.1 96)) (hW : rr_W (s.1 96 0) (s.1 96 1) f) (h9 : s.1 96 9 = H.length) (hH : rr_hs (s.1 96) H) (hWH : rr_WH (s.1 96 0) (s.1 96 1) H) (htl : ∀ q : Int, 0 ≤ q → q < s.1 96 2 → s.1 96 (126 + 6 * q + 5) = tl q)
    (k0 : H = [] → Q (-1) s) (kk : ∀ (h : rr_H) (T : List rr_H) (t : lf_Z), H = h :: T → rr_f s t → rr_D2 (s.1 96) (lf_up t.1 96 9 (s.1 96 9) 96) → t.1 96 9 = T.length → rr_hs (t.1 96) T → rr_S (s.1 96 1) (s.1 96 2) (rr_un h.1 (s.1 96 2) tl h.2.2) (t.1 96) → Q T.length t) : fw_238 Q s := by
  unfold fw_238
  intro _
  rw [h9]
  cases H with
  | nil => exact ⟨fun c => absurd rfl c, fun _ => k0 rfl⟩
  | cons h T =>
    have hl : ((h :: T).length : Int) = (T.length : Int) + 1 := by rw [List.length_cons]; omega
    rw [hl]
    refine ⟨fun _ => ?_, fun c => absurd (by omega) c⟩
    rw [show (T.length : Int) + 1 - 1 = T.length by omega]
    obtain ⟨u, hu⟩ : ∃ u : lf_Z, u = (lf_up s.1 96 9 (T.length : Int), s.2.1, s.2.2) := ⟨_, rfl⟩
    rw [← hu]
    have ue : ∀ i : Int, i ≠ 9 → u.1 96 i = s.1 96 i := fun i hi => by rw [hu]; exact zu_i hi
    have u9 : u.1 96 9 = T.length := by rw [hu]; exact zu_s
    have uf : rr_f s u := by rw [hu]; exact rr_fu rr_fr
    obtain ⟨a1, a2, a3, a4, a5, a6, a7, a8⟩ := hH.1
    obtain ⟨hw, hw1⟩ := hWH h List.mem_cons_self
    generalize hx : 278 + 42 * (T.length : Int) = x at *
    have hx2 : 278 ≤ x := by omega
    refine fl_238p (s := u) (A := u.1 96) hx2 rfl (by rw [ue 1 (by decide)]; exact hn1) (by rw [ue 2 (by decide)]; exact hn2) (by rw [ue 0 (by decide)]; exact hn0) (fun t tf tD u1 u2 u3 td te => ?_)
    rw [ue 1 (by decide), ue (x + 1) (by omega), a2] at u1
    rw [ue 2 (by decide), ue x (by omega), a1] at u3
    rw [ue 0 (by decide)] at td te
    rw [u9]
    have t9 : t.1 96 9 = T.length := (tD 9 (by omega)).trans u9
    refine kk h T t rfl (rr_ft uf tf) (fun i hi => ?_) t9 ?_ ?_
    · by_cases y : i = 9
      · rw [y]; exact lf_up_s
      · exact (lf_up_i y).trans ((tD i hi).trans (ue i y))
    · exact rr_hsC T (fun g hg => Int.le_trans (hWH g (List.mem_cons_of_mem _ hg)).2 hn1.2) (fun i i0 i1 => (tD i (by omega)).trans (ue i (by omega))) hH.2
    · refine ⟨?_, ?_, fun b b0 b1 => ⟨?_, fun q => ⟨?_, ?_⟩⟩, fun q q0 q1 => ?_, fun q q0 q1 => ?_, fun w w0 w1 => ?_⟩
      · rw [rr_unN (by decide)]; exact u2.1.trans ((ue _ (by omega)).trans a4)
      · rw [rr_unN (by decide)]; exact u2.2.1.trans ((ue _ (by omega)).trans a5)
      · rw [rr_unN (by omega)]; exact (u2.2.2 (3 * b) (by omega) (by omega)).trans ((ue _ (by omega)).trans (a6 b b0 b1).1)
      · rw [rr_unN (by omega)] at q ⊢
        refine Eq.trans ?_ ((ue _ (by omega)).trans ((a6 b b0 b1).2 q).1)
        rw [show 114 + 3 * b + 1 = 114 + (3 * b + 1) by omega]
        exact u2.2.2 (3 * b + 1) (by omega) (by omega)
      · rw [rr_unN (by omega)] at q ⊢
        refine Eq.trans ?_ ((ue _ (by omega)).trans ((a6 b b0 b1).2 q).2)
        rw [show 114 + 3 * b + 2 = 114 + (3 * b + 2) by omega]
        exact u2.2.2 (3 * b + 2) (by omega) (by omega)
      · obtain ⟨v1, v2⟩ := u3 q q0 q1
        by_cases c : h.1 ≤ q
        · obtain ⟨g1, g2⟩ := rr_unY (g := h.2.2) (tl := tl) c q0 (by omega) q1
          rw [if_pos c] at v1 v2
          rw [g1, g2]
          exact ⟨v1.trans ((ue _ (by omega)).trans (htl q q0 q1)), v2⟩
        · obtain ⟨g1, g2⟩ := rr_unO (g := h.2.2) (tl := tl) (n2 := s.1 96 2) (show q < h.1 by omega) q0 (by omega)
          rw [if_neg c] at v1 v2
          rw [g1, g2]
          have a := a7 q q0 (by omega) (by omega)
          exact ⟨v1.trans ((ue _ (by omega)).trans a.1), v2.trans ((ue _ (by omega)).trans a.2)⟩
      · rw [rr_unN (by omega)]
        by_cases c : q < s.1 96 0
        · exact (td q q0 c).trans ((ue _ (by omega)).trans (a8 q q0 q1))
        · rw [te q (by omega) q1, ue _ (by omega), hS.2.2.2.2.1 q q0 q1, hW.1 q (by omega) q1, hw.1 q (by omega) q1]
      · rw [rr_unN (by decide), u1 w w0 w1]
        unfold rr_op
        by_cases c : h.2.1 ≤ w
        · rw [if_pos c, hw.2 w c (by omega)]; rfl
        · rw [if_neg c, ue (x + 2) (by omega), a3 w w0 (by omega)]
          cases bt_t (h.2.2 36) w <;> rfl
end UN
/-! undo of the class -/
section UC
variable {s t : lf_Z} {f g : Int → Int} {a n2 p : Int} {H : List rr_H}
/-- nothing but the stand's cells is touched -/
def rc_g (s t : lf_Z) : Prop := (∀ c : Nat, c < 15 ∨ 21 < c → t.1 c = s.1 c) ∧ (∀ i : Int, i ≠ 6 → i ≠ 7 → i ≠ 8 → t.1 15 i = s.1 15 i) ∧ t.2 = s.2
theorem rc_gr : rc_g s s := ⟨fun _ _ => rfl, fun _ _ _ _ => rfl, rfl⟩
theorem rc_gt {u : lf_Z} (h : rc_g s t) (k : rc_g t u) : rc_g s u := ⟨fun c hc => (k.1 c hc).trans (h.1 c hc), fun i a b c => (k.2.1 i a b c).trans (h.2.1 i a b c), k.2.2.trans h.2.2⟩
theorem rc_gu {c : Nat} {i v : Int} (h : rc_g s t) (hc : 16 ≤ c ∧ c ≤ 21) : rc_g s (lf_up t.1 c i v, t.2.1, t.2.2) := ⟨fun q hq => (zu_r (by omega)).trans (h.1 q hq), fun j a b d => (zu_c (by omega)).trans (h.2.1 j a b d), h.2.2⟩
theorem rc_g15 {i v : Int} (h : rc_g s t) (hi : i = 6 ∨ i = 7 ∨ i = 8) : rc_g s (lf_up t.1 15 i v, t.2.1, t.2.2) := ⟨fun q hq => (zu_r (by omega)).trans (h.1 q hq), fun j a b d => (zu_i (by omega)).trans (h.2.1 j a b d), h.2.2⟩
theorem fl_69 {b n c d : Int} {Q : lf_Z → Prop} (h : Q (lf_up (lf_up (lf_up s.1 16 b n) 17 b c) 18 b d, s.2.1, s.2.2)) : fw_69 b n c d Q s := by unfold fw_69; exact fun _ => h
theorem fl_109 {Q : lf_Z → Prop} (hg : ∀ j : Int, 0 ≤ j → j < 39 → s.1 23 (a + j) = g j) (kk : ∀ t : lf_Z, rc_g s t → rc_S t.1 g → Q t) : fw_109 a Q s := by
  have p42 : ∀ t : lf_Z, rc_g s t → (∀ b : Int, 0 ≤ b → b < 4 → t.1 16 b = g (3 * b) ∧ t.1 17 b = g (3 * b + 1) ∧ t.1 18 b = g (3 * b + 2)) → fw_109_p42L Q (a + 12) 0 t := by
    intro t tg tb
    refine ⟨fun x k t => 0 ≤ k ∧ k ≤ 6 ∧ x = a + 12 + 2 * k ∧ rc_g s t ∧ (∀ b : Int, 0 ≤ b → b < 4 → t.1 16 b = g (3 * b) ∧ t.1 17 b = g (3 * b + 1) ∧ t.1 18 b = g (3 * b + 2)) ∧ ∀ p : Int, 0 ≤ p → p < k → t.1 19 p = g (12 + 2 * p) ∧ t.1 20 p = g (12 + 2 * p + 1), ?_, ⟨Int.le_refl 0, by decide, by omega, tg, tb, fun p a b => by omega⟩⟩
    intro x k t ⟨k0, k1, ex, tg, tb, tp⟩
    have e23 : ∀ j : Int, 0 ≤ j → j < 39 → t.1 23 (a + j) = g j := fun j j0 j1 => by rw [tg.1 23 (by omega)]; exact hg j j0 j1
    unfold fw_109_p42
    intro _
    refine ⟨fun q _ _ _ _ => ?_, fun q _ _ _ => ?_⟩
    · have hk : k = 6 := by omega
      subst hk
      have hx : x = a + 24 := by omega
      subst hx
      have c23 : ∀ i : Int, (lf_cp t.1 23 21 (a + 24) 0 12) 23 i = t.1 23 i := fun i => lf_cp_c (by decide)
      rw [c23, c23, c23, show a + 24 + 12 + 1 = a + 37 by omega, show a + 24 + 12 + 2 = a + 38 by omega, show a + 24 + 12 = a + 36 by omega, e23 36 (by decide) (by decide), e23 37 (by decide) (by decide), e23 38 (by decide) (by decide)]
      obtain ⟨u, hu⟩ : ∃ u : lf_Z, u = (lf_up (lf_up (lf_up (lf_cp t.1 23 21 (a + 24) 0 12) 15 6 (g 36)) 15 7 (g 37)) 15 8 (g 38), t.2.1, t.2.2) := ⟨_, rfl⟩
      rw [← hu]
      have uc : ∀ c : Nat, c ≠ 15 → c ≠ 21 → u.1 c = t.1 c := fun c h1 h2 => by rw [hu]; exact (zu_r h1).trans ((lf_up_row h1).trans ((lf_up_row h1).trans (lf_cp_row h2)))
      refine kk u ⟨fun c hc => (uc c (by omega) (by omega)).trans (tg.1 c hc), fun i h6 h7 h8 => ?_, ?_⟩ ⟨?_, ?_, fun q q0 q1 => ?_, ?_, ?_, ?_⟩
      · rw [hu]
        exact (zu_i h8).trans ((lf_up_i h7).trans ((lf_up_i h6).trans ((lf_cp_c (by decide)).trans (tg.2.1 i h6 h7 h8))))
      · rw [hu]; exact tg.2.2
      · rw [uc 16 (by decide) (by decide), uc 17 (by decide) (by decide), uc 18 (by decide) (by decide)]; exact tb
      · rw [uc 19 (by decide) (by decide), uc 20 (by decide) (by decide)]; exact tp
      · rw [hu]
        refine (zu_c (by decide)).trans ((lf_up_c (by decide)).trans ((lf_up_c (by decide)).trans ((lf_cp_s q0 (by omega)).trans ?_)))
        rw [show a + 24 + (q - 0) = a + (24 + q) by omega]
        exact e23 (24 + q) (by omega) (by omega)
      · rw [hu]; exact (zu_i (by decide)).trans ((lf_up_i (by decide)).trans lf_up_s)
      · rw [hu]; exact (zu_i (by decide)).trans lf_up_s
      · rw [hu]; exact zu_s
    · subst ex
      rw [show a + 12 + 2 * k + 1 = a + (12 + 2 * k + 1) by omega, show a + 12 + 2 * k = a + (12 + 2 * k) by omega, e23 (12 + 2 * k) (by omega) (by omega), e23 (12 + 2 * k + 1) (by omega) (by omega)]
      refine ⟨by omega, by omega, by omega, ⟨fun c hc => (zu_r (by omega)).trans ((lf_up_row (by omega)).trans (tg.1 c hc)), fun i h6 h7 h8 => (zu_c (by decide)).trans ((lf_up_c (by decide)).trans (tg.2.1 i h6 h7 h8)), tg.2.2⟩, fun b b0 b1 => ?_, fun p p0 p1 => ?_⟩
      · have := tb b b0 b1
        exact ⟨(zu_c (by decide)).trans ((lf_up_c (by decide)).trans this.1), (zu_c (by decide)).trans ((lf_up_c (by decide)).trans this.2.1), (zu_c (by decide)).trans ((lf_up_c (by decide)).trans this.2.2)⟩
      · by_cases y : p = k
        · rw [y]; exact ⟨(zu_c (by decide)).trans lf_up_s, zu_s⟩
        · have := tp p p0 (by omega)
          exact ⟨(zu_c (by decide)).trans ((lf_up_i y).trans this.1), (zu_i y).trans ((lf_up_c (by decide)).trans this.2)⟩
  unfold fw_109
  refine ⟨fun x k t => 0 ≤ k ∧ k ≤ 4 ∧ x = a + 3 * k ∧ rc_g s t ∧ ∀ b : Int, 0 ≤ b → b < k → t.1 16 b = g (3 * b) ∧ t.1 17 b = g (3 * b + 1) ∧ t.1 18 b = g (3 * b + 2), ?_, ⟨Int.le_refl 0, by decide, by omega, rc_gr, fun b a c => by omega⟩⟩
  intro x k t ⟨k0, k1, ex, tg, tb⟩
  have e23 : ∀ j : Int, 0 ≤ j → j < 39 → t.1 23 (a + j) = g j := fun j j0 j1 => by rw [tg.1 23 (by omega)]; exact hg j j0 j1
  unfold fw_109_p5
  intro _
  refine ⟨fun q => ?_, fun q _ _ _ => fl_69 ?_⟩
  · have hk : k = 4 := by omega
    subst hk
    have hx : x = a + 12 := by omega
    subst hx
    exact p42 t tg tb
  · subst ex
    rw [show a + 3 * k + 1 = a + (3 * k + 1) by omega, show a + 3 * k + 2 = a + (3 * k + 2) by omega, e23 (3 * k) (by omega) (by omega), e23 (3 * k + 1) (by omega) (by omega), e23 (3 * k + 2) (by omega) (by omega)]
    refine ⟨by omega, by omega, by omega, ⟨fun c hc => (zu_r (by omega)).trans ((lf_up_row (by omega)).trans ((lf_up_row (by omega)).trans (tg.1 c hc))), fun i h6 h7 h8 => (zu_c (by decide)).trans ((lf_up_c (by decide)).trans ((lf_up_c (by decide)).trans (tg.2.1 i h6 h7 h8))), tg.2.2⟩, fun b b0 b1 => ?_⟩
    by_cases y : b = k
    · rw [y]; exact ⟨(zu_c (by decide)).trans ((lf_up_c (by decide)).trans lf_up_s), (zu_c (by decide)).trans lf_up_s, zu_s⟩
    · have := tb b b0 (by omega)
      exact ⟨(zu_c (by decide)).trans ((lf_up_c (by decide)).trans ((lf_up_i y).trans this.1)), (zu_c (by decide)).trans ((lf_up_i y).trans ((lf_up_c (by decide)).trans this.2.1)), (zu_i y).trans ((lf_up_c (by decide)).trans ((lf_up_c (by decide)).trans this.2.2))⟩
/-- undo -/
theorem fl_107 {Q : Int → lf_Z → Prop} (hH : rc_H s.1 H) (hn2 : 0 ≤ s.1 1 2 ∧ s.1 1 2 ≤ 6) (hp : ∀ h ∈ H, 0 ≤ h.1 ∧ h.1 ≤ s.1 1 2) (k0 : H = [] → Q (-1) s) (kk : ∀ (h : rr_H) (T : List rr_H) (t : lf_Z), H = h :: T → (∀ c : Nat, c < 15 → t.1 c = s.1 c) → (∀ c : Nat, 22 < c → t.1 c = s.1 c) → t.2 = s.2 → rc_S t.1 (rr_un h.1 (s.1 1 2) (s.1 10) h.2.2) → rc_H t.1 T → Q T.length t) : fw_107 Q s := by
  obtain ⟨h1, h2, h3, h4, h5⟩ := hH
  unfold fw_107 fw_108
  intro _
  rw [h1]
  cases H with
  | nil => exact ⟨fun c => absurd rfl c, fun _ => ⟨fun q => (by cases q), fun _ => k0 rfl⟩⟩
  | cons h T =>
    have hl : ((h :: T).length : Int) = (T.length : Int) + 1 := by rw [List.length_cons]; omega
    rw [hl] at h1 ⊢
    refine ⟨fun _ => ?_, fun c => absurd (by omega) c⟩
    obtain ⟨⟨q1, q2⟩, q3⟩ := h5
    have p0 : rc_p (s.1 22 2) 0 = s.1 22 2 := by unfold rc_p; rw [if_pos h3]; omega
    rw [p0] at q1 q2
    refine fl_109 q2 (fun t tg tS => ?_)
    have e22 : t.1 22 = s.1 22 := tg.1 22 (by omega)
    have e24 : t.1 24 = s.1 24 := tg.1 24 (by omega)
    intro _
    rw [e22, e24, q1]
    have hh := hp h List.mem_cons_self
    have n2E : t.1 1 = s.1 1 := tg.1 1 (by omega)
    refine ⟨fun k u => h.1 ≤ k ∧ k ≤ s.1 1 2 ∧ (∀ c : Nat, c ≠ 19 → c ≠ 20 → u.1 c = t.1 c) ∧ u.2 = t.2 ∧ (∀ p : Int, h.1 ≤ p → p < k → u.1 19 p = s.1 10 p ∧ u.1 20 p = -1) ∧ ∀ p : Int, ¬ (h.1 ≤ p ∧ p < k) → u.1 19 p = t.1 19 p ∧ u.1 20 p = t.1 20 p, ?_, ⟨Int.le_refl _, hh.2, fun _ _ _ => rfl, rfl, fun p a b => by omega, fun _ _ => ⟨rfl, rfl⟩⟩⟩
    intro k u ⟨k0, k1, uc, u2, up, uo⟩
    have en : u.1 1 = s.1 1 := (uc 1 (by decide) (by decide)).trans n2E
    unfold fw_108_p34
    intro _ _
    rw [en]
    refine ⟨fun c _ => ?_, fun c _ => ?_⟩
    · have hk : k = s.1 1 2 := by omega
      rw [hk] at up uo
      have u22 : u.1 22 = s.1 22 := (uc 22 (by decide) (by decide)).trans e22
      rw [u22]
      have eP : (s.1 22 2 + 30 - 1).tmod 30 = rc_p (s.1 22 2) 1 := by
        rw [Int.tmod_eq_emod_of_nonneg (by omega)]
        unfold rc_p
        split <;> omega
      rw [eP, h1, show (T.length : Int) + 1 - 1 = T.length by omega]
      obtain ⟨v, hv⟩ : ∃ v : lf_Z, v = (lf_up (lf_up u.1 22 2 (rc_p (s.1 22 2) 1)) 22 3 (T.length : Int), u.2.1, u.2.2) := ⟨_, rfl⟩
      rw [← hv]
      have vc : ∀ c : Nat, c ≠ 22 → v.1 c = u.1 c := fun c hc => by rw [hv]; exact (zu_r hc).trans (lf_up_row hc)
      have v2 : v.1 22 2 = rc_p (s.1 22 2) 1 := by rw [hv]; exact (zu_i (by decide)).trans lf_up_s
      have v3 : v.1 22 3 = T.length := by rw [hv]; exact zu_s
      have vt : ∀ c : Nat, c ≠ 22 → c ≠ 19 → c ≠ 20 → v.1 c = t.1 c := fun c a b d => (vc c a).trans (uc c b d)
      refine ⟨fun _ => ?_, fun q => (by cases q)⟩
      rw [v3]
      refine kk h T v rfl (fun c hc => (vt c (by omega) (by omega) (by omega)).trans (tg.1 c (by omega))) (fun c hc => (vt c (by omega) (by omega) (by omega)).trans (tg.1 c (by omega))) ?_ ?_ ?_
      · rw [hv]; exact u2.trans tg.2.2
      · obtain ⟨s1, s2, s3, s4, s5, s6⟩ := tS
        refine ⟨?_, fun p p0 p1 => ?_, fun q q0 q1 => ?_, ?_, ?_, ?_⟩
        · rw [vt 16 (by decide) (by decide) (by decide), vt 17 (by decide) (by decide) (by decide), vt 18 (by decide) (by decide) (by decide)]
          intro b b0 b1
          rw [rr_unN (by omega), rr_unN (by omega), rr_unN (by omega)]
          exact s1 b b0 b1
        · rw [vc 19 (by decide), vc 20 (by decide)]
          by_cases c : h.1 ≤ p ∧ p < s.1 1 2
          · obtain ⟨g1, g2⟩ := rr_unY (g := h.2.2) (tl := s.1 10) (n2 := s.1 1 2) c.1 p0 p1 c.2
            rw [g1, g2]
            exact up p c.1 c.2
          · have eo := uo p c
            have e12 : rr_un h.1 (s.1 1 2) (s.1 10) h.2.2 (12 + 2 * p) = h.2.2 (12 + 2 * p) := if_neg (fun w => c (by omega))
            have e13 : rr_un h.1 (s.1 1 2) (s.1 10) h.2.2 (12 + 2 * p + 1) = h.2.2 (12 + 2 * p + 1) := if_neg (fun w => c (by omega))
            rw [e12, e13]
            exact ⟨eo.1.trans (s2 p p0 p1).1, eo.2.trans (s2 p p0 p1).2⟩
        · rw [vt 21 (by decide) (by decide) (by decide), rr_unN (by omega)]; exact s3 q q0 q1
        · rw [vt 15 (by decide) (by decide) (by decide), rr_unN (by decide)]; exact s4
        · rw [vt 15 (by decide) (by decide) (by decide), rr_unN (by decide)]; exact s5
        · rw [vt 15 (by decide) (by decide) (by decide), rr_unN (by decide)]; exact s6
      · have hB := rc_pB h3 h4 (k := 1) (by decide) (by decide)
        rw [List.length_cons] at h2
        refine ⟨v3, by omega, by rw [v2]; exact hB.1, by rw [v2]; exact hB.2, ?_⟩
        rw [v2, vt 23 (by decide) (by decide) (by decide), vt 24 (by decide) (by decide) (by decide), e24, tg.1 23 (by omega)]
        exact rc_hsU h3 h4 T 1 (by decide) (by omega) q3
    · rw [(uc 10 (by decide) (by decide)).trans (tg.1 10 (by omega))]
      refine ⟨by omega, by omega, fun c a b => (zu_r b).trans ((lf_up_row a).trans (uc c a b)), u2, fun p p0 p1 => ?_, fun p hp => ?_⟩
      · by_cases y : p = k
        · rw [y]; exact ⟨(zu_c (by decide)).trans lf_up_s, zu_s⟩
        · have := up p p0 (by omega)
          exact ⟨(zu_c (by decide)).trans ((lf_up_i y).trans this.1), (zu_i y).trans ((lf_up_c (by decide)).trans this.2)⟩
      · have := uo p (by omega)
        exact ⟨(zu_c (by decide)).trans ((lf_up_i (by omega)).trans this.1), (zu_i (by omega)).trans ((lf_up_c (by decide)).trans this.2)⟩
end UC
/-! a minute, as both do it: f is the stand's row, J the class's land -/
section MN
def mn_ac (J : Nat → Int → Int) (w s : Int) : Int := if J 4 w = s then J 5 w else if J 5 w = s then J 4 w else -1
/-- whether a way is at a stretch -/
def mn_at (J : Nat → Int → Int) (s : Int) (w : Nat) : Bool := decide (J 4 (w : Int) = s) || decide (J 5 (w : Int) = s)
/-- the edges: of all ways below m that are of a sort -/
def mn_E (J : Nat → Int → Int) (ok : Int → Bool) (m : Int) (i j : Int) : Prop := ∃ w : Int, 0 ≤ w ∧ w < m ∧ ok w = true ∧ ((J 4 w = i ∧ J 5 w = j) ∨ (J 4 w = j ∧ J 5 w = i))
def mn_d (J : Nat → Int → Int) (c : Nat) (i j : Int) : Int := J c (i * 12 + j)
/-- what holds of the class's land: where ways are, how far it is -/
def mn_W (J : Nat → Int → Int) : Prop :=
  (0 ≤ J 1 0 ∧ J 1 0 ≤ 12) ∧ (0 ≤ J 1 1 ∧ J 1 1 ≤ 16) ∧ (0 ≤ J 1 2 ∧ J 1 2 ≤ 6)
  ∧ (∀ w : Int, 0 ≤ w → w < J 1 1 → (0 ≤ J 4 w ∧ J 4 w < J 1 0) ∧ (0 ≤ J 5 w ∧ J 5 w < J 1 0) ∧ J 4 w ≠ J 5 w)
  ∧ (∀ s : Int, 0 ≤ s → s < 12 → J 12 s = dm_cn (mn_at J s) (J 1 1).toNat ∧ J 12 s ≤ 4 ∧ ∀ w : Nat, (w : Int) < J 1 1 → mn_at J s w = true → J 11 (s * 4 + dm_cn (mn_at J s) w) = w)
  ∧ dm_M (J 1 0) (mn_E J (fun _ => true) (J 1 1)) (mn_d J 13)
  ∧ (∀ i j : Int, 0 ≤ i → i < 12 → 0 ≤ j → j < 12 → (J 1 0 ≤ i ∨ J 1 0 ≤ j) → mn_d J 13 i j = if i = j then 0 else 1000)
/-! towards a stretch -/
/-- the lowest for which it holds, from v on; none: -1 -/
def mn_le (P : Int → Bool) : Nat → Int → Int
  | 0, _ => -1
  | k + 1, v => if P v = true then v else mn_le P k (v + 1)
variable {J : Nat → Int → Int} {P : Int → Bool} {s t v w : Int}
theorem mn_leS : ∀ (k : Nat) (v u : Int), P u = true → v ≤ u → u < v + k → (∀ z, P z = true → v ≤ z → u ≤ z) → mn_le P k v = u := by
  intro k
  induction k with
  | zero => intro v u _ h1 h2 _; omega
  | succ k ih =>
    intro v u hu h1 h2 hm
    show (if P v = true then v else mn_le P k (v + 1)) = u
    by_cases c : P v = true
    · rw [if_pos c]
      have := hm v c (Int.le_refl v)
      omega
    · rw [if_neg c]
      have ne : v ≠ u := fun q => c (by rw [q]; exact hu)
      exact ih (v + 1) u hu (by omega) (by omega) (fun z hz hv => hm z hz (by omega))
/-- some way below k leads from s to v -/
def mn_aj (J : Nat → Int → Int) (s v : Int) : Nat → Bool
  | 0 => false
  | k + 1 => mn_aj J s v k || (mn_at J s k && decide (mn_ac J (k : Int) s = v))
theorem mn_ajI : ∀ k : Nat, mn_aj J s v k = true ↔ ∃ w : Nat, w < k ∧ mn_at J s w = true ∧ mn_ac J (w : Int) s = v := by
  intro k
  induction k with
  | zero => exact ⟨fun h => (by cases h), fun ⟨w, h, _⟩ => by omega⟩
  | succ k ih =>
    show (mn_aj J s v k || (mn_at J s k && decide (mn_ac J (k : Int) s = v))) = true ↔ _
    rw [Bool.or_eq_true, ih, Bool.and_eq_true, decide_eq_true_eq]
    constructor
    · rintro (⟨w, h1, h2⟩ | ⟨h1, h2⟩)
      · exact ⟨w, by omega, h2⟩
      · exact ⟨k, by omega, h1, h2⟩
    · rintro ⟨w, h1, h2, h3⟩
      by_cases e : w = k
      · subst e; exact Or.inr ⟨h2, h3⟩
      · exact Or.inl ⟨w, by omega, h2, h3⟩
/-- a next stretch on a shortest way -/
def mn_P (J : Nat → Int → Int) (s t v : Int) : Bool := mn_aj J s v (J 1 1).toNat && decide (mn_d J 13 v t = mn_d J 13 s t - 1)
def mn_nx (J : Nat → Int → Int) (s t : Int) : Int := mn_le (mn_P J s t) 12 0
theorem mn_atE {w : Nat} : mn_at J s w = true ↔ (J 4 (w : Int) = s ∨ J 5 (w : Int) = s) := by
  unfold mn_at
  rw [Bool.or_eq_true, decide_eq_true_eq, decide_eq_true_eq]
theorem mn_acB (hW : mn_W J) {w : Nat} (h : (w : Int) < J 1 1) (ha : mn_at J s w = true) : 0 ≤ mn_ac J w s ∧ mn_ac J w s < J 1 0 ∧ mn_E J (fun _ => true) (J 1 1) s (mn_ac J w s) := by
  obtain ⟨_, _, _, h4, _⟩ := hW
  have b := h4 w (by omega) h
  unfold mn_ac
  by_cases c : J 4 (w : Int) = s
  · rw [if_pos c]
    exact ⟨b.2.1.1, b.2.1.2, w, by omega, h, rfl, Or.inl ⟨c, rfl⟩⟩
  · rw [if_neg c]
    have d := (mn_atE.mp ha).resolve_left c
    rw [if_pos d]
    exact ⟨b.1.1, b.1.2, w, by omega, h, rfl, Or.inr ⟨rfl, d⟩⟩
theorem mn_PI (hW : mn_W J) : mn_P J s t v = true ↔ ∃ w : Nat, (w : Int) < J 1 1 ∧ mn_at J s w = true ∧ mn_ac J (w : Int) s = v ∧ mn_d J 13 v t = mn_d J 13 s t - 1 := by
  obtain ⟨_, h1, _⟩ := hW
  unfold mn_P
  rw [Bool.and_eq_true, mn_ajI, decide_eq_true_eq]
  constructor
  · rintro ⟨⟨w, a, b, c⟩, d⟩
    exact ⟨w, by omega, b, c, d⟩
  · rintro ⟨w, a, b, c, d⟩
    exact ⟨⟨w, by omega, b, c⟩, d⟩
/-- there is a next one, unless it is there or can't be come to -/
theorem mn_Pex (hW : mn_W J) (s0 : 0 ≤ s) (s1 : s < J 1 0) (t0 : 0 ≤ t) (t1 : t < J 1 0) (ne : s ≠ t) (hf : mn_d J 13 s t < 1000) : ∃ v, mn_P J s t v = true := by
  have hW' := hW
  obtain ⟨_, _, _, h4, _, h6, _⟩ := hW
  rcases h6.2.2.2.2.2 s t s0 s1 t0 t1 ne with q | ⟨v, ⟨w, w0, w1, _, hw⟩, hv⟩
  · omega
  · obtain ⟨n, rfl⟩ := Int.eq_ofNat_of_zero_le w0
    refine ⟨v, (mn_PI hW').mpr ⟨n, w1, mn_atE.mpr ?_, ?_, hv⟩⟩
    · rcases hw with ⟨a, _⟩ | ⟨_, a⟩
      · exact Or.inl a
      · exact Or.inr a
    · unfold mn_ac
      have := (h4 n w0 w1).2.2
      rcases hw with ⟨a, b⟩ | ⟨a, b⟩
      · rw [if_pos a]; exact b
      · rw [if_neg (by omega), if_pos b]; exact a
/-- the lowest of them is it -/
theorem mn_nxU (hW : mn_W J) {u : Int} (hu : mn_P J s t u = true) (hm : ∀ z, mn_P J s t z = true → u ≤ z) : mn_nx J s t = u := by
  obtain ⟨w, a, b, c, _⟩ := (mn_PI hW).mp hu
  have B := mn_acB hW a b
  have h0 := hW.1
  exact mn_leS 12 0 u hu (by omega) (by omega) (fun z hz _ => hm z hz)
/-- one way on of a person that is sent -/
def mn_go (J : Nat → Int → Int) (p : Int) (f : Int → Int) : Int → Int :=
  if f (12 + 2 * p + 1) = -1 ∨ f (12 + 2 * p) = f (12 + 2 * p + 1) ∨ 1000 ≤ mn_d J 13 (f (12 + 2 * p)) (f (12 + 2 * p + 1)) then f else ds_u1 f (12 + 2 * p) (mn_nx J (f (12 + 2 * p)) (f (12 + 2 * p + 1)))
def mn_pp (J : Nat → Int → Int) : Nat → Int → (Int → Int) → Int → Int
  | 0, _, f => f
  | k + 1, p, f => mn_pp J k (p + 1) (if J 8 p = 0 then mn_go J p f else mn_go J p (mn_go J p f))
/-! bunches -/
/-- how many people are there; the nerves, the buckets of those -/
def mn_he (J : Nat → Int → Int) (f : Int → Int) (s : Int) : Nat → Int
  | 0 => 0
  | k + 1 => mn_he J f s k + (if f (12 + 2 * (k : Int)) = s then 1 else 0)
def mn_su (g : Int → Int) (f : Int → Int) (s : Int) : Nat → Int
  | 0 => 0
  | k + 1 => mn_su g f s k + (if f (12 + 2 * (k : Int)) = s then g k else 0)
/-- the names of takes: by the reference's numbers -/
def mn_nt (J : Nat → Int → Int) (f : Int → Int) (size s came w : Int) (i : Int) : Int :=
  if i = 0 then size else if i = 1 then s else if i = 2 then J 2 s else if i = 3 then mn_he J f s (J 1 2).toNat
  else if i = 5 then J 2 (mn_ac J w s) else if i = 6 then mn_su (J 7) f (mn_ac J w s) (J 1 2).toNat else if i = 7 then mn_su (J 9) f (mn_ac J w s) (J 1 2).toNat
  else if i = 8 then (if mn_ac J w s = came then 1 else 0) else if i = 9 then w else 0
def mn_np (J : Nat → Int → Int) (f : Int → Int) (b : Int) (i : Int) : Int :=
  if i = 0 then f (3 * b) else if i = 1 then f (3 * b + 1) else if i = 2 then J 2 (f (3 * b + 1)) else if i = 3 then mn_he J f (f (3 * b + 1)) (J 1 2).toNat
  else if i = 4 then (if f (3 * b + 2) < 0 then 0 else mn_he J f (f (3 * b + 2)) (J 1 2).toNat) else 0
/-- the laws: pace and takes, within bounds -/
abbrev mn_X : Type := ((Int → Int) → Int) × ((Int → Int) → Int)
def mn_tk (J : Nat → Int → Int) (X : mn_X) (f : Int → Int) (size s came : Int) (w : Nat) : Int :=
  if mn_at J s w = false ∨ J 6 (w : Int) ≠ 0 ∨ bt_t (f 36) (w : Int) = true then 0 else X.2 (mn_nt J f size s came w)
def mn_an (x : Int) : Int := (x * 239 + 137).tmod 30203
/-- a move, from way w on, k ways left -/
def mn_mv (J : Nat → Int → Int) (X : mn_X) (b s : Int) : Nat → Nat → (Int → Int) → Int → Int
  | 0, _, f => f
  | k + 1, w, f =>
    if mn_tk J X f (f (3 * b)) s (f (3 * b + 2)) w = 0 then mn_mv J X b s k (w + 1) f
    else if 10 ≤ mn_tk J X f (f (3 * b)) s (f (3 * b + 2)) w then ds_u1 (ds_u1 f (3 * b + 1) (mn_ac J w s)) (3 * b + 2) s
    else if (f 38).tmod 10 < mn_tk J X f (f (3 * b)) s (f (3 * b + 2)) w then ds_u1 (ds_u1 (ds_u1 f 38 (mn_an (f 38))) (3 * b + 1) (mn_ac J w s)) (3 * b + 2) s
    else mn_mv J X b s k (w + 1) (ds_u1 f 38 (mn_an (f 38)))
def mn_m1 (J : Nat → Int → Int) (X : mn_X) (b : Int) (f : Int → Int) : Int → Int := mn_mv J X b (f (3 * b + 1)) (J 1 1).toNat 0 f
def mn_rp (F : (Int → Int) → Int → Int) : Nat → (Int → Int) → Int → Int
  | 0, f => f
  | k + 1, f => mn_rp F k (F f)
/-- all bunches move -/
def mn_bb (J : Nat → Int → Int) (X : mn_X) : Nat → Int → (Int → Int) → Int → Int
  | 0, _, f => f
  | k + 1, b, f => mn_bb J X k (b + 1) (if f (3 * b) ≤ 0 then f else mn_rp (mn_m1 J X b) (X.1 (mn_np J f b)).toNat f)
/-- harm -/
def mn_hb (J : Nat → Int → Int) : Nat → Int → (Int → Int) → Int → Int
  | 0, _, f => f
  | k + 1, b, f => mn_hb J k (b + 1) (if f (3 * b) ≤ 0 then f else ds_u1 f (24 + f (3 * b + 1)) (lf_w (f (24 + f (3 * b + 1)) + f (3 * b) * J 3 (f (3 * b + 1)))))
/-- bunches at one stretch are one -/
def mn_jc (b : Int) : Nat → Int → (Int → Int) → Int → Int
  | 0, _, f => f
  | k + 1, c, f => mn_jc b k (c + 1) (if f (3 * b) ≤ 0 ∨ f (3 * c) ≤ 0 ∨ f (3 * c + 1) ≠ f (3 * b + 1) then f else ds_u1 (ds_u1 (ds_u1 (ds_u1 f (3 * b) (f (3 * b) + f (3 * c))) (3 * c) 0) (3 * c + 1) (-1)) (3 * c + 2) (-1))
def mn_jb : Nat → Int → (Int → Int) → Int → Int
  | 0, _, f => f
  | k + 1, b, f => mn_jb k (b + 1) (mn_jc b (3 - b).toNat (b + 1) f)
def mn_min (J : Nat → Int → Int) (X : mn_X) (f : Int → Int) : Int → Int :=
  let g := mn_jb 4 0 (mn_hb J 4 0 (mn_bb J X 4 0 (mn_pp J (J 1 2).toNat 0 f)))
  ds_u1 g 37 (lf_w (g 37 + 1))
end MN
/-! people go on: the class -/
section GC
variable {J : Nat → Int → Int} {s t : lf_Z} {f : Int → Int} {a b p : Int}
/-- the land's cells are J's -/
def gc_J (J : Nat → Int → Int) (s : lf_Z) : Prop := ∀ c : Nat, (1 ≤ c ∧ c < 14) → s.1 c = J c
theorem gc_Jg (h : gc_J J s) (g : rc_g s t) : gc_J J t := fun c hc => (g.1 c (Or.inl (by omega))).trans (h c hc)
theorem fl_18 {Q : Bool → lf_Z → Prop} (h : Q (decide (0 ≤ a) && decide (a < s.1 1 0)) s) : fw_18 a Q s := by
  unfold fw_18
  intro _
  refine ⟨fun c => ?_, fun c _ => ⟨fun d => ?_, fun d => ?_⟩⟩
  · rw [decide_eq_false (show ¬ 0 ≤ a by omega)] at h; exact h
  · rw [decide_eq_false (show ¬ a < s.1 1 0 by omega), Bool.and_false] at h; exact h
  · rw [decide_eq_true (show 0 ≤ a by omega), decide_eq_true (show a < s.1 1 0 by omega)] at h; exact h
theorem fl_79 {Q : Bool → lf_Z → Prop} (h : Q (decide (0 ≤ a) && decide (a < s.1 1 1)) s) : fw_79 a Q s := by
  unfold fw_79
  intro _
  refine ⟨fun c => ?_, fun c _ => ⟨fun d => ?_, fun d => ?_⟩⟩
  · rw [decide_eq_false (show ¬ 0 ≤ a by omega)] at h; exact h
  · rw [decide_eq_false (show ¬ a < s.1 1 1 by omega), Bool.and_false] at h; exact h
  · rw [decide_eq_true (show 0 ≤ a by omega), decide_eq_true (show a < s.1 1 1 by omega)] at h; exact h
theorem fl_99 {Q : Bool → lf_Z → Prop} (h : Q (decide (0 ≤ a) && decide (a < s.1 1 2)) s) : fw_99 a Q s := by
  unfold fw_99
  intro _
  refine ⟨fun c => ?_, fun c _ => ⟨fun d => ?_, fun d => ?_⟩⟩
  · rw [decide_eq_false (show ¬ 0 ≤ a by omega)] at h; exact h
  · rw [decide_eq_false (show ¬ a < s.1 1 2 by omega), Bool.and_false] at h; exact h
  · rw [decide_eq_true (show 0 ≤ a by omega), decide_eq_true (show a < s.1 1 2 by omega)] at h; exact h
theorem fl_89 {Q : Bool → lf_Z → Prop} (h : Q (decide (0 ≤ a) && decide (a < s.1 1 1) && decide (s.1 6 a = 0)) s) : fw_89 a Q s := by
  unfold fw_89
  intro _
  refine ⟨fun c => ?_, fun c _ => ⟨fun d => ?_, fun d _ _ => ⟨fun e => ?_, fun e => ?_⟩⟩⟩
  · rw [decide_eq_false (show ¬ 0 ≤ a by omega)] at h; exact h
  · rw [decide_eq_false (show ¬ a < s.1 1 1 by omega), Bool.and_false] at h; exact h
  · rw [decide_eq_false e, Bool.and_false] at h; exact h
  · rw [decide_eq_true (show 0 ≤ a by omega), decide_eq_true (show a < s.1 1 1 by omega), decide_eq_true (Classical.not_not.mp e)] at h; exact h
/-- the other side -/
theorem fl_78 {Q : Int → lf_Z → Prop} (h : Q (if 0 ≤ a ∧ a < s.1 1 1 then mn_ac s.1 a b else -1) s) : fw_78 a b Q s := by
  unfold fw_78
  refine fl_79 ⟨fun z _ _ _ => ⟨fun c _ => ⟨fun d => ?_, fun d => ?_⟩, fun c => ?_⟩, fun z => ?_⟩
  · rw [Bool.and_eq_true, decide_eq_true_eq, decide_eq_true_eq] at z
    rw [if_pos z] at h
    unfold mn_ac at h
    rw [if_neg c, if_neg d] at h; exact h
  · rw [Bool.and_eq_true, decide_eq_true_eq, decide_eq_true_eq] at z
    rw [if_pos z] at h
    unfold mn_ac at h
    rw [if_neg c, if_pos (Classical.not_not.mp d)] at h; exact h
  · rw [Bool.and_eq_true, decide_eq_true_eq, decide_eq_true_eq] at z
    rw [if_pos z] at h
    unfold mn_ac at h
    rw [if_pos (Classical.not_not.mp c)] at h; exact h
  · rw [if_neg (fun w => by rw [decide_eq_true w.1, decide_eq_true w.2] at z; cases z)] at h
    exact h
theorem mn_acJ (hJ : gc_J J s) : mn_ac s.1 a b = mn_ac J a b := by
  unfold mn_ac
  rw [hJ 4 (by omega), hJ 5 (by omega)]
theorem fl_76 {Q : Int → lf_Z → Prop} (h : Q (if 0 ≤ a ∧ a < s.1 1 0 then s.1 12 a else 0) s) : fw_76 a Q s := by
  unfold fw_76
  refine fl_18 ⟨fun z => ?_, fun z _ => ?_⟩
  · rw [if_neg (fun w => by rw [decide_eq_true w.1, decide_eq_true w.2] at z; cases z)] at h
    exact h
  · rw [Bool.and_eq_true, decide_eq_true_eq, decide_eq_true_eq] at z
    rw [if_pos z] at h; exact h
theorem fl_77 {Q : Int → lf_Z → Prop} (ha : 0 ≤ a ∧ a < s.1 1 0) (hb : 0 ≤ b) (h : b < s.1 12 a) (k : Q (s.1 11 (a * 4 + b)) s) : fw_77 a b Q s := by
  unfold fw_77
  refine fl_18 ⟨fun z => ?_, fun z _ => ⟨fun c => by omega, fun _ _ _ => ⟨fun _ _ => k, fun c => absurd h c⟩⟩⟩
  rw [decide_eq_true ha.1, decide_eq_true ha.2] at z; cases z
theorem fl_75 {Q : Int → lf_Z → Prop} (ha : 0 ≤ a ∧ a < s.1 1 0) (hb : 0 ≤ b ∧ b < s.1 1 0) (h : Q (s.1 13 (a * 12 + b)) s) : fw_75 a b Q s := by
  unfold fw_75
  refine fl_18 ⟨fun z => ?_, fun _ => fl_18 ⟨fun z => ?_, fun _ _ => h⟩⟩
  · rw [decide_eq_true ha.1, decide_eq_true ha.2] at z; cases z
  · rw [decide_eq_true hb.1, decide_eq_true hb.2] at z; cases z
/-- each place in the count is one way's -/
theorem dm_cnS {P : Nat → Bool} : ∀ (n i : Nat), i < dm_cn P n → ∃ w : Nat, w < n ∧ P w = true ∧ dm_cn P w = i := by
  intro n
  induction n with
  | zero => intro i h; exact absurd h (Nat.not_lt_zero _)
  | succ n ih =>
    intro i h
    have h : i < dm_cn P n + (if P n = true then 1 else 0) := h
    by_cases c : i < dm_cn P n
    · obtain ⟨w, h1, h2, h3⟩ := ih i c
      exact ⟨w, by omega, h2, h3⟩
    · by_cases d : P n = true
      · rw [if_pos d] at h
        exact ⟨n, by omega, d, by omega⟩
      · rw [if_neg d] at h; omega
theorem dm_cnG {P : Nat → Bool} {w n : Nat} (h : w < n) (hP : P w = true) : dm_cn P w < dm_cn P n := by
  induction n with
  | zero => omega
  | succ n ih =>
    show dm_cn P w < dm_cn P n + (if P n = true then 1 else 0)
    by_cases e : w = n
    · subst e; rw [if_pos hP]; omega
    · have := ih (by omega)
      omega
theorem mn_leN {P : Int → Bool} : ∀ (k : Nat) (v : Int), (∀ z, v ≤ z → z < v + k → P z = false) → mn_le P k v = -1 := by
  intro k
  induction k with
  | zero => intro v _; rfl
  | succ k ih =>
    intro v h
    show (if P v = true then v else mn_le P k (v + 1)) = -1
    rw [h v (Int.le_refl v) (by omega), if_neg (by decide)]
    exact ih (v + 1) (fun z h1 h2 => h z (by omega) (by omega))
theorem mn_nxN {x y : Int} (h : ∀ z, mn_P J x y z = false) : mn_nx J x y = -1 := mn_leN 12 0 (fun z _ _ => h z)
/-- towards a stretch -/
theorem fl_74 {Q : Int → lf_Z → Prop} (hJ : gc_J J s) (hW : mn_W J) (ha : 0 ≤ a ∧ a < J 1 0) (hb : 0 ≤ b ∧ b < J 1 0) (k : Q (if 1000 ≤ mn_d J 13 a b then -1 else mn_nx J a b) s) : fw_74 a b Q s := by
  have hW' := hW
  obtain ⟨w0, w1, _, w4, w5, w6, _⟩ := hW
  have e1 : s.1 1 = J 1 := hJ 1 (by omega)
  have e11 : s.1 11 = J 11 := hJ 11 (by omega)
  have e12 : s.1 12 = J 12 := hJ 12 (by omega)
  have e13 : s.1 13 = J 13 := hJ 13 (by omega)
  obtain ⟨c1, c2, c3⟩ := w5 a ha.1 (by omega)
  unfold fw_74
  refine fl_75 (by rw [e1]; exact ha) (by rw [e1]; exact hb) ?_
  rw [e13]
  have hd : J 13 (a * 12 + b) = mn_d J 13 a b := rfl
  rw [hd]
  refine ⟨fun x i u => u = s ∧ 0 ≤ i ∧ (1000 ≤ mn_d J 13 a b → x = -1) ∧ (x = -1 → ∀ w : Nat, (w : Int) < J 1 1 → mn_at J a w = true → (dm_cn (mn_at J a) w : Int) < i → mn_d J 13 (mn_ac J w a) b ≠ mn_d J 13 a b - 1) ∧ (x ≠ -1 → mn_P J a b x = true ∧ ∀ w : Nat, (w : Int) < J 1 1 → mn_at J a w = true → (dm_cn (mn_at J a) w : Int) < i → mn_d J 13 (mn_ac J w a) b = mn_d J 13 a b - 1 → x ≤ mn_ac J w a), ?_, ⟨rfl, Int.le_refl 0, fun _ => rfl, fun _ w _ _ h => by omega, fun h => absurd rfl h⟩⟩
  intro x i u ⟨eu, i0, x0, xN, xY⟩
  rw [eu]
  unfold fw_74_p13
  refine fl_76 ?_
  rw [e1, e12, if_pos ha]
  intro _ _
  refine ⟨fun c => ?_, fun c _ => ⟨fun d => ?_, fun d => ?_⟩⟩
  · by_cases q : 1000 ≤ mn_d J 13 a b
    · rw [if_pos q] at k
      rw [x0 q]; exact k
    · rw [if_neg q] at k
      have all : ∀ w : Nat, (w : Int) < J 1 1 → mn_at J a w = true → (dm_cn (mn_at J a) w : Int) < i := fun w h1 h2 => by
        have := dm_cnG (P := mn_at J a) (w := w) (n := (J 1 1).toNat) (by omega) h2
        omega
      by_cases y : x = -1
      · have : mn_nx J a b = -1 := mn_nxN (fun z => by
          cases hz : mn_P J a b z with
          | false => rfl
          | true =>
            obtain ⟨w, g1, g2, g3, g4⟩ := (mn_PI hW').mp hz
            exact absurd (by rw [g3]; exact g4) (xN y w g1 g2 (all w g1 g2)))
        rw [y, ← this]; exact k
      · obtain ⟨y1, y2⟩ := xY y
        have : mn_nx J a b = x := mn_nxU hW' y1 (fun z hz => by
          obtain ⟨w, g1, g2, g3, g4⟩ := (mn_PI hW').mp hz
          rw [← g3]
          exact y2 w g1 g2 (all w g1 g2) (by rw [g3]; exact g4))
        rw [← this]; exact k
  · rw [if_pos d] at k
    rw [x0 d]; exact k
  · obtain ⟨n, hn⟩ := Int.eq_ofNat_of_zero_le i0
    obtain ⟨w, g1, g2, g3⟩ := dm_cnS (P := mn_at J a) (J 1 1).toNat n (by omega)
    have gw := c3 w (by omega) g2
    rw [g3, ← hn] at gw
    have B := mn_acB hW' (show (w : Int) < J 1 1 by omega) g2
    refine fl_77 (by rw [e1]; exact ha) i0 (by rw [e12]; omega) (fl_78 ?_)
    rw [e11, gw, e1, if_pos ⟨by omega, by omega⟩, mn_acJ hJ]
    refine fl_75 (by rw [e1]; exact ⟨B.1, B.2.1⟩) (by rw [e1]; exact hb) ?_
    rw [e13]
    have hd2 : J 13 (mn_ac J (w : Int) a * 12 + b) = mn_d J 13 (mn_ac J w a) b := rfl
    rw [hd2]
    -- what the next place knows
    have step : ∀ x' : Int, (x' = -1 → x = -1 ∧ mn_d J 13 (mn_ac J w a) b ≠ mn_d J 13 a b - 1) → (x' ≠ -1 → mn_P J a b x' = true ∧ (x ≠ -1 → x' ≤ x) ∧ (mn_d J 13 (mn_ac J w a) b = mn_d J 13 a b - 1 → x' ≤ mn_ac J w a)) → (fun x i u => u = s ∧ 0 ≤ i ∧ (1000 ≤ mn_d J 13 a b → x = -1) ∧ (x = -1 → ∀ w : Nat, (w : Int) < J 1 1 → mn_at J a w = true → (dm_cn (mn_at J a) w : Int) < i → mn_d J 13 (mn_ac J w a) b ≠ mn_d J 13 a b - 1) ∧ (x ≠ -1 → mn_P J a b x = true ∧ ∀ w : Nat, (w : Int) < J 1 1 → mn_at J a w = true → (dm_cn (mn_at J a) w : Int) < i → mn_d J 13 (mn_ac J w a) b = mn_d J 13 a b - 1 → x ≤ mn_ac J w a)) x' (i + 1) s := by
      intro x' h1 h2
      have only : ∀ v : Nat, (v : Int) < J 1 1 → mn_at J a v = true → (dm_cn (mn_at J a) v : Int) < i + 1 → (dm_cn (mn_at J a) v : Int) < i ∨ v = w := by
        intro v v1 v2 v3
        by_cases q : (dm_cn (mn_at J a) v : Int) < i
        · exact Or.inl q
        · right
          have e := c3 v v1 v2
          rw [show (dm_cn (mn_at J a) v : Int) = i by omega, gw] at e
          omega
      refine ⟨rfl, by omega, fun q => absurd q d, fun q v v1 v2 v3 => ?_, fun q => ⟨(h2 q).1, fun v v1 v2 v3 v4 => ?_⟩⟩
      · rcases only v v1 v2 v3 with y | y
        · exact xN (h1 q).1 v v1 v2 y
        · rw [y]; exact (h1 q).2
      · rcases only v v1 v2 v3 with y | y
        · by_cases xx : x = -1
          · exact absurd v4 (xN xx v v1 v2 y)
          · have := (xY xx).2 v v1 v2 y v4
            have := (h2 q).2.1 xx
            omega
        · rw [y] at v4 ⊢
          exact (h2 q).2.2 v4
    intro _ _
    refine ⟨fun y => ?_, fun y _ => ⟨fun z => ?_, fun z _ => ⟨fun z2 => ?_, fun z2 => ?_⟩⟩⟩
    · unfold fw_74_p73
      exact step x (fun q => ⟨q, y⟩) (fun q => ⟨(xY q).1, fun _ => Int.le_refl x, fun v => absurd v y⟩)
    · have y := Classical.not_not.mp y
      unfold fw_74_p70 fw_74_p73
      exact step _ (fun q => by omega) (fun _ => ⟨(mn_PI hW').mpr ⟨w, by omega, g2, rfl, y⟩, fun q => absurd z q, fun _ => Int.le_refl _⟩)
    · unfold fw_74_p73
      exact step x (fun q => absurd q z) (fun _ => ⟨(xY z).1, fun _ => Int.le_refl x, fun _ => z2⟩)
    · have y := Classical.not_not.mp y
      unfold fw_74_p70 fw_74_p73
      exact step _ (fun q => by omega) (fun _ => ⟨(mn_PI hW').mpr ⟨w, by omega, g2, rfl, y⟩, fun _ => by omega, fun _ => Int.le_refl _⟩)
/-- places of people -/
def gc_P (J : Nat → Int → Int) (f : Int → Int) : Prop := ∀ q : Int, 0 ≤ q → q < J 1 2 → (0 ≤ f (12 + 2 * q) ∧ f (12 + 2 * q) < J 1 0) ∧ -1 ≤ f (12 + 2 * q + 1) ∧ f (12 + 2 * q + 1) < J 1 0
theorem gc_19 {v : Int} (hS : rc_S s.1 f) (p0 : 0 ≤ p) (p6 : p < 6) : rc_S (lf_up s.1 19 p v) (ds_u1 f (12 + 2 * p) v) := by
  obtain ⟨s1, s2, s3, s4, s5, s6⟩ := hS
  have e : ∀ j : Int, j ≠ 12 + 2 * p → ds_u1 f (12 + 2 * p) v j = f j := fun j hj => if_neg hj
  refine ⟨fun b b0 b1 => ?_, fun q q0 q1 => ⟨?_, ?_⟩, fun q q0 q1 => ?_, ?_, ?_, ?_⟩
  · rw [lf_up_c (by decide), lf_up_c (by decide), lf_up_c (by decide), e _ (by omega), e _ (by omega), e _ (by omega)]
    exact s1 b b0 b1
  · by_cases y : q = p
    · rw [y, lf_up_s]; exact (if_pos rfl).symm
    · rw [lf_up_i y, e _ (by omega)]; exact (s2 q q0 q1).1
  · rw [lf_up_c (by decide), e _ (by omega)]; exact (s2 q q0 q1).2
  · rw [lf_up_c (by decide), e _ (by omega)]; exact s3 q q0 q1
  · rw [lf_up_c (by decide), e _ (by omega)]; exact s4
  · rw [lf_up_c (by decide), e _ (by omega)]; exact s5
  · rw [lf_up_c (by decide), e _ (by omega)]; exact s6
theorem mn_nxB (hW : mn_W J) {x y : Int} (x0 : 0 ≤ x) (x1 : x < J 1 0) (y0 : 0 ≤ y) (y1 : y < J 1 0) (ne : x ≠ y) (hf : mn_d J 13 x y < 1000) : 0 ≤ mn_nx J x y ∧ mn_nx J x y < J 1 0 := by
  obtain ⟨v, hv⟩ := mn_Pex hW x0 x1 y0 y1 ne hf
  have B : ∀ z, mn_P J x y z = true → 0 ≤ z ∧ z < J 1 0 := fun z hz => by
    obtain ⟨w, g1, g2, g3, _⟩ := (mn_PI hW).mp hz
    have := mn_acB hW g1 g2
    omega
  have key : ∀ (k : Nat) (u : Int), 0 ≤ u → (∃ z, mn_P J x y z = true ∧ u ≤ z ∧ z < u + k) → mn_P J x y (mn_le (mn_P J x y) k u) = true := by
    intro k
    induction k with
    | zero => intro u _ ⟨z, _, h1, h2⟩; omega
    | succ k ih =>
      intro u u0 ⟨z, hz, h1, h2⟩
      show mn_P J x y (if mn_P J x y u = true then u else mn_le (mn_P J x y) k (u + 1)) = true
      by_cases c : mn_P J x y u = true
      · rw [if_pos c]; exact c
      · rw [if_neg c]
        have : u ≠ z := fun q => c (by rw [q]; exact hz)
        exact ih (u + 1) (by omega) ⟨z, hz, by omega, by omega⟩
  have h0 := hW.1
  have bv := B v hv
  exact B _ (key 12 0 (Int.le_refl 0) ⟨v, hv, by omega, by omega⟩)
theorem gc_Pg (hW : mn_W J) (hP : gc_P J f) (p0 : 0 ≤ p) (p1 : p < J 1 2) : gc_P J (mn_go J p f) := by
  unfold mn_go
  by_cases c : f (12 + 2 * p + 1) = -1 ∨ f (12 + 2 * p) = f (12 + 2 * p + 1) ∨ 1000 ≤ mn_d J 13 (f (12 + 2 * p)) (f (12 + 2 * p + 1))
  · rw [if_pos c]; exact hP
  · rw [if_neg c]
    intro q q0 q1
    have h := hP q q0 q1
    have hp := hP p p0 p1
    have e : ∀ j : Int, j ≠ 12 + 2 * p → ds_u1 f (12 + 2 * p) (mn_nx J (f (12 + 2 * p)) (f (12 + 2 * p + 1))) j = f j := fun j hj => if_neg hj
    rw [e (12 + 2 * q + 1) (by omega)]
    refine ⟨?_, h.2⟩
    by_cases y : q = p
    · subst y
      rw [show ds_u1 f (12 + 2 * q) (mn_nx J (f (12 + 2 * q)) (f (12 + 2 * q + 1))) (12 + 2 * q) = mn_nx J (f (12 + 2 * q)) (f (12 + 2 * q + 1)) from if_pos rfl]
      exact mn_nxB hW hp.1.1 hp.1.2 (by omega) hp.2.2 (fun w => c (Or.inr (Or.inl w))) (by omega)
    · rw [e _ (by omega)]; exact h.1
theorem fl_73 {Q : lf_Z → Prop} (hJ : gc_J J s) (hW : mn_W J) (hS : rc_S s.1 f) (hP : gc_P J f) (p0 : 0 ≤ p) (p1 : p < J 1 2) (k : ∀ t : lf_Z, rc_g s t → rc_S t.1 (mn_go J p f) → Q t) : fw_73 p Q s := by
  have h2 := hW.2.2.1
  have a2 := hS.2.1 p p0 (by omega)
  have hp := hP p p0 p1
  unfold fw_73
  rw [a2.1, a2.2]
  unfold mn_go at k
  intro _ _
  refine ⟨fun c => ?_, fun c _ => ⟨fun d => fl_74 hJ hW hp.1 ⟨by omega, hp.2.2⟩ ?_, fun d => ?_⟩⟩
  · rw [if_pos (Or.inl c)] at k
    exact k s rc_gr hS
  · intro _
    by_cases q : 1000 ≤ mn_d J 13 (f (12 + 2 * p)) (f (12 + 2 * p + 1))
    · rw [if_pos q]
      rw [if_pos (Or.inr (Or.inr q))] at k
      exact ⟨fun _ => k s rc_gr hS, fun w => absurd rfl w⟩
    · rw [if_neg q]
      have B := mn_nxB hW hp.1.1 hp.1.2 (show 0 ≤ f (12 + 2 * p + 1) by omega) hp.2.2 (fun w => d w.symm) (by omega)
      rw [if_neg (fun w => by rcases w with w | w | w; exact c w; exact d w.symm; exact q w)] at k
      exact ⟨fun w => by omega, fun _ => k _ (rc_gu rc_gr (by omega)) (gc_19 hS p0 (by omega))⟩
  · rw [if_pos (Or.inr (Or.inl (Classical.not_not.mp d).symm))] at k
    exact k s rc_gr hS
end GC
/-! people go on: the reference -/
section GR
variable {J : Nat → Int → Int} {s t : lf_Z} {f A B : Int → Int} {a b p x : Int}
def rr_L (J : Nat → Int → Int) (A : Int → Int) : Prop :=
  A 0 = J 1 0 ∧ A 1 = J 1 1 ∧ A 2 = J 1 2 ∧ (∀ q : Int, 0 ≤ q → q < J 1 0 → A (14 + 3 * q) = J 2 q ∧ A (14 + 3 * q + 1) = J 3 q)
  ∧ (∀ w : Int, 0 ≤ w → w < J 1 1 → A (50 + 4 * w) = J 4 w ∧ A (50 + 4 * w + 1) = J 5 w ∧ A (50 + 4 * w + 2) = J 6 w)
  ∧ (∀ q : Int, 0 ≤ q → q < J 1 2 → A (126 + 6 * q + 0) = J 7 q ∧ A (126 + 6 * q + 1) = J 8 q ∧ A (126 + 6 * q + 2) = J 9 q ∧ A (126 + 6 * q + 5) = J 10 q)
/-- yes or no -/
def mn_B (J : Nat → Int → Int) : Prop := (∀ w : Int, J 6 w = 0 ∨ J 6 w = 1) ∧ ∀ q : Int, (J 8 q = 0 ∨ J 8 q = 1) ∧ (J 9 q = 0 ∨ J 9 q = 1)
theorem fl_187 {Q : Int → lf_Z → Prop} (hL : rr_L J (s.1 96)) (a0 : 0 ≤ a) (a1 : a < J 1 1) (h : Q (mn_ac J a b) s) : fw_187 a b Q s := by
  obtain ⟨w1, w2, _⟩ := hL.2.2.2.2.1 a a0 a1
  unfold mn_ac at h
  unfold fw_187
  rw [w1, w2]
  intro _ _ _ _
  refine ⟨fun c _ => ⟨fun d => ?_, fun d => ?_⟩, fun c => ?_⟩
  · rw [if_neg c, if_neg d] at h; exact h
  · rw [if_neg c, if_pos (Classical.not_not.mp d)] at h; exact h
  · rw [if_pos (Classical.not_not.mp c)] at h; exact h
theorem fl_252 {Q : Bool → lf_Z → Prop} (hL : rr_L J (s.1 96)) (a0 : 0 ≤ a) (a1 : a < J 1 1) (h : Q (decide (J 6 a = 1)) s) : fw_252 a Q s := by
  have w3 := (hL.2.2.2.2.1 a a0 a1).2.2
  unfold fw_252
  rw [w3]
  intro _ _
  refine ⟨fun c => ?_, fun c => ?_⟩
  · rw [decide_eq_false c] at h; exact h
  · rw [decide_eq_true (Classical.not_not.mp c)] at h; exact h
def gr_I (n0 : Int) (D : Int → Int) (k : Int) (F : Int → Int) : Prop := ∀ q : Int, 0 ≤ q → q < n0 → D q ≤ F q ∧ F q ≤ 1000 ∧ (D q ≤ k → D q < 1000 → F q = D q)
def gr_V (J : Nat → Int → Int) (ok : Int → Bool) (D : Int → Int) (k w : Int) (F : Int → Int) : Prop := ∀ v : Int, 0 ≤ v → v < w → ok v = true → (D (J 4 v) = k → D (J 5 v) = k + 1 → F (J 5 v) = k + 1) ∧ (D (J 5 v) = k → D (J 4 v) = k + 1 → F (J 4 v) = k + 1)
/-- only less, not below the distance: what is exact stays -/
theorem gr_Id {n0 : Int} {D F G : Int → Int} {k : Int} (h : gr_I n0 D k F) (e : ∀ q : Int, 0 ≤ q → q < n0 → D q ≤ G q ∧ G q ≤ F q) : gr_I n0 D k G := fun q q0 q1 => by
  have a := h q q0 q1
  have b := e q q0 q1
  refine ⟨b.1, by omega, fun c d => ?_⟩
  have := a.2.2 c d
  omega
/-- findFar -/
theorem fl_261 {d : Int → Int → Int} {ok : Int → Bool} {Q : lf_Z → Prop} (hL : rr_L J (s.1 96)) (hW : mn_W J) (hB : mn_B J) (hok : ∀ w : Int, ok w = (decide (b ≠ 0) || decide (J 6 w = 0))) (hM : dm_M (J 1 0) (mn_E J ok (J 1 1)) d) (a0 : 0 ≤ a) (a1 : a < J 1 0)
    (kk : ∀ t : lf_Z, (∀ c : Nat, c ≠ 108 → t.1 c = s.1 c) → t.2 = s.2 → (∀ q : Int, 0 ≤ q → q < J 1 0 → t.1 108 q = d q a) → Q t) : fw_261 a b Q s := by
  obtain ⟨w0, w1, w2, w4, _⟩ := hW
  have hM' := hM
  obtain ⟨m1, m2, m3, m4, m5, m6⟩ := hM
  have wE : ∀ w : Int, 0 ≤ w → w < J 1 1 → ok w = true → d (J 4 w) a ≤ d (J 5 w) a + 1 ∧ d (J 5 w) a ≤ d (J 4 w) a + 1 := by
    intro w x0 x1 x2
    have q := w4 w x0 x1
    have e1 := m5 (J 4 w) (J 5 w) ⟨w, x0, x1, x2, Or.inl ⟨rfl, rfl⟩⟩
    have e2 := m5 (J 5 w) (J 4 w) ⟨w, x0, x1, x2, Or.inr ⟨rfl, rfl⟩⟩
    have t1 := m4 (J 4 w) (J 5 w) a q.1.1 q.1.2 q.2.1.1 q.2.1.2 a0 a1
    have t2 := m4 (J 5 w) (J 4 w) a q.2.1.1 q.2.1.2 q.1.1 q.1.2 a0 a1
    omega
  have p34 : ∀ t : lf_Z, (∀ c : Nat, c ≠ 108 → t.1 c = s.1 c) → t.2 = s.2 → gr_I (J 1 0) (fun q => d q a) 0 (t.1 108) → fw_261_p34L Q b 0 t := by
    intro t tc t2 tI
    refine ⟨fun k t => 0 ≤ k ∧ k ≤ J 1 0 ∧ (∀ c : Nat, c ≠ 108 → t.1 c = s.1 c) ∧ t.2 = s.2 ∧ gr_I (J 1 0) (fun q => d q a) k (t.1 108), ?_, ⟨Int.le_refl 0, w0.1, tc, t2, tI⟩⟩
    intro k t ⟨k0, k1, tc, t2, tI⟩
    have e96 : t.1 96 = s.1 96 := tc 96 (by decide)
    unfold fw_261_p34
    rw [e96, hL.1]
    intro _ _
    refine ⟨fun c => kk t tc t2 (fun q q0 q1 => ?_), fun c => ?_⟩
    · have i := tI q q0 q1
      have b := m2 q a q0 q1 a0 a1
      by_cases f : d q a = 1000
      · have i1 : d q a ≤ t.1 108 q := i.1
        have i2 := i.2.1
        omega
      · have := dm_fin hM' q0 q1 a0 a1 f
        exact i.2.2 (by show d q a ≤ k; omega) (by show d q a < 1000; omega)
    · refine ⟨fun w t => 0 ≤ w ∧ w ≤ J 1 1 ∧ (∀ c : Nat, c ≠ 108 → t.1 c = s.1 c) ∧ t.2 = s.2 ∧ gr_I (J 1 0) (fun q => d q a) k (t.1 108) ∧ gr_V J ok (fun q => d q a) k w (t.1 108), ?_, ⟨Int.le_refl 0, w1.1, tc, t2, tI, fun v v0 v1 => by omega⟩⟩
      intro w t ⟨v0, v1, tc, t2, tI, tV⟩
      have e96 : t.1 96 = s.1 96 := tc 96 (by decide)
      have hL' : rr_L J (t.1 96) := by rw [e96]; exact hL
      unfold fw_261_p47
      rw [e96, hL.2.1]
      intro _ _
      refine ⟨fun c => ⟨by omega, by omega, tc, t2, fun q q0 q1 => ?_⟩, fun c => fl_252 hL' v0 (by omega) ?_⟩
      · have i := tI q q0 q1
        refine ⟨i.1, i.2.1, fun c1 c2 => ?_⟩
        by_cases y : d q a ≤ k
        · exact i.2.2 y c2
        · have c1 : d q a ≤ k + 1 := c1
          have c2 : d q a < 1000 := c2
          have ne : q ≠ a := fun w => by
            subst w
            have := m1 q q0 q1
            omega
          rcases m6 q a q0 q1 a0 a1 ne with w | ⟨u, ⟨g, g0, g1, g2, g3⟩, hu⟩
          · omega
          · have V := tV g g0 (by omega) g2
            show t.1 108 q = d q a
            rcases g3 with ⟨h4, h5⟩ | ⟨h4, h5⟩
            · have := V.2 (by show d (J 5 g) a = k; rw [h5]; omega) (by show d (J 4 g) a = k + 1; rw [h4]; omega)
              rw [h4] at this; omega
            · have := V.1 (by show d (J 4 g) a = k; rw [h4]; omega) (by show d (J 5 g) a = k + 1; rw [h5]; omega)
              rw [h5] at this; omega
      · -- one way
        have skip : ok w = false → (fun w t => 0 ≤ w ∧ w ≤ J 1 1 ∧ (∀ c : Nat, c ≠ 108 → t.1 c = s.1 c) ∧ t.2 = s.2 ∧ gr_I (J 1 0) (fun q => d q a) k (t.1 108) ∧ gr_V J ok (fun q => d q a) k w (t.1 108)) (w + 1) t := fun ho => by
          refine ⟨by omega, by omega, tc, t2, tI, fun v x0 x1 x2 => ?_⟩
          by_cases y : v = w
          · rw [y, ho] at x2; cases x2
          · exact tV v x0 (by omega) x2
        have relax : ok w = true → fw_261_p74 (fun k t => 0 ≤ k ∧ k ≤ J 1 0 ∧ (∀ c : Nat, c ≠ 108 → t.1 c = s.1 c) ∧ t.2 = s.2 ∧ gr_I (J 1 0) (fun q => d q a) k (t.1 108)) (fun w t => 0 ≤ w ∧ w ≤ J 1 1 ∧ (∀ c : Nat, c ≠ 108 → t.1 c = s.1 c) ∧ t.2 = s.2 ∧ gr_I (J 1 0) (fun q => d q a) k (t.1 108) ∧ gr_V J ok (fun q => d q a) k w (t.1 108)) Q b k w t := by
          intro ho
          obtain ⟨y1, y2, _⟩ := hL.2.2.2.2.1 w v0 (by omega)
          have q := w4 w v0 (by omega)
          have E := wE w v0 (by omega) ho
          have iu := tI (J 4 w) q.1.1 q.1.2
          have iv := tI (J 5 w) q.2.1.1 q.2.1.2
          unfold fw_261_p74
          rw [e96, y1, y2]
          intro _ _ _ _ _ _
          -- the second half, from any state in which the first is done
          have half : ∀ u : lf_Z, (∀ c : Nat, c ≠ 108 → u.1 c = s.1 c) → u.2 = s.2 → (∀ q : Int, 0 ≤ q → q < J 1 0 → d q a ≤ u.1 108 q ∧ u.1 108 q ≤ t.1 108 q) → u.1 108 (J 5 w) ≤ t.1 108 (J 4 w) + 1 → fw_261_p139 (fun k t => 0 ≤ k ∧ k ≤ J 1 0 ∧ (∀ c : Nat, c ≠ 108 → t.1 c = s.1 c) ∧ t.2 = s.2 ∧ gr_I (J 1 0) (fun q => d q a) k (t.1 108)) (fun w t => 0 ≤ w ∧ w ≤ J 1 1 ∧ (∀ c : Nat, c ≠ 108 → t.1 c = s.1 c) ∧ t.2 = s.2 ∧ gr_I (J 1 0) (fun q => d q a) k (t.1 108) ∧ gr_V J ok (fun q => d q a) k w (t.1 108)) Q b k w (J 4 w) (J 5 w) u := by
            intro u uc u2 ue u5
            have uI := gr_Id tI ue
            have ju := ue (J 4 w) q.1.1 q.1.2
            have jv := ue (J 5 w) q.2.1.1 q.2.1.2
            have fin : ∀ y : lf_Z, (∀ c : Nat, c ≠ 108 → y.1 c = s.1 c) → y.2 = s.2 → (∀ q : Int, 0 ≤ q → q < J 1 0 → d q a ≤ y.1 108 q ∧ y.1 108 q ≤ u.1 108 q) → y.1 108 (J 4 w) ≤ u.1 108 (J 5 w) + 1 → (fun w t => 0 ≤ w ∧ w ≤ J 1 1 ∧ (∀ c : Nat, c ≠ 108 → t.1 c = s.1 c) ∧ t.2 = s.2 ∧ gr_I (J 1 0) (fun q => d q a) k (t.1 108) ∧ gr_V J ok (fun q => d q a) k w (t.1 108)) (w + 1) y := by
              intro y yc y2 ye y4
              have yI := gr_Id uI ye
              refine ⟨by omega, by omega, yc, y2, yI, fun v x0 x1 x2 => ?_⟩
              have zu := ye (J 4 w) q.1.1 q.1.2
              have zv := ye (J 5 w) q.2.1.1 q.2.1.2
              by_cases e : v = w
              · rw [e]
                refine ⟨fun c1 c2 => ?_, fun c1 c2 => ?_⟩
                · have c1 : d (J 4 w) a = k := c1
                  have c2 : d (J 5 w) a = k + 1 := c2
                  have := iu.2.2 (by show d (J 4 w) a ≤ k; omega) (by show d (J 4 w) a < 1000; omega)
                  have this : t.1 108 (J 4 w) = d (J 4 w) a := this
                  omega
                · have c1 : d (J 5 w) a = k := c1
                  have c2 : d (J 4 w) a = k + 1 := c2
                  have := (uI (J 5 w) q.2.1.1 q.2.1.2).2.2 (by show d (J 5 w) a ≤ k; omega) (by show d (J 5 w) a < 1000; omega)
                  have this : u.1 108 (J 5 w) = d (J 5 w) a := this
                  omega
              · have V := tV v x0 (by omega) x2
                have q' := w4 v x0 (by omega)
                have a4 := ue (J 4 v) q'.1.1 q'.1.2
                have a5 := ue (J 5 v) q'.2.1.1 q'.2.1.2
                have b4 := ye (J 4 v) q'.1.1 q'.1.2
                have b5 := ye (J 5 v) q'.2.1.1 q'.2.1.2
                refine ⟨fun c1 c2 => ?_, fun c1 c2 => ?_⟩
                · have := V.1 c1 c2
                  have c2 : d (J 5 v) a = k + 1 := c2
                  omega
                · have := V.2 c1 c2
                  have c2 : d (J 4 v) a = k + 1 := c2
                  omega
            unfold fw_261_p139
            intro _ _ _ _
            refine ⟨fun c => ?_, fun c => ?_⟩
            · unfold fw_261_p174
              exact fin u uc u2 (fun q q0 q1 => ⟨(ue q q0 q1).1, Int.le_refl _⟩) c
            · unfold fw_261_p174
              refine fin _ (fun c hc => (zu_r hc).trans (uc c hc)) u2 (fun q q0 q1 => ?_) ?_
              · by_cases e : q = J 4 w
                · rw [e]
                  have : ((lf_up u.1 108 (J 4 w) (u.1 108 (J 5 w) + 1), u.2.1, u.2.2) : lf_Z).1 108 (J 4 w) = u.1 108 (J 5 w) + 1 := zu_s
                  rw [this]; omega
                · have : ((lf_up u.1 108 (J 4 w) (u.1 108 (J 5 w) + 1), u.2.1, u.2.2) : lf_Z).1 108 q = u.1 108 q := zu_i e
                  rw [this]
                  exact ⟨(ue q q0 q1).1, Int.le_refl _⟩
              · have : ((lf_up u.1 108 (J 4 w) (u.1 108 (J 5 w) + 1), u.2.1, u.2.2) : lf_Z).1 108 (J 4 w) = u.1 108 (J 5 w) + 1 := zu_s
                rw [this]; exact Int.le_refl _
          refine ⟨fun c => half t tc t2 (fun q q0 q1 => ⟨(tI q q0 q1).1, Int.le_refl _⟩) c, fun c => half _ (fun c hc => (zu_r hc).trans (tc c hc)) t2 (fun q q0 q1 => ?_) ?_⟩
          · by_cases e : q = J 5 w
            · rw [e]
              have : ((lf_up t.1 108 (J 5 w) (t.1 108 (J 4 w) + 1), t.2.1, t.2.2) : lf_Z).1 108 (J 5 w) = t.1 108 (J 4 w) + 1 := zu_s
              have iu1 : d (J 4 w) a ≤ t.1 108 (J 4 w) := iu.1
              rw [this]; omega
            · have : ((lf_up t.1 108 (J 5 w) (t.1 108 (J 4 w) + 1), t.2.1, t.2.2) : lf_Z).1 108 q = t.1 108 q := zu_i e
              rw [this]
              exact ⟨(tI q q0 q1).1, Int.le_refl _⟩
          · have : ((lf_up t.1 108 (J 5 w) (t.1 108 (J 4 w) + 1), t.2.1, t.2.2) : lf_Z).1 108 (J 5 w) = t.1 108 (J 4 w) + 1 := zu_s
            rw [this]; exact Int.le_refl _
        have B6 := hB.1 w
        refine ⟨fun z => relax ?_, fun z _ => ⟨fun z2 => relax ?_, fun z2 => ?_⟩⟩
        · rw [hok w]
          have z := of_decide_eq_false z
          rw [decide_eq_true (show J 6 w = 0 by omega), Bool.or_true]
        · rw [hok w, decide_eq_true z2, Bool.true_or]
        · unfold fw_261_p174
          refine skip ?_
          have z := of_decide_eq_true z
          rw [hok w, decide_eq_false z2, decide_eq_false (show ¬ J 6 w = 0 by omega)]; rfl
  unfold fw_261
  refine ⟨fun k t => 0 ≤ k ∧ k ≤ 12 ∧ (∀ c : Nat, c ≠ 108 → t.1 c = s.1 c) ∧ t.2 = s.2 ∧ ∀ q : Int, 0 ≤ q → q < k → t.1 108 q = if q = a then 0 else 1000, ?_, ⟨Int.le_refl 0, by decide, fun _ _ => rfl, rfl, fun q x y => by omega⟩⟩
  intro k t ⟨k0, k1, tc, t2, tq⟩
  unfold fw_261_p2
  intro _
  have fin : ∀ v : Int, v = (if k = a then 0 else 1000) → k < 12 → fw_261_p25 (fun k t => 0 ≤ k ∧ k ≤ 12 ∧ (∀ c : Nat, c ≠ 108 → t.1 c = s.1 c) ∧ t.2 = s.2 ∧ ∀ q : Int, 0 ≤ q → q < k → t.1 108 q = if q = a then 0 else 1000) Q a b k k v t := by
    intro v hv lt
    unfold fw_261_p25
    intro _
    refine ⟨by omega, by omega, fun c hc => (zu_r hc).trans (tc c hc), t2, fun q q0 q1 => ?_⟩
    by_cases y : q = k
    · rw [y]; exact zu_s.trans hv
    · exact (zu_i y).trans (tq q q0 (by omega))
  refine ⟨fun c => p34 t tc t2 (fun q q0 q1 => ?_), fun c _ => ⟨fun d => fin 1000 (by rw [if_neg d]) (by omega), fun d => fin 0 (by rw [if_pos (Classical.not_not.mp d)]) (by omega)⟩⟩
  rw [tq q q0 (by omega)]
  have b := m2 q a q0 q1 a0 a1
  show d q a ≤ (if q = a then 0 else 1000) ∧ (if q = a then (0 : Int) else 1000) ≤ 1000 ∧ (d q a ≤ 0 → d q a < 1000 → (if q = a then 0 else 1000) = d q a)
  by_cases y : q = a
  · rw [if_pos y, y, m1 a a0 a1]
    exact ⟨Int.le_refl 0, by decide, fun _ _ => rfl⟩
  · rw [if_neg y]
    have := b.2.2 y
    exact ⟨b.2.1, Int.le_refl _, fun c _ => by omega⟩
/-- a stand's cell of a person is told anew -/
theorem gr_at {n1 v : Int} (hS : rr_S n1 (J 1 2) f A) (p0 : 0 ≤ p) (p1 : p < J 1 2) (h16 : n1 ≤ 16) (h6 : J 1 2 ≤ 6) : rr_S n1 (J 1 2) (ds_u1 f (12 + 2 * p) v) (ds_u1 A (126 + 6 * p + 3) v) := by
  obtain ⟨s1, s2, s3, s4, s5, s6⟩ := hS
  have e : ∀ j : Int, j ≠ 12 + 2 * p → ds_u1 f (12 + 2 * p) v j = f j := fun j hj => if_neg hj
  have g : ∀ j : Int, j ≠ 126 + 6 * p + 3 → ds_u1 A (126 + 6 * p + 3) v j = A j := fun j hj => if_neg hj
  refine ⟨?_, ?_, fun b b0 b1 => ?_, fun q q0 q1 => ⟨?_, ?_⟩, fun q q0 q1 => ?_, fun w w0 w1 => ?_⟩
  · rw [g 3 (by omega), e 37 (by omega)]; exact s1
  · rw [g 6 (by omega), e 38 (by omega)]; exact s2
  · rw [g _ (by omega), g _ (by omega), g _ (by omega), e _ (by omega), e _ (by omega), e _ (by omega)]; exact s3 b b0 b1
  · by_cases y : q = p
    · rw [y]; exact (if_pos rfl).trans (if_pos rfl).symm
    · rw [g _ (by omega), e _ (by omega)]; exact (s4 q q0 q1).1
  · rw [g _ (by omega), e _ (by omega)]; exact (s4 q q0 q1).2
  · rw [g _ (by omega), e _ (by omega)]; exact s5 q q0 q1
  · rw [g _ (by omega), e _ (by omega)]; exact s6 w w0 w1
theorem gr_L {i v : Int} (hL : rr_L J A) (hW : mn_W J) (hi : (126 ≤ i ∧ i < 162 ∧ ((i - 126) % 6 = 3 ∨ (i - 126) % 6 = 4)) ∨ (114 ≤ i ∧ i < 126) ∨ i = 3 ∨ i = 6 ∨ (14 ≤ i ∧ i < 50 ∧ (i - 14) % 3 = 2) ∨ (50 ≤ i ∧ i < 114 ∧ (i - 50) % 4 = 3)) : rr_L J (ds_u1 A i v) := by
  obtain ⟨w0, w1, w2, _⟩ := hW
  obtain ⟨l0, l1, l2, l3, l4, l5⟩ := hL
  have g : ∀ j : Int, j ≠ i → ds_u1 A i v j = A j := fun j hj => if_neg hj
  refine ⟨(g 0 (by omega)).trans l0, (g 1 (by omega)).trans l1, (g 2 (by omega)).trans l2, fun q q0 q1 => ?_, fun w x0 x1 => ?_, fun q q0 q1 => ?_⟩
  · rw [g _ (by omega), g _ (by omega)]; exact l3 q q0 q1
  · rw [g _ (by omega), g _ (by omega), g _ (by omega)]; exact l4 w x0 x1
  · rw [g _ (by omega), g _ (by omega), g _ (by omega), g _ (by omega)]; exact l5 q q0 q1
/-- goOn: cells but row 96 are the same -/
theorem fl_262 {n1 : Int} {Q : lf_Z → Prop} (hL : rr_L J (s.1 96)) (hW : mn_W J) (hP : gc_P J f) (hS : rr_S n1 (J 1 2) f (s.1 96)) (h16 : n1 ≤ 16) (p0 : 0 ≤ p) (p1 : p < J 1 2) (hn : f (12 + 2 * p + 1) ≠ -1) (hF : ∀ q : Int, 0 ≤ q → q < J 1 0 → s.1 108 q = mn_d J 13 q (f (12 + 2 * p + 1)))
    (k : ∀ t : lf_Z, rr_f s t → (∀ i : Int, i ≠ 126 + 6 * p + 3 → t.1 96 i = s.1 96 i) → rr_L J (t.1 96) → rr_S n1 (J 1 2) (mn_go J p f) (t.1 96) → Q t) : fw_262 p Q s := by
  have hW' := hW
  obtain ⟨w0, w1, w2, w4, _⟩ := hW
  have hp := hP p p0 p1
  obtain ⟨a3, a4⟩ := hS.2.2.2.1 p p0 p1
  unfold fw_262
  refine fl_239 (fl_239b ?_)
  rw [a3, a4]
  unfold mn_go at k
  intro _ _
  refine ⟨fun c => ?_, fun c _ _ => ?_⟩
  · rw [if_pos (Or.inr (Or.inl c))] at k
    exact k s rr_fr (fun _ _ => rfl) hL hS
  · rw [hF _ hp.1.1 hp.1.2]
    refine ⟨fun d => ?_, fun d => ?_⟩
    rotate_left
    · rw [if_pos (Or.inr (Or.inr (by omega)))] at k
      exact k s rr_fr (fun _ _ => rfl) hL hS
    rw [if_neg (fun w => by rcases w with w | w | w; exact hn w; exact c w; omega)] at k
    generalize hx : f (12 + 2 * p) = x at *
    generalize ht : f (12 + 2 * p + 1) = y at *
    have ne : x ≠ y := c
    obtain ⟨v, hv⟩ := mn_Pex hW' hp.1.1 hp.1.2 (by omega) hp.2.2 ne d
    refine ⟨fun z w u => u = s ∧ 0 ≤ w ∧ w ≤ J 1 1 ∧ (z = 12 → ∀ g : Nat, (g : Int) < w → mn_at J x g = true → mn_d J 13 (mn_ac J g x) y ≠ mn_d J 13 x y - 1) ∧ (z ≠ 12 → mn_P J x y z = true ∧ ∀ g : Nat, (g : Int) < w → mn_at J x g = true → mn_d J 13 (mn_ac J g x) y = mn_d J 13 x y - 1 → z ≤ mn_ac J g x) ∧ z ≤ 12, ?_, ⟨rfl, Int.le_refl 0, w1.1, fun _ g h => by omega, fun h => absurd rfl h, Int.le_refl 12⟩⟩
    intro z w u ⟨eu, g0, g1, zN, zY, z12⟩
    rw [eu]
    unfold fw_262_p36
    rw [hL.2.1]
    intro _ _
    refine ⟨fun e => ?_, fun e => fl_187 hL g0 (by omega) ?_⟩
    · have hw : w = J 1 1 := by omega
      subst hw
      have zz : z = mn_nx J x y := by
        by_cases q : z = 12
        · obtain ⟨g, h1, h2, h3, h4⟩ := (mn_PI hW').mp hv
          exact absurd (by rw [h3]; exact h4) (zN q g h1 h2)
        · obtain ⟨z1, z2⟩ := zY q
          exact (mn_nxU hW' z1 (fun r hr => by
            obtain ⟨g, h1, h2, h3, h4⟩ := (mn_PI hW').mp hr
            rw [← h3]
            exact z2 g h1 h2 (by rw [h3]; exact h4))).symm
      refine fl_191d (k _ (rr_fu rr_fr) (fun i hi => zu_i hi) ?_ ?_)
      · have : ((lf_up s.1 96 (126 + 6 * p + 3) z, s.2.1, s.2.2) : lf_Z).1 96 = ds_u1 (s.1 96) (126 + 6 * p + 3) z := (tp_row : lf_up s.1 96 (126 + 6 * p + 3) z 96 = ds_u1 (s.1 96) (126 + 6 * p + 3) z)
        rw [this]
        exact gr_L hL hW' (Or.inl ⟨by omega, by omega, by omega⟩)
      · have : ((lf_up s.1 96 (126 + 6 * p + 3) z, s.2.1, s.2.2) : lf_Z).1 96 = ds_u1 (s.1 96) (126 + 6 * p + 3) z := (tp_row : lf_up s.1 96 (126 + 6 * p + 3) z 96 = ds_u1 (s.1 96) (126 + 6 * p + 3) z)
        rw [this, ← zz]
        exact gr_at hS p0 p1 h16 w2.2
    · obtain ⟨g, rfl⟩ := Int.eq_ofNat_of_zero_le g0
      have q4 := w4 g (by omega) (by omega)
      have only : ∀ r : Nat, (r : Int) < (g : Int) + 1 → (r : Int) < g ∨ r = g := fun r hr => by omega
      have atI : mn_at J x g = true ↔ 0 ≤ mn_ac J g x := by
        rw [mn_atE]
        unfold mn_ac
        (repeat' split) <;> omega
      intro _
      have keep : ∀ z' : Int, z' = z → (mn_at J x g = true → mn_d J 13 (mn_ac J g x) y = mn_d J 13 x y - 1 → z ≠ 12 ∧ z ≤ mn_ac J g x) → (fun z w u => u = s ∧ 0 ≤ w ∧ w ≤ J 1 1 ∧ (z = 12 → ∀ g : Nat, (g : Int) < w → mn_at J x g = true → mn_d J 13 (mn_ac J g x) y ≠ mn_d J 13 x y - 1) ∧ (z ≠ 12 → mn_P J x y z = true ∧ ∀ g : Nat, (g : Int) < w → mn_at J x g = true → mn_d J 13 (mn_ac J g x) y = mn_d J 13 x y - 1 → z ≤ mn_ac J g x) ∧ z ≤ 12) z' ((g : Int) + 1) s := by
        intro z' ez hz
        rw [ez]
        refine ⟨rfl, by omega, by omega, fun q r r1 r2 r3 => ?_, fun q => ⟨(zY q).1, fun r r1 r2 r3 => ?_⟩, z12⟩
        · rcases only r r1 with y1 | y1
          · exact zN q r y1 r2 r3
          · rw [y1] at r2 r3
            exact (hz r2 r3).1 q
        · rcases only r r1 with y1 | y1
          · exact (zY q).2 r y1 r2 r3
          · rw [y1] at r2 r3 ⊢
            exact (hz r2 r3).2
      refine ⟨fun e1 => ?_, fun e1 _ _ => ?_⟩
      · unfold fw_262_p88
        exact keep z rfl (fun h1 _ => by have := atI.mp h1; omega)
      · have ha := atI.mpr (by omega)
        have B := mn_acB hW' (show (g : Int) < J 1 1 by omega) ha
        rw [hF _ B.1 B.2.1, hF _ hp.1.1 hp.1.2]
        intro _ _
        refine ⟨fun e2 => ?_, fun e2 _ => ⟨fun e3 => ?_, fun e3 => ?_⟩⟩
        · unfold fw_262_p88
          exact keep z rfl (fun _ h2 => absurd h2 e2)
        · unfold fw_262_p88
          exact keep z rfl (fun _ _ => ⟨fun q => by omega, e3⟩)
        · have e2 := Classical.not_not.mp e2
          unfold fw_262_p88
          refine ⟨rfl, by omega, by omega, fun q => by omega, fun _ => ⟨(mn_PI hW').mpr ⟨g, by omega, ha, rfl, e2⟩, fun r r1 r2 r3 => ?_⟩, by omega⟩
          rcases only r r1 with y1 | y1
          · by_cases q : z = 12
            · exact absurd r3 (zN q r y1 r2)
            · have := (zY q).2 r y1 r2 r3
              omega
          · rw [y1]; exact Int.le_refl _
end GR
/-! what a law's sum says; the class's orders as a machine over a list -/
section CM
variable {s t u : lf_Z} {R N L : Int → Int} {a b c p x lo hi : Int} {st : List Int}
/-- what binds two: by the token between them -/
def cm_cut (x : Int) : Int := max (-1000000) (min 1000000 x)
def cm_ar (t a b : Int) : Int := if t = 10 then cm_cut (a + b) else if t = 11 then cm_cut (a - b) else if t = 12 then cm_cut (a * b) else if b = 0 then 0 else a.tdiv b
def cm_cp (t a b : Int) : Bool := if t = 4 then decide (a < b) else if t = 5 then decide (a ≤ b) else if t = 6 then decide (b < a) else if t = 7 then decide (b ≤ a) else if t = 8 then decide (a = b) else decide (a ≠ b)
def cm_sm (a : Int) : Prop := -1000000 ≤ a ∧ a ≤ 1000000
theorem cm_cutS : cm_sm (cm_cut x) := by unfold cm_sm cm_cut; omega
theorem cm_dv (ha : cm_sm a) : cm_sm (a.tdiv b) := by
  unfold cm_sm at *
  have h : (a.tdiv b).natAbs ≤ a.natAbs := by
    rw [Int.natAbs_tdiv]
    exact Nat.div_le_self _ _
  omega
theorem cm_arS {t : Int} (ha : cm_sm a) : cm_sm (cm_ar t a b) := by
  unfold cm_ar
  split
  · exact cm_cutS
  · split
    · exact cm_cutS
    · split
      · exact cm_cutS
      · split
        · exact ⟨by decide, by decide⟩
        · exact cm_dv ha
theorem cm_mul (ha : cm_sm a) (hb : cm_sm b) : -1000000000000 ≤ a * b ∧ a * b ≤ 1000000000000 := by
  unfold cm_sm at *
  have h : (a * b).natAbs ≤ 1000000 * 1000000 := by
    rw [Int.natAbs_mul]
    exact Nat.mul_le_mul (by omega) (by omega)
  omega
/-- a truth as 0, 1 -/
theorem cm_b {v : Bool} : lf_b v = if v = true then 1 else 0 := by cases v <;> rfl
/-- the orders that bind two: the answer by the order's number -/
def cm_2 (k a b : Int) : Int := if k = 45 then lf_and a b else if k = 46 then lf_or a b else if 10 ≤ k then cm_ar k a b else lf_b (cm_cp k a b)
theorem fl_87 {k : Int} {Q : Int → lf_Z → Prop} (hk : (4 ≤ k ∧ k ≤ 13) ∨ k = 45 ∨ k = 46) (ha : cm_sm a) (hb : cm_sm b) (h : Q (cm_2 k a b) s) : fw_87 k a b Q s := by
  have key : ∀ v : Int, v = cm_2 k a b → Q v s := fun v e => by rw [e]; exact h
  have ab := cm_mul ha hb
  have dv := cm_dv (b := b) ha
  unfold cm_sm at ha hb dv
  have lt : ∀ (t : Int) (v : Bool), k = t → t ≤ 9 → v = cm_cp t a b → lf_b v = cm_2 k a b := fun t v e e2 ev => by
    unfold cm_2
    rw [e, if_neg (by omega), if_neg (by omega), if_neg (by omega), ev]
  unfold fw_87
  intro _
  refine ⟨fun q => by omega, fun e _ _ => ⟨fun c => key 0 ?_, fun c => key 1 ?_⟩, fun e _ _ => ⟨fun c => key 0 ?_, fun c => key 1 ?_⟩, fun e _ _ => ⟨fun c => key 0 ?_, fun c => key 1 ?_⟩, fun e _ _ => ⟨fun c => key 0 ?_, fun c => key 1 ?_⟩, fun e _ _ => ⟨fun c => key 0 ?_, fun c => key 1 ?_⟩, fun e => ?_, fun e _ => key _ ?_, fun e _ => key _ ?_, fun e _ _ => key _ ?_, fun e _ => ⟨fun c _ _ => key _ ?_, fun c => key 0 ?_⟩, ?_⟩
  · exact lt 4 false e (by decide) (show false = decide (a < b) from (decide_eq_false (by omega)).symm)
  · exact lt 4 true e (by decide) (show true = decide (a < b) from (decide_eq_true (by omega)).symm)
  · exact lt 5 false e (by decide) (show false = decide (a ≤ b) from (decide_eq_false (by omega)).symm)
  · exact lt 5 true e (by decide) (show true = decide (a ≤ b) from (decide_eq_true (by omega)).symm)
  · exact lt 6 false e (by decide) (show false = decide (b < a) from (decide_eq_false (by omega)).symm)
  · exact lt 6 true e (by decide) (show true = decide (b < a) from (decide_eq_true (by omega)).symm)
  · exact lt 7 false e (by decide) (show false = decide (b ≤ a) from (decide_eq_false (by omega)).symm)
  · exact lt 7 true e (by decide) (show true = decide (b ≤ a) from (decide_eq_true (by omega)).symm)
  · exact lt 8 false e (by decide) (show false = decide (a = b) from (decide_eq_false c).symm)
  · exact lt 8 true e (by decide) (show true = decide (a = b) from (decide_eq_true (Classical.not_not.mp c)).symm)
  · unfold fw_87_p310
    intro _ _
    refine ⟨fun c => key 0 ?_, fun c => key 1 ?_⟩
    · exact lt 9 false e (by decide) (show false = decide (a ≠ b) from (decide_eq_false (by omega)).symm)
    · exact lt 9 true e (by decide) (show true = decide (a ≠ b) from (decide_eq_true c).symm)
  · rw [tr_w (by omega)]
    unfold cm_2 cm_ar cm_cut
    rw [e]; rfl
  · rw [tr_w (by omega)]
    unfold cm_2 cm_ar cm_cut
    rw [e]; rfl
  · rw [lf_wlR (a := a * b) (by omega), lf_wlR (a := min 1000000 (a * b)) (by omega), lf_wlR (by omega), tr_w (by omega)]
    unfold cm_2 cm_ar cm_cut
    rw [e]; rfl
  · rw [tr_w (by omega)]
    unfold cm_2 cm_ar
    rw [e, if_neg (by decide), if_neg (by decide), if_pos (by decide), if_neg (by decide), if_neg (by decide), if_neg (by decide), if_neg c]
  · unfold cm_2 cm_ar
    rw [e, if_neg (by decide), if_neg (by decide), if_pos (by decide), if_neg (by decide), if_neg (by decide), if_neg (by decide), if_pos (Classical.not_not.mp c)]
  · refine ⟨fun e => by omega, fun e => by omega, fun e => by omega, fun e => by omega, fun e => by omega, fun e => by omega, fun e => by omega, fun e => by omega, fun e => by omega, fun e => by omega, fun e => by omega, fun e => by omega, fun e => by omega, fun e => by omega, fun e => by omega, fun e => by omega, fun e => by omega, fun e => by omega, fun e => by omega, fun e => by omega, fun e => by omega, fun e => by omega, fun e => by omega, fun e => by omega, fun e => by omega, fun e => by omega, fun e => by omega, fun e => by omega, fun e => by omega, fun e => by omega, fun e => by omega, fun e => key _ ?_, fun e => key _ ?_⟩
    · unfold cm_2; rw [if_pos e]
    · unfold cm_2; rw [if_neg (by omega), if_pos e]
/-- place, pile (top first), lets -/
abbrev cm_T : Type := Int × List Int × (Int → Int)
def cm_st (R N : Int → Int) (x : cm_T) : cm_T :=
  if (R x.1).tdiv 10000 = 2 then (x.1 + 1, (R x.1).tmod 10000 :: x.2.1, x.2.2)
  else if (R x.1).tdiv 10000 = 3 then (x.1 + 1, x.2.2 ((R x.1).tmod 10000) :: x.2.1, x.2.2)
  else if (R x.1).tdiv 10000 = 17 then (x.1 + 1, N ((R x.1).tmod 10000) :: x.2.1, x.2.2)
  else if (R x.1).tdiv 10000 = 39 then ((R x.1).tmod 10000, x.2.1, x.2.2)
  else match x.2.1 with
    | [] => x
    | v :: st =>
      if (R x.1).tdiv 10000 = 18 then (x.1 + 1, -v :: st, x.2.2)
      else if (R x.1).tdiv 10000 = 38 then (if v ≠ 0 then x.1 + 1 else (R x.1).tmod 10000, st, x.2.2)
      else if (R x.1).tdiv 10000 = 43 then (x.1 + 1, st, ds_u1 x.2.2 ((R x.1).tmod 10000) v)
      else if (R x.1).tdiv 10000 = 44 then (x.1 + 1, (1 - v) :: st, x.2.2)
      else match st with
        | [] => x
        | w :: st => (x.1 + 1, cm_2 ((R x.1).tdiv 10000) w v :: st, x.2.2)
/-- an order that can be done -/
def cm_or (R N : Int → Int) (lo hi : Int) (x : cm_T) : Prop :=
  (lo ≤ x.1 ∧ x.1 < hi) ∧ 0 ≤ R x.1 ∧ R x.1 < 1000000 ∧
  (((R x.1).tdiv 10000 = 2)
  ∨ ((R x.1).tdiv 10000 = 3 ∧ (R x.1).tmod 10000 < 8)
  ∨ ((R x.1).tdiv 10000 = 17 ∧ (R x.1).tmod 10000 < 11)
  ∨ ((R x.1).tdiv 10000 = 39)
  ∨ (((R x.1).tdiv 10000 = 18 ∨ (R x.1).tdiv 10000 = 38 ∨ ((R x.1).tdiv 10000 = 43 ∧ (R x.1).tmod 10000 < 8) ∨ (R x.1).tdiv 10000 = 44) ∧ ∃ v st, x.2.1 = v :: st ∧ cm_sm v)
  ∨ (((4 ≤ (R x.1).tdiv 10000 ∧ (R x.1).tdiv 10000 ≤ 13) ∨ (R x.1).tdiv 10000 = 45 ∨ (R x.1).tdiv 10000 = 46) ∧ ∃ v w st, x.2.1 = v :: w :: st ∧ cm_sm v ∧ cm_sm w))
def cm_go (R N : Int → Int) (lo hi : Int) : Nat → cm_T → cm_T → Prop
  | 0, x, y => x = y
  | k + 1, x, y => cm_or R N lo hi x ∧ cm_go R N lo hi k (cm_st R N x) y
theorem cm_goA {y z : cm_T} : ∀ (k j : Nat) (x : cm_T), cm_go R N lo hi k x y → cm_go R N lo hi j y z → cm_go R N lo hi (k + j) x z := by
  intro k
  induction k with
  | zero => intro j x h g; rw [Nat.zero_add]; rw [show x = y from h]; exact g
  | succ k ih =>
    intro j x h g
    rw [show k + 1 + j = (k + j) + 1 by omega]
    exact ⟨h.1, ih j _ h.2 g⟩
theorem cm_goW {y : cm_T} {lo' hi' : Int} (h1 : lo' ≤ lo) (h2 : hi ≤ hi') : ∀ (k : Nat) (x : cm_T), cm_go R N lo hi k x y → cm_go R N lo' hi' k x y := by
  intro k
  induction k with
  | zero => intro x h; exact h
  | succ k ih => intro x h; exact ⟨⟨⟨by have := h.1.1; omega, by have := h.1.1; omega⟩, h.1.2⟩, ih _ h.2⟩
theorem cm_goR {R' : Int → Int} {y : cm_T} (e : ∀ i : Int, lo ≤ i → i < hi → R' i = R i) : ∀ (k : Nat) (x : cm_T), cm_go R N lo hi k x y → cm_go R' N lo hi k x y := by
  intro k
  induction k with
  | zero => intro x h; exact h
  | succ k ih =>
    intro x h
    have ex : R' x.1 = R x.1 := e x.1 h.1.1.1 h.1.1.2
    refine ⟨?_, ?_⟩
    · unfold cm_or; rw [ex]; exact h.1
    · have : cm_st R' N x = cm_st R N x := by unfold cm_st; rw [ex]
      rw [this]; exact ih _ h.2
/-- the class's pile -/
def cm_k (F : Int → Int) : List Int → Prop
  | [] => True
  | v :: st => F st.length = v ∧ cm_k F st
theorem cm_kU {F : Int → Int} {v i : Int} : ∀ st : List Int, (st.length : Int) ≤ i → cm_k F st → cm_k (ds_u1 F i v) st := by
  intro st
  induction st with
  | nil => intro _ _; trivial
  | cons w st ih =>
    intro h k
    rw [List.length_cons] at h
    exact ⟨(if_neg (by omega)).trans k.1, ih (by omega) k.2⟩
end CM
/-! what takes and pace say: the class -/
section TK
variable {J : Nat → Int → Int} {s t u : lf_Z} {f : Int → Int} {X : mn_X} {I : Nat → Int → Int} {a b p x : Int}
/-- worths of names are small -/
def cm_nm (N : Int → Int) : Prop := ∀ i : Int, 0 ≤ i → i ≤ 9 → cm_sm (N i)
/-- the names of pace, of takes, by the class's numbers -/
def xc_n0 (N M : Int → Int) : Prop := ∀ i : Int, 0 ≤ i → i ≤ 4 → M i = N i
def xc_n1 (N M : Int → Int) : Prop := (∀ i : Int, 0 ≤ i → i ≤ 8 → i ≠ 4 → M i = N i) ∧ M 10 = N 9
/-- answer of the class, by a law of a script: V of the names -/
def xc_A (k : Nat) (l : Int) (R : (Int → Int) → (Int → Int) → Prop) (V : (Int → Int) → Int) (I : Nat → Int → Int) : Prop := ∀ (u : lf_Z) (Q : Int → lf_Z → Prop) (N : Int → Int), (∀ c : Nat, c = 36 + 7 * k ∨ c = 37 + 7 * k ∨ c = 38 + 7 * k → u.1 c = I c) → R N (u.1 64) → cm_nm N → (∀ (v : Int) (w : lf_Z), (∀ c : Nat, c ≠ 63 → c ≠ 65 → c ≠ 66 → w.1 c = u.1 c) → w.2 = u.2 → v = V N → Q v w) → fw_84b k l Q u
/-- the law that rules, in the class -/
def xc_X (X : mn_X) (I : Nat → Int → Int) (P : Nat → Option Nat) : Prop :=
  (P 3 = none → ∀ N, X.1 N = 1 ∧ X.2 N = if 0 < N 6 then 0 else 5)
  ∧ ∀ k : Nat, P 3 = some k → k < 4 ∧ (I (37 + 7 * k) 0 = -1 → ∀ N, X.1 N = 1) ∧ (I (37 + 7 * k) 1 = -1 → ∀ N, X.2 N = if 0 < N 6 then 0 else 5)
    ∧ (I (37 + 7 * k) 0 ≠ -1 → ∃ V, xc_A k 0 xc_n0 V I ∧ ∀ N, X.1 N = max 0 (min 2 (V N))) ∧ (I (37 + 7 * k) 1 ≠ -1 → ∃ V, xc_A k 1 xc_n1 V I ∧ ∀ N, X.2 N = max 0 (min 10 (V N)))
/-- the names of takes, with so many more here and so much nerve more there -/
def mn_ng (J : Nat → Int → Int) (f : Int → Int) (size s w back mh mv : Int) (i : Int) : Int :=
  if i = 0 then size else if i = 1 then s else if i = 2 then J 2 s else if i = 3 then mn_he J f s (J 1 2).toNat + mh
  else if i = 5 then J 2 (mn_ac J w s) else if i = 6 then mv + mn_su (J 7) f (mn_ac J w s) (J 1 2).toNat else if i = 7 then mn_su (J 9) f (mn_ac J w s) (J 1 2).toNat
  else if i = 8 then back else if i = 9 then w else 0
/-- nerves and kinds are small -/
def mn_V (J : Nat → Int → Int) : Prop := ∀ q : Int, (0 ≤ J 7 q ∧ J 7 q ≤ 9) ∧ 0 ≤ J 2 q ∧ J 2 q ≤ 9
theorem mn_suB {g : Int → Int} (h : ∀ q, 0 ≤ g q ∧ g q ≤ 9) : ∀ k : Nat, 0 ≤ mn_su g f x k ∧ mn_su g f x k ≤ 9 * k := by
  intro k
  induction k with
  | zero => exact ⟨Int.le_refl 0, Int.le_refl 0⟩
  | succ k ih =>
    have := h k
    show 0 ≤ mn_su g f x k + (if f (12 + 2 * (k : Int)) = x then g k else 0) ∧ mn_su g f x k + (if f (12 + 2 * (k : Int)) = x then g k else 0) ≤ 9 * ((k + 1 : Nat) : Int)
    split <;> omega
theorem mn_heB : ∀ k : Nat, 0 ≤ mn_he J f x k ∧ mn_he J f x k ≤ k := by
  intro k
  induction k with
  | zero => exact ⟨Int.le_refl 0, Int.le_refl 0⟩
  | succ k ih =>
    show 0 ≤ mn_he J f x k + (if f (12 + 2 * (k : Int)) = x then 1 else 0) ∧ mn_he J f x k + (if f (12 + 2 * (k : Int)) = x then 1 else 0) ≤ ((k + 1 : Nat) : Int)
    split <;> omega
/-- nothing but the laws' scratch -/
def tk_f (s t : lf_Z) : Prop := (∀ c : Nat, c ≠ 63 → c ≠ 64 → c ≠ 65 → c ≠ 66 → t.1 c = s.1 c) ∧ t.2 = s.2
theorem tk_fr : tk_f s s := ⟨fun _ _ _ _ _ => rfl, rfl⟩
theorem tk_ft (h : tk_f s t) (g : tk_f t u) : tk_f s u := ⟨fun c a b d e => (g.1 c a b d e).trans (h.1 c a b d e), g.2.trans h.2⟩
theorem tk_64 {i v : Int} (h : tk_f s t) : tk_f s (lf_up t.1 64 i v, t.2.1, t.2.2) := ⟨fun c a b d e => (zu_r b).trans (h.1 c a b d e), h.2⟩
theorem fl_83 {Q : Int → lf_Z → Prop} (hJ : gc_J J s) (hW : mn_W J) (hS : rc_S s.1 f) (h : Q (mn_he J f a (J 1 2).toNat) s) : fw_83 a Q s := by
  have w2 := hW.2.2.1
  unfold fw_83
  refine ⟨fun x k u => u = s ∧ ∃ n : Nat, k = n ∧ k ≤ J 1 2 ∧ x = mn_he J f a n, ?_, ⟨rfl, 0, rfl, w2.1, rfl⟩⟩
  intro x k u ⟨eu, n, ek, k1, ex⟩
  rw [eu]
  unfold fw_83_p4
  rw [hJ 1 (by omega)]
  intro _ _
  refine ⟨fun c => ?_, fun c _ _ _ => ?_⟩
  · have : n = (J 1 2).toNat := by omega
    rw [ex, this]; exact h
  · have e := (hS.2.1 k (by omega) (by omega)).1
    rw [e]
    refine ⟨fun d => ?_, fun d => ?_⟩
    · unfold fw_83_p31
      refine ⟨rfl, n + 1, by omega, by omega, ?_⟩
      show x = mn_he J f a n + (if f (12 + 2 * (n : Int)) = a then 1 else 0)
      rw [← ek, if_neg d]; omega
    · unfold fw_83_p31
      refine ⟨rfl, n + 1, by omega, by omega, ?_⟩
      show x + 1 = mn_he J f a n + (if f (12 + 2 * (n : Int)) = a then 1 else 0)
      rw [← ek, if_pos (Classical.not_not.mp d)]; omega
theorem rc_Sk (h : rc_S s.1 f) (g : tk_f s t) : rc_S t.1 f := by
  unfold rc_S at h ⊢
  rw [g.1 16 (by decide) (by decide) (by decide) (by decide), g.1 17 (by decide) (by decide) (by decide) (by decide), g.1 18 (by decide) (by decide) (by decide) (by decide), g.1 19 (by decide) (by decide) (by decide) (by decide), g.1 20 (by decide) (by decide) (by decide) (by decide), g.1 21 (by decide) (by decide) (by decide) (by decide), g.1 15 (by decide) (by decide) (by decide) (by decide)]
  exact h
theorem gc_Jk (h : gc_J J s) (g : tk_f s t) : gc_J J t := fun c hc => (g.1 c (by omega) (by omega) (by omega) (by omega)).trans (h c hc)
/-- the names in all -/
theorem fl_82 {mh : Int} {Q : lf_Z → Prop} (hJ : gc_J J s) (hW : mn_W J) (hS : rc_S s.1 f) (hb : 0 ≤ b ∧ b < J 1 0) (k : ∀ t : lf_Z, tk_f s t → t.1 64 0 = a → t.1 64 1 = b → t.1 64 2 = J 2 b → t.1 64 3 = mn_he J f b (J 1 2).toNat + mh → (∀ i : Int, 4 ≤ i → t.1 64 i = s.1 64 i) → Q t) : fw_82 a b mh Q s := by
  unfold fw_82
  obtain ⟨u, hu⟩ : ∃ u : lf_Z, u = (lf_up (lf_up s.1 64 0 a) 64 1 b, s.2.1, s.2.2) := ⟨_, rfl⟩
  rw [← hu]
  have uf : tk_f s u := by
    rw [hu]
    exact ⟨fun c x y z w => (zu_r y).trans (lf_up_row y), rfl⟩
  have uJ := gc_Jk hJ uf
  have u0 : u.1 64 0 = a := by rw [hu]; exact (zu_i (by decide)).trans lf_up_s
  have u1 : u.1 64 1 = b := by rw [hu]; exact zu_s
  have ui : ∀ i : Int, 2 ≤ i → u.1 64 i = s.1 64 i := fun i hi => by rw [hu]; exact (zu_i (by omega)).trans (lf_up_i (by omega))
  have e1 : u.1 1 = J 1 := uJ 1 (by omega)
  refine fl_18 ⟨fun z => ?_, fun _ _ => ?_⟩
  · rw [e1, decide_eq_true hb.1, decide_eq_true hb.2] at z; cases z
  · unfold fw_82_p43
    intro _
    rw [uJ 2 (by omega)]
    have vf : tk_f s (lf_up u.1 64 2 (J 2 b), u.2.1, u.2.2) := tk_64 uf
    refine fl_83 (gc_Jk hJ vf) hW (rc_Sk hS vf) ?_
    refine k _ (tk_64 vf) ((zu_i (by decide)).trans ((zu_i (by decide)).trans u0)) ((zu_i (by decide)).trans ((zu_i (by decide)).trans u1)) ((zu_i (by decide)).trans zu_s) zu_s (fun i hi => (zu_i (by omega)).trans ((zu_i (by omega)).trans (ui i (by omega))))
theorem xc_Ac {k : Nat} {l : Int} {R : (Int → Int) → (Int → Int) → Prop} {V : (Int → Int) → Int} {N : Int → Int} (h : xc_A k l R V I) (e : ∀ c : Nat, c = 36 + 7 * k ∨ c = 37 + 7 * k ∨ c = 38 + 7 * k → s.1 c = I c) (g : tk_f s t) {Q : Int → lf_Z → Prop} (hk : k < 4) (hR : R N (t.1 64)) (hN : cm_nm N) (q : ∀ (v : Int) (w : lf_Z), tk_f s w → v = V N → Q v w) : fw_84b k l Q t := by
  refine h t Q N (fun c hc => (g.1 c (by omega) (by omega) (by omega) (by omega)).trans (e c hc)) hR hN (fun v w w1 w2 hv => q v w ⟨fun c a b d e => (w1 c a d e).trans (g.1 c a b d e), w2.trans g.2⟩ hv)
theorem ng_S {size s0 w back mh mv : Int} (hW : mn_W J) (hB : mn_B J) (hV : mn_V J) (hs : 0 ≤ s0 ∧ s0 < J 1 0) (w0 : 0 ≤ w) (w1 : w < J 1 1) (hz : cm_sm size) (hb : cm_sm back) (hh : 0 ≤ mh ∧ mh ≤ 1) (hm : 0 ≤ mv ∧ mv ≤ 9) : cm_nm (mn_ng J f size s0 w back mh mv) := by
  intro i i0 i1
  have a0 := hW.1
  have a1 := hW.2.1
  have a2 := hW.2.2.1
  have su7 := mn_suB (f := f) (x := mn_ac J w s0) (fun q => (hV q).1) (J 1 2).toNat
  have su9 := mn_suB (f := f) (x := mn_ac J w s0) (g := J 9) (fun q => by have := (hB.2 q).2; omega) (J 1 2).toNat
  have he := mn_heB (J := J) (f := f) (x := s0) (J 1 2).toNat
  have v1 := (hV s0).2
  have v2 := (hV (mn_ac J w s0)).2
  unfold cm_sm at *
  unfold mn_ng
  (repeat' split) <;> omega
theorem np_S {b : Int} (hW : mn_W J) (hV : mn_V J) (hz : 0 ≤ f (3 * b) ∧ f (3 * b) ≤ 24) (hp : 0 ≤ f (3 * b + 1) ∧ f (3 * b + 1) < J 1 0) : cm_nm (mn_np J f b) := by
  intro i i0 i1
  have a0 := hW.1
  have a2 := hW.2.2.1
  have h1 := mn_heB (J := J) (f := f) (x := f (3 * b + 1)) (J 1 2).toNat
  have h2 := mn_heB (J := J) (f := f) (x := f (3 * b + 2)) (J 1 2).toNat
  have v1 := (hV (f (3 * b + 1))).2
  unfold cm_sm
  unfold mn_np
  (repeat' split) <;> omega
/-- chanceOf -/
theorem fl_91 {size s0 w back mh mv : Int} {Q : Int → lf_Z → Prop} (hJ : gc_J J s) (hW : mn_W J) (hB : mn_B J) (hV : mn_V J) (hS : rc_S s.1 f) (hX : xc_X X I s.2.2) (hI : ∀ c : Nat, 35 ≤ c → c < 63 → s.1 c = I c) (hs : 0 ≤ s0 ∧ s0 < J 1 0) (w0 : 0 ≤ w) (w1 : w < J 1 1) (hm : 0 ≤ mv ∧ mv ≤ 9) (hn : cm_nm (mn_ng J f size s0 w back mh mv)) (hat : 0 ≤ mn_ac J w s0)
    (k : ∀ (v : Int) (t : lf_Z), tk_f s t → v = X.2 (mn_ng J f size s0 w back mh mv) → Q v t) : fw_91 size s0 w back mh mv Q s := by
  have w2 := hW.2.2.1
  have e1 : s.1 1 = J 1 := hJ 1 (by omega)
  have acB : mn_ac J w s0 < J 1 0 := by
    have q := hW.2.2.2.1 w w0 w1
    unfold mn_ac at hat ⊢
    (repeat' split) <;> omega
  unfold fw_91
  refine fl_78 ?_
  rw [e1, if_pos ⟨w0, w1⟩, mn_acJ hJ]
  generalize hto : mn_ac J w s0 = to at *
  intro _
  refine ⟨fun _ => ?_, fun c => absurd c (by omega)⟩
  refine ⟨fun x8 x9 p u => u = s ∧ ∃ n : Nat, p = n ∧ p ≤ J 1 2 ∧ x8 = mv + mn_su (J 7) f to n ∧ x9 = mn_su (J 9) f to n, ?_, ⟨rfl, 0, rfl, w2.1, (Int.add_zero mv).symm, rfl⟩⟩
  intro x8 x9 p u ⟨eu, n, ep, p1, e8, e9⟩
  rw [eu]
  have su7 := mn_suB (f := f) (x := to) (fun q => (hV q).1) n
  have su9 := mn_suB (f := f) (x := to) (g := J 9) (fun q => by have := (hB.2 q).2; omega) n
  unfold fw_91_p29
  rw [e1]
  intro _ _
  refine ⟨fun c => ?_, fun c _ _ _ => ?_⟩
  · have hn : n = (J 1 2).toNat := by omega
    subst hn
    -- without a law
    have none' : (∀ N, X.2 N = if 0 < N 6 then 0 else 5) → fw_91_p118 Q x8 s := by
      intro hx
      have v6 : mn_ng J f size s0 w back mh mv 6 = x8 := by
        rw [e8]
        show mv + mn_su (J 7) f (mn_ac J w s0) (J 1 2).toNat = _
        rw [hto]
      unfold fw_91_p118
      intro _
      refine ⟨fun d => k 5 s tk_fr ?_, fun d => k 0 s tk_fr ?_⟩
      · rw [hx, v6, if_neg (by omega)]
      · rw [hx, v6, if_pos (by omega)]
    refine ⟨fun d => none' (fun N => (hX.1 d N).2), fun k1 hk1 hk14 => ⟨fun d => (by rw [hk1] at d; cases d), fun k2 hk2 hk24 => ?_⟩⟩
    obtain ⟨_, x1, x2, x3, x4⟩ := hX.2 k2 hk2
    have e37 : s.1 (37 + 7 * k2) = I (37 + 7 * k2) := hI _ (by omega) (by omega)
    refine fl_40 (t0 := k2) ⟨fun z => ?_, fun z => ?_⟩
    · have z : decide (s.1 (37 + 7 * k2) 1 ≠ -1) = true := z
      have z := of_decide_eq_true z
      rw [e37] at z
      obtain ⟨m, mA, mN⟩ := x4 z
      refine fl_82 hJ hW hS hs (fun t tf t0 t1 t2 t3 ti => ?_)
      intro _
      obtain ⟨y, hy⟩ : ∃ y : lf_Z, y = (lf_up (lf_up (lf_up (lf_up (lf_up t.1 64 5 (t.1 2 to)) 64 6 x8) 64 7 x9) 64 8 back) 64 10 w, t.2.1, t.2.2) := ⟨_, rfl⟩
      rw [← hy]
      have yf : tk_f s y := by
        rw [hy]
        exact tk_ft tf ⟨fun c a b d e => (zu_r b).trans ((lf_up_row b).trans ((lf_up_row b).trans ((lf_up_row b).trans (lf_up_row b)))), rfl⟩
      have yl : ∀ i : Int, i ≤ 4 → y.1 64 i = t.1 64 i := fun i hi => by rw [hy]; exact (zu_i (by omega)).trans ((lf_up_i (by omega)).trans ((lf_up_i (by omega)).trans ((lf_up_i (by omega)).trans (lf_up_i (by omega)))))
      have y5 : y.1 64 5 = J 2 to := by
        rw [hy]
        refine (zu_i (by decide)).trans ((lf_up_i (by decide)).trans ((lf_up_i (by decide)).trans ((lf_up_i (by decide)).trans (lf_up_s.trans ?_))))
        rw [(gc_Jk hJ tf) 2 (by omega)]
      have y6 : y.1 64 6 = x8 := by rw [hy]; exact (zu_i (by decide)).trans ((lf_up_i (by decide)).trans ((lf_up_i (by decide)).trans lf_up_s))
      have y7 : y.1 64 7 = x9 := by rw [hy]; exact (zu_i (by decide)).trans ((lf_up_i (by decide)).trans lf_up_s)
      have y8 : y.1 64 8 = back := by rw [hy]; exact (zu_i (by decide)).trans lf_up_s
      have y10 : y.1 64 10 = w := by rw [hy]; exact zu_s
      have nn : xc_n1 (mn_ng J f size s0 w back mh mv) (y.1 64) := by
        refine ⟨fun i i0 i1 i4 => ?_, y10⟩
        rcases (show i = 0 ∨ i = 1 ∨ i = 2 ∨ i = 3 ∨ i = 5 ∨ i = 6 ∨ i = 7 ∨ i = 8 by omega) with e | e | e | e | e | e | e | e
        · subst e; exact (yl 0 (by decide)).trans t0
        · subst e; exact (yl 1 (by decide)).trans t1
        · subst e; exact (yl 2 (by decide)).trans t2
        · subst e; exact (yl 3 (by decide)).trans t3
        · subst e
          show y.1 64 5 = J 2 (mn_ac J w s0)
          rw [hto]; exact y5
        · subst e
          show y.1 64 6 = mv + mn_su (J 7) f (mn_ac J w s0) (J 1 2).toNat
          rw [hto, y6, e8]
        · subst e
          show y.1 64 7 = mn_su (J 9) f (mn_ac J w s0) (J 1 2).toNat
          rw [hto, y7, e9]
        · subst e; exact y8
      have y2 : t.2.2 3 = some k2 := by rw [tf.2]; exact hk2
      refine ⟨fun d => (by rw [y2] at d; cases d), fun k3 hk3 hk34 => ?_⟩
      rw [y2] at hk3
      have hk3 := Option.some.inj hk3
      subst hk3
      refine xc_Ac mA (fun c hc => hI c (by omega) (by omega)) yf hk24 nn hn (fun v z zf hv => fl_55 (k _ z zf ?_))
      rw [mN, hv]
    · have z : decide (s.1 (37 + 7 * k2) 1 ≠ -1) = false := z
      have z := Classical.not_not.mp (of_decide_eq_false z)
      rw [e37] at z
      exact none' (x2 z)
  · have e := (hS.2.1 p (by omega) (by omega)).1
    have b9 := (hB.2 p).2
    have b7 := (hV p).1
    rw [e, hJ 9 (by omega), hJ 7 (by omega)]
    have s7 : mn_su (J 7) f to (n + 1) = mn_su (J 7) f to n + (if f (12 + 2 * (n : Int)) = to then J 7 n else 0) := rfl
    have s9 : mn_su (J 9) f to (n + 1) = mn_su (J 9) f to n + (if f (12 + 2 * (n : Int)) = to then J 9 n else 0) := rfl
    rw [← ep] at s7 s9
    refine ⟨fun d => ?_, fun d _ => ⟨fun d2 => ?_, fun d2 => ?_⟩⟩
    · unfold fw_91_p94
      rw [if_neg d] at s7 s9
      exact ⟨rfl, n + 1, by omega, by omega, by omega, by omega⟩
    · unfold fw_91_p91 fw_91_p94
      rw [if_pos (Classical.not_not.mp d)] at s7 s9
      rw [tr_w (a := x8 + J 7 p) (by omega), tr_w (a := x9 + 0) (by omega)]
      exact ⟨rfl, n + 1, by omega, by omega, by omega, by omega⟩
    · unfold fw_91_p91 fw_91_p94
      rw [if_pos (Classical.not_not.mp d)] at s7 s9
      rw [tr_w (a := x8 + J 7 p) (by omega), tr_w (a := x9 + 1) (by omega)]
      exact ⟨rfl, n + 1, by omega, by omega, by omega, by omega⟩
end TK
/-! a move: the class -/
section MV
variable {J : Nat → Int → Int} {s t u : lf_Z} {f g : Int → Int} {X : mn_X} {I : Nat → Int → Int} {a b p x : Int}
/-- nothing but the stand and the laws' scratch -/
def mv_f (s t : lf_Z) : Prop := (∀ c : Nat, c < 15 ∨ (21 < c ∧ (c < 63 ∨ 66 < c)) → t.1 c = s.1 c) ∧ (∀ i : Int, i ≠ 6 → i ≠ 7 → i ≠ 8 → t.1 15 i = s.1 15 i) ∧ t.2 = s.2
theorem mv_fr : mv_f s s := ⟨fun _ _ => rfl, fun _ _ _ _ => rfl, rfl⟩
theorem mv_ft (h : mv_f s t) (k : mv_f t u) : mv_f s u := ⟨fun c hc => (k.1 c hc).trans (h.1 c hc), fun i a b c => (k.2.1 i a b c).trans (h.2.1 i a b c), k.2.2.trans h.2.2⟩
theorem mv_k (h : tk_f s t) : mv_f s t := ⟨fun c hc => h.1 c (by omega) (by omega) (by omega) (by omega), fun i _ _ _ => by rw [h.1 15 (by decide) (by decide) (by decide) (by decide)], h.2⟩
theorem mv_g (h : rc_g s t) : mv_f s t := ⟨fun c hc => h.1 c (by omega), h.2.1, h.2.2⟩
theorem gc_Jm (h : gc_J J s) (g : mv_f s t) : gc_J J t := fun c hc => (g.1 c (Or.inl (by omega))).trans (h c hc)
/-- X stays below 30203 -/
theorem mn_anB (h : 0 ≤ x) : 0 ≤ mn_an x ∧ mn_an x < 30203 := by
  unfold mn_an
  rw [Int.tmod_eq_emod_of_nonneg (by omega)]
  omega
theorem rc_15 {v : Int} (hS : rc_S s.1 f) : rc_S (lf_up s.1 15 8 v) (ds_u1 f 38 v) := by
  obtain ⟨s1, s2, s3, s4, s5, s6⟩ := hS
  have e : ∀ j : Int, j ≠ 38 → ds_u1 f 38 v j = f j := fun j hj => if_neg hj
  refine ⟨fun b b0 b1 => ?_, fun q q0 q1 => ?_, fun q q0 q1 => ?_, ?_, ?_, ?_⟩
  · rw [lf_up_c (by decide), lf_up_c (by decide), lf_up_c (by decide), e _ (by omega), e _ (by omega), e _ (by omega)]; exact s1 b b0 b1
  · rw [lf_up_c (by decide), lf_up_c (by decide), e _ (by omega), e _ (by omega)]; exact s2 q q0 q1
  · rw [lf_up_c (by decide), e _ (by omega)]; exact s3 q q0 q1
  · rw [lf_up_i (by decide), e _ (by decide)]; exact s4
  · rw [lf_up_i (by decide), e _ (by decide)]; exact s5
  · rw [lf_up_s]; exact (if_pos rfl).symm
theorem fl_94 {Q : lf_Z → Prop} (hS : rc_S s.1 f) (hx : 0 ≤ f 38 ∧ f 38 < 30203) (k : ∀ t : lf_Z, mv_f s t → rc_S t.1 (ds_u1 f 38 (mn_an (f 38))) → Q t) : fw_94 Q s := by
  unfold fw_94
  rw [hS.2.2.2.2.2, tr_w (a := f 38 * 239) (by omega), tr_w (by omega)]
  exact k _ (mv_g (rc_g15 rc_gr (by omega))) (rc_15 hS)
/-- isTaken -/
theorem fl_92 {Q : Bool → lf_Z → Prop} (hS : rc_S s.1 f) (hx : 0 ≤ f 38 ∧ f 38 < 30203) (ha : 0 ≤ a ∧ a ≤ 10)
    (k0 : a = 0 → Q false s) (k1 : 10 ≤ a → Q true s) (k2 : a ≠ 0 → ¬ 10 ≤ a → ∀ t : lf_Z, mv_f s t → rc_S t.1 (ds_u1 f 38 (mn_an (f 38))) → Q (decide ((f 38).tmod 10 < a)) t) : fw_92 a Q s := by
  unfold fw_92
  intro _
  refine ⟨fun c => ?_, fun c => ⟨fun d => ?_, fun d => ?_⟩⟩
  · unfold fw_92_p10
    intro _
    exact ⟨fun _ => k0 c, fun d => absurd (Classical.not_not.mp d) (by omega)⟩
  · unfold fw_93
    rw [hS.2.2.2.2.2]
    intro _
    refine fl_94 hS hx (fun t tf tS => ?_)
    intro _
    have k := k2 c (by omega) t tf tS
    refine ⟨fun e => ?_, fun e => ?_⟩
    · rw [decide_eq_false (by omega)] at k; exact k
    · rw [decide_eq_true (by omega)] at k; exact k
  · unfold fw_92_p10
    intro _
    exact ⟨fun e => absurd (Classical.not_not.mp d) e, fun _ => k1 (by omega)⟩
theorem fl_90 {Q : Bool → lf_Z → Prop} (a0 : 0 ≤ a) (a1 : a < 31) (h : Q (!(bt_t (s.1 15 6) a)) s) : fw_90 a Q s := by
  unfold fw_90
  rw [bt_T a0 a1]
  cases e : bt_t (s.1 15 6) a with
  | true =>
    rw [e] at h
    exact ⟨fun _ => h, fun q => absurd (show (if true = true then (1 : Int) else 0) ≠ 0 by decide) q⟩
  | false =>
    rw [e] at h
    exact ⟨fun q => absurd rfl q, fun _ => h⟩
theorem mn_ngt {size s0 came w : Int} : mn_ng J f size s0 w (if mn_ac J w s0 = came then 1 else 0) 0 0 = mn_nt J f size s0 came w := by
  funext i
  unfold mn_ng mn_nt
  rw [Int.add_zero, Int.zero_add]
/-- no way at it from here on -/
theorem mn_mvE {s0 : Int} : ∀ (k w : Nat) (g : Int → Int), (∀ v : Nat, w ≤ v → v < w + k → mn_at J s0 v = false) → mn_mv J X b s0 k w g = g := by
  intro k
  induction k with
  | zero => intro w g _; rfl
  | succ k ih =>
    intro w g h
    have e : mn_tk J X g (g (3 * b)) s0 (g (3 * b + 2)) w = 0 := if_pos (Or.inl (h w (Nat.le_refl w) (by omega)))
    show (if mn_tk J X g (g (3 * b)) s0 (g (3 * b + 2)) w = 0 then mn_mv J X b s0 k (w + 1) g else _) = g
    rw [if_pos e]
    exact ih (w + 1) g (fun v h1 h2 => h v (by omega) (by omega))
/-- on to the next way at it -/
theorem mn_mvK {s0 : Int} : ∀ (n k w : Nat) (g : Int → Int), (∀ v : Nat, w ≤ v → v < w + n → mn_at J s0 v = false) → mn_mv J X b s0 (n + k) w g = mn_mv J X b s0 k (w + n) g := by
  intro n
  induction n with
  | zero => intro k w g _; rw [Nat.zero_add, Nat.add_zero]
  | succ n ih =>
    intro k w g h
    have e : mn_tk J X g (g (3 * b)) s0 (g (3 * b + 2)) w = 0 := if_pos (Or.inl (h w (Nat.le_refl w) (by omega)))
    rw [show n + 1 + k = (n + k) + 1 by omega]
    show (if mn_tk J X g (g (3 * b)) s0 (g (3 * b + 2)) w = 0 then mn_mv J X b s0 (n + k) (w + 1) g else _) = _
    rw [if_pos e, ih k (w + 1) g (fun v h1 h2 => h v (by omega) (by omega)), show w + 1 + n = w + (n + 1) by omega]
/-- a move taken -/
theorem rc_take {s0 v : Int} (hS : rc_S s.1 f) (b0 : 0 ≤ b) (b1 : b < 4) : rc_S (lf_up (lf_up s.1 18 b s0) 17 b v) (ds_u1 (ds_u1 f (3 * b + 1) v) (3 * b + 2) s0) := by
  obtain ⟨s1, s2, s3, s4, s5, s6⟩ := hS
  have e : ∀ j : Int, j ≠ 3 * b + 1 → j ≠ 3 * b + 2 → ds_u1 (ds_u1 f (3 * b + 1) v) (3 * b + 2) s0 j = f j := fun j h1 h2 => (if_neg h2).trans (if_neg h1)
  have c : ∀ (q : Nat) (j : Int), q ≠ 17 → q ≠ 18 → (lf_up (lf_up s.1 18 b s0) 17 b v) q j = s.1 q j := fun q j h1 h2 => (lf_up_c h1).trans (lf_up_c h2)
  refine ⟨fun q q0 q1 => ?_, fun q q0 q1 => ?_, fun q q0 q1 => ?_, ?_, ?_, ?_⟩
  · by_cases y : q = b
    · subst y
      refine ⟨?_, ?_, ?_⟩
      · rw [c 16 _ (by decide) (by decide), e _ (by omega) (by omega)]; exact (s1 q q0 q1).1
      · rw [lf_up_s]; exact ((if_neg (by omega)).trans (if_pos rfl)).symm
      · rw [lf_up_c (by decide), lf_up_s]; exact (if_pos rfl).symm
    · rw [c 16 _ (by decide) (by decide), lf_up_i y, lf_up_c (by decide), lf_up_c (by decide), lf_up_i y, e _ (by omega) (by omega), e _ (by omega) (by omega), e _ (by omega) (by omega)]
      exact s1 q q0 q1
  · rw [c 19 _ (by decide) (by decide), c 20 _ (by decide) (by decide), e _ (by omega) (by omega), e _ (by omega) (by omega)]; exact s2 q q0 q1
  · rw [c 21 _ (by decide) (by decide), e _ (by omega) (by omega)]; exact s3 q q0 q1
  · rw [c 15 _ (by decide) (by decide), e _ (by omega) (by omega)]; exact s4
  · rw [c 15 _ (by decide) (by decide), e _ (by omega) (by omega)]; exact s5
  · rw [c 15 _ (by decide) (by decide), e _ (by omega) (by omega)]; exact s6
theorem dm_cnE {P : Nat → Bool} {w n : Nat} (h : ∀ v : Nat, w ≤ v → v < n → P v = false) (hn : w ≤ n) : dm_cn P n = dm_cn P w := by
  induction n with
  | zero => have : w = 0 := by omega
            subst this; rfl
  | succ n ih =>
    by_cases e : w = n + 1
    · rw [e]
    · show dm_cn P n + (if P n = true then 1 else 0) = _
      rw [h n (by omega) (by omega), if_neg (by decide), ih (fun v h1 h2 => h v h1 (by omega)) (by omega)]; omega
/-- moveOn -/
theorem fl_88 {Q : lf_Z → Prop} (hJ : gc_J J s) (hW : mn_W J) (hB : mn_B J) (hV : mn_V J) (hS : rc_S s.1 f) (hX : xc_X X I s.2.2) (hXB : ∀ N, 0 ≤ X.2 N ∧ X.2 N ≤ 10) (hI : ∀ c : Nat, 35 ≤ c → c < 63 → s.1 c = I c) (b0 : 0 ≤ b) (b1 : b < 4) (hz : 0 ≤ f (3 * b) ∧ f (3 * b) ≤ 24) (hp : 0 ≤ f (3 * b + 1) ∧ f (3 * b + 1) < J 1 0) (hx : 0 ≤ f 38 ∧ f 38 < 30203)
    (k : ∀ t : lf_Z, mv_f s t → rc_S t.1 (mn_m1 J X b f) → Q t) : fw_88 b Q s := by
  have hW' := hW
  obtain ⟨w0, w1, w2, w4, w5, _⟩ := hW
  unfold fw_88
  intro _
  rw [(hS.1 b b0 b1).2.1]
  unfold mn_m1 at k
  generalize hs : f (3 * b + 1) = s0 at *
  obtain ⟨c1, c2, c3⟩ := w5 s0 hp.1 (by omega)
  refine ⟨fun i u => ∃ (w : Nat) (g : Int → Int), mv_f s u ∧ rc_S u.1 g ∧ (w : Int) ≤ J 1 1 ∧ i = dm_cn (mn_at J s0) w ∧ (0 ≤ g 38 ∧ g 38 < 30203) ∧ (g (3 * b + 1) = s0 ∧ g (3 * b) = f (3 * b)) ∧ mn_mv J X b s0 ((J 1 1).toNat - w) w g = mn_mv J X b s0 (J 1 1).toNat 0 f, ?_, ⟨0, f, mv_fr, hS, w1.1, rfl, hx, ⟨hs, rfl⟩, rfl⟩⟩
  intro i u ⟨w, g, uf, uS, wn, ei, gx, ⟨gs, gz⟩, ge⟩
  have uJ := gc_Jm hJ uf
  have e1 : u.1 1 = J 1 := uJ 1 (by omega)
  unfold fw_88_p12
  refine fl_76 ?_
  rw [e1, uJ 12 (by omega), if_pos hp]
  intro _ _
  refine ⟨fun c => ?_, fun c => ?_⟩
  · have none' : ∀ v : Nat, w ≤ v → v < w + ((J 1 1).toNat - w) → mn_at J s0 v = false := fun v v1 v2 => by
      cases hv : mn_at J s0 v with
      | false => rfl
      | true =>
        have a1 := dm_cnG (P := mn_at J s0) (w := v) (n := (J 1 1).toNat) (by omega) hv
        by_cases e : w = v
        · subst e; omega
        · have : dm_cn (mn_at J s0) w ≤ dm_cn (mn_at J s0) v := by
            have mono : ∀ n : Nat, w ≤ n → dm_cn (mn_at J s0) w ≤ dm_cn (mn_at J s0) n := by
              intro n
              induction n with
              | zero => intro h; have : w = 0 := by omega
                        subst this; exact Nat.le_refl _
              | succ n ih =>
                intro h
                by_cases e : w = n + 1
                · rw [e]; exact Nat.le_refl _
                · have := ih (by omega)
                  show _ ≤ dm_cn (mn_at J s0) n + (if mn_at J s0 n = true then 1 else 0)
                  omega
            exact mono v v1
          omega
    rw [mn_mvE _ _ _ none'] at ge
    rw [ge] at uS
    exact k u uf uS
  · obtain ⟨v, v1, v2, v3⟩ := dm_cnS (P := mn_at J s0) (J 1 1).toNat i.toNat (by omega)
    have wv : w ≤ v := by
      by_cases h : w ≤ v
      · exact h
      · have := dm_cnG (P := mn_at J s0) (w := v) (n := w) (by omega) v2
        omega
    have skip : ∀ y : Nat, w ≤ y → y < w + (v - w) → mn_at J s0 y = false := fun y y1 y2 => by
      cases hy : mn_at J s0 y with
      | false => rfl
      | true =>
        have a1 := dm_cnG (P := mn_at J s0) (w := y) (n := v) (by omega) hy
        have : dm_cn (mn_at J s0) w ≤ dm_cn (mn_at J s0) y := by
          have mono : ∀ n : Nat, w ≤ n → dm_cn (mn_at J s0) w ≤ dm_cn (mn_at J s0) n := by
            intro n
            induction n with
            | zero => intro h; have : w = 0 := by omega
                      subst this; exact Nat.le_refl _
            | succ n ih =>
              intro h
              by_cases e : w = n + 1
              · rw [e]; exact Nat.le_refl _
              · have := ih (by omega)
                show _ ≤ dm_cn (mn_at J s0) n + (if mn_at J s0 n = true then 1 else 0)
                omega
          exact mono y y1
        omega
    have ge2 : mn_mv J X b s0 ((J 1 1).toNat - v - 1 + 1) v g = mn_mv J X b s0 (J 1 1).toNat 0 f := by
      rw [← ge, show (J 1 1).toNat - w = (v - w) + ((J 1 1).toNat - v - 1 + 1) by omega, mn_mvK _ _ _ _ skip, show w + (v - w) = v by omega]
    have ge3 : (if mn_tk J X g (g (3 * b)) s0 (g (3 * b + 2)) v = 0 then mn_mv J X b s0 ((J 1 1).toNat - v - 1) (v + 1) g
        else if 10 ≤ mn_tk J X g (g (3 * b)) s0 (g (3 * b + 2)) v then ds_u1 (ds_u1 g (3 * b + 1) (mn_ac J v s0)) (3 * b + 2) s0
        else if (g 38).tmod 10 < mn_tk J X g (g (3 * b)) s0 (g (3 * b + 2)) v then ds_u1 (ds_u1 (ds_u1 g 38 (mn_an (g 38))) (3 * b + 1) (mn_ac J v s0)) (3 * b + 2) s0
        else mn_mv J X b s0 ((J 1 1).toNat - v - 1) (v + 1) (ds_u1 g 38 (mn_an (g 38)))) = mn_mv J X b s0 (J 1 1).toNat 0 f := ge2
    have cv : dm_cn (mn_at J s0) (v + 1) = dm_cn (mn_at J s0) v + 1 := by
      show dm_cn (mn_at J s0) v + (if mn_at J s0 v = true then 1 else 0) = _
      rw [if_pos v2]
    have gw := c3 v (by omega) v2
    rw [v3, show ((i.toNat : Nat) : Int) = i by omega] at gw
    have B := mn_acB hW' (show (v : Int) < J 1 1 by omega) v2
    refine fl_77 (by rw [e1]; exact hp) (by omega) (by rw [uJ 12 (by omega)]; omega) (fl_78 ?_)
    rw [uJ 11 (by omega), gw, e1, if_pos ⟨by omega, by omega⟩, mn_acJ uJ]
    intro _
    -- on, nothing drawn
    have on0 : mn_tk J X g (g (3 * b)) s0 (g (3 * b + 2)) v = 0 → ∀ y : lf_Z, mv_f s y → rc_S y.1 g → (fun (i : Int) (u : lf_Z) => ∃ (w : Nat) (g : Int → Int), mv_f s u ∧ rc_S u.1 g ∧ (w : Int) ≤ J 1 1 ∧ i = dm_cn (mn_at J s0) w ∧ (0 ≤ g 38 ∧ g 38 < 30203) ∧ (g (3 * b + 1) = s0 ∧ g (3 * b) = f (3 * b)) ∧ mn_mv J X b s0 ((J 1 1).toNat - w) w g = mn_mv J X b s0 (J 1 1).toNat 0 f) (i + 1) y := by
      intro h y yf yS
      rw [if_pos h] at ge3
      exact ⟨v + 1, g, yf, yS, by omega, by rw [cv]; omega, gx, ⟨gs, gz⟩, by rw [show (J 1 1).toNat - (v + 1) = (J 1 1).toNat - v - 1 by omega]; exact ge3⟩
    refine ⟨fun q => absurd q (by omega), fun _ => fl_89 ⟨fun z => ?_, fun z => fl_90 (by omega) (by omega) ⟨fun z2 _ _ => ?_, fun z2 => ?_⟩⟩⟩
    · unfold fw_88_p153
      refine on0 (if_pos (Or.inr (Or.inl ?_))) u uf uS
      rw [e1, uJ 6 (by omega), decide_eq_true (show (0 : Int) ≤ v by omega), decide_eq_true (show (v : Int) < J 1 1 by omega)] at z
      exact of_decide_eq_false z
    · rw [Bool.and_eq_true, decide_eq_true_eq, uJ 6 (by omega)] at z
      have sh := uS.2.2.2.1
      rw [sh] at z2
      have z2 : bt_t (g 36) (v : Int) = false := by cases h : bt_t (g 36) (v : Int) with
        | false => rfl
        | true => rw [h] at z2; cases z2
      have tkE : mn_tk J X g (g (3 * b)) s0 (g (3 * b + 2)) v = X.2 (mn_nt J g (g (3 * b)) s0 (g (3 * b + 2)) v) := by
        unfold mn_tk
        rw [if_neg (fun q => ?_)]
        rcases q with q | q | q
        · rw [v2] at q; cases q
        · exact q z.2
        · rw [z2] at q; cases q
      obtain ⟨d1, d2, d3⟩ := uS.1 b b0 b1
      have p99 : ∀ back : Int, back = (if mn_ac J v s0 = g (3 * b + 2) then 1 else 0) → fw_88_p99 (fun (i : Int) (u : lf_Z) => ∃ (w : Nat) (g : Int → Int), mv_f s u ∧ rc_S u.1 g ∧ (w : Int) ≤ J 1 1 ∧ i = dm_cn (mn_at J s0) w ∧ (0 ≤ g 38 ∧ g 38 < 30203) ∧ (g (3 * b + 1) = s0 ∧ g (3 * b) = f (3 * b)) ∧ mn_mv J X b s0 ((J 1 1).toNat - w) w g = mn_mv J X b s0 (J 1 1).toNat 0 f) Q b s0 i v (mn_ac J v s0) back u := by
        intro back hb
        unfold fw_88_p99
        intro _
        rw [d1]
        have uX : xc_X X I u.2.2 := by rw [uf.2.2]; exact hX
        refine fl_91 uJ hW' hB hV uS uX (fun c x y => (uf.1 c (by omega)).trans (hI c x y)) hp (by omega) (by omega) (by decide) (ng_S hW' hB hV hp (by omega) (by omega) (by unfold cm_sm; omega) (by unfold cm_sm; omega) (by decide) (by decide)) B.1 (fun v' y yf hv => ?_)
        rw [hb, mn_ngt, ← tkE] at hv
        have yS := rc_Sk uS yf
        have yF := mv_ft uf (mv_k yf)
        have bX : 0 ≤ v' ∧ v' ≤ 10 := by rw [hv, tkE]; exact hXB _
        refine fl_92 yS gx bX (fun h => ?_) (fun h => ?_) (fun h1 h2 y2 y2f y2S => ?_)
        · unfold fw_88_p153
          exact ⟨fun _ => on0 (by omega) y yF yS, fun q => (by cases q)⟩
        · refine ⟨fun q => (by cases q), fun _ => ?_⟩
          rw [if_neg (by omega), if_pos (by omega)] at ge3
          refine k _ (mv_ft yF (mv_g (rc_gu (rc_gu rc_gr (by omega)) (by omega)))) ?_
          rw [← ge3]
          exact rc_take yS b0 b1
        · have y2F := mv_ft yF y2f
          refine ⟨fun q => ?_, fun q => ?_⟩
          · have q := of_decide_eq_false q
            unfold fw_88_p153
            rw [if_neg (by omega), if_neg (by omega), if_neg (by omega)] at ge3
            have aB := mn_anB (x := g 38) gx.1
            refine ⟨v + 1, _, y2F, y2S, by omega, by rw [cv]; omega, ?_, ?_, by rw [show (J 1 1).toNat - (v + 1) = (J 1 1).toNat - v - 1 by omega]; exact ge3⟩
            · rw [show ds_u1 g 38 (mn_an (g 38)) 38 = mn_an (g 38) from if_pos rfl]; exact aB
            · exact ⟨(show ds_u1 g 38 (mn_an (g 38)) (3 * b + 1) = g (3 * b + 1) from if_neg (by omega)).trans gs, (show ds_u1 g 38 (mn_an (g 38)) (3 * b) = g (3 * b) from if_neg (by omega)).trans gz⟩
          · have q := of_decide_eq_true q
            rw [if_neg (by omega), if_neg (by omega), if_pos (by omega)] at ge3
            refine k _ (mv_ft y2F (mv_g (rc_gu (rc_gu rc_gr (by omega)) (by omega)))) ?_
            rw [← ge3]
            exact rc_take y2S b0 b1
      rw [d3]
      exact ⟨fun q => p99 0 (by rw [if_neg (fun w => q w.symm)]), fun q => p99 1 (by rw [if_pos (Classical.not_not.mp q).symm])⟩
    · unfold fw_88_p153
      refine on0 (if_pos (Or.inr (Or.inr ?_))) u uf uS
      have sh := uS.2.2.2.1
      rw [sh] at z2
      cases h : bt_t (g 36) (v : Int) with
      | true => rfl
      | false => rw [h] at z2; cases z2
end MV
/-! what takes and pace say: the reference -/
section TRR
variable {J : Nat → Int → Int} {s t u : lf_Z} {f T : Int → Int} {X : mn_X} {a b p x r : Int}
def xr_n0 (N M : Int → Int) : Prop := ∀ i : Int, 0 ≤ i → i ≤ 4 → M i = N i
def xr_n1 (N M : Int → Int) : Prop := ∀ i : Int, 0 ≤ i → i ≤ 9 → i ≠ 4 → M i = N i
/-- nothing but the laws' scratch -/
def tr_f (s t : lf_Z) : Prop := (∀ c : Nat, c ≠ 104 → c ≠ 107 → t.1 c = s.1 c) ∧ t.2.2 = s.2.2
theorem tr_fr : tr_f s s := ⟨fun _ _ _ => rfl, rfl⟩
theorem tr_ft (h : tr_f s t) (g : tr_f t u) : tr_f s u := ⟨fun c a b => (g.1 c a b).trans (h.1 c a b), g.2.trans h.2⟩
theorem tr_104 {i v : Int} (h : tr_f s t) : tr_f s (lf_up t.1 104 i v, t.2.1, t.2.2) := ⟨fun c a b => (zu_r a).trans (h.1 c a b), h.2⟩
/-- the law that rules, in the reference: texts T, the text r -/
def xr_X (X : mn_X) (T : Int → Int) (r : Int) : Prop :=
  (∀ (u : lf_Z) (Q : Int → lf_Z → Prop) (N : Int → Int), u.1 98 = T → xr_n0 N (u.1 104) → cm_nm N → (∀ (v : Int) (w : lf_Z), tr_f u w → v = X.1 N → Q v w) → fw_267 r 0 1 2 Q u)
  ∧ ∀ (u : lf_Z) (Q : Int → lf_Z → Prop) (N : Int → Int) (d : Int), u.1 98 = T → xr_n1 N (u.1 104) → cm_nm N → d = (if 0 < N 6 then 0 else 5) → (∀ (v : Int) (w : lf_Z), tr_f u w → v = X.2 N → Q v w) → fw_267 r 1 d 10 Q u
theorem fl_265 {Q : Int → lf_Z → Prop} (hL : rr_L J (s.1 96)) (a0 : 0 ≤ a) (a1 : a < J 1 0) (h : Q (J 2 a) s) : fw_265 a Q s := by
  unfold fw_265
  rw [(hL.2.2.2.1 a a0 a1).1]
  exact fun _ => h
theorem fl_266 {n1 : Int} {Q : Int → lf_Z → Prop} (hL : rr_L J (s.1 96)) (hW : mn_W J) (hS : rr_S n1 (J 1 2) f (s.1 96)) (a0 : 0 ≤ a) (a1 : a < 31) (h : Q (mn_he J f a (J 1 2).toNat + (if bt_t (s.1 95 29) a = true then 1 else 0)) s) : fw_266 a Q s := by
  have w2 := hW.2.2.1
  have p16 : ∀ y : Int, y = (if bt_t (s.1 95 29) a = true then 1 else 0) → fw_266_p16 Q a y s := by
    intro y hy
    have yB : 0 ≤ y ∧ y ≤ 1 := by rw [hy]; split <;> omega
    unfold fw_266_p16
    refine ⟨fun x k u => u = s ∧ ∃ n : Nat, k = n ∧ k ≤ J 1 2 ∧ x = mn_he J f a n + y, ?_, ⟨rfl, 0, rfl, w2.1, (Int.zero_add y).symm⟩⟩
    intro x k u ⟨eu, n, ek, k1, ex⟩
    rw [eu]
    unfold fw_266_p19
    rw [hL.2.2.1]
    intro _ _
    have hB := mn_heB (J := J) (f := f) (x := a) n
    refine ⟨fun c => ?_, fun c => fl_239 ?_⟩
    · have : n = (J 1 2).toNat := by omega
      rw [ex, this, hy]; exact h
    · rw [(hS.2.2.2.1 k (by omega) (by omega)).1]
      intro _ _
      have e : mn_he J f a (n + 1) = mn_he J f a n + (if f (12 + 2 * (n : Int)) = a then 1 else 0) := rfl
      rw [← ek] at e
      refine ⟨fun d => ?_, fun d => ?_⟩
      · unfold fw_266_p45
        rw [if_neg d] at e
        rw [tr_w (by omega)]
        exact ⟨rfl, n + 1, by omega, by omega, by omega⟩
      · unfold fw_266_p45
        rw [if_pos (Classical.not_not.mp d)] at e
        rw [tr_w (by omega)]
        exact ⟨rfl, n + 1, by omega, by omega, by omega⟩
  unfold fw_266
  refine fl_210 a0 a1 ⟨fun z => p16 0 (by rw [z]; rfl), fun z => p16 1 (by rw [z]; rfl)⟩
/-- nerves, buckets -/
theorem fl_274 {n1 c : Int} {g : Int → Int} {Q : Int → lf_Z → Prop} (hL : rr_L J (s.1 96)) (hW : mn_W J) (hS : rr_S n1 (J 1 2) f (s.1 96)) (a0 : 0 ≤ a) (a1 : a < 31) (hg : ∀ q : Int, 0 ≤ g q ∧ g q ≤ 9) (hc : c = 0 ∨ c = 2) (hq : ∀ q : Int, 0 ≤ q → q < J 1 2 → s.1 96 (126 + 6 * q + c) = g q) (h30 : 0 ≤ s.1 95 30 ∧ s.1 95 30 ≤ 9) (h : Q ((if bt_t (s.1 95 29) a = true ∧ c = 0 then s.1 95 30 else 0) + mn_su g f a (J 1 2).toNat) s) : fw_274 a c Q s := by
  have w2 := hW.2.2.1
  have p23 : ∀ y : Int, y = (if bt_t (s.1 95 29) a = true ∧ c = 0 then s.1 95 30 else 0) → fw_274_p23 Q a c y s := by
    intro y hy
    have yB : 0 ≤ y ∧ y ≤ 9 := by rw [hy]; split <;> omega
    unfold fw_274_p23
    refine ⟨fun x k u => u = s ∧ ∃ n : Nat, k = n ∧ k ≤ J 1 2 ∧ x = y + mn_su g f a n, ?_, ⟨rfl, 0, rfl, w2.1, (Int.add_zero y).symm⟩⟩
    intro x k u ⟨eu, n, ek, k1, ex⟩
    rw [eu]
    have sB := mn_suB (f := f) (x := a) hg n
    unfold fw_274_p27
    rw [hL.2.2.1]
    intro _ _
    refine ⟨fun d => ?_, fun d => fl_239 ?_⟩
    · have : n = (J 1 2).toNat := by omega
      rw [ex, this, hy]; exact h
    · rw [(hS.2.2.2.1 k (by omega) (by omega)).1]
      have e : mn_su g f a (n + 1) = mn_su g f a n + (if f (12 + 2 * (n : Int)) = a then g n else 0) := rfl
      rw [← ek] at e
      have gk := hg k
      intro _ _
      refine ⟨fun q => ?_, fun q => ?_⟩
      · unfold fw_274_p61
        rw [if_neg q] at e
        rw [tr_w (by omega)]
        exact ⟨rfl, n + 1, by omega, by omega, by omega⟩
      · rw [if_pos (Classical.not_not.mp q)] at e
        unfold fw_239c
        intro _
        unfold fw_274_p61
        rw [hq k (by omega) (by omega), tr_w (by omega)]
        exact ⟨rfl, n + 1, by omega, by omega, by omega⟩
  unfold fw_274
  refine fl_210 a0 a1 ⟨fun z => ?_, fun z _ => ⟨fun d => ?_, fun d => ?_⟩⟩
  · unfold fw_274_p22
    exact p23 0 (by rw [z, if_neg (fun q => by cases q.1)])
  · unfold fw_274_p22
    exact p23 0 (by rw [if_neg (fun q => d q.2)])
  · exact p23 _ (by rw [if_pos ⟨z, Classical.not_not.mp d⟩])
/-- the names in all -/
theorem fl_264 {n1 : Int} {Q : lf_Z → Prop} (hL : rr_L J (s.1 96)) (hW : mn_W J) (hS : rr_S n1 (J 1 2) f (s.1 96)) (hb : 0 ≤ b ∧ b < J 1 0) (k : ∀ t : lf_Z, tr_f s t → t.2 = s.2 → t.1 104 0 = a → t.1 104 1 = b → t.1 104 2 = J 2 b → t.1 104 3 = mn_he J f b (J 1 2).toNat + (if bt_t (s.1 95 29) b = true then 1 else 0) → (∀ i : Int, 4 ≤ i → t.1 104 i = s.1 104 i) → Q t) : fw_264 a b Q s := by
  have w0 := hW.1
  unfold fw_264
  obtain ⟨u, hu⟩ : ∃ u : lf_Z, u = (lf_up (lf_up s.1 104 0 a) 104 1 b, s.2.1, s.2.2) := ⟨_, rfl⟩
  rw [← hu]
  have uc : ∀ c : Nat, c ≠ 104 → u.1 c = s.1 c := fun c hc => by rw [hu]; exact (zu_r hc).trans (lf_up_row hc)
  have u0 : u.1 104 0 = a := by rw [hu]; exact (zu_i (by decide)).trans lf_up_s
  have u1 : u.1 104 1 = b := by rw [hu]; exact zu_s
  have ui : ∀ i : Int, 2 ≤ i → u.1 104 i = s.1 104 i := fun i hi => by rw [hu]; exact (zu_i (by omega)).trans (lf_up_i (by omega))
  have u2 : u.2 = s.2 := by rw [hu]
  refine fl_265 (by rw [uc 96 (by decide)]; exact hL) hb.1 hb.2 ?_
  obtain ⟨v, hv⟩ : ∃ v : lf_Z, v = (lf_up u.1 104 2 (J 2 b), u.2.1, u.2.2) := ⟨_, rfl⟩
  rw [← hv]
  have vc : ∀ c : Nat, c ≠ 104 → v.1 c = s.1 c := fun c hc => by rw [hv]; exact (zu_r hc).trans (uc c hc)
  have vi : ∀ i : Int, i ≠ 2 → v.1 104 i = u.1 104 i := fun i hi => by rw [hv]; exact zu_i hi
  have v2 : v.1 104 2 = J 2 b := by rw [hv]; exact zu_s
  have vJ : v.2 = s.2 := by rw [hv]; exact u2
  refine fl_266 (n1 := n1) (f := f) (by rw [vc 96 (by decide)]; exact hL) hW (by rw [vc 96 (by decide)]; exact hS) hb.1 (by omega) ?_
  rw [vc 95 (by decide)]
  exact k _ ⟨fun c h1 h2 => (zu_r h1).trans (vc c h1), by show v.2.2 = s.2.2; rw [vJ]⟩ vJ ((zu_i (by decide)).trans ((vi 0 (by decide)).trans u0)) ((zu_i (by decide)).trans ((vi 1 (by decide)).trans u1)) ((zu_i (by decide)).trans v2) zu_s (fun i hi => (zu_i (by omega)).trans ((vi i (by omega)).trans (ui i (by omega))))
/-- takesOf -/
theorem fl_273 {size s0 came w : Int} {Q : Int → lf_Z → Prop} (hL : rr_L J (s.1 96)) (hW : mn_W J) (hB : mn_B J) (hV : mn_V J) (hS : rr_S (J 1 1) (J 1 2) f (s.1 96)) (hX : xr_X X T (s.1 96 8)) (hT : s.1 98 = T) (hs : 0 ≤ s0 ∧ s0 < J 1 0) (w0 : 0 ≤ w) (w1 : w < J 1 1) (h30 : 0 ≤ s.1 95 30 ∧ s.1 95 30 ≤ 9) (hNm : cm_nm (mn_ng J f size s0 w (if mn_ac J w s0 = came then 1 else 0) (if bt_t (s.1 95 29) s0 = true then 1 else 0) (if bt_t (s.1 95 29) (mn_ac J w s0) = true then s.1 95 30 else 0)))
    (k : ∀ (v : Int) (t : lf_Z), tr_f s t → v = (if mn_at J s0 w.toNat = false ∨ J 6 w ≠ 0 ∨ bt_t (f 36) w = true ∨ bt_t (s.1 95 31) w = true then 0 else X.2 (mn_ng J f size s0 w (if mn_ac J w s0 = came then 1 else 0) (if bt_t (s.1 95 29) s0 = true then 1 else 0) (if bt_t (s.1 95 29) (mn_ac J w s0) = true then s.1 95 30 else 0))) → Q v t) : fw_273 size s0 came w Q s := by
  have n0 := hW.1
  have n1 := hW.2.1
  have q4 := hW.2.2.2.1 w w0 w1
  have ewn : ((w.toNat : Nat) : Int) = w := by omega
  have atI : mn_at J s0 w.toNat = true ↔ 0 ≤ mn_ac J w s0 := by
    rw [mn_atE, ewn]
    unfold mn_ac
    (repeat' split) <;> omega
  unfold fw_273
  refine fl_187 hL w0 w1 ?_
  intro _
  refine ⟨fun c => k 0 s tr_fr ?_, fun c => fl_252 hL w0 w1 ⟨fun z => k 0 s tr_fr ?_, fun z => fl_245 ⟨fun z2 => k 0 s tr_fr ?_, fun z2 => fl_210 w0 (by omega) ⟨fun z3 => ?_, fun z3 => k 0 s tr_fr ?_⟩⟩⟩⟩
  · rw [if_pos]
    cases h : mn_at J s0 w.toNat with
    | false => exact Or.inl rfl
    | true => exact absurd (atI.mp h) (by omega)
  · have z := of_decide_eq_true z
    rw [if_pos (Or.inr (Or.inl (by omega)))]
  · have z2 := of_decide_eq_false z2
    rw [hS.2.2.2.2.2 w w0 w1] at z2
    rw [if_pos (Or.inr (Or.inr (Or.inl ?_)))]
    unfold rr_op at z2
    cases h : bt_t (f 36) w with
    | true => rfl
    | false => rw [h] at z2; exact absurd rfl z2
  · have hat := atI.mpr (by omega)
    have z := of_decide_eq_false z
    have b6 := hB.1 w
    have z2 := of_decide_eq_true z2
    rw [hS.2.2.2.2.2 w w0 w1] at z2
    have sh : bt_t (f 36) w = false := by
      unfold rr_op at z2
      cases h : bt_t (f 36) w with
      | false => rfl
      | true => rw [h] at z2; cases z2
    rw [if_neg (fun q => by
      rcases q with q | q | q | q
      · rw [hat] at q; cases q
      · omega
      · rw [sh] at q; cases q
      · rw [z3] at q; cases q)] at k
    have acB : mn_ac J w s0 < J 1 0 := by
      unfold mn_ac at c ⊢
      (repeat' split) <;> omega
    generalize hto : mn_ac J w s0 = to at *
    refine fl_264 (n1 := J 1 1) (f := f) hL hW hS hs (fun t tf t2 a0 a1 a2 a3 ai => ?_)
    have tL : rr_L J (t.1 96) := by rw [tf.1 96 (by decide) (by decide)]; exact hL
    refine fl_265 tL (by omega) acB ?_
    obtain ⟨u, hu⟩ : ∃ u : lf_Z, u = (lf_up t.1 104 5 (J 2 to), t.2.1, t.2.2) := ⟨_, rfl⟩
    rw [← hu]
    have uf : tr_f s u := by rw [hu]; exact tr_104 tf
    have ui : ∀ i : Int, i ≠ 5 → u.1 104 i = t.1 104 i := fun i hi => by rw [hu]; exact zu_i hi
    have u5 : u.1 104 5 = J 2 to := by rw [hu]; exact zu_s
    have u96 : u.1 96 = s.1 96 := uf.1 96 (by decide) (by decide)
    have u95 : u.1 95 = s.1 95 := uf.1 95 (by decide) (by decide)
    refine fl_274 (n1 := J 1 1) (f := f) (g := J 7) (by rw [u96]; exact hL) hW (by rw [u96]; exact hS) (by omega) (by omega) (fun q => (hV q).1) (Or.inl rfl) (fun q q0 q1 => by rw [u96]; exact (hL.2.2.2.2.2 q q0 q1).1) (by rw [u95]; exact h30) ?_
    rw [u95]
    obtain ⟨v, hv⟩ : ∃ v : lf_Z, v = (lf_up u.1 104 6 ((if bt_t (s.1 95 29) to = true ∧ (0 : Int) = 0 then s.1 95 30 else 0) + mn_su (J 7) f to (J 1 2).toNat), u.2.1, u.2.2) := ⟨_, rfl⟩
    rw [← hv]
    have vf : tr_f s v := by rw [hv]; exact tr_104 uf
    have vi : ∀ i : Int, i ≠ 6 → v.1 104 i = u.1 104 i := fun i hi => by rw [hv]; exact zu_i hi
    have v6 : v.1 104 6 = (if bt_t (s.1 95 29) to = true then s.1 95 30 else 0) + mn_su (J 7) f to (J 1 2).toNat := by
      rw [hv]
      refine zu_s.trans ?_
      by_cases y : bt_t (s.1 95 29) to = true
      · rw [if_pos y, if_pos ⟨y, rfl⟩]
      · rw [if_neg y, if_neg (fun q => y q.1)]
    have v96 : v.1 96 = s.1 96 := vf.1 96 (by decide) (by decide)
    have v95 : v.1 95 = s.1 95 := vf.1 95 (by decide) (by decide)
    refine fl_274 (n1 := J 1 1) (f := f) (g := J 9) (by rw [v96]; exact hL) hW (by rw [v96]; exact hS) (by omega) (by omega) (fun q => by have := (hB.2 q).2; omega) (Or.inr rfl) (fun q q0 q1 => by rw [v96]; exact (hL.2.2.2.2.2 q q0 q1).2.2.1) (by rw [v95]; exact h30) ?_
    rw [if_neg (fun q => absurd q.2 (by decide)), Int.zero_add]
    intro _
    obtain ⟨y, hy⟩ : ∃ y : lf_Z, y = (lf_up v.1 104 7 (mn_su (J 9) f to (J 1 2).toNat), v.2.1, v.2.2) := ⟨_, rfl⟩
    rw [← hy]
    have yf : tr_f s y := by rw [hy]; exact tr_104 vf
    have yi : ∀ i : Int, i ≠ 7 → y.1 104 i = v.1 104 i := fun i hi => by rw [hy]; exact zu_i hi
    have y7 : y.1 104 7 = mn_su (J 9) f to (J 1 2).toNat := by rw [hy]; exact zu_s
    have p109 : ∀ back : Int, back = (if to = came then 1 else 0) → fw_273_p109 Q w 8 back y := by
      intro back hb
      unfold fw_273_p109
      have y6 : (lf_up y.1 104 8 back) 104 6 = (if bt_t (s.1 95 29) to = true then s.1 95 30 else 0) + mn_su (J 7) f to (J 1 2).toNat := (lf_up_i (by decide)).trans ((yi 6 (by decide)).trans v6)
      rw [y6]
      have y8 : y.1 96 8 = s.1 96 8 := by rw [yf.1 96 (by decide) (by decide)]
      rw [y8]
      intro _ _
      obtain ⟨g, hg⟩ : ∃ g : lf_Z, g = (lf_up (lf_up y.1 104 8 back) 104 9 w, y.2.1, y.2.2) := ⟨_, rfl⟩
      rw [← hg]
      have gf : tr_f s g := by
        rw [hg]
        exact tr_ft yf ⟨fun c a b => (zu_r a).trans (lf_up_row a), rfl⟩
      have gi : ∀ i : Int, i ≠ 8 → i ≠ 9 → g.1 104 i = y.1 104 i := fun i h1 h2 => by rw [hg]; exact (zu_i h2).trans (lf_up_i h1)
      have g8 : g.1 104 8 = back := by rw [hg]; exact (zu_i (by decide)).trans lf_up_s
      have g9 : g.1 104 9 = w := by rw [hg]; exact zu_s
      have gT : g.1 98 = T := (gf.1 98 (by decide) (by decide)).trans hT
      have lo : ∀ i : Int, 0 ≤ i → i ≤ 3 → g.1 104 i = t.1 104 i := fun i i0 i1 => (gi i (by omega) (by omega)).trans ((yi i (by omega)).trans ((vi i (by omega)).trans (ui i (by omega))))
      have nn : xr_n1 (mn_ng J f size s0 w (if to = came then 1 else 0) (if bt_t (s.1 95 29) s0 = true then 1 else 0) (if bt_t (s.1 95 29) to = true then s.1 95 30 else 0)) (g.1 104) := by
        intro i i0 i1 i4
        rcases (show i = 0 ∨ i = 1 ∨ i = 2 ∨ i = 3 ∨ i = 5 ∨ i = 6 ∨ i = 7 ∨ i = 8 ∨ i = 9 by omega) with e | e | e | e | e | e | e | e | e
        · subst e; exact (lo 0 (by decide) (by decide)).trans a0
        · subst e; exact (lo 1 (by decide) (by decide)).trans a1
        · subst e; exact (lo 2 (by decide) (by decide)).trans a2
        · subst e; exact (lo 3 (by decide) (by decide)).trans a3
        · subst e
          show g.1 104 5 = J 2 (mn_ac J w s0)
          rw [hto]
          exact (gi 5 (by decide) (by decide)).trans ((yi 5 (by decide)).trans ((vi 5 (by decide)).trans u5))
        · subst e
          show g.1 104 6 = _ + mn_su (J 7) f (mn_ac J w s0) (J 1 2).toNat
          rw [hto]
          exact (gi 6 (by decide) (by decide)).trans ((yi 6 (by decide)).trans v6)
        · subst e
          show g.1 104 7 = mn_su (J 9) f (mn_ac J w s0) (J 1 2).toNat
          rw [hto]
          exact (gi 7 (by decide) (by decide)).trans y7
        · subst e; exact g8.trans hb
        · subst e; exact g9
      have n6 : (mn_ng J f size s0 w (if to = came then 1 else 0) (if bt_t (s.1 95 29) s0 = true then 1 else 0) (if bt_t (s.1 95 29) to = true then s.1 95 30 else 0)) 6 = (if bt_t (s.1 95 29) to = true then s.1 95 30 else 0) + mn_su (J 7) f to (J 1 2).toNat := by
        show _ + mn_su (J 7) f (mn_ac J w s0) (J 1 2).toNat = _
        rw [hto]
      refine ⟨fun d => ?_, fun d => ?_⟩
      · unfold fw_273_p143
        exact hX.2 g _ _ 5 gT nn hNm (by rw [n6, if_neg (by omega)]) (fun v w wf hv => k v w (tr_ft gf wf) hv)
      · unfold fw_273_p143
        exact hX.2 g _ _ 0 gT nn hNm (by rw [n6, if_pos (by omega)]) (fun v w wf hv => k v w (tr_ft gf wf) hv)
    exact ⟨fun q => p109 0 (by rw [if_neg q]), fun q => p109 1 (by rw [if_pos (Classical.not_not.mp q)])⟩
  · rw [if_pos (Or.inr (Or.inr (Or.inr z3)))]
end TRR
/-! what a minute keeps of a stand's row -/
section GP
variable {J : Nat → Int → Int} {f g : Int → Int} {X : mn_X} {a b p x z : Int}
theorem bt_t0 {k : Int} : bt_t 0 k = false := bt_0
/-- a bunch stands on the land -/
def gp_b (J : Nat → Int → Int) (f : Int → Int) (b : Int) : Prop := 0 < f (3 * b) → (0 ≤ f (3 * b + 1) ∧ f (3 * b + 1) < J 1 0) ∧ -1 ≤ f (3 * b + 2) ∧ f (3 * b + 2) < J 1 0
/-- what is true of every stand -/
def gp_I (J : Nat → Int → Int) (f : Int → Int) : Prop :=
  gc_P J f ∧ (∀ b : Int, 0 ≤ b → b < 4 → gp_b J f b) ∧ (0 ≤ f 0 ∧ 0 ≤ f 3 ∧ 0 ≤ f 6 ∧ 0 ≤ f 9 ∧ f 0 + f 3 + f 6 + f 9 ≤ 24) ∧ 0 ≤ f 38 ∧ f 38 < 30203
theorem gp_sz (h : gp_I J f) (b0 : 0 ≤ b) (b1 : b < 4) : 0 ≤ f (3 * b) ∧ f (3 * b) ≤ 24 := by
  obtain ⟨_, _, z, _⟩ := h
  rcases (show b = 0 ∨ b = 1 ∨ b = 2 ∨ b = 3 by omega) with e | e | e | e
  · subst e; show 0 ≤ f 0 ∧ f 0 ≤ 24; omega
  · subst e; show 0 ≤ f 3 ∧ f 3 ≤ 24; omega
  · subst e; show 0 ≤ f 6 ∧ f 6 ≤ 24; omega
  · subst e; show 0 ≤ f 9 ∧ f 9 ≤ 24; omega
theorem gp_at (h : gp_I J f) (b0 : 0 ≤ b) (b1 : b < 4) (hz : 0 < f (3 * b)) : (0 ≤ f (3 * b + 1) ∧ f (3 * b + 1) < J 1 0) ∧ -1 ≤ f (3 * b + 2) ∧ f (3 * b + 2) < J 1 0 := h.2.1 b b0 b1 hz
/-- the first 24 cells alone matter, and X -/
theorem gp_e (hW : mn_W J) (h : gp_I J f) (e : ∀ j : Int, 0 ≤ j → j < 24 → g j = f j) (hx : 0 ≤ g 38 ∧ g 38 < 30203) : gp_I J g := by
  have w2 := hW.2.2.1
  obtain ⟨h1, h2, h3, h4⟩ := h
  refine ⟨fun q q0 q1 => ?_, fun b b0 b1 => ?_, ?_, hx⟩
  · rw [e (12 + 2 * q) (by omega) (by omega), e (12 + 2 * q + 1) (by omega) (by omega)]; exact h1 q q0 q1
  · unfold gp_b
    rw [e (3 * b) (by omega) (by omega), e (3 * b + 1) (by omega) (by omega), e (3 * b + 2) (by omega) (by omega)]
    exact h2 b b0 b1
  · rw [e 0 (by decide) (by decide), e 3 (by decide) (by decide), e 6 (by decide) (by decide), e 9 (by decide) (by decide)]; exact h3
theorem gp_an (hW : mn_W J) (h : gp_I J f) : gp_I J (ds_u1 f 38 (mn_an (f 38))) := by
  have e : ∀ j : Int, j ≠ 38 → ds_u1 f 38 (mn_an (f 38)) j = f j := fun j hj => if_neg hj
  refine gp_e hW h (fun j _ j1 => e j (by omega)) ?_
  rw [show ds_u1 f 38 (mn_an (f 38)) 38 = mn_an (f 38) from if_pos rfl]
  exact mn_anB h.2.2.2.1
/-- a bunch is put elsewhere -/
theorem gp_t {v s : Int} (h : gp_I J f) (b0 : 0 ≤ b) (b1 : b < 4) (hv : 0 ≤ v ∧ v < J 1 0) (hs : -1 ≤ s ∧ s < J 1 0) : gp_I J (ds_u1 (ds_u1 f (3 * b + 1) v) (3 * b + 2) s) := by
  obtain ⟨h1, h2, h3, h4⟩ := h
  have e : ∀ j : Int, j ≠ 3 * b + 1 → j ≠ 3 * b + 2 → ds_u1 (ds_u1 f (3 * b + 1) v) (3 * b + 2) s j = f j := fun j p q => (if_neg q).trans (if_neg p)
  have e1 : ds_u1 (ds_u1 f (3 * b + 1) v) (3 * b + 2) s (3 * b + 1) = v := (if_neg (by omega)).trans (if_pos rfl)
  have e2 : ds_u1 (ds_u1 f (3 * b + 1) v) (3 * b + 2) s (3 * b + 2) = s := if_pos rfl
  generalize hg : ds_u1 (ds_u1 f (3 * b + 1) v) (3 * b + 2) s = g at *
  refine ⟨fun q q0 q1 => ?_, fun q q0 q1 => ?_, ?_, ?_⟩
  · rw [e (12 + 2 * q) (by omega) (by omega), e (12 + 2 * q + 1) (by omega) (by omega)]; exact h1 q q0 q1
  · unfold gp_b
    by_cases y : q = b
    · rw [y, e1, e2]; exact fun _ => ⟨hv, hs⟩
    · rw [e (3 * q) (by omega) (by omega), e (3 * q + 1) (by omega) (by omega), e (3 * q + 2) (by omega) (by omega)]
      exact h2 q q0 q1
  · rw [e 0 (by omega) (by omega), e 3 (by omega) (by omega), e 6 (by omega) (by omega), e 9 (by omega) (by omega)]; exact h3
  · rw [e 38 (by omega) (by omega)]; exact h4
theorem mn_tkA {s w size came : Int} {n : Nat} (h : mn_tk J X f size s came n ≠ 0) : mn_at J s n = true := by
  cases e : mn_at J s n with
  | true => rfl
  | false => exact absurd (if_pos (Or.inl e)) h
theorem gp_mv (hW : mn_W J) (b0 : 0 ≤ b) (b1 : b < 4) {s : Int} (hs : 0 ≤ s ∧ s < J 1 0) : ∀ (k w : Nat) (f : Int → Int), gp_I J f → (w : Int) + k ≤ J 1 1 → gp_I J (mn_mv J X b s k w f) ∧ ∀ j : Int, j ≠ 38 → j ≠ 3 * b + 1 → j ≠ 3 * b + 2 → mn_mv J X b s k w f j = f j := by
  intro k
  induction k with
  | zero => intro w f h _; exact ⟨h, fun _ _ _ _ => rfl⟩
  | succ k ih =>
    intro w f h hk
    have e : mn_mv J X b s (k + 1) w f = (if mn_tk J X f (f (3 * b)) s (f (3 * b + 2)) w = 0 then mn_mv J X b s k (w + 1) f
      else if 10 ≤ mn_tk J X f (f (3 * b)) s (f (3 * b + 2)) w then ds_u1 (ds_u1 f (3 * b + 1) (mn_ac J w s)) (3 * b + 2) s
      else if (f 38).tmod 10 < mn_tk J X f (f (3 * b)) s (f (3 * b + 2)) w then ds_u1 (ds_u1 (ds_u1 f 38 (mn_an (f 38))) (3 * b + 1) (mn_ac J w s)) (3 * b + 2) s
      else mn_mv J X b s k (w + 1) (ds_u1 f 38 (mn_an (f 38)))) := rfl
    rw [e]
    by_cases c1 : mn_tk J X f (f (3 * b)) s (f (3 * b + 2)) w = 0
    · rw [if_pos c1]
      exact ih (w + 1) f h (by omega)
    · have B := mn_acB hW (show (w : Int) < J 1 1 by omega) (mn_tkA (w := 0) c1)
      rw [if_neg c1]
      by_cases c2 : 10 ≤ mn_tk J X f (f (3 * b)) s (f (3 * b + 2)) w
      · rw [if_pos c2]
        exact ⟨gp_t h b0 b1 ⟨B.1, B.2.1⟩ ⟨by omega, hs.2⟩, fun j _ j1 j2 => (if_neg j2).trans (if_neg j1)⟩
      · rw [if_neg c2]
        have h' := gp_an hW h
        by_cases c3 : (f 38).tmod 10 < mn_tk J X f (f (3 * b)) s (f (3 * b + 2)) w
        · rw [if_pos c3]
          exact ⟨gp_t h' b0 b1 ⟨B.1, B.2.1⟩ ⟨by omega, hs.2⟩, fun j j0 j1 j2 => (if_neg j2).trans ((if_neg j1).trans (if_neg j0))⟩
        · rw [if_neg c3]
          have r := ih (w + 1) _ h' (by omega)
          exact ⟨r.1, fun j j0 j1 j2 => (r.2 j j0 j1 j2).trans (if_neg j0)⟩
/-- a move: it keeps the facts, the sizes -/
theorem gp_m1 (hW : mn_W J) (h : gp_I J f) (b0 : 0 ≤ b) (b1 : b < 4) (hz : 0 < f (3 * b)) : gp_I J (mn_m1 J X b f) ∧ ∀ j : Int, j ≠ 38 → j ≠ 3 * b + 1 → j ≠ 3 * b + 2 → mn_m1 J X b f j = f j := by
  have w1 := hW.2.1
  exact gp_mv hW b0 b1 (gp_at h b0 b1 hz).1 (J 1 1).toNat 0 f h (by omega)
theorem gp_rp (hW : mn_W J) (b0 : 0 ≤ b) (b1 : b < 4) : ∀ (k : Nat) (f : Int → Int), gp_I J f → 0 < f (3 * b) → gp_I J (mn_rp (mn_m1 J X b) k f) ∧ 0 < mn_rp (mn_m1 J X b) k f (3 * b) := by
  intro k
  induction k with
  | zero => intro f h hz; exact ⟨h, hz⟩
  | succ k ih =>
    intro f h hz
    have r := gp_m1 (X := X) hW h b0 b1 hz
    exact ih (mn_m1 J X b f) r.1 (by rw [r.2 (3 * b) (by omega) (by omega) (by omega)]; exact hz)
theorem gp_bb (hW : mn_W J) : ∀ (k : Nat) (b : Int) (f : Int → Int), gp_I J f → 0 ≤ b → b + k ≤ 4 → gp_I J (mn_bb J X k b f) := by
  intro k
  induction k with
  | zero => intro b f h _ _; exact h
  | succ k ih =>
    intro b f h b0 b1
    show gp_I J (mn_bb J X k (b + 1) (if f (3 * b) ≤ 0 then f else mn_rp (mn_m1 J X b) (X.1 (mn_np J f b)).toNat f))
    refine ih (b + 1) _ ?_ (by omega) (by omega)
    by_cases c : f (3 * b) ≤ 0
    · rw [if_pos c]; exact h
    · rw [if_neg c]
      exact (gp_rp hW b0 (by omega) _ f h (by omega)).1
theorem mn_go_o {j : Int} (hj : j ≠ 12 + 2 * p) : mn_go J p f j = f j := by
  unfold mn_go
  split
  · rfl
  · exact if_neg hj
theorem gp_go (hW : mn_W J) (h : gp_I J f) (p0 : 0 ≤ p) (p1 : p < J 1 2) : gp_I J (mn_go J p f) := by
  have w2 := hW.2.2.1
  obtain ⟨h1, h2, h3, h4⟩ := h
  refine ⟨gc_Pg hW h1 p0 p1, fun b b0 b1 => ?_, ?_, ?_⟩
  · unfold gp_b
    rw [mn_go_o (by omega), mn_go_o (by omega), mn_go_o (by omega)]
    exact h2 b b0 b1
  · rw [mn_go_o (by omega), mn_go_o (by omega), mn_go_o (by omega), mn_go_o (by omega)]; exact h3
  · rw [mn_go_o (by omega)]; exact h4
theorem gp_pp (hW : mn_W J) : ∀ (k : Nat) (p : Int) (f : Int → Int), gp_I J f → 0 ≤ p → p + k ≤ J 1 2 → gp_I J (mn_pp J k p f) := by
  intro k
  induction k with
  | zero => intro p f h _ _; exact h
  | succ k ih =>
    intro p f h p0 p1
    show gp_I J (mn_pp J k (p + 1) (if J 8 p = 0 then mn_go J p f else mn_go J p (mn_go J p f)))
    refine ih (p + 1) _ ?_ (by omega) (by omega)
    have g1 := gp_go hW h p0 (by omega)
    split
    · exact g1
    · exact gp_go hW g1 p0 (by omega)
theorem gp_hb (hW : mn_W J) : ∀ (k : Nat) (b : Int) (f : Int → Int), gp_I J f → 0 ≤ b → b + k ≤ 4 → gp_I J (mn_hb J k b f) := by
  have w0 := hW.1
  intro k
  induction k with
  | zero => intro b f h _ _; exact h
  | succ k ih =>
    intro b f h b0 b1
    show gp_I J (mn_hb J k (b + 1) (if f (3 * b) ≤ 0 then f else ds_u1 f (24 + f (3 * b + 1)) (lf_w (f (24 + f (3 * b + 1)) + f (3 * b) * J 3 (f (3 * b + 1))))))
    refine ih (b + 1) _ ?_ (by omega) (by omega)
    by_cases c : f (3 * b) ≤ 0
    · rw [if_pos c]; exact h
    · rw [if_neg c]
      have a := gp_at h b0 (by omega) (by omega)
      refine gp_e hW h (fun j _ j1 => if_neg (by omega)) ?_
      rw [show ∀ v : Int, ds_u1 f (24 + f (3 * b + 1)) v 38 = f 38 from fun v => if_neg (by omega)]
      exact h.2.2.2
/-- two bunches are one -/
def mn_j1 (b c : Int) (f : Int → Int) : Int → Int := ds_u1 (ds_u1 (ds_u1 (ds_u1 f (3 * b) (f (3 * b) + f (3 * c))) (3 * c) 0) (3 * c + 1) (-1)) (3 * c + 2) (-1)
theorem gp_j1 {c : Int} (h : gp_I J f) (b0 : 0 ≤ b) (hc : b < c) (c1 : c < 4) (hz : 0 < f (3 * b)) : gp_I J (mn_j1 b c f) := by
  obtain ⟨h1, h2, h3, h4⟩ := h
  have o : ∀ j : Int, j ≠ 3 * b → j ≠ 3 * c → j ≠ 3 * c + 1 → j ≠ 3 * c + 2 → mn_j1 b c f j = f j := fun j x1 x2 x3 x4 => (if_neg x4).trans ((if_neg x3).trans ((if_neg x2).trans (if_neg x1)))
  have eb : mn_j1 b c f (3 * b) = f (3 * b) + f (3 * c) := (if_neg (by omega)).trans ((if_neg (by omega)).trans ((if_neg (by omega)).trans (if_pos rfl)))
  have ec : mn_j1 b c f (3 * c) = 0 := (if_neg (by omega)).trans ((if_neg (by omega)).trans (if_pos rfl))
  generalize mn_j1 b c f = g at *
  refine ⟨fun q q0 q1 => ?_, fun q q0 q1 => ?_, ?_, ?_⟩
  · rw [o (12 + 2 * q) (by omega) (by omega) (by omega) (by omega), o (12 + 2 * q + 1) (by omega) (by omega) (by omega) (by omega)]; exact h1 q q0 q1
  · unfold gp_b
    by_cases y : q = c
    · rw [y, ec]; exact fun w => absurd w (by decide)
    · rw [o (3 * q + 1) (by omega) (by omega) (by omega) (by omega), o (3 * q + 2) (by omega) (by omega) (by omega) (by omega)]
      by_cases y2 : q = b
      · rw [y2]; exact fun _ => h2 b b0 (by omega) hz
      · rw [o (3 * q) (by omega) (by omega) (by omega) (by omega)]; exact h2 q q0 q1
  · have o0 := o 0
    have o3 := o 3
    have o6 := o 6
    have o9 := o 9
    rcases (show (b = 0 ∧ c = 1) ∨ (b = 0 ∧ c = 2) ∨ (b = 0 ∧ c = 3) ∨ (b = 1 ∧ c = 2) ∨ (b = 1 ∧ c = 3) ∨ (b = 2 ∧ c = 3) by omega) with ⟨e1, e2⟩ | ⟨e1, e2⟩ | ⟨e1, e2⟩ | ⟨e1, e2⟩ | ⟨e1, e2⟩ | ⟨e1, e2⟩
    · subst e1; subst e2
      have eb : g 0 = f 0 + f 3 := eb
      have ec : g 3 = 0 := ec
      rw [eb, ec, o6 (by decide) (by decide) (by decide) (by decide), o9 (by decide) (by decide) (by decide) (by decide)]; omega
    · subst e1; subst e2
      have eb : g 0 = f 0 + f 6 := eb
      have ec : g 6 = 0 := ec
      rw [eb, ec, o3 (by decide) (by decide) (by decide) (by decide), o9 (by decide) (by decide) (by decide) (by decide)]; omega
    · subst e1; subst e2
      have eb : g 0 = f 0 + f 9 := eb
      have ec : g 9 = 0 := ec
      rw [eb, ec, o3 (by decide) (by decide) (by decide) (by decide), o6 (by decide) (by decide) (by decide) (by decide)]; omega
    · subst e1; subst e2
      have eb : g 3 = f 3 + f 6 := eb
      have ec : g 6 = 0 := ec
      rw [eb, ec, o0 (by decide) (by decide) (by decide) (by decide), o9 (by decide) (by decide) (by decide) (by decide)]; omega
    · subst e1; subst e2
      have eb : g 3 = f 3 + f 9 := eb
      have ec : g 9 = 0 := ec
      rw [eb, ec, o0 (by decide) (by decide) (by decide) (by decide), o6 (by decide) (by decide) (by decide) (by decide)]; omega
    · subst e1; subst e2
      have eb : g 6 = f 6 + f 9 := eb
      have ec : g 9 = 0 := ec
      rw [eb, ec, o0 (by decide) (by decide) (by decide) (by decide), o3 (by decide) (by decide) (by decide) (by decide)]; omega
  · rw [o 38 (by omega) (by omega) (by omega) (by omega)]; exact h4
theorem gp_jc (b0 : 0 ≤ b) : ∀ (k : Nat) (c : Int) (f : Int → Int), gp_I J f → b < c → c + k ≤ 4 → gp_I J (mn_jc b k c f) := by
  intro k
  induction k with
  | zero => intro c f h _ _; exact h
  | succ k ih =>
    intro c f h hc c1
    show gp_I J (mn_jc b k (c + 1) (if f (3 * b) ≤ 0 ∨ f (3 * c) ≤ 0 ∨ f (3 * c + 1) ≠ f (3 * b + 1) then f else mn_j1 b c f))
    refine ih (c + 1) _ ?_ (by omega) (by omega)
    by_cases d : f (3 * b) ≤ 0 ∨ f (3 * c) ≤ 0 ∨ f (3 * c + 1) ≠ f (3 * b + 1)
    · rw [if_pos d]; exact h
    · rw [if_neg d]
      exact gp_j1 h b0 hc (by omega) (by omega)
theorem gp_jb : ∀ (k : Nat) (b : Int) (f : Int → Int), gp_I J f → 0 ≤ b → b + k ≤ 4 → gp_I J (mn_jb k b f) := by
  intro k
  induction k with
  | zero => intro b f h _ _; exact h
  | succ k ih =>
    intro b f h b0 b1
    show gp_I J (mn_jb k (b + 1) (mn_jc b (3 - b).toNat (b + 1) f))
    exact ih (b + 1) _ (gp_jc b0 _ _ f h (by omega) (by omega)) (by omega) (by omega)
theorem gp_min (hW : mn_W J) (h : gp_I J f) : gp_I J (mn_min J X f) := by
  have w2 := hW.2.2.1
  have g1 := gp_jb 4 0 _ (gp_hb hW 4 0 _ (gp_bb (X := X) hW 4 0 _ (gp_pp hW (J 1 2).toNat 0 f h (Int.le_refl 0) (by omega)) (Int.le_refl 0) (by decide)) (Int.le_refl 0) (by decide)) (Int.le_refl 0) (by decide)
  unfold mn_min
  refine gp_e hW g1 (fun j _ j1 => if_neg (by omega)) ?_
  rw [show ∀ (F : Int → Int) (v : Int), ds_u1 F 37 v 38 = F 38 from fun F v => if_neg (by decide)]
  exact g1.2.2.2
end GP
/-! a move, pace: the reference -/
section RM
variable {J : Nat → Int → Int} {s t u : lf_Z} {f g T A B : Int → Int} {X : mn_X} {a b p x n1 n2 : Int}
theorem fl_242 {Q : Int → lf_Z → Prop} (h : Q (s.1 96 (114 + 3 * a)) s) : fw_242 a Q s := by unfold fw_242; exact fun _ => h
theorem fl_255 {Q : Int → lf_Z → Prop} (h : Q (s.1 96 (114 + 3 * a + 1)) s) : fw_255 a Q s := by unfold fw_255; exact fun _ => h
theorem fl_256 {Q : Int → lf_Z → Prop} (h : Q (s.1 96 (114 + 3 * a + 2)) s) : fw_256 a Q s := by unfold fw_256; exact fun _ => h
theorem fl_277 {Q : Int → lf_Z → Prop} (h : Q (s.1 96 (14 + 3 * a + 1)) s) : fw_277 a Q s := by unfold fw_277; exact fun _ => h
theorem fl_239d {Q : Int → lf_Z → Prop} (h : Q (s.1 96 (126 + 6 * a + 1)) s) : fw_239d a Q s := by unfold fw_239d; exact fun _ => h
/-- where the row has the stand -/
def rm_p (i : Int) : Prop := i = 3 ∨ i = 6 ∨ (114 ≤ i ∧ i < 126) ∨ (126 ≤ i ∧ i < 162 ∧ ((i - 126) % 6 = 3 ∨ (i - 126) % 6 = 4)) ∨ (14 ≤ i ∧ i < 50 ∧ (i - 14) % 3 = 2)
/-- nothing but the stand and the laws' scratch -/
def rm_f (s t : lf_Z) : Prop := (∀ c : Nat, c ≠ 96 → c ≠ 104 → c ≠ 107 → c ≠ 108 → t.1 c = s.1 c) ∧ (∀ i : Int, ¬ rm_p i → t.1 96 i = s.1 96 i) ∧ t.2.2 = s.2.2
theorem rm_fr : rm_f s s := ⟨fun _ _ _ _ _ => rfl, fun _ _ => rfl, rfl⟩
theorem rm_ft (h : rm_f s t) (g : rm_f t u) : rm_f s u := ⟨fun c a b d e => (g.1 c a b d e).trans (h.1 c a b d e), fun i hi => (g.2.1 i hi).trans (h.2.1 i hi), g.2.2.trans h.2.2⟩
theorem rm_k (h : tr_f s t) : rm_f s t := ⟨fun c _ b d _ => h.1 c b d, fun i _ => by rw [h.1 96 (by decide) (by decide)], h.2⟩
theorem rm_u {i v : Int} (hi : rm_p i) : rm_f s (lf_up s.1 96 i v, s.2.1, s.2.2) := ⟨fun c a _ _ _ => zu_r a, fun j hj => zu_i (fun q => hj (by rw [q]; exact hi)), rfl⟩
theorem rm_L (hL : rr_L J (s.1 96)) (hW : mn_W J) (h : rm_f s t) : rr_L J (t.1 96) := by
  obtain ⟨w0, w1, w2, _⟩ := hW
  obtain ⟨l0, l1, l2, l3, l4, l5⟩ := hL
  have g : ∀ j : Int, ¬ rm_p j → t.1 96 j = s.1 96 j := h.2.1
  refine ⟨(g 0 (by unfold rm_p; omega)).trans l0, (g 1 (by unfold rm_p; omega)).trans l1, (g 2 (by unfold rm_p; omega)).trans l2, fun q q0 q1 => ?_, fun w x0 x1 => ?_, fun q q0 q1 => ?_⟩
  · rw [g (14 + 3 * q) (by unfold rm_p; omega), g (14 + 3 * q + 1) (by unfold rm_p; omega)]; exact l3 q q0 q1
  · rw [g (50 + 4 * w) (by unfold rm_p; omega), g (50 + 4 * w + 1) (by unfold rm_p; omega), g (50 + 4 * w + 2) (by unfold rm_p; omega)]; exact l4 w x0 x1
  · rw [g (126 + 6 * q + 0) (by unfold rm_p; omega), g (126 + 6 * q + 1) (by unfold rm_p; omega), g (126 + 6 * q + 2) (by unfold rm_p; omega), g (126 + 6 * q + 5) (by unfold rm_p; omega)]; exact l5 q q0 q1
/-- a bunch's cells are told anew -/
theorem rm_S (hS : rr_S n1 n2 f A) (h16 : n1 ≤ 16) (h6 : n2 ≤ 6) (b0 : 0 ≤ b) (b1 : b < 4) (eg : ∀ j : Int, ¬ (3 * b ≤ j ∧ j ≤ 3 * b + 2) → g j = f j) (eB : ∀ j : Int, ¬ (114 + 3 * b ≤ j ∧ j ≤ 114 + 3 * b + 2) → B j = A j) (h0 : B (114 + 3 * b) = g (3 * b)) (h1 : g (3 * b) ≠ 0 → B (114 + 3 * b + 1) = g (3 * b + 1) ∧ B (114 + 3 * b + 2) = g (3 * b + 2)) : rr_S n1 n2 g B := by
  obtain ⟨s1, s2, s3, s4, s5, s6⟩ := hS
  refine ⟨?_, ?_, fun q q0 q1 => ?_, fun q q0 q1 => ?_, fun q q0 q1 => ?_, fun w w0 w1 => ?_⟩
  · rw [eB 3 (by omega), eg 37 (by omega)]; exact s1
  · rw [eB 6 (by omega), eg 38 (by omega)]; exact s2
  · by_cases y : q = b
    · rw [y]; exact ⟨h0, h1⟩
    · rw [eB (114 + 3 * q) (by omega), eB (114 + 3 * q + 1) (by omega), eB (114 + 3 * q + 2) (by omega), eg (3 * q) (by omega), eg (3 * q + 1) (by omega), eg (3 * q + 2) (by omega)]; exact s3 q q0 q1
  · rw [eB (126 + 6 * q + 3) (by omega), eB (126 + 6 * q + 4) (by omega), eg (12 + 2 * q) (by omega), eg (12 + 2 * q + 1) (by omega)]; exact s4 q q0 q1
  · rw [eB (14 + 3 * q + 2) (by omega), eg (24 + q) (by omega)]; exact s5 q q0 q1
  · rw [eB (50 + 4 * w + 3) (by omega), eg 36 (by omega)]; exact s6 w w0 w1
/-- X, the minute -/
theorem rm_38 {v : Int} (hS : rr_S n1 n2 f A) (h16 : n1 ≤ 16) (h6 : n2 ≤ 6) (eB : ∀ j : Int, j ≠ 6 → B j = A j) (h : B 6 = v) : rr_S n1 n2 (ds_u1 f 38 v) B := by
  obtain ⟨s1, s2, s3, s4, s5, s6⟩ := hS
  have eg : ∀ j : Int, j ≠ 38 → ds_u1 f 38 v j = f j := fun j hj => if_neg hj
  refine ⟨?_, ?_, fun q q0 q1 => ?_, fun q q0 q1 => ?_, fun q q0 q1 => ?_, fun w w0 w1 => ?_⟩
  · rw [eB 3 (by omega), eg 37 (by omega)]; exact s1
  · exact h.trans (if_pos rfl).symm
  · rw [eB (114 + 3 * q) (by omega), eB (114 + 3 * q + 1) (by omega), eB (114 + 3 * q + 2) (by omega), eg (3 * q) (by omega), eg (3 * q + 1) (by omega), eg (3 * q + 2) (by omega)]; exact s3 q q0 q1
  · rw [eB (126 + 6 * q + 3) (by omega), eB (126 + 6 * q + 4) (by omega), eg (12 + 2 * q) (by omega), eg (12 + 2 * q + 1) (by omega)]; exact s4 q q0 q1
  · rw [eB (14 + 3 * q + 2) (by omega), eg (24 + q) (by omega)]; exact s5 q q0 q1
  · rw [eB (50 + 4 * w + 3) (by omega), eg 36 (by omega)]; exact s6 w w0 w1
theorem rm_37 {v : Int} (hS : rr_S n1 n2 f A) (h16 : n1 ≤ 16) (h6 : n2 ≤ 6) (eB : ∀ j : Int, j ≠ 3 → B j = A j) (h : B 3 = v) : rr_S n1 n2 (ds_u1 f 37 v) B := by
  obtain ⟨s1, s2, s3, s4, s5, s6⟩ := hS
  have eg : ∀ j : Int, j ≠ 37 → ds_u1 f 37 v j = f j := fun j hj => if_neg hj
  refine ⟨?_, ?_, fun q q0 q1 => ?_, fun q q0 q1 => ?_, fun q q0 q1 => ?_, fun w w0 w1 => ?_⟩
  · exact h.trans (if_pos rfl).symm
  · rw [eB 6 (by omega), eg 38 (by omega)]; exact s2
  · rw [eB (114 + 3 * q) (by omega), eB (114 + 3 * q + 1) (by omega), eB (114 + 3 * q + 2) (by omega), eg (3 * q) (by omega), eg (3 * q + 1) (by omega), eg (3 * q + 2) (by omega)]; exact s3 q q0 q1
  · rw [eB (126 + 6 * q + 3) (by omega), eB (126 + 6 * q + 4) (by omega), eg (12 + 2 * q) (by omega), eg (12 + 2 * q + 1) (by omega)]; exact s4 q q0 q1
  · rw [eB (14 + 3 * q + 2) (by omega), eg (24 + q) (by omega)]; exact s5 q q0 q1
  · rw [eB (50 + 4 * w + 3) (by omega), eg 36 (by omega)]; exact s6 w w0 w1
/-- harm done at a stretch -/
theorem rm_24 {v : Int} (hS : rr_S n1 n2 f A) (h16 : n1 ≤ 16) (h6 : n2 ≤ 6) (a0 : 0 ≤ a) (a1 : a < 12) (eB : ∀ j : Int, j ≠ 14 + 3 * a + 2 → B j = A j) (h : B (14 + 3 * a + 2) = v) : rr_S n1 n2 (ds_u1 f (24 + a) v) B := by
  obtain ⟨s1, s2, s3, s4, s5, s6⟩ := hS
  have eg : ∀ j : Int, j ≠ 24 + a → ds_u1 f (24 + a) v j = f j := fun j hj => if_neg hj
  refine ⟨?_, ?_, fun q q0 q1 => ?_, fun q q0 q1 => ?_, fun q q0 q1 => ?_, fun w w0 w1 => ?_⟩
  · rw [eB 3 (by omega), eg 37 (by omega)]; exact s1
  · rw [eB 6 (by omega), eg 38 (by omega)]; exact s2
  · rw [eB (114 + 3 * q) (by omega), eB (114 + 3 * q + 1) (by omega), eB (114 + 3 * q + 2) (by omega), eg (3 * q) (by omega), eg (3 * q + 1) (by omega), eg (3 * q + 2) (by omega)]; exact s3 q q0 q1
  · rw [eB (126 + 6 * q + 3) (by omega), eB (126 + 6 * q + 4) (by omega), eg (12 + 2 * q) (by omega), eg (12 + 2 * q + 1) (by omega)]; exact s4 q q0 q1
  · by_cases y : q = a
    · rw [y]; exact h.trans (if_pos rfl).symm
    · rw [eB (14 + 3 * q + 2) (by omega), eg (24 + q) (by omega)]; exact s5 q q0 q1
  · rw [eB (50 + 4 * w + 3) (by omega), eg 36 (by omega)]; exact s6 w w0 w1
theorem fl_275 {Q : Int → lf_Z → Prop} (hS : rr_S n1 n2 f (s.1 96)) (h16 : n1 ≤ 16) (h6 : n2 ≤ 6) (k : ∀ t : lf_Z, rm_f s t → rr_S n1 n2 (ds_u1 f 38 (mn_an (f 38))) (t.1 96) → Q ((f 38).tmod 10) t) : fw_275 10 Q s := by
  unfold fw_275 fw_276
  rw [hS.2.1]
  intro _ _ _ _
  exact k _ (rm_u (Or.inr (Or.inl rfl))) (rm_38 hS h16 h6 (fun j hj => zu_i hj) zu_s)
theorem fl_247 {z v w : Int} {Q : lf_Z → Prop} (k : ∀ t : lf_Z, (∀ c : Nat, c ≠ 96 → t.1 c = s.1 c) → t.2 = s.2 → (∀ j : Int, ¬ (114 + 3 * a ≤ j ∧ j ≤ 114 + 3 * a + 2) → t.1 96 j = s.1 96 j) → t.1 96 (114 + 3 * a) = z → t.1 96 (114 + 3 * a + 1) = v → t.1 96 (114 + 3 * a + 2) = w → Q t) : fw_247 a z v w Q s := by
  unfold fw_247
  intro _ _ _
  exact k _ (fun c hc => (zu_r hc).trans ((lf_up_row hc).trans (lf_up_row hc))) rfl (fun j hj => (zu_i (by omega)).trans ((lf_up_i (by omega)).trans (lf_up_i (by omega)))) ((zu_i (by omega)).trans ((lf_up_i (by omega)).trans lf_up_s)) ((zu_i (by omega)).trans lf_up_s) zu_s
/-- the reference's scratch for laws that are asked about is off -/
def rm_0 (T : Int → Int) (s : lf_Z) : Prop := s.1 98 = T ∧ s.1 95 29 = 0 ∧ s.1 95 31 = 0 ∧ 0 ≤ s.1 95 30 ∧ s.1 95 30 ≤ 9
theorem rm_0k (h : rm_0 T s) (g : rm_f s t) : rm_0 T t := by
  unfold rm_0 at h ⊢
  rw [g.1 98 (by decide) (by decide) (by decide) (by decide), g.1 95 (by decide) (by decide) (by decide) (by decide)]
  exact h
theorem xr_Xk (hX : xr_X X T (s.1 96 8)) (g : rm_f s t) : xr_X X T (t.1 96 8) := by
  rw [g.2.1 8 (by unfold rm_p; omega)]; exact hX
/-- a move -/
theorem fl_272 {Q : lf_Z → Prop} (hL : rr_L J (s.1 96)) (hW : mn_W J) (hB : mn_B J) (hV : mn_V J) (hS : rr_S (J 1 1) (J 1 2) f (s.1 96)) (hX : xr_X X T (s.1 96 8)) (h0 : rm_0 T s) (b0 : 0 ≤ b) (b1 : b < 4) (hz : f (3 * b) ≠ 0) (hzz : 0 ≤ f (3 * b) ∧ f (3 * b) ≤ 24) (hp : 0 ≤ f (3 * b + 1) ∧ f (3 * b + 1) < J 1 0)
    (k : ∀ t : lf_Z, rm_f s t → rr_S (J 1 1) (J 1 2) (mn_m1 J X b f) (t.1 96) → Q t) : fw_272 b Q s := by
  have w1 := hW.2.1
  have w2 := hW.2.2.1
  unfold fw_272
  refine fl_255 ?_
  rw [((hS.2.2.1 b b0 b1).2 hz).1]
  unfold mn_m1 at k
  generalize hs : f (3 * b + 1) = s0 at *
  refine ⟨fun w u => ∃ (n : Nat) (g : Int → Int), w = n ∧ rm_f s u ∧ rr_S (J 1 1) (J 1 2) g (u.1 96) ∧ (n : Int) ≤ J 1 1 ∧ g (3 * b) = f (3 * b) ∧ mn_mv J X b s0 ((J 1 1).toNat - n) n g = mn_mv J X b s0 (J 1 1).toNat 0 f, ?_, ⟨0, f, rfl, rm_fr, hS, w1.1, rfl, rfl⟩⟩
  intro w u ⟨n, g, ew, uf, uS, un, g0, ge⟩
  subst ew
  have uL := rm_L hL hW uf
  have u0 := rm_0k h0 uf
  unfold fw_272_p8
  rw [uL.2.1]
  intro _ _
  refine ⟨fun c => ?_, fun c => fl_242 (fl_256 ?_)⟩
  · rw [show (J 1 1).toNat - n = 0 by omega] at ge
    have ge : g = mn_mv J X b s0 (J 1 1).toNat 0 f := ge
    rw [ge] at uS
    exact k u uf uS
  · rw [show (J 1 1).toNat - n = ((J 1 1).toNat - (n + 1)) + 1 by omega] at ge
    have ge : (if mn_tk J X g (g (3 * b)) s0 (g (3 * b + 2)) n = 0 then mn_mv J X b s0 ((J 1 1).toNat - (n + 1)) (n + 1) g
        else if 10 ≤ mn_tk J X g (g (3 * b)) s0 (g (3 * b + 2)) n then ds_u1 (ds_u1 g (3 * b + 1) (mn_ac J n s0)) (3 * b + 2) s0
        else if (g 38).tmod 10 < mn_tk J X g (g (3 * b)) s0 (g (3 * b + 2)) n then ds_u1 (ds_u1 (ds_u1 g 38 (mn_an (g 38))) (3 * b + 1) (mn_ac J n s0)) (3 * b + 2) s0
        else mn_mv J X b s0 ((J 1 1).toNat - (n + 1)) (n + 1) (ds_u1 g 38 (mn_an (g 38)))) = mn_mv J X b s0 (J 1 1).toNat 0 f := ge
    obtain ⟨d1, d2⟩ := uS.2.2.1 b b0 b1
    have d2 := d2 (by rw [g0]; exact hz)
    rw [d1, d2.2]
    refine fl_273 (f := g) (X := X) (T := T) uL hW hB hV uS (xr_Xk hX uf) u0.1 hp (by omega) (by omega) ⟨u0.2.2.2.1, u0.2.2.2.2⟩ (ng_S hW hB hV hp (by omega) (by omega) (by unfold cm_sm; omega) (by unfold cm_sm; split <;> omega) (by split <;> omega) (by have := u0.2.2.2; split <;> omega)) (fun v y yf hv => ?_)
    have tkE : v = mn_tk J X g (g (3 * b)) s0 (g (3 * b + 2)) n := by
      rw [hv, u0.2.1, u0.2.2.1, bt_t0, bt_t0, bt_t0, if_neg (show ¬ (false = true) by decide), if_neg (show ¬ (false = true) by decide), mn_ngt, show ((n : Int)).toNat = n by omega]
      unfold mn_tk
      by_cases c2 : mn_at J s0 n = false ∨ J 6 (n : Int) ≠ 0 ∨ bt_t (g 36) (n : Int) = true
      · rw [if_pos c2, if_pos (by rcases c2 with q | q | q; exact Or.inl q; exact Or.inr (Or.inl q); exact Or.inr (Or.inr (Or.inl q)))]
      · rw [if_neg c2, if_neg (fun q => by rcases q with q | q | q | q; exact c2 (Or.inl q); exact c2 (Or.inr (Or.inl q)); exact c2 (Or.inr (Or.inr q)); cases q)]
    have yF := rm_ft uf (rm_k yf)
    have yS : rr_S (J 1 1) (J 1 2) g (y.1 96) := by rw [yf.1 96 (by decide) (by decide)]; exact uS
    have take : ∀ (h : Int → Int) (q : lf_Z), rm_f s q → rr_S (J 1 1) (J 1 2) h (q.1 96) → ds_u1 (ds_u1 h (3 * b + 1) (mn_ac J n s0)) (3 * b + 2) s0 = mn_mv J X b s0 (J 1 1).toNat 0 f → fw_272_p62 Q b s0 n q := by
      intro h q qf qS he
      unfold fw_272_p62
      refine fl_242 (fl_187 (rm_L hL hW qf) (by omega) (by omega) (fl_247 (fun t tc t2 tj t0 t1 t2' => ?_)))
      refine k t (rm_ft qf ⟨fun c a _ _ _ => tc c a, fun i hi => tj i (fun q => hi (Or.inr (Or.inr (Or.inl ⟨by omega, by omega⟩)))), by rw [t2]⟩) ?_
      rw [← he]
      exact rm_S qS w1.2 w2.2 b0 b1 (fun j hj => (if_neg (by omega)).trans (if_neg (by omega))) tj (t0.trans ((qS.2.2.1 b b0 b1).1.trans ((if_neg (by omega)).trans (if_neg (by omega))).symm)) (fun _ => ⟨t1.trans ((if_neg (by omega)).trans (if_pos rfl)).symm, t2'.trans (if_pos rfl).symm⟩)
    rw [← tkE] at ge
    intro _
    refine ⟨fun e => ?_, fun e => ⟨fun e2 => ?_, fun e2 => ?_⟩⟩
    · unfold fw_272_p80
      rw [if_pos e] at ge
      exact ⟨n + 1, g, by omega, yF, yS, by omega, g0, ge⟩
    · rw [if_neg e, if_pos e2] at ge
      exact take g y yF yS ge
    · rw [if_neg e, if_neg e2] at ge
      refine fl_275 yS w1.2 w2.2 (fun q qf qS => ?_)
      have qF := rm_ft yF qf
      intro _
      refine ⟨fun e3 => ?_, fun e3 => ?_⟩
      · rw [if_pos e3] at ge
        exact take _ q qF qS ge
      · rw [if_neg e3] at ge
        unfold fw_272_p80
        exact ⟨n + 1, _, by omega, qF, qS, by omega, (if_neg (by omega)).trans g0, ge⟩
/-- pace -/
theorem fl_263 {Q : Int → lf_Z → Prop} (hL : rr_L J (s.1 96)) (hW : mn_W J) (hS : rr_S (J 1 1) (J 1 2) f (s.1 96)) (hX : xr_X X T (s.1 96 8)) (h0 : rm_0 T s) (b0 : 0 ≤ b) (b1 : b < 4) (hz : f (3 * b) ≠ 0) (hp : 0 ≤ f (3 * b + 1) ∧ f (3 * b + 1) < J 1 0) (hc : -1 ≤ f (3 * b + 2) ∧ f (3 * b + 2) < J 1 0) (hNm : cm_nm (mn_np J f b))
    (k : ∀ (v : Int) (t : lf_Z), tr_f s t → v = X.1 (mn_np J f b) → Q v t) : fw_263 b Q s := by
  have w0 := hW.1
  obtain ⟨d1, d2⟩ := hS.2.2.1 b b0 b1
  have d2 := d2 hz
  unfold fw_263
  refine fl_242 (fl_255 ?_)
  rw [d1, d2.1]
  refine fl_264 (n1 := J 1 1) (f := f) hL hW hS hp (fun t tf t2 e0 e1 e2 e3 ei => fl_256 ?_)
  have t96 : t.1 96 = s.1 96 := tf.1 96 (by decide) (by decide)
  have t95 : t.1 95 = s.1 95 := tf.1 95 (by decide) (by decide)
  rw [h0.2.1, bt_t0, if_neg (by decide), Int.add_zero] at e3
  rw [t96, d2.2]
  have p40 : ∀ y : Int, y = (if f (3 * b + 2) < 0 then 0 else mn_he J f (f (3 * b + 2)) (J 1 2).toNat) → fw_263_p40 Q 4 y t := by
    intro y hy
    unfold fw_263_p40
    intro _
    rw [t96]
    obtain ⟨u, hu⟩ : ∃ u : lf_Z, u = (lf_up t.1 104 4 y, t.2.1, t.2.2) := ⟨_, rfl⟩
    rw [← hu]
    have uf : tr_f s u := by rw [hu]; exact tr_104 tf
    have ui : ∀ i : Int, i ≠ 4 → u.1 104 i = t.1 104 i := fun i hi => by rw [hu]; exact zu_i hi
    have u4 : u.1 104 4 = y := by rw [hu]; exact zu_s
    refine hX.1 u _ (mn_np J f b) ((uf.1 98 (by decide) (by decide)).trans h0.1) (fun i i0 i1 => ?_) hNm (fun v w wf hv => k v w (tr_ft uf wf) hv)
    rcases (show i = 0 ∨ i = 1 ∨ i = 2 ∨ i = 3 ∨ i = 4 by omega) with e | e | e | e | e
    · subst e; exact (ui 0 (by decide)).trans e0
    · subst e; exact (ui 1 (by decide)).trans e1
    · subst e; exact (ui 2 (by decide)).trans e2
    · subst e; exact (ui 3 (by decide)).trans e3
    · subst e; exact u4.trans hy
  intro _
  refine ⟨fun c => fl_256 ?_, fun c => p40 0 (by rw [if_pos (by omega)])⟩
  rw [t96, d2.2]
  refine fl_266 (n1 := J 1 1) (f := f) (by rw [t96]; exact hL) hW (by rw [t96]; exact hS) c (by omega) ?_
  rw [t95, h0.2.1, bt_t0, if_neg (by decide), Int.add_zero]
  exact p40 _ (by rw [if_neg (by omega)])
end RM
/-! the pass of a minute: the reference -/
section RP
variable {J : Nat → Int → Int} {s t u : lf_Z} {f g T A B : Int → Int} {X : mn_X} {a b p x n1 n2 : Int}
theorem rp_j1 {c : Int} {h B : Int → Int} (hS : rr_S n1 n2 h A) (h16 : n1 ≤ 16) (h6 : n2 ≤ 6) (b0 : 0 ≤ b) (bc : b < c) (c4 : c < 4) (hb : h (3 * b) ≠ 0) (e0 : B (114 + 3 * b) = h (3 * b) + h (3 * c)) (e1 : B (114 + 3 * c) = 0) (eB : ∀ j : Int, j ≠ 114 + 3 * b → j ≠ 114 + 3 * c → B j = A j) : rr_S n1 n2 (mn_j1 b c h) B := by
  have d := (hS.2.2.1 b b0 (by omega)).2 hb
  have S1 : rr_S n1 n2 (ds_u1 h (3 * b) (h (3 * b) + h (3 * c))) (ds_u1 A (114 + 3 * b) (h (3 * b) + h (3 * c))) := by
    refine rm_S hS h16 h6 b0 (by omega) (fun j hj => if_neg (by omega)) (fun j hj => if_neg (by omega)) ((if_pos rfl).trans (if_pos rfl).symm) (fun _ => ⟨?_, ?_⟩)
    · rw [show ds_u1 A (114 + 3 * b) (h (3 * b) + h (3 * c)) (114 + 3 * b + 1) = A (114 + 3 * b + 1) from if_neg (by omega), show ds_u1 h (3 * b) (h (3 * b) + h (3 * c)) (3 * b + 1) = h (3 * b + 1) from if_neg (by omega)]; exact d.1
    · rw [show ds_u1 A (114 + 3 * b) (h (3 * b) + h (3 * c)) (114 + 3 * b + 2) = A (114 + 3 * b + 2) from if_neg (by omega), show ds_u1 h (3 * b) (h (3 * b) + h (3 * c)) (3 * b + 2) = h (3 * b + 2) from if_neg (by omega)]; exact d.2
  have z : mn_j1 b c h (3 * c) = 0 := (if_neg (by omega)).trans ((if_neg (by omega)).trans (if_pos rfl))
  refine rm_S S1 h16 h6 (by omega) c4 (fun j hj => ?_) (fun j hj => ?_) (e1.trans z.symm) (fun q => absurd z q)
  · exact (if_neg (by omega)).trans ((if_neg (by omega)).trans (if_neg (by omega)))
  · by_cases y : j = 114 + 3 * b
    · rw [y, e0]; exact (if_pos rfl).symm
    · exact (eB j y (by omega)).trans (if_neg y).symm
/-- bunches at one stretch are one -/
theorem fl_278 {Q : lf_Z → Prop} (hW : mn_W J) (hS : rr_S (J 1 1) (J 1 2) f (s.1 96)) (hI : gp_I J f) (k : ∀ t : lf_Z, rm_f s t → rr_S (J 1 1) (J 1 2) (mn_jb 4 0 f) (t.1 96) → Q t) : fw_278 Q s := by
  have w1 := hW.2.1
  have w2 := hW.2.2.1
  unfold fw_278
  refine ⟨fun i u => ∃ (n : Nat) (g : Int → Int), i = n ∧ n ≤ 4 ∧ rm_f s u ∧ rr_S (J 1 1) (J 1 2) g (u.1 96) ∧ gp_I J g ∧ mn_jb (4 - n) n g = mn_jb 4 0 f, ?_, ⟨0, f, rfl, by decide, rm_fr, hS, hI, rfl⟩⟩
  intro i u ⟨n, g, ei, n4, uf, uS, uI, ge⟩
  subst ei
  unfold fw_278_p2
  intro _
  refine ⟨fun c => ?_, fun c => ?_⟩
  · have : n = 4 := by omega
    subst this
    have ge : g = mn_jb 4 0 f := ge
    rw [ge] at uS
    exact k u uf uS
  · rw [show 4 - n = (4 - (n + 1)) + 1 by omega] at ge
    have ge : mn_jb (4 - (n + 1)) ((n : Int) + 1) (mn_jc n (3 - (n : Int)).toNat ((n : Int) + 1) g) = mn_jb 4 0 f := ge
    refine ⟨fun c y => ∃ h : Int → Int, (n : Int) < c ∧ c ≤ 4 ∧ rm_f s y ∧ rr_S (J 1 1) (J 1 2) h (y.1 96) ∧ gp_I J h ∧ mn_jc n (4 - c).toNat c h = mn_jc n (3 - (n : Int)).toNat ((n : Int) + 1) g, ?_, ⟨g, by omega, by omega, uf, uS, uI, by rw [show (4 - ((n : Int) + 1)).toNat = (3 - (n : Int)).toNat by omega]⟩⟩
    intro c y ⟨h, c0, c1, yf, yS, yI, he⟩
    unfold fw_278_p11
    intro _
    refine ⟨fun d => ?_, fun d => fl_242 ?_⟩
    · have : c = 4 := by omega
      subst this
      have he : h = mn_jc n (3 - (n : Int)).toNat ((n : Int) + 1) g := he
      rw [← he] at ge
      exact ⟨n + 1, h, by omega, by omega, yf, yS, yI, ge⟩
    · obtain ⟨d1, d2⟩ := yS.2.2.1 n (by omega) (by omega)
      obtain ⟨d3, d4⟩ := yS.2.2.1 c (by omega) (by omega)
      have zb := gp_sz yI (b := n) (by omega) (by omega)
      have zc := gp_sz yI (b := c) (by omega) (by omega)
      rw [show (4 - c).toNat = (4 - (c + 1)).toNat + 1 by omega] at he
      have he : mn_jc n (4 - (c + 1)).toNat (c + 1) (if h (3 * (n : Int)) ≤ 0 ∨ h (3 * c) ≤ 0 ∨ h (3 * c + 1) ≠ h (3 * (n : Int) + 1) then h else mn_j1 n c h) = mn_jc n (3 - (n : Int)).toNat ((n : Int) + 1) g := he
      rw [d1]
      intro _
      have keep : (h (3 * (n : Int)) ≤ 0 ∨ h (3 * c) ≤ 0 ∨ h (3 * c + 1) ≠ h (3 * (n : Int) + 1)) → (fun c y => ∃ h : Int → Int, (n : Int) < c ∧ c ≤ 4 ∧ rm_f s y ∧ rr_S (J 1 1) (J 1 2) h (y.1 96) ∧ gp_I J h ∧ mn_jc n (4 - c).toNat c h = mn_jc n (3 - (n : Int)).toNat ((n : Int) + 1) g) (c + 1) y := fun q => by
        rw [if_pos q] at he
        exact ⟨h, by omega, by omega, yf, yS, yI, he⟩
      refine ⟨fun e => ?_, fun e => fl_242 ?_⟩
      · unfold fw_278_p79
        exact keep (Or.inl (by omega))
      · rw [d3]
        intro _
        refine ⟨fun e2 => ?_, fun e2 => fl_255 (fl_255 ?_)⟩
        · unfold fw_278_p79
          exact keep (Or.inr (Or.inl (by omega)))
        · rw [(d2 e).1, (d4 e2).1]
          intro _ _
          refine ⟨fun e3 _ => fl_242 (fun _ => ?_), fun e3 => ?_⟩
          · rw [if_neg (fun q => by rcases q with q | q | q; omega; omega; exact q e3.symm)] at he
            unfold fw_278_p79
            rw [d1, d3]
            refine ⟨mn_j1 n c h, by omega, by omega, rm_ft yf ⟨fun q a _ _ _ => (zu_r a).trans (lf_up_row a), fun i hi => (zu_i (fun q => hi (Or.inr (Or.inr (Or.inl ⟨by omega, by omega⟩))))).trans (lf_up_i (fun q => hi (Or.inr (Or.inr (Or.inl ⟨by omega, by omega⟩))))), rfl⟩, ?_, gp_j1 yI (by omega) c0 (by omega) (by omega), he⟩
            exact rp_j1 yS w1.2 w2.2 (by omega) c0 (by omega) e ((zu_i (by omega)).trans lf_up_s) zu_s (fun j j1 j2 => (zu_i j2).trans (lf_up_i j1))
          · unfold fw_278_p79
            exact keep (Or.inr (Or.inr (fun q => e3 q.symm)))
/-- harm, then one, then the minute's number -/
theorem fl_260c {Q : lf_Z → Prop} (hL : rr_L J (s.1 96)) (hW : mn_W J) (hS : rr_S (J 1 1) (J 1 2) f (s.1 96)) (hI : gp_I J f)
    (k : ∀ t : lf_Z, rm_f s t → rr_S (J 1 1) (J 1 2) (ds_u1 (mn_jb 4 0 (mn_hb J 4 0 f)) 37 (lf_w (mn_jb 4 0 (mn_hb J 4 0 f) 37 + 1))) (t.1 96) → Q t) : fw_260_p115L Q 0 s := by
  have w0 := hW.1
  have w1 := hW.2.1
  have w2 := hW.2.2.1
  refine ⟨fun i u => ∃ (n : Nat) (g : Int → Int), i = n ∧ n ≤ 4 ∧ rm_f s u ∧ rr_S (J 1 1) (J 1 2) g (u.1 96) ∧ gp_I J g ∧ mn_hb J (4 - n) n g = mn_hb J 4 0 f, ?_, ⟨0, f, rfl, by decide, rm_fr, hS, hI, rfl⟩⟩
  intro i u ⟨n, g, ei, n4, uf, uS, uI, ge⟩
  subst ei
  unfold fw_260_p115
  intro _
  refine ⟨fun c => ?_, fun c => fl_242 ?_⟩
  · have : n = 4 := by omega
    subst this
    have ge : g = mn_hb J 4 0 f := ge
    rw [ge] at uS uI
    refine fl_278 hW uS uI (fun t tf tS => ?_)
    refine k _ (rm_ft (rm_ft uf tf) (rm_u (Or.inl rfl))) (rm_37 tS w1.2 w2.2 (fun j hj => zu_i hj) ?_)
    rw [tS.1]; exact zu_s
  · obtain ⟨d1, d2⟩ := uS.2.2.1 n (by omega) (by omega)
    rw [show 4 - n = (4 - (n + 1)) + 1 by omega] at ge
    have ge : mn_hb J (4 - (n + 1)) ((n : Int) + 1) (if g (3 * (n : Int)) ≤ 0 then g else ds_u1 g (24 + g (3 * (n : Int) + 1)) (lf_w (g (24 + g (3 * (n : Int) + 1)) + g (3 * (n : Int)) * J 3 (g (3 * (n : Int) + 1))))) = mn_hb J 4 0 f := ge
    rw [d1]
    intro _
    refine ⟨fun e => ?_, fun e => fl_255 ?_⟩
    · unfold fw_260_p163
      rw [if_pos e] at ge
      exact ⟨n + 1, g, by omega, by omega, uf, uS, uI, ge⟩
    · have d2 := d2 (by omega)
      have at_ := gp_at uI (b := n) (by omega) (by omega) (by omega)
      rw [if_neg e] at ge
      rw [d2.1]
      intro _
      refine fl_242 (fl_255 (fl_277 ?_))
      rw [d1, d2.1]
      have uL := rm_L hL hW uf
      rw [(uL.2.2.2.1 _ at_.1.1 at_.1.2).2, uS.2.2.2.2.1 _ at_.1.1 (by omega)]
      unfold fw_260_p163
      refine ⟨n + 1, _, by omega, by omega, rm_ft uf (rm_u (Or.inr (Or.inr (Or.inr (Or.inr ⟨by omega, by omega, by omega⟩))))), rm_24 uS w1.2 w2.2 at_.1.1 (by omega) (fun j hj => zu_i hj) zu_s, ?_, ge⟩
      refine gp_e hW uI (fun j _ j1 => if_neg (by omega)) ?_
      rw [show ∀ v : Int, ds_u1 g (24 + g (3 * (n : Int) + 1)) v 38 = g 38 from fun v => if_neg (by omega)]
      exact uI.2.2.2
/-- all bunches go -/
theorem fl_260b {Q : lf_Z → Prop} (hL : rr_L J (s.1 96)) (hW : mn_W J) (hB : mn_B J) (hV : mn_V J) (hS : rr_S (J 1 1) (J 1 2) f (s.1 96)) (hI : gp_I J f) (hX : xr_X X T (s.1 96 8)) (h0 : rm_0 T s) (hX1 : ∀ N, 0 ≤ X.1 N ∧ X.1 N ≤ 2)
    (k : ∀ t : lf_Z, rm_f s t → rr_S (J 1 1) (J 1 2) (mn_bb J X 4 0 f) (t.1 96) → gp_I J (mn_bb J X 4 0 f) → fw_260_p115L Q 0 t) : fw_260_p67L Q 0 s := by
  refine ⟨fun i u => ∃ (n : Nat) (g : Int → Int), i = n ∧ n ≤ 4 ∧ rm_f s u ∧ rr_S (J 1 1) (J 1 2) g (u.1 96) ∧ gp_I J g ∧ mn_bb J X (4 - n) n g = mn_bb J X 4 0 f, ?_, ⟨0, f, rfl, by decide, rm_fr, hS, hI, rfl⟩⟩
  intro i u ⟨n, g, ei, n4, uf, uS, uI, ge⟩
  subst ei
  unfold fw_260_p67
  intro _
  refine ⟨fun c => ?_, fun c => fl_242 ?_⟩
  · have : n = 4 := by omega
    subst this
    have ge : g = mn_bb J X 4 0 f := ge
    rw [ge] at uS uI
    exact k u uf uS uI
  · obtain ⟨d1, d2⟩ := uS.2.2.1 n (by omega) (by omega)
    have zb := gp_sz uI (b := n) (by omega) (by omega)
    rw [show 4 - n = (4 - (n + 1)) + 1 by omega] at ge
    have ge : mn_bb J X (4 - (n + 1)) ((n : Int) + 1) (if g (3 * (n : Int)) ≤ 0 then g else mn_rp (mn_m1 J X n) (X.1 (mn_np J g n)).toNat g) = mn_bb J X 4 0 f := ge
    rw [d1]
    intro _
    refine ⟨fun e => ?_, fun e => ?_⟩
    · have at_ := gp_at uI (b := n) (by omega) (by omega) (by omega)
      refine fl_263 (f := g) (rm_L hL hW uf) hW uS (xr_Xk hX uf) (rm_0k h0 uf) (by omega) (by omega) e at_.1 at_.2 (np_S hW hV (gp_sz uI (by omega) (by omega)) at_.1) (fun v y yf hv => ?_)
      have yF := rm_ft uf (rm_k yf)
      have yS : rr_S (J 1 1) (J 1 2) g (y.1 96) := by rw [yf.1 96 (by decide) (by decide)]; exact uS
      rw [if_neg (by omega), ← hv] at ge
      have vB := hX1 (mn_np J g n)
      rw [← hv] at vB
      refine ⟨fun j q => ∃ (m : Nat) (h : Int → Int), j = m ∧ (m : Int) ≤ v ∧ rm_f s q ∧ rr_S (J 1 1) (J 1 2) h (q.1 96) ∧ gp_I J h ∧ 0 < h (3 * (n : Int)) ∧ mn_rp (mn_m1 J X n) (v.toNat - m) h = mn_rp (mn_m1 J X n) v.toNat g, ?_, ⟨0, g, rfl, vB.1, yF, yS, uI, by omega, rfl⟩⟩
      intro j q ⟨m, h, ej, m1, qf, qS, qI, qz, he⟩
      subst ej
      unfold fw_260_p91
      intro _ _
      refine ⟨fun d => ?_, fun d => ?_⟩
      · rw [show v.toNat - m = 0 by omega] at he
        have he : h = mn_rp (mn_m1 J X n) v.toNat g := he
        rw [← he] at ge
        unfold fw_260_p107
        exact ⟨n + 1, h, by omega, by omega, qf, qS, qI, ge⟩
      · rw [show v.toNat - m = (v.toNat - (m + 1)) + 1 by omega] at he
        have he : mn_rp (mn_m1 J X n) (v.toNat - (m + 1)) (mn_m1 J X n h) = mn_rp (mn_m1 J X n) v.toNat g := he
        have hat := gp_at qI (b := n) (by omega) (by omega) qz
        have r := gp_m1 (X := X) hW qI (b := n) (by omega) (by omega) qz
        refine fl_272 (f := h) (rm_L hL hW qf) hW hB hV qS (xr_Xk hX qf) (rm_0k h0 qf) (by omega) (by omega) (by omega) (gp_sz qI (by omega) (by omega)) hat.1 (fun t tf tS => ?_)
        exact ⟨m + 1, _, by omega, by omega, rm_ft qf tf, tS, r.1, by rw [r.2 (3 * (n : Int)) (by omega) (by omega) (by omega)]; exact qz, he⟩
    · unfold fw_260_p107
      rw [if_pos (by omega)] at ge
      exact ⟨n + 1, g, by omega, by omega, uf, uS, uI, ge⟩
theorem rm_g (h : rr_f s t) (e : ∀ i : Int, i ≠ 126 + 6 * p + 3 → t.1 96 i = s.1 96 i) (p0 : 0 ≤ p) (p6 : p < 6) : rm_f s t := ⟨fun c a _ _ _ => h.1 c a, fun i hi => e i (fun q => hi (Or.inr (Or.inr (Or.inr (Or.inl ⟨by omega, by omega, by omega⟩))))), by rw [h.2]⟩
/-- pass: people, bunches, harm -/
theorem fl_260 {Q : lf_Z → Prop} (hL : rr_L J (s.1 96)) (hW : mn_W J) (hB : mn_B J) (hV : mn_V J) (hS : rr_S (J 1 1) (J 1 2) f (s.1 96)) (hI : gp_I J f) (hX : xr_X X T (s.1 96 8)) (h0 : rm_0 T s) (hX1 : ∀ N, 0 ≤ X.1 N ∧ X.1 N ≤ 2)
    (k : ∀ t : lf_Z, rm_f s t → rr_S (J 1 1) (J 1 2) (mn_min J X f) (t.1 96) → Q t) : fw_260 Q s := by
  have w1 := hW.2.1
  have w2 := hW.2.2.1
  unfold fw_260
  refine ⟨fun i u => ∃ (n : Nat) (g : Int → Int), i = n ∧ (n : Int) ≤ J 1 2 ∧ rm_f s u ∧ rr_S (J 1 1) (J 1 2) g (u.1 96) ∧ gp_I J g ∧ mn_pp J ((J 1 2).toNat - n) n g = mn_pp J (J 1 2).toNat 0 f, ?_, ⟨0, f, rfl, w2.1, rm_fr, hS, hI, rfl⟩⟩
  intro i u ⟨n, g, ei, n4, uf, uS, uI, ge⟩
  subst ei
  have uL := rm_L hL hW uf
  unfold fw_260_p2
  rw [uL.2.2.1]
  intro _ _
  refine ⟨fun c => ?_, fun c => fl_239b ?_⟩
  · rw [show (J 1 2).toNat - n = 0 by omega] at ge
    have ge : g = mn_pp J (J 1 2).toNat 0 f := ge
    rw [ge] at uS uI
    refine fl_260b uL hW hB hV uS uI (xr_Xk hX uf) (rm_0k h0 uf) hX1 (fun t tf tS tI => ?_)
    have tF := rm_ft uf tf
    exact fl_260c (rm_L hL hW tF) hW tS tI (fun y yf yS => k y (rm_ft tF yf) yS)
  · obtain ⟨d1, d2⟩ := uS.2.2.2.1 n (by omega) (by omega)
    rw [show (J 1 2).toNat - n = ((J 1 2).toNat - (n + 1)) + 1 by omega] at ge
    have ge : mn_pp J ((J 1 2).toNat - (n + 1)) ((n : Int) + 1) (if J 8 (n : Int) = 0 then mn_go J n g else mn_go J n (mn_go J n g)) = mn_pp J (J 1 2).toNat 0 f := ge
    rw [d2]
    intro _
    refine ⟨fun e => fl_239b ?_, fun e => ?_⟩
    · rw [d2]
      have pb := uI.1 n (by omega) (by omega)
      have b8 := (hB.2 n).1
      refine fl_261 (d := mn_d J 13) (ok := fun _ => true) uL hW hB (fun w => by rw [decide_eq_true (show (1 : Int) ≠ 0 by decide), Bool.true_or]) hW.2.2.2.2.2.1 (by omega) pb.2.2 (fun y yc y2 yF => ?_)
      have yf : rm_f s y := rm_ft uf ⟨fun c _ _ _ a => yc c a, fun i _ => by rw [yc 96 (by decide)], by rw [y2]⟩
      have yS : rr_S (J 1 1) (J 1 2) g (y.1 96) := by rw [yc 96 (by decide)]; exact uS
      refine ⟨fun j q => ∃ h : Int → Int, rm_f s q ∧ rr_S (J 1 1) (J 1 2) h (q.1 96) ∧ gp_I J h ∧ (∀ r : Int, 0 ≤ r → r < J 1 0 → q.1 108 r = mn_d J 13 r (g (12 + 2 * (n : Int) + 1))) ∧ h (12 + 2 * (n : Int) + 1) = g (12 + 2 * (n : Int) + 1) ∧ ((j = 0 ∧ h = g) ∨ (j = 1 ∧ h = mn_go J n g) ∨ (j = 2 ∧ J 8 (n : Int) ≠ 0 ∧ h = mn_go J n (mn_go J n g))), ?_, ⟨g, yf, yS, uI, yF, rfl, Or.inl ⟨rfl, rfl⟩⟩⟩
      intro j q ⟨h, qf, qS, qI, qF, ht, hj⟩
      have qL := rm_L hL hW qf
      unfold fw_260_p38
      refine fl_239d ?_
      rw [(qL.2.2.2.2.2 n (by omega) (by omega)).2.1]
      intro _ _
      refine ⟨fun d => ?_, fun d => ?_⟩
      · unfold fw_260_p59
        refine ⟨n + 1, h, by omega, by omega, qf, qS, qI, ?_⟩
        rcases hj with ⟨j0, _⟩ | ⟨j1, hh⟩ | ⟨j2, hz, hh⟩
        · omega
        · rw [if_pos (by omega), ← hh] at ge; exact ge
        · rw [if_neg hz, ← hh] at ge; exact ge
      · refine fl_262 (f := h) qL hW qI.1 qS w1.2 (by omega) (by omega) (by rw [ht]; exact e) (fun r r0 r1 => by rw [ht]; exact qF r r0 r1) (fun t tf te tL tS => ?_)
        refine ⟨mn_go J n h, rm_ft qf (rm_g tf te (by omega) (by omega)), tS, gp_go hW qI (by omega) (by omega), fun r r0 r1 => by rw [tf.1 108 (by decide)]; exact qF r r0 r1, (mn_go_o (by omega)).trans ht, ?_⟩
        rcases hj with ⟨j0, hh⟩ | ⟨j1, hh⟩ | ⟨j2, _, _⟩
        · exact Or.inr (Or.inl ⟨by omega, by rw [hh]⟩)
        · exact Or.inr (Or.inr ⟨by omega, by omega, by rw [hh]⟩)
        · omega
    · have e := Classical.not_not.mp e
      have g1 : mn_go J n g = g := if_pos (Or.inl e)
      rw [g1, g1, show (if J 8 (n : Int) = 0 then g else g) = g by split <;> rfl] at ge
      unfold fw_260_p59
      exact ⟨n + 1, g, by omega, by omega, uf, uS, uI, ge⟩
end RP
/-! the pass of a minute: the class -/
section CP
variable {J : Nat → Int → Int} {s t u : lf_Z} {f g : Int → Int} {X : mn_X} {I : Nat → Int → Int} {a b p x : Int}
theorem fl_80 {Q : Bool → lf_Z → Prop} (h : Q (decide (0 ≤ a) && decide (a < 4) && decide (0 < s.1 16 a)) s) : fw_80 a Q s := by
  unfold fw_80
  intro _
  refine ⟨fun c => ?_, fun c => ⟨fun d => ?_, fun d _ _ => ⟨fun e => ?_, fun e => ?_⟩⟩⟩
  · rw [decide_eq_false (show ¬ 0 ≤ a by omega)] at h; exact h
  · rw [decide_eq_false (show ¬ a < 4 by omega), Bool.and_false] at h; exact h
  · rw [decide_eq_false (show ¬ 0 < s.1 16 a by omega), Bool.and_false] at h; exact h
  · rw [decide_eq_true (show 0 ≤ a by omega), decide_eq_true (show a < 4 by omega), decide_eq_true (show 0 < s.1 16 a by omega)] at h; exact h
/-- pace -/
theorem fl_81 {Q : Int → lf_Z → Prop} (hJ : gc_J J s) (hW : mn_W J) (hS : rc_S s.1 f) (hX : xc_X X I s.2.2) (hI : ∀ c : Nat, 35 ≤ c → c < 63 → s.1 c = I c) (b0 : 0 ≤ b) (b1 : b < 4) (hz : 0 < f (3 * b)) (hp : 0 ≤ f (3 * b + 1) ∧ f (3 * b + 1) < J 1 0) (hc : -1 ≤ f (3 * b + 2)) (hNm : cm_nm (mn_np J f b))
    (k : ∀ (v : Int) (t : lf_Z), tk_f s t → v = X.1 (mn_np J f b) → Q v t) : fw_81 b Q s := by
  obtain ⟨d1, d2, d3⟩ := hS.1 b b0 b1
  unfold fw_81
  refine ⟨fun d => k 1 s tk_fr ((hX.1 d (mn_np J f b)).1).symm, fun k1 hk1 hk14 => ⟨fun d => trivial, fun k2 hk2 hk24 => ?_⟩⟩
  obtain ⟨_, x1, x2, x3, x4⟩ := hX.2 k2 hk2
  have e37 : s.1 (37 + 7 * k2) = I (37 + 7 * k2) := hI _ (by omega) (by omega)
  refine fl_40 (t0 := k2) ⟨fun z => ?_, fun z => fl_80 ⟨fun _ _ => ?_, fun z2 => ?_⟩⟩
  · have z : decide (s.1 (37 + 7 * k2) 0 ≠ -1) = false := z
    have z := Classical.not_not.mp (of_decide_eq_false z)
    rw [e37] at z
    exact k 1 s tk_fr (x1 z _).symm
  · have z : decide (s.1 (37 + 7 * k2) 0 ≠ -1) = true := z
    have z := of_decide_eq_true z
    rw [e37] at z
    obtain ⟨m, mA, mN⟩ := x3 z
    rw [d1, d2]
    refine fl_82 hJ hW hS hp (fun t tf t0 t1 t2 t3 ti => ?_)
    rw [Int.add_zero] at t3
    have t18 : t.1 18 = s.1 18 := tf.1 18 (by decide) (by decide) (by decide) (by decide)
    rw [t18, d3]
    have p89 : ∀ y : Int, y = (if f (3 * b + 2) < 0 then 0 else mn_he J f (f (3 * b + 2)) (J 1 2).toNat) → fw_81_p89 Q 4 y t := by
      intro y hy
      unfold fw_81_p89
      intro _
      obtain ⟨u, hu⟩ : ∃ u : lf_Z, u = (lf_up t.1 64 4 y, t.2.1, t.2.2) := ⟨_, rfl⟩
      rw [← hu]
      have uf : tk_f s u := by rw [hu]; exact tk_64 tf
      have ui : ∀ i : Int, i ≠ 4 → u.1 64 i = t.1 64 i := fun i hi => by rw [hu]; exact zu_i hi
      have u4 : u.1 64 4 = y := by rw [hu]; exact zu_s
      have nn : xc_n0 (mn_np J f b) (u.1 64) := by
        intro i i0 i1
        rcases (show i = 0 ∨ i = 1 ∨ i = 2 ∨ i = 3 ∨ i = 4 by omega) with e | e | e | e | e
        · subst e; exact (ui 0 (by decide)).trans t0
        · subst e; exact (ui 1 (by decide)).trans t1
        · subst e; exact (ui 2 (by decide)).trans t2
        · subst e; exact (ui 3 (by decide)).trans t3
        · subst e; exact u4.trans hy
      have t2' : t.2.2 3 = some k2 := by rw [tf.2]; exact hk2
      refine ⟨fun d => (by rw [t2'] at d; cases d), fun k3 hk3 hk34 => ?_⟩
      rw [t2'] at hk3
      have hk3 := Option.some.inj hk3
      subst hk3
      refine xc_Ac mA (fun c hc => hI c (by omega) (by omega)) uf hk24 nn hNm (fun v z zf hv => fl_55 (k _ z zf ?_))
      rw [mN, hv]
    intro _
    refine ⟨fun c => fl_83 (gc_Jk hJ tf) hW (rc_Sk hS tf) (p89 _ (by rw [if_neg (by omega)])), fun c => p89 0 (by rw [if_pos (by omega)])⟩
  · rw [decide_eq_true b0, decide_eq_true b1, d1, decide_eq_true hz] at z2; cases z2
theorem rc_21 {v : Int} (hS : rc_S s.1 f) (a0 : 0 ≤ a) (a1 : a < 12) : rc_S (lf_up s.1 21 a v) (ds_u1 f (24 + a) v) := by
  obtain ⟨s1, s2, s3, s4, s5, s6⟩ := hS
  have e : ∀ j : Int, j ≠ 24 + a → ds_u1 f (24 + a) v j = f j := fun j hj => if_neg hj
  refine ⟨fun b b0 b1 => ?_, fun q q0 q1 => ?_, fun q q0 q1 => ?_, ?_, ?_, ?_⟩
  · rw [lf_up_c (by decide), lf_up_c (by decide), lf_up_c (by decide), e (3 * b) (by omega), e (3 * b + 1) (by omega), e (3 * b + 2) (by omega)]; exact s1 b b0 b1
  · rw [lf_up_c (by decide), lf_up_c (by decide), e (12 + 2 * q) (by omega), e (12 + 2 * q + 1) (by omega)]; exact s2 q q0 q1
  · by_cases y : q = a
    · rw [y, lf_up_s]; exact (if_pos rfl).symm
    · rw [lf_up_i y, e (24 + q) (by omega)]; exact s3 q q0 q1
  · rw [lf_up_c (by decide), e 36 (by omega)]; exact s4
  · rw [lf_up_c (by decide), e 37 (by omega)]; exact s5
  · rw [lf_up_c (by decide), e 38 (by omega)]; exact s6
theorem lf_ww {c d : Int} : lf_w (c + lf_w d) = lf_w (c + d) := by
  show (Int32.ofInt (c + lf_w d)).toInt = (Int32.ofInt (c + d)).toInt
  rw [Int32.ofInt_add, lf_wE, ← Int32.ofInt_add]
/-- harm -/
theorem fl_95 {Q : lf_Z → Prop} (hJ : gc_J J s) (hW : mn_W J) (hS : rc_S s.1 f) (hI : gp_I J f) (k : ∀ t : lf_Z, mv_f s t → rc_S t.1 (mn_hb J 4 0 f) → gp_I J (mn_hb J 4 0 f) → Q t) : fw_95 Q s := by
  have w0 := hW.1
  unfold fw_95
  refine ⟨fun i u => ∃ (n : Nat) (g : Int → Int), i = n ∧ n ≤ 4 ∧ mv_f s u ∧ rc_S u.1 g ∧ gp_I J g ∧ mn_hb J (4 - n) n g = mn_hb J 4 0 f, ?_, ⟨0, f, rfl, by decide, mv_fr, hS, hI, rfl⟩⟩
  intro i u ⟨n, g, ei, n4, uf, uS, uI, ge⟩
  subst ei
  unfold fw_95_p2
  intro _
  refine ⟨fun c => ?_, fun c => fl_80 ?_⟩
  · have : n = 4 := by omega
    subst this
    have ge : g = mn_hb J 4 0 f := ge
    rw [ge] at uS uI
    exact k u uf uS uI
  · obtain ⟨d1, d2, d3⟩ := uS.1 n (by omega) (by omega)
    rw [show 4 - n = (4 - (n + 1)) + 1 by omega] at ge
    have ge : mn_hb J (4 - (n + 1)) ((n : Int) + 1) (if g (3 * (n : Int)) ≤ 0 then g else ds_u1 g (24 + g (3 * (n : Int) + 1)) (lf_w (g (24 + g (3 * (n : Int) + 1)) + g (3 * (n : Int)) * J 3 (g (3 * (n : Int) + 1))))) = mn_hb J 4 0 f := ge
    rw [d1, decide_eq_true (show (0 : Int) ≤ n by omega), decide_eq_true (show (n : Int) < 4 by omega)]
    refine ⟨fun z => ?_, fun z _ _ => ?_⟩
    · have z : decide (0 < g (3 * (n : Int))) = false := z
      have z := of_decide_eq_false z
      unfold fw_95_p59
      rw [if_pos (by omega)] at ge
      exact ⟨n + 1, g, by omega, by omega, uf, uS, uI, ge⟩
    · have z : decide (0 < g (3 * (n : Int))) = true := z
      have z := of_decide_eq_true z
      have at_ := gp_at uI (b := n) (by omega) (by omega) z
      rw [if_neg (by omega)] at ge
      have uJ := gc_Jm hJ uf
      unfold fw_95_p59
      rw [d2, uS.2.2.1 _ at_.1.1 (by omega), uJ 3 (by omega), lf_ww]
      refine ⟨n + 1, _, by omega, by omega, mv_ft uf (mv_g (rc_gu rc_gr (by omega))), rc_21 uS at_.1.1 (by omega), ?_, ge⟩
      refine gp_e hW uI (fun j _ j1 => if_neg (by omega)) ?_
      rw [show ∀ v : Int, ds_u1 g (24 + g (3 * (n : Int) + 1)) v 38 = g 38 from fun v => if_neg (by omega)]
      exact uI.2.2.2
theorem rc_j1 {c v : Int} (hS : rc_S s.1 f) (b0 : 0 ≤ b) (bc : b < c) (c4 : c < 4) (hv : v = f (3 * b) + f (3 * c)) : rc_S (lf_up (lf_up (lf_up (lf_up s.1 16 b v) 16 c 0) 17 c (-1)) 18 c (-1)) (mn_j1 b c f) := by
  obtain ⟨s1, s2, s3, s4, s5, s6⟩ := hS
  have o : ∀ j : Int, j ≠ 3 * b → j ≠ 3 * c → j ≠ 3 * c + 1 → j ≠ 3 * c + 2 → mn_j1 b c f j = f j := fun j x1 x2 x3 x4 => (if_neg x4).trans ((if_neg x3).trans ((if_neg x2).trans (if_neg x1)))
  have eb : mn_j1 b c f (3 * b) = f (3 * b) + f (3 * c) := (if_neg (by omega)).trans ((if_neg (by omega)).trans ((if_neg (by omega)).trans (if_pos rfl)))
  have ec : mn_j1 b c f (3 * c) = 0 := (if_neg (by omega)).trans ((if_neg (by omega)).trans (if_pos rfl))
  have ec1 : mn_j1 b c f (3 * c + 1) = -1 := (if_neg (by omega)).trans (if_pos rfl)
  have ec2 : mn_j1 b c f (3 * c + 2) = -1 := if_pos rfl
  have x : ∀ (q : Nat) (j : Int), q ≠ 16 → q ≠ 17 → q ≠ 18 → (lf_up (lf_up (lf_up (lf_up s.1 16 b v) 16 c 0) 17 c (-1)) 18 c (-1)) q j = s.1 q j := fun q j h1 h2 h3 => (lf_up_c h3).trans ((lf_up_c h2).trans ((lf_up_c h1).trans (lf_up_c h1)))
  have x16 : ∀ j : Int, (lf_up (lf_up (lf_up (lf_up s.1 16 b v) 16 c 0) 17 c (-1)) 18 c (-1)) 16 j = (lf_up (lf_up s.1 16 b v) 16 c 0) 16 j := fun j => (lf_up_c (by decide)).trans (lf_up_c (by decide))
  have x17 : ∀ j : Int, j ≠ c → (lf_up (lf_up (lf_up (lf_up s.1 16 b v) 16 c 0) 17 c (-1)) 18 c (-1)) 17 j = s.1 17 j := fun j hj => (lf_up_c (by decide)).trans ((lf_up_i hj).trans ((lf_up_c (by decide)).trans (lf_up_c (by decide))))
  have x18 : ∀ j : Int, j ≠ c → (lf_up (lf_up (lf_up (lf_up s.1 16 b v) 16 c 0) 17 c (-1)) 18 c (-1)) 18 j = s.1 18 j := fun j hj => (lf_up_i hj).trans ((lf_up_c (by decide)).trans ((lf_up_c (by decide)).trans (lf_up_c (by decide))))
  refine ⟨fun q q0 q1 => ?_, fun q q0 q1 => ?_, fun q q0 q1 => ?_, ?_, ?_, ?_⟩
  · by_cases y : q = c
    · subst y
      rw [ec, ec1, ec2]
      exact ⟨(x16 _).trans lf_up_s, (lf_up_c (by decide)).trans lf_up_s, lf_up_s⟩
    · rw [x17 _ y, x18 _ y, x16, o (3 * q + 1) (by omega) (by omega) (by omega) (by omega), o (3 * q + 2) (by omega) (by omega) (by omega) (by omega)]
      refine ⟨?_, (s1 q q0 q1).2⟩
      rw [lf_up_i y]
      by_cases y2 : q = b
      · subst y2
        rw [lf_up_s, eb]; exact hv
      · rw [lf_up_i y2, o (3 * q) (by omega) (by omega) (by omega) (by omega)]; exact (s1 q q0 q1).1
  · rw [x 19 _ (by decide) (by decide) (by decide), x 20 _ (by decide) (by decide) (by decide), o (12 + 2 * q) (by omega) (by omega) (by omega) (by omega), o (12 + 2 * q + 1) (by omega) (by omega) (by omega) (by omega)]; exact s2 q q0 q1
  · rw [x 21 _ (by decide) (by decide) (by decide), o (24 + q) (by omega) (by omega) (by omega) (by omega)]; exact s3 q q0 q1
  · rw [x 15 _ (by decide) (by decide) (by decide), o 36 (by omega) (by omega) (by omega) (by omega)]; exact s4
  · rw [x 15 _ (by decide) (by decide) (by decide), o 37 (by omega) (by omega) (by omega) (by omega)]; exact s5
  · rw [x 15 _ (by decide) (by decide) (by decide), o 38 (by omega) (by omega) (by omega) (by omega)]; exact s6
theorem mn_jcZ : ∀ (k : Nat) (c : Int) (f : Int → Int), f (3 * b) ≤ 0 → mn_jc b k c f = f := by
  intro k
  induction k with
  | zero => intro c f _; rfl
  | succ k ih =>
    intro c f h
    show mn_jc b k (c + 1) (if f (3 * b) ≤ 0 ∨ f (3 * c) ≤ 0 ∨ f (3 * c + 1) ≠ f (3 * b + 1) then f else mn_j1 b c f) = f
    rw [if_pos (Or.inl h)]
    exact ih (c + 1) f h
theorem fl_96 {Q : lf_Z → Prop} (hS : rc_S s.1 f) (hI : gp_I J f) (k : ∀ t : lf_Z, mv_f s t → rc_S t.1 (mn_jb 4 0 f) → Q t) : fw_96 Q s := by
  unfold fw_96
  refine ⟨fun i u => ∃ (n : Nat) (g : Int → Int), i = n ∧ n ≤ 4 ∧ mv_f s u ∧ rc_S u.1 g ∧ gp_I J g ∧ mn_jb (4 - n) n g = mn_jb 4 0 f, ?_, ⟨0, f, rfl, by decide, mv_fr, hS, hI, rfl⟩⟩
  intro i u ⟨n, g, ei, n4, uf, uS, uI, ge⟩
  subst ei
  unfold fw_96_p2
  intro _
  refine ⟨fun c => ?_, fun c => ?_⟩
  · have : n = 4 := by omega
    subst this
    have ge : g = mn_jb 4 0 f := ge
    rw [ge] at uS
    exact k u uf uS
  · rw [show 4 - n = (4 - (n + 1)) + 1 by omega] at ge
    have ge : mn_jb (4 - (n + 1)) ((n : Int) + 1) (mn_jc n (3 - (n : Int)).toNat ((n : Int) + 1) g) = mn_jb 4 0 f := ge
    refine ⟨fun c y => ∃ h : Int → Int, (n : Int) < c ∧ c ≤ 4 ∧ mv_f s y ∧ rc_S y.1 h ∧ gp_I J h ∧ mn_jc n (4 - c).toNat c h = mn_jc n (3 - (n : Int)).toNat ((n : Int) + 1) g, ?_, ⟨g, by omega, by omega, uf, uS, uI, by rw [show (4 - ((n : Int) + 1)).toNat = (3 - (n : Int)).toNat by omega]⟩⟩
    intro c y ⟨h, c0, c1, yf, yS, yI, he⟩
    have next : h = mn_jc n (3 - (n : Int)).toNat ((n : Int) + 1) g → (fun (i : Int) (u : lf_Z) => ∃ (n : Nat) (g : Int → Int), i = n ∧ n ≤ 4 ∧ mv_f s u ∧ rc_S u.1 g ∧ gp_I J g ∧ mn_jb (4 - n) n g = mn_jb 4 0 f) ((n : Int) + 1) y := fun q => by
      rw [← q] at ge
      exact ⟨n + 1, h, by omega, by omega, yf, yS, yI, ge⟩
    unfold fw_96_p11
    intro _
    refine ⟨fun d => ?_, fun d => fl_80 ?_⟩
    · have : c = 4 := by omega
      subst this
      unfold fw_96_p97
      exact next he
    · obtain ⟨d1, d2, _⟩ := yS.1 n (by omega) (by omega)
      obtain ⟨d3, d4, _⟩ := yS.1 c (by omega) (by omega)
      have zb := gp_sz yI (b := n) (by omega) (by omega)
      have zc := gp_sz yI (b := c) (by omega) (by omega)
      rw [d1, decide_eq_true (show (0 : Int) ≤ n by omega), decide_eq_true (show (n : Int) < 4 by omega)]
      refine ⟨fun z => ?_, fun z => fl_80 ?_⟩
      · have z : decide (0 < h (3 * (n : Int))) = false := z
        have z := of_decide_eq_false z
        rw [mn_jcZ _ _ _ (by omega)] at he
        unfold fw_96_p97
        exact next he
      · have z : decide (0 < h (3 * (n : Int))) = true := z
        have z := of_decide_eq_true z
        rw [show (4 - c).toNat = (4 - (c + 1)).toNat + 1 by omega] at he
        have he : mn_jc n (4 - (c + 1)).toNat (c + 1) (if h (3 * (n : Int)) ≤ 0 ∨ h (3 * c) ≤ 0 ∨ h (3 * c + 1) ≠ h (3 * (n : Int) + 1) then h else mn_j1 n c h) = mn_jc n (3 - (n : Int)).toNat ((n : Int) + 1) g := he
        have keep : (h (3 * (n : Int)) ≤ 0 ∨ h (3 * c) ≤ 0 ∨ h (3 * c + 1) ≠ h (3 * (n : Int) + 1)) → (fun c y => ∃ h : Int → Int, (n : Int) < c ∧ c ≤ 4 ∧ mv_f s y ∧ rc_S y.1 h ∧ gp_I J h ∧ mn_jc n (4 - c).toNat c h = mn_jc n (3 - (n : Int)).toNat ((n : Int) + 1) g) (c + 1) y := fun q => by
          rw [if_pos q] at he
          exact ⟨h, by omega, by omega, yf, yS, yI, he⟩
        rw [d3, decide_eq_true (show (0 : Int) ≤ c by omega), decide_eq_true (show c < 4 by omega)]
        refine ⟨fun z2 => ?_, fun z2 _ _ => ?_⟩
        · have z2 : decide (0 < h (3 * c)) = false := z2
          have z2 := of_decide_eq_false z2
          unfold fw_96_p91
          exact keep (Or.inr (Or.inl (by omega)))
        · have z2 : decide (0 < h (3 * c)) = true := z2
          have z2 := of_decide_eq_true z2
          rw [d4, d2, d1]
          intro _ _
          refine ⟨fun e3 => ?_, fun e3 => fl_69 ?_⟩
          · unfold fw_96_p91
            exact keep (Or.inr (Or.inr e3))
          · rw [if_neg (fun q => by rcases q with q | q | q; omega; omega; exact e3 q)] at he
            unfold fw_96_p91
            refine ⟨mn_j1 n c h, by omega, by omega, mv_ft yf (mv_g (rc_gu (rc_gu (rc_gu (rc_gu rc_gr (by omega)) (by omega)) (by omega)) (by omega))), ?_, gp_j1 yI (by omega) c0 (by omega) (by omega), he⟩
            exact rc_j1 yS (by omega) c0 (by omega) (tr_w (by omega))
theorem rc_37 {v : Int} (hS : rc_S s.1 f) : rc_S (lf_up s.1 15 7 v) (ds_u1 f 37 v) := by
  obtain ⟨s1, s2, s3, s4, s5, s6⟩ := hS
  have e : ∀ j : Int, j ≠ 37 → ds_u1 f 37 v j = f j := fun j hj => if_neg hj
  refine ⟨fun b b0 b1 => ?_, fun q q0 q1 => ?_, fun q q0 q1 => ?_, ?_, ?_, ?_⟩
  · rw [lf_up_c (by decide), lf_up_c (by decide), lf_up_c (by decide), e (3 * b) (by omega), e (3 * b + 1) (by omega), e (3 * b + 2) (by omega)]; exact s1 b b0 b1
  · rw [lf_up_c (by decide), lf_up_c (by decide), e (12 + 2 * q) (by omega), e (12 + 2 * q + 1) (by omega)]; exact s2 q q0 q1
  · rw [lf_up_c (by decide), e (24 + q) (by omega)]; exact s3 q q0 q1
  · rw [lf_up_i (by decide), e 36 (by decide)]; exact s4
  · rw [lf_up_s]; exact (if_pos rfl).symm
  · rw [lf_up_i (by decide), e 38 (by decide)]; exact s6
/-- all bunches go, harm, one -/
theorem fl_72b {Q : lf_Z → Prop} (hJ : gc_J J s) (hW : mn_W J) (hB : mn_B J) (hV : mn_V J) (hS : rc_S s.1 f) (hG : gp_I J f) (hX : xc_X X I s.2.2) (hXB : ∀ N, 0 ≤ X.2 N ∧ X.2 N ≤ 10) (hX1 : ∀ N, 0 ≤ X.1 N ∧ X.1 N ≤ 2) (hI : ∀ c : Nat, 35 ≤ c → c < 63 → s.1 c = I c)
    (k : ∀ t : lf_Z, mv_f s t → rc_S t.1 (ds_u1 (mn_jb 4 0 (mn_hb J 4 0 (mn_bb J X 4 0 f))) 37 (lf_w (mn_jb 4 0 (mn_hb J 4 0 (mn_bb J X 4 0 f)) 37 + 1))) → Q t) : fw_72_p43L Q 0 s := by
  refine ⟨fun i u => ∃ (n : Nat) (g : Int → Int), i = n ∧ n ≤ 4 ∧ mv_f s u ∧ rc_S u.1 g ∧ gp_I J g ∧ mn_bb J X (4 - n) n g = mn_bb J X 4 0 f, ?_, ⟨0, f, rfl, by decide, mv_fr, hS, hG, rfl⟩⟩
  intro i u ⟨n, g, ei, n4, uf, uS, uI, ge⟩
  subst ei
  have uX : xc_X X I u.2.2 := by rw [uf.2.2]; exact hX
  have uH : ∀ c : Nat, 35 ≤ c → c < 63 → u.1 c = I c := fun c x y => (uf.1 c (by omega)).trans (hI c x y)
  unfold fw_72_p43
  intro _
  refine ⟨fun c => ?_, fun c => fl_80 ?_⟩
  · have : n = 4 := by omega
    subst this
    have ge : g = mn_bb J X 4 0 f := ge
    rw [ge] at uS uI
    refine fl_95 (gc_Jm hJ uf) hW uS uI (fun t tf tS tI => fl_96 tS tI (fun y yf yS => ?_))
    refine k _ (mv_ft (mv_ft uf (mv_ft tf yf)) (mv_g (rc_g15 rc_gr (by omega)))) ?_
    rw [yS.2.2.2.2.1]
    exact rc_37 yS
  · obtain ⟨d1, d2, d3⟩ := uS.1 n (by omega) (by omega)
    rw [show 4 - n = (4 - (n + 1)) + 1 by omega] at ge
    have ge : mn_bb J X (4 - (n + 1)) ((n : Int) + 1) (if g (3 * (n : Int)) ≤ 0 then g else mn_rp (mn_m1 J X n) (X.1 (mn_np J g n)).toNat g) = mn_bb J X 4 0 f := ge
    -- so many moves
    have run : ∀ (v : Int) (y : lf_Z), 0 ≤ v → (0 < v → 0 < g (3 * (n : Int))) → mv_f s y → rc_S y.1 g → mn_bb J X (4 - (n + 1)) ((n : Int) + 1) (mn_rp (mn_m1 J X n) v.toNat g) = mn_bb J X 4 0 f → fw_72_p71 (fun i u => ∃ (n : Nat) (g : Int → Int), i = n ∧ n ≤ 4 ∧ mv_f s u ∧ rc_S u.1 g ∧ gp_I J g ∧ mn_bb J X (4 - n) n g = mn_bb J X 4 0 f) Q n v y := by
      intro v y v0 vz yf yS hv
      unfold fw_72_p71
      refine ⟨fun j q => ∃ (m : Nat) (h : Int → Int), j = m ∧ (m : Int) ≤ v ∧ mv_f s q ∧ rc_S q.1 h ∧ gp_I J h ∧ (0 < v → 0 < h (3 * (n : Int))) ∧ mn_rp (mn_m1 J X n) (v.toNat - m) h = mn_rp (mn_m1 J X n) v.toNat g, ?_, ⟨0, g, rfl, v0, yf, yS, uI, vz, rfl⟩⟩
      intro j q ⟨m, h, ej, m1, qf, qS, qI, qz, he⟩
      subst ej
      unfold fw_72_p74
      intro _ _
      refine ⟨fun d => ?_, fun d => ?_⟩
      · rw [show v.toNat - m = 0 by omega] at he
        have he : h = mn_rp (mn_m1 J X n) v.toNat g := he
        rw [← he] at hv
        exact ⟨n + 1, h, by omega, by omega, qf, qS, qI, hv⟩
      · rw [show v.toNat - m = (v.toNat - (m + 1)) + 1 by omega] at he
        have he : mn_rp (mn_m1 J X n) (v.toNat - (m + 1)) (mn_m1 J X n h) = mn_rp (mn_m1 J X n) v.toNat g := he
        have qz := qz (by omega)
        have hat := gp_at qI (b := n) (by omega) (by omega) qz
        have r := gp_m1 (X := X) hW qI (b := n) (by omega) (by omega) qz
        refine fl_88 (gc_Jm hJ qf) hW hB hV qS (by rw [qf.2.2]; exact hX) hXB (fun c x y => (qf.1 c (by omega)).trans (hI c x y)) (by omega) (by omega) (gp_sz qI (by omega) (by omega)) hat.1 qI.2.2.2 (fun t tf tS => ?_)
        exact ⟨m + 1, _, by omega, by omega, mv_ft qf tf, tS, r.1, fun _ => by rw [r.2 (3 * (n : Int)) (by omega) (by omega) (by omega)]; exact qz, he⟩
    rw [d1, decide_eq_true (show (0 : Int) ≤ n by omega), decide_eq_true (show (n : Int) < 4 by omega)]
    refine ⟨fun z => ?_, fun z => ?_⟩
    · have z : decide (0 < g (3 * (n : Int))) = false := z
      have z := of_decide_eq_false z
      rw [if_pos (by omega)] at ge
      exact run 0 u (Int.le_refl 0) (fun q => absurd q (by decide)) uf uS ge
    · have z : decide (0 < g (3 * (n : Int))) = true := z
      have z := of_decide_eq_true z
      have at_ := gp_at uI (b := n) (by omega) (by omega) z
      rw [if_neg (by omega)] at ge
      refine fl_81 (gc_Jm hJ uf) hW uS uX uH (by omega) (by omega) z at_.1 at_.2.1 (np_S hW hV (gp_sz uI (by omega) (by omega)) at_.1) (fun v y yf hv => ?_)
      have vB := hX1 (mn_np J g n)
      rw [← hv] at ge vB
      exact run v y vB.1 (fun _ => z) (mv_ft uf (mv_k yf)) (rc_Sk uS yf) ge
/-- pass -/
theorem fl_72 {Q : lf_Z → Prop} (hJ : gc_J J s) (hW : mn_W J) (hB : mn_B J) (hV : mn_V J) (hS : rc_S s.1 f) (hG : gp_I J f) (hX : xc_X X I s.2.2) (hXB : ∀ N, 0 ≤ X.2 N ∧ X.2 N ≤ 10) (hX1 : ∀ N, 0 ≤ X.1 N ∧ X.1 N ≤ 2) (hI : ∀ c : Nat, 35 ≤ c → c < 63 → s.1 c = I c)
    (k : ∀ t : lf_Z, mv_f s t → rc_S t.1 (mn_min J X f) → Q t) : fw_72 Q s := by
  have w2 := hW.2.2.1
  unfold fw_72
  refine ⟨fun i u => ∃ (n : Nat) (g : Int → Int), i = n ∧ (n : Int) ≤ J 1 2 ∧ mv_f s u ∧ rc_S u.1 g ∧ gp_I J g ∧ mn_pp J ((J 1 2).toNat - n) n g = mn_pp J (J 1 2).toNat 0 f, ?_, ⟨0, f, rfl, w2.1, mv_fr, hS, hG, rfl⟩⟩
  intro i u ⟨n, g, ei, n4, uf, uS, uI, ge⟩
  subst ei
  have uJ := gc_Jm hJ uf
  unfold fw_72_p2
  rw [uJ 1 (by omega)]
  intro _ _
  refine ⟨fun c => ?_, fun c => ?_⟩
  · rw [show (J 1 2).toNat - n = 0 by omega] at ge
    have ge : g = mn_pp J (J 1 2).toNat 0 f := ge
    rw [ge] at uS uI
    exact fl_72b uJ hW hB hV uS uI (by rw [uf.2.2]; exact hX) hXB hX1 (fun c x y => (uf.1 c (by omega)).trans (hI c x y)) (fun t tf tS => k t (mv_ft uf tf) tS)
  · rw [show (J 1 2).toNat - n = ((J 1 2).toNat - (n + 1)) + 1 by omega] at ge
    have ge : mn_pp J ((J 1 2).toNat - (n + 1)) ((n : Int) + 1) (if J 8 (n : Int) = 0 then mn_go J n g else mn_go J n (mn_go J n g)) = mn_pp J (J 1 2).toNat 0 f := ge
    refine fl_73 uJ hW uS uI.1 (by omega) (by omega) (fun t tf tS => ?_)
    have tF := mv_ft uf (mv_g tf)
    have tJ := gc_Jm hJ tF
    have tI := gp_go hW uI (p := n) (by omega) (by omega)
    rw [tJ 8 (by omega)]
    intro _ _
    refine ⟨fun e => ?_, fun e => ?_⟩
    · unfold fw_72_p35
      rw [if_pos e] at ge
      exact ⟨n + 1, _, by omega, by omega, tF, tS, tI, ge⟩
    · refine fl_73 tJ hW tS tI.1 (by omega) (by omega) (fun y yf yS => ?_)
      unfold fw_72_p35
      rw [if_neg e] at ge
      exact ⟨n + 1, _, by omega, by omega, mv_ft tF (mv_g yf), yS, gp_go hW tI (by omega) (by omega), ge⟩
end CP
/-! minutes: both sides -/
section MI
variable {J K : Nat → Int → Int} {s t u : lf_Z} {f g T A B : Int → Int} {X : mn_X} {I : Nat → Int → Int} {a b p x j : Int} {H : List rr_H}
theorem mk_pp (hj : 24 ≤ j) : ∀ (k : Nat) (p : Int) (f : Int → Int), 0 ≤ p → p + k ≤ 6 → mn_pp J k p f j = f j := by
  intro k
  induction k with
  | zero => intro p f _ _; rfl
  | succ k ih =>
    intro p f p0 p1
    show mn_pp J k (p + 1) (if J 8 p = 0 then mn_go J p f else mn_go J p (mn_go J p f)) j = f j
    rw [ih (p + 1) _ (by omega) (by omega)]
    split
    · exact mn_go_o (by omega)
    · exact (mn_go_o (by omega)).trans (mn_go_o (by omega))
theorem mk_rp (hW : mn_W J) (hj : 24 ≤ j) (h38 : j ≠ 38) (b0 : 0 ≤ b) (b1 : b < 4) : ∀ (k : Nat) (f : Int → Int), gp_I J f → 0 < f (3 * b) → mn_rp (mn_m1 J X b) k f j = f j := by
  intro k
  induction k with
  | zero => intro f _ _; rfl
  | succ k ih =>
    intro f h hz
    have r := gp_m1 (X := X) hW h b0 b1 hz
    show mn_rp (mn_m1 J X b) k (mn_m1 J X b f) j = f j
    rw [ih _ r.1 (by rw [r.2 (3 * b) (by omega) (by omega) (by omega)]; exact hz)]
    exact r.2 j h38 (by omega) (by omega)
theorem mk_bb (hW : mn_W J) (hj : 24 ≤ j) (h38 : j ≠ 38) : ∀ (k : Nat) (b : Int) (f : Int → Int), gp_I J f → 0 ≤ b → b + k ≤ 4 → mn_bb J X k b f j = f j := by
  intro k
  induction k with
  | zero => intro b f _ _ _; rfl
  | succ k ih =>
    intro b f h b0 b1
    have h1 := gp_bb (X := X) hW 1 b f h b0 (by omega)
    have h1 : gp_I J (if f (3 * b) ≤ 0 then f else mn_rp (mn_m1 J X b) (X.1 (mn_np J f b)).toNat f) := h1
    show mn_bb J X k (b + 1) (if f (3 * b) ≤ 0 then f else mn_rp (mn_m1 J X b) (X.1 (mn_np J f b)).toNat f) j = f j
    rw [ih (b + 1) _ h1 (by omega) (by omega)]
    by_cases c : f (3 * b) ≤ 0
    · rw [if_pos c]
    · rw [if_neg c]
      exact mk_rp hW hj h38 b0 (by omega) _ f h (by omega)
theorem mk_hb (hW : mn_W J) (hj : 24 + J 1 0 ≤ j) : ∀ (k : Nat) (b : Int) (f : Int → Int), gp_I J f → 0 ≤ b → b + k ≤ 4 → mn_hb J k b f j = f j := by
  intro k
  induction k with
  | zero => intro b f _ _ _; rfl
  | succ k ih =>
    intro b f h b0 b1
    have h1 := gp_hb hW 1 b f h b0 (by omega)
    have h1 : gp_I J (if f (3 * b) ≤ 0 then f else ds_u1 f (24 + f (3 * b + 1)) (lf_w (f (24 + f (3 * b + 1)) + f (3 * b) * J 3 (f (3 * b + 1))))) := h1
    show mn_hb J k (b + 1) (if f (3 * b) ≤ 0 then f else ds_u1 f (24 + f (3 * b + 1)) (lf_w (f (24 + f (3 * b + 1)) + f (3 * b) * J 3 (f (3 * b + 1))))) j = f j
    rw [ih (b + 1) _ h1 (by omega) (by omega)]
    by_cases c : f (3 * b) ≤ 0
    · rw [if_pos c]
    · rw [if_neg c]
      have a := gp_at h b0 (by omega) (by omega)
      exact if_neg (by omega)
theorem mk_j1 {c : Int} (hj : 24 ≤ j) (b0 : 0 ≤ b) (bc : b < c) (c4 : c < 4) : mn_j1 b c f j = f j := (if_neg (by omega)).trans ((if_neg (by omega)).trans ((if_neg (by omega)).trans (if_neg (by omega))))
theorem mk_jc (hj : 24 ≤ j) (b0 : 0 ≤ b) : ∀ (k : Nat) (c : Int) (f : Int → Int), b < c → c + k ≤ 4 → mn_jc b k c f j = f j := by
  intro k
  induction k with
  | zero => intro c f _ _; rfl
  | succ k ih =>
    intro c f hc c1
    show mn_jc b k (c + 1) (if f (3 * b) ≤ 0 ∨ f (3 * c) ≤ 0 ∨ f (3 * c + 1) ≠ f (3 * b + 1) then f else mn_j1 b c f) j = f j
    rw [ih (c + 1) _ (by omega) (by omega)]
    split
    · rfl
    · exact mk_j1 hj b0 hc (by omega)
theorem mk_jb (hj : 24 ≤ j) : ∀ (k : Nat) (b : Int) (f : Int → Int), 0 ≤ b → b + k ≤ 4 → mn_jb k b f j = f j := by
  intro k
  induction k with
  | zero => intro b f _ _; rfl
  | succ k ih =>
    intro b f b0 b1
    show mn_jb k (b + 1) (mn_jc b (3 - b).toNat (b + 1) f) j = f j
    rw [ih (b + 1) _ (by omega) (by omega), mk_jc hj b0 _ _ _ (by omega) (by omega)]
theorem mk_in (hW : mn_W J) (h : gp_I J f) (hj : 24 + J 1 0 ≤ j) (h38 : j ≠ 38) : mn_jb 4 0 (mn_hb J 4 0 (mn_bb J X 4 0 (mn_pp J (J 1 2).toNat 0 f))) j = f j := by
  have w0 := hW.1
  have w2 := hW.2.2.1
  have i1 := gp_pp hW (J 1 2).toNat 0 f h (Int.le_refl 0) (by omega)
  have i2 := gp_bb (X := X) hW 4 0 _ i1 (Int.le_refl 0) (by decide)
  rw [mk_jb (by omega) 4 0 _ (Int.le_refl 0) (by decide), mk_hb hW hj 4 0 _ i2 (Int.le_refl 0) (by decide), mk_bb hW (by omega) h38 4 0 _ i1 (Int.le_refl 0) (by decide), mk_pp (by omega) _ 0 _ (Int.le_refl 0) (by omega)]
theorem mk_min (hW : mn_W J) (h : gp_I J f) (hj : 24 + J 1 0 ≤ j) (h37 : j ≠ 37) (h38 : j ≠ 38) : mn_min J X f j = f j := (if_neg h37).trans (mk_in hW h hj h38)
theorem mk_37 (hW : mn_W J) (h : gp_I J f) : mn_min J X f 37 = lf_w (f 37 + 1) := by
  have w0 := hW.1
  have e : mn_min J X f 37 = lf_w (mn_jb 4 0 (mn_hb J 4 0 (mn_bb J X 4 0 (mn_pp J (J 1 2).toNat 0 f))) 37 + 1) := by unfold mn_min; dsimp only [ds_u1]; rw [if_pos rfl]
  rw [e, mk_in hW h (by omega) (by decide)]
/-- all that is true of a stand -/
def gp_J (J : Nat → Int → Int) (f : Int → Int) : Prop := gp_I J f ∧ rr_W (J 1 0) (J 1 1) f ∧ 0 ≤ f 37 ∧ f 37 ≤ 999
theorem gp_Jm (hW : mn_W J) (h : gp_J J f) (h9 : f 37 < 999) : gp_J J (mn_min J X f) ∧ mn_min J X f 37 = f 37 + 1 := by
  have w0 := hW.1
  obtain ⟨h1, h2, h3⟩ := h
  have e : mn_min J X f 37 = f 37 + 1 := by rw [mk_37 hW h1, tr_w (by omega)]
  refine ⟨⟨gp_min hW h1, ⟨fun q q0 q1 => ?_, fun w x0 x1 => ?_⟩, by omega, by omega⟩, e⟩
  · rw [mk_min hW h1 (by omega) (by omega) (by omega)]; exact h2.1 q q0 q1
  · rw [mk_min hW h1 (by omega) (by decide) (by decide)]; exact h2.2 w x0 x1
/-- all that is true of the steps -/
def mi_h (J : Nat → Int → Int) (h : rr_H) : Prop := (0 ≤ h.1 ∧ h.1 ≤ J 1 2) ∧ (0 ≤ h.2.1 ∧ h.2.1 ≤ J 1 1) ∧ rr_W (J 1 0) h.2.1 h.2.2 ∧ gp_I (lf_up J 1 2 h.1) h.2.2 ∧ 0 ≤ h.2.2 37 ∧ h.2.2 37 ≤ 999
def mi_H (J : Nat → Int → Int) (H : List rr_H) : Prop := H.length ≤ 30 ∧ ∀ h ∈ H, mi_h J h
theorem gp_Iu (h : gp_I J f) (e0 : K 1 0 = J 1 0) (e2 : K 1 2 = J 1 2) : gp_I K f := by
  unfold gp_I gc_P gp_b at h ⊢
  rw [e0, e2]; exact h
theorem mi_K (hW : mn_W J) (h : gp_J J f) (hH : mi_H J H) : mi_H J (rr_K (J 1 2, J 1 1, f) H) := by
  have w1 := hW.2.1
  have w2 := hW.2.2.1
  have new : mi_h J (J 1 2, J 1 1, f) := ⟨⟨w2.1, Int.le_refl _⟩, ⟨w1.1, Int.le_refl _⟩, h.2.1, gp_Iu h.1 (lf_up_i (by decide)) lf_up_s, h.2.2⟩
  unfold rr_K
  by_cases c : H.length = 30
  · rw [if_pos c]
    refine ⟨by rw [List.length_cons, List.length_dropLast, c]; decide, fun g hg => ?_⟩
    rcases List.mem_cons.mp hg with e | e
    · rw [e]; exact new
    · exact hH.2 g (List.dropLast_subset _ e)
  · rw [if_neg c]
    have := hH.1
    refine ⟨by rw [List.length_cons]; omega, fun g hg => ?_⟩
    rcases List.mem_cons.mp hg with e | e
    · rw [e]; exact new
    · exact hH.2 g e
/-- so many minutes -/
abbrev mi_T : Type := (Int → Int) × List rr_H
def mi_r (J : Nat → Int → Int) (X : mn_X) : Nat → mi_T → mi_T
  | 0, z => z
  | k + 1, z => mi_r J X k (mn_min J X z.1, rr_K (J 1 2, J 1 1, z.1) z.2)
/-- the class: stand, ring and the laws' scratch alone -/
def mc_f (s t : lf_Z) : Prop := (∀ c : Nat, c < 15 ∨ (24 < c ∧ (c < 63 ∨ 66 < c)) → t.1 c = s.1 c) ∧ (∀ i : Int, i ≠ 6 → i ≠ 7 → i ≠ 8 → t.1 15 i = s.1 15 i) ∧ (∀ i : Int, i ≠ 2 → i ≠ 3 → t.1 22 i = s.1 22 i) ∧ t.2 = s.2
theorem mc_fr : mc_f s s := ⟨fun _ _ => rfl, fun _ _ _ _ => rfl, fun _ _ _ => rfl, rfl⟩
theorem mc_ft (h : mc_f s t) (g : mc_f t u) : mc_f s u := ⟨fun c hc => (g.1 c hc).trans (h.1 c hc), fun i a b c => (g.2.1 i a b c).trans (h.2.1 i a b c), fun i a b => (g.2.2.1 i a b).trans (h.2.2.1 i a b), g.2.2.2.trans h.2.2.2⟩
theorem mc_v (h : mv_f s t) : mc_f s t := ⟨fun c hc => h.1 c (by omega), h.2.1, fun i _ _ => by rw [h.1 22 (by omega)], h.2.2⟩
theorem mc_g (h : rc_g s t) : mc_f s t := mc_v (mv_g h)
theorem mc_k (h : rc_f s t) : mc_f s t := ⟨fun c hc => h.1 c (by omega) (by omega) (by omega), fun i _ _ _ => by rw [h.1 15 (by decide) (by decide) (by decide)], h.2.1, h.2.2⟩
theorem gc_Jc (h : gc_J J s) (g : mc_f s t) : gc_J J t := fun c hc => (g.1 c (Or.inl (by omega))).trans (h c hc)
theorem rc_Sf (h : rc_S s.1 f) (g : rc_f s t) : rc_S t.1 f := by
  unfold rc_S at h ⊢
  rw [g.1 15 (by decide) (by decide) (by decide), g.1 16 (by decide) (by decide) (by decide), g.1 17 (by decide) (by decide) (by decide), g.1 18 (by decide) (by decide) (by decide), g.1 19 (by decide) (by decide) (by decide), g.1 20 (by decide) (by decide) (by decide), g.1 21 (by decide) (by decide) (by decide)]
  exact h
theorem rc_Hv (h : rc_H s.1 H) (g : mv_f s t) : rc_H t.1 H := by
  unfold rc_H at h ⊢
  rw [g.1 22 (by omega), g.1 23 (by omega), g.1 24 (by omega)]
  exact h
/-- minutes of the class -/
theorem fl_71 {Q : Bool → lf_Z → Prop} (hJ : gc_J J s) (hW : mn_W J) (hB : mn_B J) (hV : mn_V J) (hS : rc_S s.1 f) (hG : gp_J J f) (hH : rc_H s.1 H) (hX : xc_X X I s.2.2) (hXB : ∀ N, 0 ≤ X.2 N ∧ X.2 N ≤ 10) (hX1 : ∀ N, 0 ≤ X.1 N ∧ X.1 N ≤ 2) (hI : ∀ c : Nat, 35 ≤ c → c < 63 → s.1 c = I c)
    (k : ∀ (m : Nat) (t : lf_Z), (m : Int) ≤ max 0 a → (f 37 + m ≤ 999) → mc_f s t → rc_S t.1 (mi_r J X m (f, H)).1 → rc_H t.1 (mi_r J X m (f, H)).2 → gp_J J (mi_r J X m (f, H)).1 → ((m : Int) = max 0 a → Q true t) ∧ ((m : Int) < a → f 37 + m = 999 → Q false t)) : fw_71 a Q s := by
  unfold fw_71
  have go : ∀ (m : Nat) (z : mi_T), mi_r J X (m + 1) z = (mn_min J X (mi_r J X m z).1, rr_K (J 1 2, J 1 1, (mi_r J X m z).1) (mi_r J X m z).2) := by
    intro m
    induction m with
    | zero => intro z; rfl
    | succ m ih => intro z; exact ih (mn_min J X z.1, rr_K (J 1 2, J 1 1, z.1) z.2)
  refine ⟨fun i u => ∃ m : Nat, i = m ∧ (m : Int) ≤ max 0 a ∧ f 37 + m ≤ 999 ∧ mc_f s u ∧ rc_S u.1 (mi_r J X m (f, H)).1 ∧ rc_H u.1 (mi_r J X m (f, H)).2 ∧ gp_J J (mi_r J X m (f, H)).1 ∧ (mi_r J X m (f, H)).1 37 = f 37 + m, ?_, ⟨0, rfl, by omega, by have := hG.2.2.2; omega, mc_fr, hS, hH, hG, (Int.add_zero _).symm⟩⟩
  intro i u ⟨m, ei, m1, m9, uf, uS, uH, uG, u37⟩
  subst ei
  have K := k m u m1 m9 uf uS uH uG
  have uJ := gc_Jc hJ uf
  unfold fw_71_p2
  intro _ _
  refine ⟨fun c => K.1 (by omega), fun c _ => ?_⟩
  rw [uS.2.2.2.2.1, u37]
  refine ⟨fun d => ?_, fun d => K.2 (by omega) (by omega)⟩
  rw [uJ 1 (by omega)]
  refine fl_67 (w := J 1 1) uS uH (fun t tf tH => ?_)
  have tF := mc_ft uf (mc_k tf)
  have tS := rc_Sf uS tf
  refine fl_72 (I := I) (gc_Jc hJ tF) hW hB hV tS uG.1 (by rw [tF.2.2.2]; exact hX) hXB hX1 (fun c x y => (tF.1 c (by omega)).trans (hI c x y)) (fun y yf yS => ?_)
  have r := gp_Jm (X := X) hW uG (by omega)
  refine ⟨m + 1, by omega, by omega, by omega, mc_ft tF (mc_v yf), ?_, ?_, ?_, ?_⟩
  · rw [go]; exact yS
  · rw [go]; exact rc_Hv tH yf
  · rw [go]; exact r.1
  · rw [go]
    show mn_min J X (mi_r J X m (f, H)).1 37 = _
    rw [r.2, u37]; omega
end MI
