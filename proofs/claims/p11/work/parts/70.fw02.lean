def fw_16 (a1 : Int) (a2 : Int) (Q : Int → lf_Z → Prop) (s : lf_Z) : Prop := lf_R (s.1 1 0) → ((s.1 1 0 < 12 → ((0 ≤ s.1 1 0 ∧ s.1 1 0 < 12) → (Q (((s.1 1 0) + 1) - 1) (lf_up (lf_up (lf_up s.1 2 (s.1 1 0) a1) 3 (s.1 1 0) a2) 1 0 ((s.1 1 0) + 1), s.2.1, s.2.2)))) ∧ (¬ (s.1 1 0 < 12) → (Q (-1) s)))
theorem cj_16 {Q1 Q2 Q3 : Int → lf_Z → Prop} {a1 : Int} {a2 : Int} {s : lf_Z} (hQ : ∀ (r : Int) (s : lf_Z), Q1 r s → Q2 r s → Q3 r s) (h1 : fm_16 a1 a2 Q1 s) (h2 : fw_16 a1 a2 Q2 s) : fm_16 a1 a2 Q3 s := by
  unfold fm_16 at h1 ⊢
  unfold fw_16 at h2
  exact ⟨h1.1, ⟨(fun c2 => ⟨(h1.2.1 c2).1, hQ _ _  (h1.2.1 c2).2 (((h2 h1.1).1 c2) (h1.2.1 c2).1)⟩), (fun c2 => hQ _ _  (h1.2.2 c2) ((h2 h1.1).2 c2))⟩⟩
def fw_14 (a1 : Int) (a2 : Int) (Q : Int → lf_Z → Prop) (s : lf_Z) : Prop := fw_15 a1 0 3 (fun z22 s21 => ((z22 = false → (Q (-1) s21)) ∧ (z22 = true → (fw_15 a2 0 99 (fun z24 s23 => ((z24 = true → (fw_16 a1 a2 (fun r26 s25 => (Q r26 s25)) s23)) ∧ (z24 = false → (Q (-1) s23)))) s21)))) s
theorem cj_14 {Q1 Q2 Q3 : Int → lf_Z → Prop} {a1 : Int} {a2 : Int} {s : lf_Z} (hQ : ∀ (r : Int) (s : lf_Z), Q1 r s → Q2 r s → Q3 r s) (h1 : fm_14 a1 a2 Q1 s) (h2 : fw_14 a1 a2 Q2 s) : fm_14 a1 a2 Q3 s := by
  unfold fm_14 at h1 ⊢
  unfold fw_14 at h2
  exact cj_15 (fun z22 s21 k1 l1 => ⟨(fun c2 => hQ _ _  (k1.1 c2) (l1.1 c2)), (fun c2 => cj_15 (fun z24 s23 k4 l4 => ⟨(fun c5 => cj_16 (fun r26 s25 k6 l6 => hQ _ _  k6 l6) (k4.1 c5) (l4.1 c5)), (fun c5 => hQ _ _  (k4.2 c5) (l4.2 c5))⟩) (k1.2 c2) (l1.2 c2))⟩) h1 h2
def fw_182 (a1 : Int) (a2 : Int) (Q : Int → lf_Z → Prop) (s : lf_Z) : Prop := fw_183 a1 0 3 (fun z22 s21 => ((z22 = false → (Q (-1) s21)) ∧ (z22 = true → (fw_183 a2 0 99 (fun z24 s23 => ((z24 = false → (Q (-1) s23)) ∧ (z24 = true → (lf_R (s23.1 96 0) → ((s23.1 96 0 ≠ 12 → ((0 ≤ 14 + (3 * (s23.1 96 0)) ∧ 14 + (3 * (s23.1 96 0)) < 1538) → ((0 ≤ (14 + (3 * (s23.1 96 0))) + 1 ∧ (14 + (3 * (s23.1 96 0))) + 1 < 1538) → ((0 ≤ (14 + (3 * (s23.1 96 0))) + 2 ∧ (14 + (3 * (s23.1 96 0))) + 2 < 1538) → (Q ((((lf_up (lf_up (lf_up s23.1 96 (14 + (3 * (s23.1 96 0))) a1) 96 ((14 + (3 * (s23.1 96 0))) + 1) a2) 96 ((14 + (3 * (s23.1 96 0))) + 2) 0) 96 0) + 1) - 1) (lf_up (lf_up (lf_up (lf_up s23.1 96 (14 + (3 * (s23.1 96 0))) a1) 96 ((14 + (3 * (s23.1 96 0))) + 1) a2) 96 ((14 + (3 * (s23.1 96 0))) + 2) 0) 96 0 (((lf_up (lf_up (lf_up s23.1 96 (14 + (3 * (s23.1 96 0))) a1) 96 ((14 + (3 * (s23.1 96 0))) + 1) a2) 96 ((14 + (3 * (s23.1 96 0))) + 2) 0) 96 0) + 1), s23.2.1, s23.2.2)))))) ∧ (¬ (s23.1 96 0 ≠ 12) → (Q (-1) s23))))))) s21)))) s
theorem cj_182 {Q1 Q2 Q3 : Int → lf_Z → Prop} {a1 : Int} {a2 : Int} {s : lf_Z} (hQ : ∀ (r : Int) (s : lf_Z), Q1 r s → Q2 r s → Q3 r s) (h1 : fm_182 a1 a2 Q1 s) (h2 : fw_182 a1 a2 Q2 s) : fm_182 a1 a2 Q3 s := by
  unfold fm_182 at h1 ⊢
  unfold fw_182 at h2
  exact cj_183 (fun z22 s21 k1 l1 => ⟨(fun c2 => hQ _ _  (k1.1 c2) (l1.1 c2)), (fun c2 => cj_183 (fun z24 s23 k4 l4 => ⟨(fun c5 => hQ _ _  (k4.1 c5) (l4.1 c5)), (fun c5 => ⟨(k4.2 c5).1, ⟨(fun c8 => ⟨((k4.2 c5).2.1 c8).1, ⟨((k4.2 c5).2.1 c8).2.1, ⟨((k4.2 c5).2.1 c8).2.2.1, hQ _ _  ((k4.2 c5).2.1 c8).2.2.2 ((((((l4.2 c5) (k4.2 c5).1).1 c8) ((k4.2 c5).2.1 c8).1) ((k4.2 c5).2.1 c8).2.1) ((k4.2 c5).2.1 c8).2.2.1)⟩⟩⟩), (fun c8 => hQ _ _  ((k4.2 c5).2.2 c8) (((l4.2 c5) (k4.2 c5).1).2 c8))⟩⟩)⟩) (k1.2 c2) (l1.2 c2))⟩) h1 h2
def fw_18 (a1 : Int) (Q : Bool → lf_Z → Prop) (s : lf_Z) : Prop := lf_R a1 → ((a1 < 0 → (Q false s)) ∧ (¬ (a1 < 0) → (lf_R (s.1 1 0) → ((s.1 1 0 ≤ a1 → (Q false s)) ∧ (¬ (s.1 1 0 ≤ a1) → (Q true s))))))
theorem cj_18 {Q1 Q2 Q3 : Bool → lf_Z → Prop} {a1 : Int} {s : lf_Z} (hQ : ∀ (r : Bool) (s : lf_Z), Q1 r s → Q2 r s → Q3 r s) (h1 : fm_18 a1 Q1 s) (h2 : fw_18 a1 Q2 s) : fm_18 a1 Q3 s := by
  unfold fm_18 at h1 ⊢
  unfold fw_18 at h2
  exact ⟨h1.1, ⟨(fun c2 => hQ _ _  (h1.2.1 c2) ((h2 h1.1).1 c2)), (fun c2 => ⟨(h1.2.2 c2).1, ⟨(fun c5 => hQ _ _  ((h1.2.2 c2).2.1 c5) ((((h2 h1.1).2 c2) (h1.2.2 c2).1).1 c5)), (fun c5 => hQ _ _  ((h1.2.2 c2).2.2 c5) ((((h2 h1.1).2 c2) (h1.2.2 c2).1).2 c5))⟩⟩)⟩⟩
def fw_21 (a1 : Int) (a2 : Int) (Q : lf_Z → Prop) (s : lf_Z) : Prop := (0 ≤ a1 ∧ a1 < 12) → (lf_R (s.1 12 a1) → ((4 ≤ s.1 12 a1 → (Q s)) ∧ (¬ (4 ≤ s.1 12 a1) → ((0 ≤ (a1 * 4) + (s.1 12 a1) ∧ (a1 * 4) + (s.1 12 a1) < 48) → (Q (lf_up (lf_up s.1 11 ((a1 * 4) + (s.1 12 a1)) a2) 12 a1 ((s.1 12 a1) + 1), s.2.1, s.2.2))))))
theorem cj_21 {Q1 Q2 Q3 : lf_Z → Prop} {a1 : Int} {a2 : Int} {s : lf_Z} (hQ : ∀ (s : lf_Z), Q1 s → Q2 s → Q3 s) (h1 : fm_21 a1 a2 Q1 s) (h2 : fw_21 a1 a2 Q2 s) : fm_21 a1 a2 Q3 s := by
  unfold fm_21 at h1 ⊢
  unfold fw_21 at h2
  exact ⟨h1.1, ⟨h1.2.1, ⟨(fun c3 => hQ _  (h1.2.2.1 c3) (((h2 h1.1) h1.2.1).1 c3)), (fun c3 => ⟨(h1.2.2.2 c3).1, hQ _  (h1.2.2.2 c3).2 ((((h2 h1.1) h1.2.1).2 c3) (h1.2.2.2 c3).1)⟩)⟩⟩⟩
def fw_22_p22 (X3 : Int → lf_Z → Prop) (Q : lf_Z → Prop) (x2 : Int) (x3 : Int) (x4 : Int) (x5 : Int) (X22 : Int → lf_Z → Prop) (x6 : Int) (s : lf_Z) : Prop := lf_R x6 → (lf_R (s.1 1 0) → ((s.1 1 0 ≤ x6 → (X3 (x4 + 1) s)) ∧ (¬ (s.1 1 0 ≤ x6) → ((0 ≤ x5 + x2 ∧ x5 + x2 < 144) → ((0 ≤ (x3 * 12) + x6 ∧ (x3 * 12) + x6 < 144) → ((0 ≤ x5 + x3 ∧ x5 + x3 < 144) → ((0 ≤ (x2 * 12) + x6 ∧ (x2 * 12) + x6 < 144) → ((0 ≤ x5 + x6 ∧ x5 + x6 < 144) → (lf_R (((s.1 13 (x5 + x2)) + 1) + (s.1 13 ((x3 * 12) + x6))) → (lf_R (((s.1 13 (x5 + x3)) + 1) + (s.1 13 ((x2 * 12) + x6))) → (lf_R (s.1 13 (x5 + x6)) → (lf_R (min (((s.1 13 (x5 + x2)) + 1) + (s.1 13 ((x3 * 12) + x6))) (((s.1 13 (x5 + x3)) + 1) + (s.1 13 ((x2 * 12) + x6)))) → (X22 (x6 + 1) (lf_up s.1 13 (x5 + x6) (min (s.1 13 (x5 + x6)) (min (((s.1 13 (x5 + x2)) + 1) + (s.1 13 ((x3 * 12) + x6))) (((s.1 13 (x5 + x3)) + 1) + (s.1 13 ((x2 * 12) + x6))))), s.2.1, s.2.2))))))))))))))
theorem cj_22_p22 {X31 X32 X33 : Int → lf_Z → Prop} {X221 X222 X223 : Int → lf_Z → Prop} {Q1 Q2 Q3 : lf_Z → Prop} {x2 : Int} {x3 : Int} {x4 : Int} {x5 : Int} {x6 : Int} {s : lf_Z} (hX3 : ∀ (v0 : Int) (v1 : lf_Z), X31 v0 v1 → X32 v0 v1 → X33 v0 v1) (hX22 : ∀ (v0 : Int) (v1 : lf_Z), X221 v0 v1 → X222 v0 v1 → X223 v0 v1) (hQ : ∀ (s : lf_Z), Q1 s → Q2 s → Q3 s) (h1 : fm_22_p22 X31 Q1 x2 x3 x4 x5 X221 x6 s) (h2 : fw_22_p22 X32 Q2 x2 x3 x4 x5 X222 x6 s) : fm_22_p22 X33 Q3 x2 x3 x4 x5 X223 x6 s := by
  unfold fm_22_p22 at h1 ⊢
  unfold fw_22_p22 at h2
  exact ⟨h1.1, ⟨h1.2.1, ⟨(fun c3 => hX3 _ _  (h1.2.2.1 c3) (((h2 h1.1) h1.2.1).1 c3)), (fun c3 => ⟨(h1.2.2.2 c3).1, ⟨(h1.2.2.2 c3).2.1, ⟨(h1.2.2.2 c3).2.2.1, ⟨(h1.2.2.2 c3).2.2.2.1, ⟨(h1.2.2.2 c3).2.2.2.2.1, ⟨(h1.2.2.2 c3).2.2.2.2.2.1, ⟨(h1.2.2.2 c3).2.2.2.2.2.2.1, ⟨(h1.2.2.2 c3).2.2.2.2.2.2.2.1, ⟨(h1.2.2.2 c3).2.2.2.2.2.2.2.2.1, hX22 _ _  (h1.2.2.2 c3).2.2.2.2.2.2.2.2.2 ((((((((((((h2 h1.1) h1.2.1).2 c3) (h1.2.2.2 c3).1) (h1.2.2.2 c3).2.1) (h1.2.2.2 c3).2.2.1) (h1.2.2.2 c3).2.2.2.1) (h1.2.2.2 c3).2.2.2.2.1) (h1.2.2.2 c3).2.2.2.2.2.1) (h1.2.2.2 c3).2.2.2.2.2.2.1) (h1.2.2.2 c3).2.2.2.2.2.2.2.1) (h1.2.2.2 c3).2.2.2.2.2.2.2.2.1)⟩⟩⟩⟩⟩⟩⟩⟩⟩)⟩⟩⟩
def fw_22_p22L (X3 : Int → lf_Z → Prop) (Q : lf_Z → Prop) (x2 : Int) (x3 : Int) (x4 : Int) (x5 : Int) (x6 : Int) (s : lf_Z) : Prop := ∃ X22 : Int → lf_Z → Prop, (∀ (x6 : Int) (s : lf_Z), X22 x6 s → fw_22_p22 X3 Q x2 x3 x4 x5 X22 x6 s) ∧ X22 x6 s
theorem cj_22_p22L {X31 X32 X33 : Int → lf_Z → Prop} {Q1 Q2 Q3 : lf_Z → Prop} {x2 : Int} {x3 : Int} {x4 : Int} {x5 : Int} {x6 : Int} {s : lf_Z} (hX3 : ∀ (v0 : Int) (v1 : lf_Z), X31 v0 v1 → X32 v0 v1 → X33 v0 v1) (hQ : ∀ (s : lf_Z), Q1 s → Q2 s → Q3 s) (h1 : fm_22_p22L X31 Q1 x2 x3 x4 x5 x6 s) (h2 : fw_22_p22L X32 Q2 x2 x3 x4 x5 x6 s) : fm_22_p22L X33 Q3 x2 x3 x4 x5 x6 s := by
  intro X0 hX0
  obtain ⟨Y, hY, hY0⟩ := h2
  exact h1 (fun v0 s => Y v0 s → X0 v0 s) (fun v0 s hb hy => hX0 v0 s (cj_22_p22 (hX3 := hX3) (X221 := fun v0 s => Y v0 s → X0 v0 s) (X222 := Y) (X223 := X0) (hX22 := fun v0 s a b => a b) hQ hb (hY v0 s hy))) hY0
def fw_22_p3 (Q : lf_Z → Prop) (x2 : Int) (x3 : Int) (X3 : Int → lf_Z → Prop) (x4 : Int) (s : lf_Z) : Prop := lf_R x4 → (lf_R (s.1 1 0) → ((s.1 1 0 ≤ x4 → (Q s)) ∧ (¬ (s.1 1 0 ≤ x4) → (fw_22_p22L X3 Q x2 x3 x4 (x4 * 12) 0 s))))
theorem cj_22_p3 {X31 X32 X33 : Int → lf_Z → Prop} {Q1 Q2 Q3 : lf_Z → Prop} {x2 : Int} {x3 : Int} {x4 : Int} {s : lf_Z} (hX3 : ∀ (v0 : Int) (v1 : lf_Z), X31 v0 v1 → X32 v0 v1 → X33 v0 v1) (hQ : ∀ (s : lf_Z), Q1 s → Q2 s → Q3 s) (h1 : fm_22_p3 Q1 x2 x3 X31 x4 s) (h2 : fw_22_p3 Q2 x2 x3 X32 x4 s) : fm_22_p3 Q3 x2 x3 X33 x4 s := by
  unfold fm_22_p3 at h1 ⊢
  unfold fw_22_p3 at h2
  exact ⟨h1.1, ⟨h1.2.1, ⟨(fun c3 => hQ _  (h1.2.2.1 c3) (((h2 h1.1) h1.2.1).1 c3)), (fun c3 => cj_22_p22L hX3 hQ (h1.2.2.2 c3) (((h2 h1.1) h1.2.1).2 c3))⟩⟩⟩
def fw_22_p3L (Q : lf_Z → Prop) (x2 : Int) (x3 : Int) (x4 : Int) (s : lf_Z) : Prop := ∃ X3 : Int → lf_Z → Prop, (∀ (x4 : Int) (s : lf_Z), X3 x4 s → fw_22_p3 Q x2 x3 X3 x4 s) ∧ X3 x4 s
theorem cj_22_p3L {Q1 Q2 Q3 : lf_Z → Prop} {x2 : Int} {x3 : Int} {x4 : Int} {s : lf_Z} (hQ : ∀ (s : lf_Z), Q1 s → Q2 s → Q3 s) (h1 : fm_22_p3L Q1 x2 x3 x4 s) (h2 : fw_22_p3L Q2 x2 x3 x4 s) : fm_22_p3L Q3 x2 x3 x4 s := by
  intro X0 hX0
  obtain ⟨Y, hY, hY0⟩ := h2
  exact h1 (fun v0 s => Y v0 s → X0 v0 s) (fun v0 s hb hy => hX0 v0 s (cj_22_p3 (X31 := fun v0 s => Y v0 s → X0 v0 s) (X32 := Y) (X33 := X0) (hX3 := fun v0 s a b => a b) hQ hb (hY v0 s hy))) hY0
def fw_22 (a2 : Int) (a3 : Int) (Q : lf_Z → Prop) (s : lf_Z) : Prop := fw_22_p3L Q a2 a3 0 s
theorem cj_22 {Q1 Q2 Q3 : lf_Z → Prop} {a2 : Int} {a3 : Int} {s : lf_Z} (hQ : ∀ (s : lf_Z), Q1 s → Q2 s → Q3 s) (h1 : fm_22 a2 a3 Q1 s) (h2 : fw_22 a2 a3 Q2 s) : fm_22 a2 a3 Q3 s := by
  unfold fm_22 at h1 ⊢
  unfold fw_22 at h2
  exact cj_22_p3L hQ h1 h2
def fw_20 (a1 : Int) (Q : lf_Z → Prop) (s : lf_Z) : Prop := (0 ≤ a1 ∧ a1 < 16) → (fw_21 (s.1 4 a1) a1 (fun s22 => (fw_21 (s22.1 5 a1) a1 (fun s23 => (fw_22 (s23.1 4 a1) (s23.1 5 a1) (fun s24 => (Q s24)) s23)) s22)) s)
theorem cj_20 {Q1 Q2 Q3 : lf_Z → Prop} {a1 : Int} {s : lf_Z} (hQ : ∀ (s : lf_Z), Q1 s → Q2 s → Q3 s) (h1 : fm_20 a1 Q1 s) (h2 : fw_20 a1 Q2 s) : fm_20 a1 Q3 s := by
  unfold fm_20 at h1 ⊢
  unfold fw_20 at h2
  exact ⟨h1.1, cj_21 (fun s22 k2 l2 => cj_21 (fun s23 k3 l3 => cj_22 (fun s24 k4 l4 => hQ _  k4 l4) k3 l3) k2 l2) h1.2 (h2 h1.1)⟩
def fw_19 (a1 : Int) (a2 : Int) (a3 : Int) (Q : Int → lf_Z → Prop) (s : lf_Z) : Prop := lf_R (s.1 1 1) → ((16 ≤ s.1 1 1 → (Q (-1) s)) ∧ (¬ (16 ≤ s.1 1 1) → ((0 ≤ a1 ∧ a1 < 12) → (lf_R (s.1 12 a1) → ((4 ≤ s.1 12 a1 → (Q (-1) s)) ∧ (¬ (4 ≤ s.1 12 a1) → ((0 ≤ a2 ∧ a2 < 12) → (lf_R (s.1 12 a2) → ((s.1 12 a2 < 4 → ((0 ≤ s.1 1 1 ∧ s.1 1 1 < 16) → ((a3 = 0 ∨ a3 = 1) → (fw_20 (((s.1 1 1) + 1) - 1) (fun s28 => (Q ((s28.1 1 1) - 1) s28)) (lf_up (lf_up (lf_up (lf_up s.1 4 (s.1 1 1) a1) 5 (s.1 1 1) a2) 6 (s.1 1 1) a3) 1 1 ((s.1 1 1) + 1), s.2.1, s.2.2))))) ∧ (¬ (s.1 12 a2 < 4) → (Q (-1) s)))))))))))
theorem cj_19 {Q1 Q2 Q3 : Int → lf_Z → Prop} {a1 : Int} {a2 : Int} {a3 : Int} {s : lf_Z} (hQ : ∀ (r : Int) (s : lf_Z), Q1 r s → Q2 r s → Q3 r s) (h1 : fm_19 a1 a2 a3 Q1 s) (h2 : fw_19 a1 a2 a3 Q2 s) : fm_19 a1 a2 a3 Q3 s := by
  unfold fm_19 at h1 ⊢
  unfold fw_19 at h2
  exact ⟨h1.1, ⟨(fun c2 => hQ _ _  (h1.2.1 c2) ((h2 h1.1).1 c2)), (fun c2 => ⟨(h1.2.2 c2).1, ⟨(h1.2.2 c2).2.1, ⟨(fun c6 => hQ _ _  ((h1.2.2 c2).2.2.1 c6) (((((h2 h1.1).2 c2) (h1.2.2 c2).1) (h1.2.2 c2).2.1).1 c6)), (fun c6 => ⟨((h1.2.2 c2).2.2.2 c6).1, ⟨((h1.2.2 c2).2.2.2 c6).2.1, ⟨(fun c10 => ⟨(((h1.2.2 c2).2.2.2 c6).2.2.1 c10).1, ⟨(((h1.2.2 c2).2.2.2 c6).2.2.1 c10).2.1, cj_20 (fun s28 k13 l13 => hQ _ _  k13 l13) (((h1.2.2 c2).2.2.2 c6).2.2.1 c10).2.2 ((((((((((h2 h1.1).2 c2) (h1.2.2 c2).1) (h1.2.2 c2).2.1).2 c6) ((h1.2.2 c2).2.2.2 c6).1) ((h1.2.2 c2).2.2.2 c6).2.1).1 c10) (((h1.2.2 c2).2.2.2 c6).2.2.1 c10).1) (((h1.2.2 c2).2.2.2 c6).2.2.1 c10).2.1)⟩⟩), (fun c10 => hQ _ _  (((h1.2.2 c2).2.2.2 c6).2.2.2 c10) ((((((((h2 h1.1).2 c2) (h1.2.2 c2).1) (h1.2.2 c2).2.1).2 c6) ((h1.2.2 c2).2.2.2 c6).1) ((h1.2.2 c2).2.2.2 c6).2.1).2 c10))⟩⟩⟩)⟩⟩⟩)⟩⟩
def fw_17 (a1 : Int) (a2 : Int) (a3 : Int) (Q : Int → lf_Z → Prop) (s : lf_Z) : Prop := fw_18 a1 (fun z22 s21 => ((z22 = false → (Q (-1) s21)) ∧ (z22 = true → (fw_18 a2 (fun z24 s23 => ((z24 = false → (Q (-1) s23)) ∧ (z24 = true → (lf_R a1 → (lf_R a2 → ((a1 ≠ a2 → (fw_19 a1 a2 a3 (fun r28 s27 => (Q r28 s27)) s23)) ∧ (¬ (a1 ≠ a2) → (Q (-1) s23)))))))) s21)))) s
theorem cj_17 {Q1 Q2 Q3 : Int → lf_Z → Prop} {a1 : Int} {a2 : Int} {a3 : Int} {s : lf_Z} (hQ : ∀ (r : Int) (s : lf_Z), Q1 r s → Q2 r s → Q3 r s) (h1 : fm_17 a1 a2 a3 Q1 s) (h2 : fw_17 a1 a2 a3 Q2 s) : fm_17 a1 a2 a3 Q3 s := by
  unfold fm_17 at h1 ⊢
  unfold fw_17 at h2
  exact cj_18 (fun z22 s21 k1 l1 => ⟨(fun c2 => hQ _ _  (k1.1 c2) (l1.1 c2)), (fun c2 => cj_18 (fun z24 s23 k4 l4 => ⟨(fun c5 => hQ _ _  (k4.1 c5) (l4.1 c5)), (fun c5 => ⟨(k4.2 c5).1, ⟨(k4.2 c5).2.1, ⟨(fun c9 => cj_19 (fun r28 s27 k10 l10 => hQ _ _  k10 l10) ((k4.2 c5).2.2.1 c9) ((((l4.2 c5) (k4.2 c5).1) (k4.2 c5).2.1).1 c9)), (fun c9 => hQ _ _  ((k4.2 c5).2.2.2 c9) ((((l4.2 c5) (k4.2 c5).1) (k4.2 c5).2.1).2 c9))⟩⟩⟩)⟩) (k1.2 c2) (l1.2 c2))⟩) h1 h2
def fw_185 (a1 : Int) (Q : Bool → lf_Z → Prop) (s : lf_Z) : Prop := fw_183 a1 0 ((s.1 96 0) - 1) (fun z22 s21 => (Q z22 s21)) s
theorem cj_185 {Q1 Q2 Q3 : Bool → lf_Z → Prop} {a1 : Int} {s : lf_Z} (hQ : ∀ (r : Bool) (s : lf_Z), Q1 r s → Q2 r s → Q3 r s) (h1 : fm_185 a1 Q1 s) (h2 : fw_185 a1 Q2 s) : fm_185 a1 Q3 s := by
  unfold fm_185 at h1 ⊢
  unfold fw_185 at h2
  exact cj_183 (fun z22 s21 k1 l1 => hQ _ _  k1 l1) h1 h2
def fw_187 (a1 : Int) (a2 : Int) (Q : Int → lf_Z → Prop) (s : lf_Z) : Prop := (0 ≤ 50 + (4 * a1) ∧ 50 + (4 * a1) < 1538) → ((0 ≤ (50 + (4 * a1)) + 1 ∧ (50 + (4 * a1)) + 1 < 1538) → (lf_R (s.1 96 (50 + (4 * a1))) → (lf_R a2 → ((s.1 96 (50 + (4 * a1)) ≠ a2 → (lf_R (s.1 96 ((50 + (4 * a1)) + 1)) → ((s.1 96 ((50 + (4 * a1)) + 1) ≠ a2 → (Q (-1) s)) ∧ (¬ (s.1 96 ((50 + (4 * a1)) + 1) ≠ a2) → (Q (s.1 96 (50 + (4 * a1))) s))))) ∧ (¬ (s.1 96 (50 + (4 * a1)) ≠ a2) → (Q (s.1 96 ((50 + (4 * a1)) + 1)) s))))))
theorem cj_187 {Q1 Q2 Q3 : Int → lf_Z → Prop} {a1 : Int} {a2 : Int} {s : lf_Z} (hQ : ∀ (r : Int) (s : lf_Z), Q1 r s → Q2 r s → Q3 r s) (h1 : fm_187 a1 a2 Q1 s) (h2 : fw_187 a1 a2 Q2 s) : fm_187 a1 a2 Q3 s := by
  unfold fm_187 at h1 ⊢
  unfold fw_187 at h2
  exact ⟨h1.1, ⟨h1.2.1, ⟨h1.2.2.1, ⟨h1.2.2.2.1, ⟨(fun c5 => ⟨(h1.2.2.2.2.1 c5).1, ⟨(fun c7 => hQ _ _  ((h1.2.2.2.2.1 c5).2.1 c7) (((((((h2 h1.1) h1.2.1) h1.2.2.1) h1.2.2.2.1).1 c5) (h1.2.2.2.2.1 c5).1).1 c7)), (fun c7 => hQ _ _  ((h1.2.2.2.2.1 c5).2.2 c7) (((((((h2 h1.1) h1.2.1) h1.2.2.1) h1.2.2.2.1).1 c5) (h1.2.2.2.2.1 c5).1).2 c7))⟩⟩), (fun c5 => hQ _ _  (h1.2.2.2.2.2 c5) (((((h2 h1.1) h1.2.1) h1.2.2.1) h1.2.2.2.1).2 c5))⟩⟩⟩⟩⟩
def fw_186_p31 (X4 : Int → Int → lf_Z → Prop) (Q : Int → lf_Z → Prop) (x1 : Int) (x3 : Int) (y0 : Int) (y1 : Int) (s : lf_Z) : Prop := X4 (lf_or y0 y1) (x3 + 1) s
theorem cj_186_p31 {X41 X42 X43 : Int → Int → lf_Z → Prop} {Q1 Q2 Q3 : Int → lf_Z → Prop} {x1 : Int} {x3 : Int} {y0 : Int} {y1 : Int} {s : lf_Z} (hX4 : ∀ (v0 : Int) (v1 : Int) (v2 : lf_Z), X41 v0 v1 v2 → X42 v0 v1 v2 → X43 v0 v1 v2) (hQ : ∀ (r : Int) (s : lf_Z), Q1 r s → Q2 r s → Q3 r s) (h1 : fm_186_p31 X41 Q1 x1 x3 y0 y1 s) (h2 : fw_186_p31 X42 Q2 x1 x3 y0 y1 s) : fm_186_p31 X43 Q3 x1 x3 y0 y1 s := by
  unfold fm_186_p31 at h1 ⊢
  unfold fw_186_p31 at h2
  exact hX4 _ _ _  h1 h2
def fw_186_p4 (Q : Int → lf_Z → Prop) (x1 : Int) (X4 : Int → Int → lf_Z → Prop) (x2 : Int) (x3 : Int) (s : lf_Z) : Prop := lf_R x3 → (lf_R (s.1 96 1) → ((s.1 96 1 ≤ x3 → (Q x2 s)) ∧ (¬ (s.1 96 1 ≤ x3) → (fw_187 x3 x1 (fun r24 s23 => (lf_R r24 → ((r24 < 0 → (fw_186_p31 X4 Q x1 x3 x2 0 s23)) ∧ (¬ (r24 < 0) → (fw_186_p31 X4 Q x1 x3 x2 (lf_shl 1 x3) s23))))) s))))
theorem cj_186_p4 {X41 X42 X43 : Int → Int → lf_Z → Prop} {Q1 Q2 Q3 : Int → lf_Z → Prop} {x1 : Int} {x2 : Int} {x3 : Int} {s : lf_Z} (hX4 : ∀ (v0 : Int) (v1 : Int) (v2 : lf_Z), X41 v0 v1 v2 → X42 v0 v1 v2 → X43 v0 v1 v2) (hQ : ∀ (r : Int) (s : lf_Z), Q1 r s → Q2 r s → Q3 r s) (h1 : fm_186_p4 Q1 x1 X41 x2 x3 s) (h2 : fw_186_p4 Q2 x1 X42 x2 x3 s) : fm_186_p4 Q3 x1 X43 x2 x3 s := by
  unfold fm_186_p4 at h1 ⊢
  unfold fw_186_p4 at h2
  exact ⟨h1.1, ⟨h1.2.1, ⟨(fun c3 => hQ _ _  (h1.2.2.1 c3) (((h2 h1.1) h1.2.1).1 c3)), (fun c3 => cj_187 (fun r24 s23 k5 l5 => ⟨k5.1, ⟨(fun c7 => cj_186_p31 hX4 hQ (k5.2.1 c7) ((l5 k5.1).1 c7)), (fun c7 => cj_186_p31 hX4 hQ (k5.2.2 c7) ((l5 k5.1).2 c7))⟩⟩) (h1.2.2.2 c3) (((h2 h1.1) h1.2.1).2 c3))⟩⟩⟩
def fw_186_p4L (Q : Int → lf_Z → Prop) (x1 : Int) (x2 : Int) (x3 : Int) (s : lf_Z) : Prop := ∃ X4 : Int → Int → lf_Z → Prop, (∀ (x2 : Int) (x3 : Int) (s : lf_Z), X4 x2 x3 s → fw_186_p4 Q x1 X4 x2 x3 s) ∧ X4 x2 x3 s
theorem cj_186_p4L {Q1 Q2 Q3 : Int → lf_Z → Prop} {x1 : Int} {x2 : Int} {x3 : Int} {s : lf_Z} (hQ : ∀ (r : Int) (s : lf_Z), Q1 r s → Q2 r s → Q3 r s) (h1 : fm_186_p4L Q1 x1 x2 x3 s) (h2 : fw_186_p4L Q2 x1 x2 x3 s) : fm_186_p4L Q3 x1 x2 x3 s := by
  intro X0 hX0
  obtain ⟨Y, hY, hY0⟩ := h2
  exact h1 (fun v0 v1 s => Y v0 v1 s → X0 v0 v1 s) (fun v0 v1 s hb hy => hX0 v0 v1 s (cj_186_p4 (X41 := fun v0 v1 s => Y v0 v1 s → X0 v0 v1 s) (X42 := Y) (X43 := X0) (hX4 := fun v0 v1 s a b => a b) hQ hb (hY v0 v1 s hy))) hY0
def fw_186 (a1 : Int) (Q : Int → lf_Z → Prop) (s : lf_Z) : Prop := fw_186_p4L Q a1 0 0 s
theorem cj_186 {Q1 Q2 Q3 : Int → lf_Z → Prop} {a1 : Int} {s : lf_Z} (hQ : ∀ (r : Int) (s : lf_Z), Q1 r s → Q2 r s → Q3 r s) (h1 : fm_186 a1 Q1 s) (h2 : fw_186 a1 Q2 s) : fm_186 a1 Q3 s := by
  unfold fm_186 at h1 ⊢
  unfold fw_186 at h2
  exact cj_186_p4L hQ h1 h2
def fw_188_p4 (Q : Int → lf_Z → Prop) (x0 : Int) (X4 : Int → Int → lf_Z → Prop) (x1 : Int) (x2 : Int) (s : lf_Z) : Prop := lf_R x2 → ((16 ≤ x2 → (Q x1 s)) ∧ (¬ (16 ≤ x2) → (X4 (x1 + (lf_and (lf_shr x0 x2) 1)) (x2 + 1) s)))
theorem cj_188_p4 {X41 X42 X43 : Int → Int → lf_Z → Prop} {Q1 Q2 Q3 : Int → lf_Z → Prop} {x0 : Int} {x1 : Int} {x2 : Int} {s : lf_Z} (hX4 : ∀ (v0 : Int) (v1 : Int) (v2 : lf_Z), X41 v0 v1 v2 → X42 v0 v1 v2 → X43 v0 v1 v2) (hQ : ∀ (r : Int) (s : lf_Z), Q1 r s → Q2 r s → Q3 r s) (h1 : fm_188_p4 Q1 x0 X41 x1 x2 s) (h2 : fw_188_p4 Q2 x0 X42 x1 x2 s) : fm_188_p4 Q3 x0 X43 x1 x2 s := by
  unfold fm_188_p4 at h1 ⊢
  unfold fw_188_p4 at h2
  exact ⟨h1.1, ⟨(fun c2 => hQ _ _  (h1.2.1 c2) ((h2 h1.1).1 c2)), (fun c2 => hX4 _ _ _  (h1.2.2 c2) ((h2 h1.1).2 c2))⟩⟩
def fw_188_p4L (Q : Int → lf_Z → Prop) (x0 : Int) (x1 : Int) (x2 : Int) (s : lf_Z) : Prop := ∃ X4 : Int → Int → lf_Z → Prop, (∀ (x1 : Int) (x2 : Int) (s : lf_Z), X4 x1 x2 s → fw_188_p4 Q x0 X4 x1 x2 s) ∧ X4 x1 x2 s
theorem cj_188_p4L {Q1 Q2 Q3 : Int → lf_Z → Prop} {x0 : Int} {x1 : Int} {x2 : Int} {s : lf_Z} (hQ : ∀ (r : Int) (s : lf_Z), Q1 r s → Q2 r s → Q3 r s) (h1 : fm_188_p4L Q1 x0 x1 x2 s) (h2 : fw_188_p4L Q2 x0 x1 x2 s) : fm_188_p4L Q3 x0 x1 x2 s := by
  intro X0 hX0
  obtain ⟨Y, hY, hY0⟩ := h2
  exact h1 (fun v0 v1 s => Y v0 v1 s → X0 v0 v1 s) (fun v0 v1 s hb hy => hX0 v0 v1 s (cj_188_p4 (X41 := fun v0 v1 s => Y v0 v1 s → X0 v0 v1 s) (X42 := Y) (X43 := X0) (hX4 := fun v0 v1 s a b => a b) hQ hb (hY v0 v1 s hy))) hY0
def fw_188 (a0 : Int) (Q : Int → lf_Z → Prop) (s : lf_Z) : Prop := fw_188_p4L Q a0 0 0 s
theorem cj_188 {Q1 Q2 Q3 : Int → lf_Z → Prop} {a0 : Int} {s : lf_Z} (hQ : ∀ (r : Int) (s : lf_Z), Q1 r s → Q2 r s → Q3 r s) (h1 : fm_188 a0 Q1 s) (h2 : fw_188 a0 Q2 s) : fm_188 a0 Q3 s := by
  unfold fm_188 at h1 ⊢
  unfold fw_188 at h2
  exact cj_188_p4L hQ h1 h2
def fw_184_p106 (Q : Int → lf_Z → Prop) (x4 : Int) (y1 : Int) (y2 : Int) (s : lf_Z) : Prop := (0 ≤ y1 ∧ y1 < 1538) → ((0 ≤ x4 + 3 ∧ x4 + 3 < 1538) → ((0 ≤ 174 + (5 * ((lf_up (lf_up s.1 96 y1 y2) 96 (x4 + 3) 1) 96 1)) ∧ 174 + (5 * ((lf_up (lf_up s.1 96 y1 y2) 96 (x4 + 3) 1) 96 1)) < 1538) → (Q ((((lf_up (lf_up (lf_up s.1 96 y1 y2) 96 (x4 + 3) 1) 96 (174 + (5 * ((lf_up (lf_up s.1 96 y1 y2) 96 (x4 + 3) 1) 96 1))) 0) 96 1) + 1) - 1) (lf_up (lf_up (lf_up (lf_up s.1 96 y1 y2) 96 (x4 + 3) 1) 96 (174 + (5 * ((lf_up (lf_up s.1 96 y1 y2) 96 (x4 + 3) 1) 96 1))) 0) 96 1 (((lf_up (lf_up (lf_up s.1 96 y1 y2) 96 (x4 + 3) 1) 96 (174 + (5 * ((lf_up (lf_up s.1 96 y1 y2) 96 (x4 + 3) 1) 96 1))) 0) 96 1) + 1), s.2.1, s.2.2))))
theorem cj_184_p106 {Q1 Q2 Q3 : Int → lf_Z → Prop} {x4 : Int} {y1 : Int} {y2 : Int} {s : lf_Z} (hQ : ∀ (r : Int) (s : lf_Z), Q1 r s → Q2 r s → Q3 r s) (h1 : fm_184_p106 Q1 x4 y1 y2 s) (h2 : fw_184_p106 Q2 x4 y1 y2 s) : fm_184_p106 Q3 x4 y1 y2 s := by
  unfold fm_184_p106 at h1 ⊢
  unfold fw_184_p106 at h2
  exact ⟨h1.1, ⟨h1.2.1, ⟨h1.2.2.1, hQ _ _  h1.2.2.2 (((h2 h1.1) h1.2.1) h1.2.2.1)⟩⟩⟩
def fw_184 (a1 : Int) (a2 : Int) (a3 : Int) (Q : Int → lf_Z → Prop) (s : lf_Z) : Prop := fw_185 a1 (fun z22 s21 => ((z22 = false → (Q (-1) s21)) ∧ (z22 = true → (fw_185 a2 (fun z24 s23 => ((z24 = false → (Q (-1) s23)) ∧ (z24 = true → (lf_R a1 → (lf_R a2 → ((a1 = a2 → (Q (-1) s23)) ∧ (¬ (a1 = a2) → (fw_186 a1 (fun r28 s27 => (fw_188 r28 (fun r30 s29 => (lf_R r30 → ((r30 = 4 → (Q (-1) s29)) ∧ (¬ (r30 = 4) → (fw_186 a2 (fun r33 s32 => (fw_188 r33 (fun r35 s34 => (lf_R r35 → ((r35 = 4 → (Q (-1) s34)) ∧ (¬ (r35 = 4) → (lf_R (s34.1 96 1) → ((s34.1 96 1 ≠ 16 → ((0 ≤ 50 + (4 * (s34.1 96 1)) ∧ 50 + (4 * (s34.1 96 1)) < 1538) → ((0 ≤ (50 + (4 * (s34.1 96 1))) + 1 ∧ (50 + (4 * (s34.1 96 1))) + 1 < 1538) → (lf_R a3 → ((a3 = 0 → (fw_184_p106 Q (50 + (4 * (s34.1 96 1))) ((50 + (4 * (s34.1 96 1))) + 2) 0 (lf_up (lf_up s34.1 96 (50 + (4 * (s34.1 96 1))) a1) 96 ((50 + (4 * (s34.1 96 1))) + 1) a2, s34.2.1, s34.2.2))) ∧ (¬ (a3 = 0) → (fw_184_p106 Q (50 + (4 * (s34.1 96 1))) ((50 + (4 * (s34.1 96 1))) + 2) 1 (lf_up (lf_up s34.1 96 (50 + (4 * (s34.1 96 1))) a1) 96 ((50 + (4 * (s34.1 96 1))) + 1) a2, s34.2.1, s34.2.2)))))))) ∧ (¬ (s34.1 96 1 ≠ 16) → (Q (-1) s34)))))))) s32)) s29))))) s27)) s23)))))))) s21)))) s
theorem cj_184 {Q1 Q2 Q3 : Int → lf_Z → Prop} {a1 : Int} {a2 : Int} {a3 : Int} {s : lf_Z} (hQ : ∀ (r : Int) (s : lf_Z), Q1 r s → Q2 r s → Q3 r s) (h1 : fm_184 a1 a2 a3 Q1 s) (h2 : fw_184 a1 a2 a3 Q2 s) : fm_184 a1 a2 a3 Q3 s := by
  unfold fm_184 at h1 ⊢
  unfold fw_184 at h2
  exact cj_185 (fun z22 s21 k1 l1 => ⟨(fun c2 => hQ _ _  (k1.1 c2) (l1.1 c2)), (fun c2 => cj_185 (fun z24 s23 k4 l4 => ⟨(fun c5 => hQ _ _  (k4.1 c5) (l4.1 c5)), (fun c5 => ⟨(k4.2 c5).1, ⟨(k4.2 c5).2.1, ⟨(fun c9 => hQ _ _  ((k4.2 c5).2.2.1 c9) ((((l4.2 c5) (k4.2 c5).1) (k4.2 c5).2.1).1 c9)), (fun c9 => cj_186 (fun r28 s27 k11 l11 => cj_188 (fun r30 s29 k12 l12 => ⟨k12.1, ⟨(fun c14 => hQ _ _  (k12.2.1 c14) ((l12 k12.1).1 c14)), (fun c14 => cj_186 (fun r33 s32 k16 l16 => cj_188 (fun r35 s34 k17 l17 => ⟨k17.1, ⟨(fun c19 => hQ _ _  (k17.2.1 c19) ((l17 k17.1).1 c19)), (fun c19 => ⟨(k17.2.2 c19).1, ⟨(fun c22 => ⟨((k17.2.2 c19).2.1 c22).1, ⟨((k17.2.2 c19).2.1 c22).2.1, ⟨((k17.2.2 c19).2.1 c22).2.2.1, ⟨(fun c26 => cj_184_p106 hQ (((k17.2.2 c19).2.1 c22).2.2.2.1 c26) ((((((((l17 k17.1).2 c19) (k17.2.2 c19).1).1 c22) ((k17.2.2 c19).2.1 c22).1) ((k17.2.2 c19).2.1 c22).2.1) ((k17.2.2 c19).2.1 c22).2.2.1).1 c26)), (fun c26 => cj_184_p106 hQ (((k17.2.2 c19).2.1 c22).2.2.2.2 c26) ((((((((l17 k17.1).2 c19) (k17.2.2 c19).1).1 c22) ((k17.2.2 c19).2.1 c22).1) ((k17.2.2 c19).2.1 c22).2.1) ((k17.2.2 c19).2.1 c22).2.2.1).2 c26))⟩⟩⟩⟩), (fun c22 => hQ _ _  ((k17.2.2 c19).2.2 c22) ((((l17 k17.1).2 c19) (k17.2.2 c19).1).2 c22))⟩⟩)⟩⟩) k16 l16) (k12.2.2 c14) ((l12 k12.1).2 c14))⟩⟩) k11 l11) ((k4.2 c5).2.2.2 c9) ((((l4.2 c5) (k4.2 c5).1) (k4.2 c5).2.1).2 c9))⟩⟩⟩)⟩) (k1.2 c2) (l1.2 c2))⟩) h1 h2
def fw_24 (a1 : Int) (a2 : Int) (a3 : Int) (a4 : Int) (Q : Int → lf_Z → Prop) (s : lf_Z) : Prop := lf_R (s.1 1 2) → ((s.1 1 2 < 6 → ((0 ≤ s.1 1 2 ∧ s.1 1 2 < 6) → ((a2 = 0 ∨ a2 = 1) → ((a3 = 0 ∨ a3 = 1) → (Q (((s.1 1 2) + 1) - 1) (lf_up (lf_up (lf_up (lf_up (lf_up s.1 7 (s.1 1 2) a1) 8 (s.1 1 2) a2) 9 (s.1 1 2) a3) 10 (s.1 1 2) a4) 1 2 ((s.1 1 2) + 1), s.2.1, s.2.2)))))) ∧ (¬ (s.1 1 2 < 6) → (Q (-1) s)))
theorem cj_24 {Q1 Q2 Q3 : Int → lf_Z → Prop} {a1 : Int} {a2 : Int} {a3 : Int} {a4 : Int} {s : lf_Z} (hQ : ∀ (r : Int) (s : lf_Z), Q1 r s → Q2 r s → Q3 r s) (h1 : fm_24 a1 a2 a3 a4 Q1 s) (h2 : fw_24 a1 a2 a3 a4 Q2 s) : fm_24 a1 a2 a3 a4 Q3 s := by
  unfold fm_24 at h1 ⊢
  unfold fw_24 at h2
  exact ⟨h1.1, ⟨(fun c2 => ⟨(h1.2.1 c2).1, ⟨(h1.2.1 c2).2.1, ⟨(h1.2.1 c2).2.2.1, hQ _ _  (h1.2.1 c2).2.2.2 (((((h2 h1.1).1 c2) (h1.2.1 c2).1) (h1.2.1 c2).2.1) (h1.2.1 c2).2.2.1)⟩⟩⟩), (fun c2 => hQ _ _  (h1.2.2 c2) ((h2 h1.1).2 c2))⟩⟩
def fw_23 (a1 : Int) (a2 : Int) (a3 : Int) (a4 : Int) (Q : Int → lf_Z → Prop) (s : lf_Z) : Prop := fw_15 a1 0 9 (fun z22 s21 => ((z22 = false → (Q (-1) s21)) ∧ (z22 = true → (fw_18 a4 (fun z24 s23 => ((z24 = true → (fw_24 a1 a2 a3 a4 (fun r26 s25 => (lf_R r26 → ((r26 = (-1) → (Q r26 s25)) ∧ (¬ (r26 = (-1)) → ((0 ≤ r26 ∧ r26 < 6) → (Q r26 (lf_up (lf_up s25.1 19 r26 a4) 20 r26 (-1), s25.2.1, s25.2.2))))))) s23)) ∧ (z24 = false → (Q (-1) s23)))) s21)))) s
theorem cj_23 {Q1 Q2 Q3 : Int → lf_Z → Prop} {a1 : Int} {a2 : Int} {a3 : Int} {a4 : Int} {s : lf_Z} (hQ : ∀ (r : Int) (s : lf_Z), Q1 r s → Q2 r s → Q3 r s) (h1 : fm_23 a1 a2 a3 a4 Q1 s) (h2 : fw_23 a1 a2 a3 a4 Q2 s) : fm_23 a1 a2 a3 a4 Q3 s := by
  unfold fm_23 at h1 ⊢
  unfold fw_23 at h2
  exact cj_15 (fun z22 s21 k1 l1 => ⟨(fun c2 => hQ _ _  (k1.1 c2) (l1.1 c2)), (fun c2 => cj_18 (fun z24 s23 k4 l4 => ⟨(fun c5 => cj_24 (fun r26 s25 k6 l6 => ⟨k6.1, ⟨(fun c8 => hQ _ _  (k6.2.1 c8) ((l6 k6.1).1 c8)), (fun c8 => ⟨(k6.2.2 c8).1, hQ _ _  (k6.2.2 c8).2 (((l6 k6.1).2 c8) (k6.2.2 c8).1)⟩)⟩⟩) (k4.1 c5) (l4.1 c5)), (fun c5 => hQ _ _  (k4.2 c5) (l4.2 c5))⟩) (k1.2 c2) (l1.2 c2))⟩) h1 h2
def fw_191 (a1 : Int) (a3 : Int) (Q : lf_Z → Prop) (s : lf_Z) : Prop := (0 ≤ (126 + (6 * a1)) + 0 ∧ (126 + (6 * a1)) + 0 < 1538) → (Q (lf_up s.1 96 ((126 + (6 * a1)) + 0) a3, s.2.1, s.2.2))
theorem cj_191 {Q1 Q2 Q3 : lf_Z → Prop} {a1 : Int} {a3 : Int} {s : lf_Z} (hQ : ∀ (s : lf_Z), Q1 s → Q2 s → Q3 s) (h1 : fm_191 a1 a3 Q1 s) (h2 : fw_191 a1 a3 Q2 s) : fm_191 a1 a3 Q3 s := by
  unfold fm_191 at h1 ⊢
  unfold fw_191 at h2
  exact ⟨h1.1, hQ _  h1.2 (h2 h1.1)⟩
def fw_191b (a1 : Int) (a3 : Int) (Q : lf_Z → Prop) (s : lf_Z) : Prop := (0 ≤ (126 + (6 * a1)) + 1 ∧ (126 + (6 * a1)) + 1 < 1538) → (Q (lf_up s.1 96 ((126 + (6 * a1)) + 1) a3, s.2.1, s.2.2))
theorem cj_191b {Q1 Q2 Q3 : lf_Z → Prop} {a1 : Int} {a3 : Int} {s : lf_Z} (hQ : ∀ (s : lf_Z), Q1 s → Q2 s → Q3 s) (h1 : fm_191b a1 a3 Q1 s) (h2 : fw_191b a1 a3 Q2 s) : fm_191b a1 a3 Q3 s := by
  unfold fm_191b at h1 ⊢
  unfold fw_191b at h2
  exact ⟨h1.1, hQ _  h1.2 (h2 h1.1)⟩
def fw_191c (a1 : Int) (a3 : Int) (Q : lf_Z → Prop) (s : lf_Z) : Prop := (0 ≤ (126 + (6 * a1)) + 2 ∧ (126 + (6 * a1)) + 2 < 1538) → (Q (lf_up s.1 96 ((126 + (6 * a1)) + 2) a3, s.2.1, s.2.2))
theorem cj_191c {Q1 Q2 Q3 : lf_Z → Prop} {a1 : Int} {a3 : Int} {s : lf_Z} (hQ : ∀ (s : lf_Z), Q1 s → Q2 s → Q3 s) (h1 : fm_191c a1 a3 Q1 s) (h2 : fw_191c a1 a3 Q2 s) : fm_191c a1 a3 Q3 s := by
  unfold fm_191c at h1 ⊢
  unfold fw_191c at h2
  exact ⟨h1.1, hQ _  h1.2 (h2 h1.1)⟩
def fw_191d (a1 : Int) (a3 : Int) (Q : lf_Z → Prop) (s : lf_Z) : Prop := (0 ≤ (126 + (6 * a1)) + 3 ∧ (126 + (6 * a1)) + 3 < 1538) → (Q (lf_up s.1 96 ((126 + (6 * a1)) + 3) a3, s.2.1, s.2.2))
theorem cj_191d {Q1 Q2 Q3 : lf_Z → Prop} {a1 : Int} {a3 : Int} {s : lf_Z} (hQ : ∀ (s : lf_Z), Q1 s → Q2 s → Q3 s) (h1 : fm_191d a1 a3 Q1 s) (h2 : fw_191d a1 a3 Q2 s) : fm_191d a1 a3 Q3 s := by
  unfold fm_191d at h1 ⊢
  unfold fw_191d at h2
  exact ⟨h1.1, hQ _  h1.2 (h2 h1.1)⟩
def fw_191e (a1 : Int) (a3 : Int) (Q : lf_Z → Prop) (s : lf_Z) : Prop := (0 ≤ (126 + (6 * a1)) + 4 ∧ (126 + (6 * a1)) + 4 < 1538) → (Q (lf_up s.1 96 ((126 + (6 * a1)) + 4) a3, s.2.1, s.2.2))
theorem cj_191e {Q1 Q2 Q3 : lf_Z → Prop} {a1 : Int} {a3 : Int} {s : lf_Z} (hQ : ∀ (s : lf_Z), Q1 s → Q2 s → Q3 s) (h1 : fm_191e a1 a3 Q1 s) (h2 : fw_191e a1 a3 Q2 s) : fm_191e a1 a3 Q3 s := by
  unfold fm_191e at h1 ⊢
  unfold fw_191e at h2
  exact ⟨h1.1, hQ _  h1.2 (h2 h1.1)⟩
def fw_191f (a1 : Int) (a3 : Int) (Q : lf_Z → Prop) (s : lf_Z) : Prop := (0 ≤ (126 + (6 * a1)) + 5 ∧ (126 + (6 * a1)) + 5 < 1538) → (Q (lf_up s.1 96 ((126 + (6 * a1)) + 5) a3, s.2.1, s.2.2))
theorem cj_191f {Q1 Q2 Q3 : lf_Z → Prop} {a1 : Int} {a3 : Int} {s : lf_Z} (hQ : ∀ (s : lf_Z), Q1 s → Q2 s → Q3 s) (h1 : fm_191f a1 a3 Q1 s) (h2 : fw_191f a1 a3 Q2 s) : fm_191f a1 a3 Q3 s := by
  unfold fm_191f at h1 ⊢
  unfold fw_191f at h2
  exact ⟨h1.1, hQ _  h1.2 (h2 h1.1)⟩
def fw_190 (a1 : Int) (a2 : Int) (a3 : Int) (a4 : Int) (Q : Int → lf_Z → Prop) (s : lf_Z) : Prop := fw_185 a4 (fun z22 s21 => ((z22 = false → (Q (-1) s21)) ∧ (z22 = true → (lf_R (s21.1 96 2) → ((s21.1 96 2 ≠ 6 → (fw_191 (s21.1 96 2) a1 (fun s24 => (fw_191b (s21.1 96 2) a2 (fun s25 => (fw_191c (s21.1 96 2) a3 (fun s26 => (fw_191d (s21.1 96 2) a4 (fun s27 => (fw_191e (s21.1 96 2) (-1) (fun s28 => (fw_191f (s21.1 96 2) a4 (fun s29 => (Q (s21.1 96 2) (lf_up s29.1 96 2 ((s29.1 96 2) + 1), s29.2.1, s29.2.2))) s28)) s27)) s26)) s25)) s24)) s21)) ∧ (¬ (s21.1 96 2 ≠ 6) → (Q (-1) s21))))))) s
theorem cj_190 {Q1 Q2 Q3 : Int → lf_Z → Prop} {a1 : Int} {a2 : Int} {a3 : Int} {a4 : Int} {s : lf_Z} (hQ : ∀ (r : Int) (s : lf_Z), Q1 r s → Q2 r s → Q3 r s) (h1 : fm_190 a1 a2 a3 a4 Q1 s) (h2 : fw_190 a1 a2 a3 a4 Q2 s) : fm_190 a1 a2 a3 a4 Q3 s := by
  unfold fm_190 at h1 ⊢
  unfold fw_190 at h2
  exact cj_185 (fun z22 s21 k1 l1 => ⟨(fun c2 => hQ _ _  (k1.1 c2) (l1.1 c2)), (fun c2 => ⟨(k1.2 c2).1, ⟨(fun c5 => cj_191 (fun s24 k6 l6 => cj_191b (fun s25 k7 l7 => cj_191c (fun s26 k8 l8 => cj_191d (fun s27 k9 l9 => cj_191e (fun s28 k10 l10 => cj_191f (fun s29 k11 l11 => hQ _ _  k11 l11) k10 l10) k9 l9) k8 l8) k7 l7) k6 l6) ((k1.2 c2).2.1 c5) (((l1.2 c2) (k1.2 c2).1).1 c5)), (fun c5 => hQ _ _  ((k1.2 c2).2.2 c5) (((l1.2 c2) (k1.2 c2).1).2 c5))⟩⟩)⟩) h1 h2
def fw_189_p30 (Q : Int → lf_Z → Prop) (x4 : Int) (y1 : Int) (y2 : Int) (y3 : Int) (s : lf_Z) : Prop := fw_190 y1 y2 y3 x4 (fun r26 s25 => (Q r26 s25)) s
theorem cj_189_p30 {Q1 Q2 Q3 : Int → lf_Z → Prop} {x4 : Int} {y1 : Int} {y2 : Int} {y3 : Int} {s : lf_Z} (hQ : ∀ (r : Int) (s : lf_Z), Q1 r s → Q2 r s → Q3 r s) (h1 : fm_189_p30 Q1 x4 y1 y2 y3 s) (h2 : fw_189_p30 Q2 x4 y1 y2 y3 s) : fm_189_p30 Q3 x4 y1 y2 y3 s := by
  unfold fm_189_p30 at h1 ⊢
  unfold fw_189_p30 at h2
  exact cj_190 (fun r26 s25 k1 l1 => hQ _ _  k1 l1) h1 h2
def fw_189_p21 (Q : Int → lf_Z → Prop) (x3 : Int) (x4 : Int) (y1 : Int) (y2 : Int) (s : lf_Z) : Prop := lf_R x3 → ((x3 = 0 → (fw_189_p30 Q x4 y1 y2 0 s)) ∧ (¬ (x3 = 0) → (fw_189_p30 Q x4 y1 y2 1 s)))
theorem cj_189_p21 {Q1 Q2 Q3 : Int → lf_Z → Prop} {x3 : Int} {x4 : Int} {y1 : Int} {y2 : Int} {s : lf_Z} (hQ : ∀ (r : Int) (s : lf_Z), Q1 r s → Q2 r s → Q3 r s) (h1 : fm_189_p21 Q1 x3 x4 y1 y2 s) (h2 : fw_189_p21 Q2 x3 x4 y1 y2 s) : fm_189_p21 Q3 x3 x4 y1 y2 s := by
  unfold fm_189_p21 at h1 ⊢
  unfold fw_189_p21 at h2
  exact ⟨h1.1, ⟨(fun c2 => cj_189_p30 hQ (h1.2.1 c2) ((h2 h1.1).1 c2)), (fun c2 => cj_189_p30 hQ (h1.2.2 c2) ((h2 h1.1).2 c2))⟩⟩
def fw_189 (a1 : Int) (a2 : Int) (a3 : Int) (a4 : Int) (Q : Int → lf_Z → Prop) (s : lf_Z) : Prop := fw_183 a1 0 9 (fun z22 s21 => ((z22 = false → (Q (-1) s21)) ∧ (z22 = true → (lf_R a2 → ((a2 = 0 → (fw_189_p21 Q a3 a4 a1 0 s21)) ∧ (¬ (a2 = 0) → (fw_189_p21 Q a3 a4 a1 1 s21))))))) s
theorem cj_189 {Q1 Q2 Q3 : Int → lf_Z → Prop} {a1 : Int} {a2 : Int} {a3 : Int} {a4 : Int} {s : lf_Z} (hQ : ∀ (r : Int) (s : lf_Z), Q1 r s → Q2 r s → Q3 r s) (h1 : fm_189 a1 a2 a3 a4 Q1 s) (h2 : fw_189 a1 a2 a3 a4 Q2 s) : fm_189 a1 a2 a3 a4 Q3 s := by
  unfold fm_189 at h1 ⊢
  unfold fw_189 at h2
  exact cj_183 (fun z22 s21 k1 l1 => ⟨(fun c2 => hQ _ _  (k1.1 c2) (l1.1 c2)), (fun c2 => ⟨(k1.2 c2).1, ⟨(fun c5 => cj_189_p21 hQ ((k1.2 c2).2.1 c5) (((l1.2 c2) (k1.2 c2).1).1 c5)), (fun c5 => cj_189_p21 hQ ((k1.2 c2).2.2 c5) (((l1.2 c2) (k1.2 c2).1).2 c5))⟩⟩)⟩) h1 h2
def fw_65_p10 (Q : Int → lf_Z → Prop) (x3 : Int) (X10 : Int → Int → lf_Z → Prop) (x1 : Int) (x4 : Int) (s : lf_Z) : Prop := lf_R x4 → (lf_R x3 → ((x3 ≤ x4 → (Q x1 s)) ∧ (¬ (x3 ≤ x4) → ((0 ≤ x4 ∧ x4 < 4) → (X10 (lf_w (x1 + (s.1 16 x4))) (x4 + 1) s)))))
theorem cj_65_p10 {X101 X102 X103 : Int → Int → lf_Z → Prop} {Q1 Q2 Q3 : Int → lf_Z → Prop} {x3 : Int} {x1 : Int} {x4 : Int} {s : lf_Z} (hX10 : ∀ (v0 : Int) (v1 : Int) (v2 : lf_Z), X101 v0 v1 v2 → X102 v0 v1 v2 → X103 v0 v1 v2) (hQ : ∀ (r : Int) (s : lf_Z), Q1 r s → Q2 r s → Q3 r s) (h1 : fm_65_p10 Q1 x3 X101 x1 x4 s) (h2 : fw_65_p10 Q2 x3 X102 x1 x4 s) : fm_65_p10 Q3 x3 X103 x1 x4 s := by
  unfold fm_65_p10 at h1 ⊢
  unfold fw_65_p10 at h2
  exact ⟨h1.1, ⟨h1.2.1, ⟨(fun c3 => hQ _ _  (h1.2.2.1 c3) (((h2 h1.1) h1.2.1).1 c3)), (fun c3 => ⟨(h1.2.2.2 c3).1, hX10 _ _ _  (h1.2.2.2 c3).2 ((((h2 h1.1) h1.2.1).2 c3) (h1.2.2.2 c3).1)⟩)⟩⟩⟩
def fw_65_p10L (Q : Int → lf_Z → Prop) (x1 : Int) (x3 : Int) (x4 : Int) (s : lf_Z) : Prop := ∃ X10 : Int → Int → lf_Z → Prop, (∀ (x1 : Int) (x4 : Int) (s : lf_Z), X10 x1 x4 s → fw_65_p10 Q x3 X10 x1 x4 s) ∧ X10 x1 x4 s
theorem cj_65_p10L {Q1 Q2 Q3 : Int → lf_Z → Prop} {x1 : Int} {x3 : Int} {x4 : Int} {s : lf_Z} (hQ : ∀ (r : Int) (s : lf_Z), Q1 r s → Q2 r s → Q3 r s) (h1 : fm_65_p10L Q1 x1 x3 x4 s) (h2 : fw_65_p10L Q2 x1 x3 x4 s) : fm_65_p10L Q3 x1 x3 x4 s := by
  intro X0 hX0
  obtain ⟨Y, hY, hY0⟩ := h2
  exact h1 (fun v0 v1 s => Y v0 v1 s → X0 v0 v1 s) (fun v0 v1 s hb hy => hX0 v0 v1 s (cj_65_p10 (X101 := fun v0 v1 s => Y v0 v1 s → X0 v0 v1 s) (X102 := Y) (X103 := X0) (hX10 := fun v0 v1 s a b => a b) hQ hb (hY v0 v1 s hy))) hY0
def fw_65 (Q : Int → lf_Z → Prop) (s : lf_Z) : Prop := fw_65_p10L Q 0 4 0 s
theorem cj_65 {Q1 Q2 Q3 : Int → lf_Z → Prop} {s : lf_Z} (hQ : ∀ (r : Int) (s : lf_Z), Q1 r s → Q2 r s → Q3 r s) (h1 : fm_65 Q1 s) (h2 : fw_65 Q2 s) : fm_65 Q3 s := by
  unfold fm_65 at h1 ⊢
  unfold fw_65 at h2
  exact cj_65_p10L hQ h1 h2
def fw_64 (Q : Int → lf_Z → Prop) (s : lf_Z) : Prop := fw_65 (fun r22 s21 => (Q r22 s21)) s
theorem cj_64 {Q1 Q2 Q3 : Int → lf_Z → Prop} {s : lf_Z} (hQ : ∀ (r : Int) (s : lf_Z), Q1 r s → Q2 r s → Q3 r s) (h1 : fm_64 Q1 s) (h2 : fw_64 Q2 s) : fm_64 Q3 s := by
  unfold fm_64 at h1 ⊢
  unfold fw_64 at h2
  exact cj_65 (fun r22 s21 k1 l1 => hQ _ _  k1 l1) h1 h2
def fw_66_p2 (Q : Int → lf_Z → Prop) (X2 : Int → lf_Z → Prop) (x1 : Int) (s : lf_Z) : Prop := lf_R x1 → ((4 ≤ x1 → (Q (-1) s)) ∧ (¬ (4 ≤ x1) → ((0 ≤ x1 ∧ x1 < 4) → (lf_R (s.1 16 x1) → ((s.1 16 x1 ≠ 0 → (X2 (x1 + 1) s)) ∧ (¬ (s.1 16 x1 ≠ 0) → (Q x1 s)))))))
theorem cj_66_p2 {X21 X22 X23 : Int → lf_Z → Prop} {Q1 Q2 Q3 : Int → lf_Z → Prop} {x1 : Int} {s : lf_Z} (hX2 : ∀ (v0 : Int) (v1 : lf_Z), X21 v0 v1 → X22 v0 v1 → X23 v0 v1) (hQ : ∀ (r : Int) (s : lf_Z), Q1 r s → Q2 r s → Q3 r s) (h1 : fm_66_p2 Q1 X21 x1 s) (h2 : fw_66_p2 Q2 X22 x1 s) : fm_66_p2 Q3 X23 x1 s := by
  unfold fm_66_p2 at h1 ⊢
  unfold fw_66_p2 at h2
  exact ⟨h1.1, ⟨(fun c2 => hQ _ _  (h1.2.1 c2) ((h2 h1.1).1 c2)), (fun c2 => ⟨(h1.2.2 c2).1, ⟨(h1.2.2 c2).2.1, ⟨(fun c6 => hX2 _ _  ((h1.2.2 c2).2.2.1 c6) (((((h2 h1.1).2 c2) (h1.2.2 c2).1) (h1.2.2 c2).2.1).1 c6)), (fun c6 => hQ _ _  ((h1.2.2 c2).2.2.2 c6) (((((h2 h1.1).2 c2) (h1.2.2 c2).1) (h1.2.2 c2).2.1).2 c6))⟩⟩⟩)⟩⟩
def fw_66_p2L (Q : Int → lf_Z → Prop) (x1 : Int) (s : lf_Z) : Prop := ∃ X2 : Int → lf_Z → Prop, (∀ (x1 : Int) (s : lf_Z), X2 x1 s → fw_66_p2 Q X2 x1 s) ∧ X2 x1 s
theorem cj_66_p2L {Q1 Q2 Q3 : Int → lf_Z → Prop} {x1 : Int} {s : lf_Z} (hQ : ∀ (r : Int) (s : lf_Z), Q1 r s → Q2 r s → Q3 r s) (h1 : fm_66_p2L Q1 x1 s) (h2 : fw_66_p2L Q2 x1 s) : fm_66_p2L Q3 x1 s := by
  intro X0 hX0
  obtain ⟨Y, hY, hY0⟩ := h2
  exact h1 (fun v0 s => Y v0 s → X0 v0 s) (fun v0 s hb hy => hX0 v0 s (cj_66_p2 (X21 := fun v0 s => Y v0 s → X0 v0 s) (X22 := Y) (X23 := X0) (hX2 := fun v0 s a b => a b) hQ hb (hY v0 s hy))) hY0
def fw_66 (Q : Int → lf_Z → Prop) (s : lf_Z) : Prop := fw_66_p2L Q 0 s
theorem cj_66 {Q1 Q2 Q3 : Int → lf_Z → Prop} {s : lf_Z} (hQ : ∀ (r : Int) (s : lf_Z), Q1 r s → Q2 r s → Q3 r s) (h1 : fm_66 Q1 s) (h2 : fw_66 Q2 s) : fm_66 Q3 s := by
  unfold fm_66 at h1 ⊢
  unfold fw_66 at h2
  exact cj_66_p2L hQ h1 h2
def fw_68_p57 (Q : lf_Z → Prop) (X57 : Int → Int → lf_Z → Prop) (x3 : Int) (x4 : Int) (s : lf_Z) : Prop := lf_R x4 → ((6 ≤ x4 → (((0 : Int) ≤ 0 ∧ (0 : Int) ≤ x3 ∧ (0 : Int) ≤ 12 ∧ (0 : Int) + 12 ≤ 12 ∧ (x3 : Int) + 12 ≤ 1170) → ((0 ≤ x3 + 12 ∧ x3 + 12 < 1170) → ((0 ≤ (x3 + 12) + 1 ∧ (x3 + 12) + 1 < 1170) → ((0 ≤ (x3 + 12) + 2 ∧ (x3 + 12) + 2 < 1170) → (Q (lf_up (lf_up (lf_up (lf_cp s.1 21 23 0 x3 12) 23 (x3 + 12) ((lf_cp s.1 21 23 0 x3 12) 15 6)) 23 ((x3 + 12) + 1) ((lf_cp s.1 21 23 0 x3 12) 15 7)) 23 ((x3 + 12) + 2) ((lf_cp s.1 21 23 0 x3 12) 15 8), s.2.1, s.2.2))))))) ∧ (¬ (6 ≤ x4) → ((0 ≤ x4 ∧ x4 < 6) → ((0 ≤ x3 ∧ x3 < 1170) → ((0 ≤ x3 + 1 ∧ x3 + 1 < 1170) → (X57 (x3 + 2) (x4 + 1) (lf_up (lf_up s.1 23 x3 (s.1 19 x4)) 23 (x3 + 1) (s.1 20 x4), s.2.1, s.2.2)))))))
theorem cj_68_p57 {X571 X572 X573 : Int → Int → lf_Z → Prop} {Q1 Q2 Q3 : lf_Z → Prop} {x3 : Int} {x4 : Int} {s : lf_Z} (hX57 : ∀ (v0 : Int) (v1 : Int) (v2 : lf_Z), X571 v0 v1 v2 → X572 v0 v1 v2 → X573 v0 v1 v2) (hQ : ∀ (s : lf_Z), Q1 s → Q2 s → Q3 s) (h1 : fm_68_p57 Q1 X571 x3 x4 s) (h2 : fw_68_p57 Q2 X572 x3 x4 s) : fm_68_p57 Q3 X573 x3 x4 s := by
  unfold fm_68_p57 at h1 ⊢
  unfold fw_68_p57 at h2
  exact ⟨h1.1, ⟨(fun c2 => ⟨(h1.2.1 c2).1, ⟨(h1.2.1 c2).2.1, ⟨(h1.2.1 c2).2.2.1, ⟨(h1.2.1 c2).2.2.2.1, hQ _  (h1.2.1 c2).2.2.2.2 ((((((h2 h1.1).1 c2) (h1.2.1 c2).1) (h1.2.1 c2).2.1) (h1.2.1 c2).2.2.1) (h1.2.1 c2).2.2.2.1)⟩⟩⟩⟩), (fun c2 => ⟨(h1.2.2 c2).1, ⟨(h1.2.2 c2).2.1, ⟨(h1.2.2 c2).2.2.1, hX57 _ _ _  (h1.2.2 c2).2.2.2 (((((h2 h1.1).2 c2) (h1.2.2 c2).1) (h1.2.2 c2).2.1) (h1.2.2 c2).2.2.1)⟩⟩⟩)⟩⟩
def fw_68_p57L (Q : lf_Z → Prop) (x3 : Int) (x4 : Int) (s : lf_Z) : Prop := ∃ X57 : Int → Int → lf_Z → Prop, (∀ (x3 : Int) (x4 : Int) (s : lf_Z), X57 x3 x4 s → fw_68_p57 Q X57 x3 x4 s) ∧ X57 x3 x4 s
theorem cj_68_p57L {Q1 Q2 Q3 : lf_Z → Prop} {x3 : Int} {x4 : Int} {s : lf_Z} (hQ : ∀ (s : lf_Z), Q1 s → Q2 s → Q3 s) (h1 : fm_68_p57L Q1 x3 x4 s) (h2 : fw_68_p57L Q2 x3 x4 s) : fm_68_p57L Q3 x3 x4 s := by
  intro X0 hX0
  obtain ⟨Y, hY, hY0⟩ := h2
  exact h1 (fun v0 v1 s => Y v0 v1 s → X0 v0 v1 s) (fun v0 v1 s hb hy => hX0 v0 v1 s (cj_68_p57 (X571 := fun v0 v1 s => Y v0 v1 s → X0 v0 v1 s) (X572 := Y) (X573 := X0) (hX57 := fun v0 v1 s a b => a b) hQ hb (hY v0 v1 s hy))) hY0
def fw_68_p5 (Q : lf_Z → Prop) (X5 : Int → Int → lf_Z → Prop) (x3 : Int) (x4 : Int) (s : lf_Z) : Prop := lf_R x4 → ((4 ≤ x4 → (fw_68_p57L Q x3 0 s)) ∧ (¬ (4 ≤ x4) → ((0 ≤ x4 ∧ x4 < 4) → ((0 ≤ x3 ∧ x3 < 1170) → ((0 ≤ x3 + 1 ∧ x3 + 1 < 1170) → ((0 ≤ x3 + 2 ∧ x3 + 2 < 1170) → (X5 (x3 + 3) (x4 + 1) (lf_up (lf_up (lf_up s.1 23 x3 (s.1 16 x4)) 23 (x3 + 1) (s.1 17 x4)) 23 (x3 + 2) (s.1 18 x4), s.2.1, s.2.2))))))))
theorem cj_68_p5 {X51 X52 X53 : Int → Int → lf_Z → Prop} {Q1 Q2 Q3 : lf_Z → Prop} {x3 : Int} {x4 : Int} {s : lf_Z} (hX5 : ∀ (v0 : Int) (v1 : Int) (v2 : lf_Z), X51 v0 v1 v2 → X52 v0 v1 v2 → X53 v0 v1 v2) (hQ : ∀ (s : lf_Z), Q1 s → Q2 s → Q3 s) (h1 : fm_68_p5 Q1 X51 x3 x4 s) (h2 : fw_68_p5 Q2 X52 x3 x4 s) : fm_68_p5 Q3 X53 x3 x4 s := by
  unfold fm_68_p5 at h1 ⊢
  unfold fw_68_p5 at h2
  exact ⟨h1.1, ⟨(fun c2 => cj_68_p57L hQ (h1.2.1 c2) ((h2 h1.1).1 c2)), (fun c2 => ⟨(h1.2.2 c2).1, ⟨(h1.2.2 c2).2.1, ⟨(h1.2.2 c2).2.2.1, ⟨(h1.2.2 c2).2.2.2.1, hX5 _ _ _  (h1.2.2 c2).2.2.2.2 ((((((h2 h1.1).2 c2) (h1.2.2 c2).1) (h1.2.2 c2).2.1) (h1.2.2 c2).2.2.1) (h1.2.2 c2).2.2.2.1)⟩⟩⟩⟩)⟩⟩
def fw_68_p5L (Q : lf_Z → Prop) (x3 : Int) (x4 : Int) (s : lf_Z) : Prop := ∃ X5 : Int → Int → lf_Z → Prop, (∀ (x3 : Int) (x4 : Int) (s : lf_Z), X5 x3 x4 s → fw_68_p5 Q X5 x3 x4 s) ∧ X5 x3 x4 s
theorem cj_68_p5L {Q1 Q2 Q3 : lf_Z → Prop} {x3 : Int} {x4 : Int} {s : lf_Z} (hQ : ∀ (s : lf_Z), Q1 s → Q2 s → Q3 s) (h1 : fm_68_p5L Q1 x3 x4 s) (h2 : fw_68_p5L Q2 x3 x4 s) : fm_68_p5L Q3 x3 x4 s := by
  intro X0 hX0
  obtain ⟨Y, hY, hY0⟩ := h2
  exact h1 (fun v0 v1 s => Y v0 v1 s → X0 v0 v1 s) (fun v0 v1 s hb hy => hX0 v0 v1 s (cj_68_p5 (X51 := fun v0 v1 s => Y v0 v1 s → X0 v0 v1 s) (X52 := Y) (X53 := X0) (hX5 := fun v0 v1 s a b => a b) hQ hb (hY v0 v1 s hy))) hY0
def fw_68 (a2 : Int) (Q : lf_Z → Prop) (s : lf_Z) : Prop := fw_68_p5L Q a2 0 s
theorem cj_68 {Q1 Q2 Q3 : lf_Z → Prop} {a2 : Int} {s : lf_Z} (hQ : ∀ (s : lf_Z), Q1 s → Q2 s → Q3 s) (h1 : fm_68 a2 Q1 s) (h2 : fw_68 a2 Q2 s) : fm_68 a2 Q3 s := by
  unfold fm_68 at h1 ⊢
  unfold fw_68 at h2
  exact cj_68_p5L hQ h1 h2
def fw_67 (a2 : Int) (Q : lf_Z → Prop) (s : lf_Z) : Prop := lf_R ((s.1 22 2) + 1) → (lf_R ((s.1 22 3) + 1) → (fw_68 ((((s.1 22 2) + 1).tmod 30) * 39) (fun s23 => ((0 ≤ s23.1 22 2 ∧ s23.1 22 2 < 30) → (Q (lf_up s23.1 24 (s23.1 22 2) a2, s23.2.1, s23.2.2)))) (lf_up (lf_up s.1 22 2 (((s.1 22 2) + 1).tmod 30)) 22 3 (min 30 ((s.1 22 3) + 1)), s.2.1, s.2.2)))
theorem cj_67 {Q1 Q2 Q3 : lf_Z → Prop} {a2 : Int} {s : lf_Z} (hQ : ∀ (s : lf_Z), Q1 s → Q2 s → Q3 s) (h1 : fm_67 a2 Q1 s) (h2 : fw_67 a2 Q2 s) : fm_67 a2 Q3 s := by
  unfold fm_67 at h1 ⊢
  unfold fw_67 at h2
  exact ⟨h1.1, ⟨h1.2.1, cj_68 (fun s23 k3 l3 => ⟨k3.1, hQ _  k3.2 (l3 k3.1)⟩) h1.2.2 ((h2 h1.1) h1.2.1)⟩⟩
def fw_69 (a1 : Int) (a2 : Int) (a3 : Int) (a4 : Int) (Q : lf_Z → Prop) (s : lf_Z) : Prop := (0 ≤ a1 ∧ a1 < 4) → (Q (lf_up (lf_up (lf_up s.1 16 a1 a2) 17 a1 a3) 18 a1 a4, s.2.1, s.2.2))
theorem cj_69 {Q1 Q2 Q3 : lf_Z → Prop} {a1 : Int} {a2 : Int} {a3 : Int} {a4 : Int} {s : lf_Z} (hQ : ∀ (s : lf_Z), Q1 s → Q2 s → Q3 s) (h1 : fm_69 a1 a2 a3 a4 Q1 s) (h2 : fw_69 a1 a2 a3 a4 Q2 s) : fm_69 a1 a2 a3 a4 Q3 s := by
  unfold fm_69 at h1 ⊢
  unfold fw_69 at h2
  exact ⟨h1.1, hQ _  h1.2 (h2 h1.1)⟩
def fw_63 (a1 : Int) (a2 : Int) (Q : Int → lf_Z → Prop) (s : lf_Z) : Prop := fw_64 (fun r22 s21 => (fw_15 a1 1 (lf_w (24 - r22)) (fun z24 s23 => ((z24 = false → (Q (-1) s23)) ∧ (z24 = true → (fw_18 a2 (fun z26 s25 => ((z26 = true → (fw_66 (fun r28 s27 => (lf_R r28 → ((r28 = (-1) → (Q r28 s27)) ∧ (¬ (r28 = (-1)) → (fw_67 (s27.1 1 2) (fun s30 => (fw_69 r28 a1 a2 (-1) (fun s31 => (Q r28 s31)) s30)) s27))))) s25)) ∧ (z26 = false → (Q (-1) s25)))) s23)))) s21)) s
theorem cj_63 {Q1 Q2 Q3 : Int → lf_Z → Prop} {a1 : Int} {a2 : Int} {s : lf_Z} (hQ : ∀ (r : Int) (s : lf_Z), Q1 r s → Q2 r s → Q3 r s) (h1 : fm_63 a1 a2 Q1 s) (h2 : fw_63 a1 a2 Q2 s) : fm_63 a1 a2 Q3 s := by
  unfold fm_63 at h1 ⊢
  unfold fw_63 at h2
  exact cj_64 (fun r22 s21 k1 l1 => cj_15 (fun z24 s23 k2 l2 => ⟨(fun c3 => hQ _ _  (k2.1 c3) (l2.1 c3)), (fun c3 => cj_18 (fun z26 s25 k5 l5 => ⟨(fun c6 => cj_66 (fun r28 s27 k7 l7 => ⟨k7.1, ⟨(fun c9 => hQ _ _  (k7.2.1 c9) ((l7 k7.1).1 c9)), (fun c9 => cj_67 (fun s30 k11 l11 => cj_69 (fun s31 k12 l12 => hQ _ _  k12 l12) k11 l11) (k7.2.2 c9) ((l7 k7.1).2 c9))⟩⟩) (k5.1 c6) (l5.1 c6)), (fun c6 => hQ _ _  (k5.2 c6) (l5.2 c6))⟩) (k2.2 c3) (l2.2 c3))⟩) k1 l1) h1 h2
def fw_242 (a1 : Int) (Q : Int → lf_Z → Prop) (s : lf_Z) : Prop := (0 ≤ 114 + (3 * a1) ∧ 114 + (3 * a1) < 1538) → (Q (s.1 96 (114 + (3 * a1))) s)
theorem cj_242 {Q1 Q2 Q3 : Int → lf_Z → Prop} {a1 : Int} {s : lf_Z} (hQ : ∀ (r : Int) (s : lf_Z), Q1 r s → Q2 r s → Q3 r s) (h1 : fm_242 a1 Q1 s) (h2 : fw_242 a1 Q2 s) : fm_242 a1 Q3 s := by
  unfold fm_242 at h1 ⊢
  unfold fw_242 at h2
  exact ⟨h1.1, hQ _ _  h1.2 (h2 h1.1)⟩
def fw_241_p2 (Q : Int → lf_Z → Prop) (X2 : Int → lf_Z → Prop) (x1 : Int) (s : lf_Z) : Prop := lf_R x1 → ((4 ≤ x1 → (Q (-1) s)) ∧ (¬ (4 ≤ x1) → (fw_242 x1 (fun r23 s22 => (lf_R r23 → ((r23 ≠ 0 → (X2 (x1 + 1) s22)) ∧ (¬ (r23 ≠ 0) → (Q x1 s22))))) s)))
theorem cj_241_p2 {X21 X22 X23 : Int → lf_Z → Prop} {Q1 Q2 Q3 : Int → lf_Z → Prop} {x1 : Int} {s : lf_Z} (hX2 : ∀ (v0 : Int) (v1 : lf_Z), X21 v0 v1 → X22 v0 v1 → X23 v0 v1) (hQ : ∀ (r : Int) (s : lf_Z), Q1 r s → Q2 r s → Q3 r s) (h1 : fm_241_p2 Q1 X21 x1 s) (h2 : fw_241_p2 Q2 X22 x1 s) : fm_241_p2 Q3 X23 x1 s := by
  unfold fm_241_p2 at h1 ⊢
  unfold fw_241_p2 at h2
  exact ⟨h1.1, ⟨(fun c2 => hQ _ _  (h1.2.1 c2) ((h2 h1.1).1 c2)), (fun c2 => cj_242 (fun r23 s22 k4 l4 => ⟨k4.1, ⟨(fun c6 => hX2 _ _  (k4.2.1 c6) ((l4 k4.1).1 c6)), (fun c6 => hQ _ _  (k4.2.2 c6) ((l4 k4.1).2 c6))⟩⟩) (h1.2.2 c2) ((h2 h1.1).2 c2))⟩⟩
def fw_241_p2L (Q : Int → lf_Z → Prop) (x1 : Int) (s : lf_Z) : Prop := ∃ X2 : Int → lf_Z → Prop, (∀ (x1 : Int) (s : lf_Z), X2 x1 s → fw_241_p2 Q X2 x1 s) ∧ X2 x1 s
theorem cj_241_p2L {Q1 Q2 Q3 : Int → lf_Z → Prop} {x1 : Int} {s : lf_Z} (hQ : ∀ (r : Int) (s : lf_Z), Q1 r s → Q2 r s → Q3 r s) (h1 : fm_241_p2L Q1 x1 s) (h2 : fw_241_p2L Q2 x1 s) : fm_241_p2L Q3 x1 s := by
  intro X0 hX0
  obtain ⟨Y, hY, hY0⟩ := h2
  exact h1 (fun v0 s => Y v0 s → X0 v0 s) (fun v0 s hb hy => hX0 v0 s (cj_241_p2 (X21 := fun v0 s => Y v0 s → X0 v0 s) (X22 := Y) (X23 := X0) (hX2 := fun v0 s a b => a b) hQ hb (hY v0 s hy))) hY0
def fw_241 (Q : Int → lf_Z → Prop) (s : lf_Z) : Prop := fw_241_p2L Q 0 s
theorem cj_241 {Q1 Q2 Q3 : Int → lf_Z → Prop} {s : lf_Z} (hQ : ∀ (r : Int) (s : lf_Z), Q1 r s → Q2 r s → Q3 r s) (h1 : fm_241 Q1 s) (h2 : fw_241 Q2 s) : fm_241 Q3 s := by
  unfold fm_241 at h1 ⊢
  unfold fw_241 at h2
  exact cj_241_p2L hQ h1 h2
def fw_243_p4 (Q : Int → lf_Z → Prop) (X4 : Int → Int → lf_Z → Prop) (x1 : Int) (x2 : Int) (s : lf_Z) : Prop := lf_R x2 → ((4 ≤ x2 → (Q x1 s)) ∧ (¬ (4 ≤ x2) → (fw_242 x2 (fun r23 s22 => (X4 (x1 + r23) (x2 + 1) s22)) s)))
theorem cj_243_p4 {X41 X42 X43 : Int → Int → lf_Z → Prop} {Q1 Q2 Q3 : Int → lf_Z → Prop} {x1 : Int} {x2 : Int} {s : lf_Z} (hX4 : ∀ (v0 : Int) (v1 : Int) (v2 : lf_Z), X41 v0 v1 v2 → X42 v0 v1 v2 → X43 v0 v1 v2) (hQ : ∀ (r : Int) (s : lf_Z), Q1 r s → Q2 r s → Q3 r s) (h1 : fm_243_p4 Q1 X41 x1 x2 s) (h2 : fw_243_p4 Q2 X42 x1 x2 s) : fm_243_p4 Q3 X43 x1 x2 s := by
  unfold fm_243_p4 at h1 ⊢
  unfold fw_243_p4 at h2
  exact ⟨h1.1, ⟨(fun c2 => hQ _ _  (h1.2.1 c2) ((h2 h1.1).1 c2)), (fun c2 => cj_242 (fun r23 s22 k4 l4 => hX4 _ _ _  k4 l4) (h1.2.2 c2) ((h2 h1.1).2 c2))⟩⟩
def fw_243_p4L (Q : Int → lf_Z → Prop) (x1 : Int) (x2 : Int) (s : lf_Z) : Prop := ∃ X4 : Int → Int → lf_Z → Prop, (∀ (x1 : Int) (x2 : Int) (s : lf_Z), X4 x1 x2 s → fw_243_p4 Q X4 x1 x2 s) ∧ X4 x1 x2 s
theorem cj_243_p4L {Q1 Q2 Q3 : Int → lf_Z → Prop} {x1 : Int} {x2 : Int} {s : lf_Z} (hQ : ∀ (r : Int) (s : lf_Z), Q1 r s → Q2 r s → Q3 r s) (h1 : fm_243_p4L Q1 x1 x2 s) (h2 : fw_243_p4L Q2 x1 x2 s) : fm_243_p4L Q3 x1 x2 s := by
  intro X0 hX0
  obtain ⟨Y, hY, hY0⟩ := h2
  exact h1 (fun v0 v1 s => Y v0 v1 s → X0 v0 v1 s) (fun v0 v1 s hb hy => hX0 v0 v1 s (cj_243_p4 (X41 := fun v0 v1 s => Y v0 v1 s → X0 v0 v1 s) (X42 := Y) (X43 := X0) (hX4 := fun v0 v1 s a b => a b) hQ hb (hY v0 v1 s hy))) hY0
def fw_243 (Q : Int → lf_Z → Prop) (s : lf_Z) : Prop := fw_243_p4L Q 0 0 s
theorem cj_243 {Q1 Q2 Q3 : Int → lf_Z → Prop} {s : lf_Z} (hQ : ∀ (r : Int) (s : lf_Z), Q1 r s → Q2 r s → Q3 r s) (h1 : fm_243 Q1 s) (h2 : fw_243 Q2 s) : fm_243 Q3 s := by
  unfold fm_243 at h1 ⊢
  unfold fw_243 at h2
  exact cj_243_p4L hQ h1 h2
def fw_246 (a1 : Int) (Q : Int → lf_Z → Prop) (s : lf_Z) : Prop := (0 ≤ (14 + (3 * a1)) + 2 ∧ (14 + (3 * a1)) + 2 < 1538) → (Q (s.1 96 ((14 + (3 * a1)) + 2)) s)
theorem cj_246 {Q1 Q2 Q3 : Int → lf_Z → Prop} {a1 : Int} {s : lf_Z} (hQ : ∀ (r : Int) (s : lf_Z), Q1 r s → Q2 r s → Q3 r s) (h1 : fm_246 a1 Q1 s) (h2 : fw_246 a1 Q2 s) : fm_246 a1 Q3 s := by
  unfold fm_246 at h1 ⊢
  unfold fw_246 at h2
  exact ⟨h1.1, hQ _ _  h1.2 (h2 h1.1)⟩
def fw_239 (a1 : Int) (Q : Int → lf_Z → Prop) (s : lf_Z) : Prop := (0 ≤ (126 + (6 * a1)) + 3 ∧ (126 + (6 * a1)) + 3 < 1538) → (Q (s.1 96 ((126 + (6 * a1)) + 3)) s)
theorem cj_239 {Q1 Q2 Q3 : Int → lf_Z → Prop} {a1 : Int} {s : lf_Z} (hQ : ∀ (r : Int) (s : lf_Z), Q1 r s → Q2 r s → Q3 r s) (h1 : fm_239 a1 Q1 s) (h2 : fw_239 a1 Q2 s) : fm_239 a1 Q3 s := by
  unfold fm_239 at h1 ⊢
  unfold fw_239 at h2
  exact ⟨h1.1, hQ _ _  h1.2 (h2 h1.1)⟩
def fw_239b (a1 : Int) (Q : Int → lf_Z → Prop) (s : lf_Z) : Prop := (0 ≤ (126 + (6 * a1)) + 4 ∧ (126 + (6 * a1)) + 4 < 1538) → (Q (s.1 96 ((126 + (6 * a1)) + 4)) s)
theorem cj_239b {Q1 Q2 Q3 : Int → lf_Z → Prop} {a1 : Int} {s : lf_Z} (hQ : ∀ (r : Int) (s : lf_Z), Q1 r s → Q2 r s → Q3 r s) (h1 : fm_239b a1 Q1 s) (h2 : fw_239b a1 Q2 s) : fm_239b a1 Q3 s := by
  unfold fm_239b at h1 ⊢
  unfold fw_239b at h2
  exact ⟨h1.1, hQ _ _  h1.2 (h2 h1.1)⟩
def fw_245 (a1 : Int) (Q : Bool → lf_Z → Prop) (s : lf_Z) : Prop := (0 ≤ (50 + (4 * a1)) + 3 ∧ (50 + (4 * a1)) + 3 < 1538) → (lf_R (s.1 96 ((50 + (4 * a1)) + 3)) → ((s.1 96 ((50 + (4 * a1)) + 3) ≠ 1 → (Q false s)) ∧ (¬ (s.1 96 ((50 + (4 * a1)) + 3) ≠ 1) → (Q true s))))
theorem cj_245 {Q1 Q2 Q3 : Bool → lf_Z → Prop} {a1 : Int} {s : lf_Z} (hQ : ∀ (r : Bool) (s : lf_Z), Q1 r s → Q2 r s → Q3 r s) (h1 : fm_245 a1 Q1 s) (h2 : fw_245 a1 Q2 s) : fm_245 a1 Q3 s := by
  unfold fm_245 at h1 ⊢
  unfold fw_245 at h2
  exact ⟨h1.1, ⟨h1.2.1, ⟨(fun c3 => hQ _ _  (h1.2.2.1 c3) (((h2 h1.1) h1.2.1).1 c3)), (fun c3 => hQ _ _  (h1.2.2.2 c3) (((h2 h1.1) h1.2.1).2 c3))⟩⟩⟩
def fw_244_p268 (Q : lf_Z → Prop) (x1 : Int) (X268 : Int → lf_Z → Prop) (x2 : Int) (s : lf_Z) : Prop := lf_R x2 → ((12 ≤ x2 → (Q (lf_up s.1 96 9 ((s.1 96 9) + 1), s.2.1, s.2.2))) ∧ (¬ (12 ≤ x2) → (fw_246 x2 (fun r33 s32 => ((0 ≤ (x1 + 29) + x2 ∧ (x1 + 29) + x2 < 1538) → (X268 (x2 + 1) (lf_up s32.1 96 ((x1 + 29) + x2) r33, s32.2.1, s32.2.2)))) s)))
theorem cj_244_p268 {X2681 X2682 X2683 : Int → lf_Z → Prop} {Q1 Q2 Q3 : lf_Z → Prop} {x1 : Int} {x2 : Int} {s : lf_Z} (hX268 : ∀ (v0 : Int) (v1 : lf_Z), X2681 v0 v1 → X2682 v0 v1 → X2683 v0 v1) (hQ : ∀ (s : lf_Z), Q1 s → Q2 s → Q3 s) (h1 : fm_244_p268 Q1 x1 X2681 x2 s) (h2 : fw_244_p268 Q2 x1 X2682 x2 s) : fm_244_p268 Q3 x1 X2683 x2 s := by
  unfold fm_244_p268 at h1 ⊢
  unfold fw_244_p268 at h2
  exact ⟨h1.1, ⟨(fun c2 => hQ _  (h1.2.1 c2) ((h2 h1.1).1 c2)), (fun c2 => cj_246 (fun r33 s32 k4 l4 => ⟨k4.1, hX268 _ _  k4.2 (l4 k4.1)⟩) (h1.2.2 c2) ((h2 h1.1).2 c2))⟩⟩
def fw_244_p268L (Q : lf_Z → Prop) (x1 : Int) (x2 : Int) (s : lf_Z) : Prop := ∃ X268 : Int → lf_Z → Prop, (∀ (x2 : Int) (s : lf_Z), X268 x2 s → fw_244_p268 Q x1 X268 x2 s) ∧ X268 x2 s
theorem cj_244_p268L {Q1 Q2 Q3 : lf_Z → Prop} {x1 : Int} {x2 : Int} {s : lf_Z} (hQ : ∀ (s : lf_Z), Q1 s → Q2 s → Q3 s) (h1 : fm_244_p268L Q1 x1 x2 s) (h2 : fw_244_p268L Q2 x1 x2 s) : fm_244_p268L Q3 x1 x2 s := by
  intro X0 hX0
  obtain ⟨Y, hY, hY0⟩ := h2
  exact h1 (fun v0 s => Y v0 s → X0 v0 s) (fun v0 s hb hy => hX0 v0 s (cj_244_p268 (X2681 := fun v0 s => Y v0 s → X0 v0 s) (X2682 := Y) (X2683 := X0) (hX268 := fun v0 s a b => a b) hQ hb (hY v0 s hy))) hY0
def fw_244_p216 (Q : lf_Z → Prop) (x1 : Int) (X216 : Int → lf_Z → Prop) (x2 : Int) (s : lf_Z) : Prop := lf_R x2 → ((6 ≤ x2 → (fw_244_p268L Q x1 0 s)) ∧ (¬ (6 ≤ x2) → (fw_239 x2 (fun r36 s35 => ((0 ≤ (x1 + 17) + (2 * x2) ∧ (x1 + 17) + (2 * x2) < 1538) → (fw_239b x2 (fun r39 s38 => ((0 ≤ (x1 + 18) + (2 * x2) ∧ (x1 + 18) + (2 * x2) < 1538) → (X216 (x2 + 1) (lf_up s38.1 96 ((x1 + 18) + (2 * x2)) r39, s38.2.1, s38.2.2)))) (lf_up s35.1 96 ((x1 + 17) + (2 * x2)) r36, s35.2.1, s35.2.2)))) s)))
theorem cj_244_p216 {X2161 X2162 X2163 : Int → lf_Z → Prop} {Q1 Q2 Q3 : lf_Z → Prop} {x1 : Int} {x2 : Int} {s : lf_Z} (hX216 : ∀ (v0 : Int) (v1 : lf_Z), X2161 v0 v1 → X2162 v0 v1 → X2163 v0 v1) (hQ : ∀ (s : lf_Z), Q1 s → Q2 s → Q3 s) (h1 : fm_244_p216 Q1 x1 X2161 x2 s) (h2 : fw_244_p216 Q2 x1 X2162 x2 s) : fm_244_p216 Q3 x1 X2163 x2 s := by
  unfold fm_244_p216 at h1 ⊢
  unfold fw_244_p216 at h2
  exact ⟨h1.1, ⟨(fun c2 => cj_244_p268L hQ (h1.2.1 c2) ((h2 h1.1).1 c2)), (fun c2 => cj_239 (fun r36 s35 k4 l4 => ⟨k4.1, cj_239b (fun r39 s38 k6 l6 => ⟨k6.1, hX216 _ _  k6.2 (l6 k6.1)⟩) k4.2 (l4 k4.1)⟩) (h1.2.2 c2) ((h2 h1.1).2 c2))⟩⟩
def fw_244_p216L (Q : lf_Z → Prop) (x1 : Int) (x2 : Int) (s : lf_Z) : Prop := ∃ X216 : Int → lf_Z → Prop, (∀ (x2 : Int) (s : lf_Z), X216 x2 s → fw_244_p216 Q x1 X216 x2 s) ∧ X216 x2 s
theorem cj_244_p216L {Q1 Q2 Q3 : lf_Z → Prop} {x1 : Int} {x2 : Int} {s : lf_Z} (hQ : ∀ (s : lf_Z), Q1 s → Q2 s → Q3 s) (h1 : fm_244_p216L Q1 x1 x2 s) (h2 : fw_244_p216L Q2 x1 x2 s) : fm_244_p216L Q3 x1 x2 s := by
  intro X0 hX0
  obtain ⟨Y, hY, hY0⟩ := h2
  exact h1 (fun v0 s => Y v0 s → X0 v0 s) (fun v0 s hb hy => hX0 v0 s (cj_244_p216 (X2161 := fun v0 s => Y v0 s → X0 v0 s) (X2162 := Y) (X2163 := X0) (hX216 := fun v0 s a b => a b) hQ hb (hY v0 s hy))) hY0
def fw_244_p183 (Q : lf_Z → Prop) (x1 : Int) (X183 : Int → lf_Z → Prop) (x2 : Int) (s : lf_Z) : Prop := lf_R x2 → ((12 ≤ x2 → (fw_244_p216L Q x1 0 s)) ∧ (¬ (12 ≤ x2) → ((0 ≤ 114 + x2 ∧ 114 + x2 < 1538) → ((0 ≤ (x1 + 5) + x2 ∧ (x1 + 5) + x2 < 1538) → (X183 (x2 + 1) (lf_up s.1 96 ((x1 + 5) + x2) (s.1 96 (114 + x2)), s.2.1, s.2.2))))))
theorem cj_244_p183 {X1831 X1832 X1833 : Int → lf_Z → Prop} {Q1 Q2 Q3 : lf_Z → Prop} {x1 : Int} {x2 : Int} {s : lf_Z} (hX183 : ∀ (v0 : Int) (v1 : lf_Z), X1831 v0 v1 → X1832 v0 v1 → X1833 v0 v1) (hQ : ∀ (s : lf_Z), Q1 s → Q2 s → Q3 s) (h1 : fm_244_p183 Q1 x1 X1831 x2 s) (h2 : fw_244_p183 Q2 x1 X1832 x2 s) : fm_244_p183 Q3 x1 X1833 x2 s := by
  unfold fm_244_p183 at h1 ⊢
  unfold fw_244_p183 at h2
  exact ⟨h1.1, ⟨(fun c2 => cj_244_p216L hQ (h1.2.1 c2) ((h2 h1.1).1 c2)), (fun c2 => ⟨(h1.2.2 c2).1, ⟨(h1.2.2 c2).2.1, hX183 _ _  (h1.2.2 c2).2.2 ((((h2 h1.1).2 c2) (h1.2.2 c2).1) (h1.2.2 c2).2.1)⟩⟩)⟩⟩
def fw_244_p183L (Q : lf_Z → Prop) (x1 : Int) (x2 : Int) (s : lf_Z) : Prop := ∃ X183 : Int → lf_Z → Prop, (∀ (x2 : Int) (s : lf_Z), X183 x2 s → fw_244_p183 Q x1 X183 x2 s) ∧ X183 x2 s
theorem cj_244_p183L {Q1 Q2 Q3 : lf_Z → Prop} {x1 : Int} {x2 : Int} {s : lf_Z} (hQ : ∀ (s : lf_Z), Q1 s → Q2 s → Q3 s) (h1 : fm_244_p183L Q1 x1 x2 s) (h2 : fw_244_p183L Q2 x1 x2 s) : fm_244_p183L Q3 x1 x2 s := by
  intro X0 hX0
  obtain ⟨Y, hY, hY0⟩ := h2
  exact h1 (fun v0 s => Y v0 s → X0 v0 s) (fun v0 s hb hy => hX0 v0 s (cj_244_p183 (X1831 := fun v0 s => Y v0 s → X0 v0 s) (X1832 := Y) (X1833 := X0) (hX183 := fun v0 s a b => a b) hQ hb (hY v0 s hy))) hY0
def fw_244_p144 (X110 : Int → lf_Z → Prop) (Q : lf_Z → Prop) (x1 : Int) (x2 : Int) (y1 : Int) (y2 : Int) (y3 : Int) (s : lf_Z) : Prop := (0 ≤ y1 ∧ y1 < 1538) → (X110 (x2 + 1) (lf_up s.1 96 y1 (lf_or y2 y3), s.2.1, s.2.2))
theorem cj_244_p144 {X1101 X1102 X1103 : Int → lf_Z → Prop} {Q1 Q2 Q3 : lf_Z → Prop} {x1 : Int} {x2 : Int} {y1 : Int} {y2 : Int} {y3 : Int} {s : lf_Z} (hX110 : ∀ (v0 : Int) (v1 : lf_Z), X1101 v0 v1 → X1102 v0 v1 → X1103 v0 v1) (hQ : ∀ (s : lf_Z), Q1 s → Q2 s → Q3 s) (h1 : fm_244_p144 X1101 Q1 x1 x2 y1 y2 y3 s) (h2 : fw_244_p144 X1102 Q2 x1 x2 y1 y2 y3 s) : fm_244_p144 X1103 Q3 x1 x2 y1 y2 y3 s := by
  unfold fm_244_p144 at h1 ⊢
  unfold fw_244_p144 at h2
  exact ⟨h1.1, hX110 _ _  h1.2 (h2 h1.1)⟩
def fw_244_p110 (Q : lf_Z → Prop) (x1 : Int) (X110 : Int → lf_Z → Prop) (x2 : Int) (s : lf_Z) : Prop := lf_R x2 → (lf_R (s.1 96 1) → ((s.1 96 1 ≤ x2 → ((0 ≤ x1 + 3 ∧ x1 + 3 < 1538) → ((0 ≤ x1 + 4 ∧ x1 + 4 < 1538) → (fw_244_p183L Q x1 0 (lf_up (lf_up s.1 96 (x1 + 3) (s.1 96 3)) 96 (x1 + 4) ((lf_up s.1 96 (x1 + 3) (s.1 96 3)) 96 6), s.2.1, s.2.2))))) ∧ (¬ (s.1 96 1 ≤ x2) → ((0 ≤ x1 + 2 ∧ x1 + 2 < 1538) → (fw_245 x2 (fun z45 s44 => ((z45 = false → (fw_244_p144 X110 Q x1 x2 (x1 + 2) (s.1 96 (x1 + 2)) 0 s44)) ∧ (z45 = true → (fw_244_p144 X110 Q x1 x2 (x1 + 2) (s.1 96 (x1 + 2)) (lf_shl 1 x2) s44)))) s)))))
theorem cj_244_p110 {X1101 X1102 X1103 : Int → lf_Z → Prop} {Q1 Q2 Q3 : lf_Z → Prop} {x1 : Int} {x2 : Int} {s : lf_Z} (hX110 : ∀ (v0 : Int) (v1 : lf_Z), X1101 v0 v1 → X1102 v0 v1 → X1103 v0 v1) (hQ : ∀ (s : lf_Z), Q1 s → Q2 s → Q3 s) (h1 : fm_244_p110 Q1 x1 X1101 x2 s) (h2 : fw_244_p110 Q2 x1 X1102 x2 s) : fm_244_p110 Q3 x1 X1103 x2 s := by
  unfold fm_244_p110 at h1 ⊢
  unfold fw_244_p110 at h2
  exact ⟨h1.1, ⟨h1.2.1, ⟨(fun c3 => ⟨(h1.2.2.1 c3).1, ⟨(h1.2.2.1 c3).2.1, cj_244_p183L hQ (h1.2.2.1 c3).2.2 (((((h2 h1.1) h1.2.1).1 c3) (h1.2.2.1 c3).1) (h1.2.2.1 c3).2.1)⟩⟩), (fun c3 => ⟨(h1.2.2.2 c3).1, cj_245 (fun z45 s44 k8 l8 => ⟨(fun c9 => cj_244_p144 hX110 hQ (k8.1 c9) (l8.1 c9)), (fun c9 => cj_244_p144 hX110 hQ (k8.2 c9) (l8.2 c9))⟩) (h1.2.2.2 c3).2 ((((h2 h1.1) h1.2.1).2 c3) (h1.2.2.2 c3).1)⟩)⟩⟩⟩
def fw_244_p110L (Q : lf_Z → Prop) (x1 : Int) (x2 : Int) (s : lf_Z) : Prop := ∃ X110 : Int → lf_Z → Prop, (∀ (x2 : Int) (s : lf_Z), X110 x2 s → fw_244_p110 Q x1 X110 x2 s) ∧ X110 x2 s
theorem cj_244_p110L {Q1 Q2 Q3 : lf_Z → Prop} {x1 : Int} {x2 : Int} {s : lf_Z} (hQ : ∀ (s : lf_Z), Q1 s → Q2 s → Q3 s) (h1 : fm_244_p110L Q1 x1 x2 s) (h2 : fw_244_p110L Q2 x1 x2 s) : fm_244_p110L Q3 x1 x2 s := by
  intro X0 hX0
  obtain ⟨Y, hY, hY0⟩ := h2
  exact h1 (fun v0 s => Y v0 s → X0 v0 s) (fun v0 s hb hy => hX0 v0 s (cj_244_p110 (X1101 := fun v0 s => Y v0 s → X0 v0 s) (X1102 := Y) (X1103 := X0) (hX110 := fun v0 s a b => a b) hQ hb (hY v0 s hy))) hY0
def fw_244_p58 (Q : lf_Z → Prop) (s : lf_Z) : Prop := (0 ≤ 278 + (42 * (s.1 96 9)) ∧ 278 + (42 * (s.1 96 9)) < 1538) → ((0 ≤ (278 + (42 * (s.1 96 9))) + 1 ∧ (278 + (42 * (s.1 96 9))) + 1 < 1538) → ((0 ≤ (278 + (42 * (s.1 96 9))) + 2 ∧ (278 + (42 * (s.1 96 9))) + 2 < 1538) → (fw_244_p110L Q (278 + (42 * (s.1 96 9))) 0 (lf_up (lf_up (lf_up s.1 96 (278 + (42 * (s.1 96 9))) (s.1 96 2)) 96 ((278 + (42 * (s.1 96 9))) + 1) ((lf_up s.1 96 (278 + (42 * (s.1 96 9))) (s.1 96 2)) 96 1)) 96 ((278 + (42 * (s.1 96 9))) + 2) 0, s.2.1, s.2.2))))
theorem cj_244_p58 {Q1 Q2 Q3 : lf_Z → Prop} {s : lf_Z} (hQ : ∀ (s : lf_Z), Q1 s → Q2 s → Q3 s) (h1 : fm_244_p58 Q1 s) (h2 : fw_244_p58 Q2 s) : fm_244_p58 Q3 s := by
  unfold fm_244_p58 at h1 ⊢
  unfold fw_244_p58 at h2
  exact ⟨h1.1, ⟨h1.2.1, ⟨h1.2.2.1, cj_244_p110L hQ h1.2.2.2 (((h2 h1.1) h1.2.1) h1.2.2.1)⟩⟩⟩
def fw_244_p14 (Q : lf_Z → Prop) (X14 : Int → lf_Z → Prop) (x1 : Int) (s : lf_Z) : Prop := lf_R x1 → ((1218 ≤ x1 → (fw_244_p58 Q (lf_up s.1 96 9 ((s.1 96 9) - 1), s.2.1, s.2.2))) ∧ (¬ (1218 ≤ x1) → ((0 ≤ 320 + x1 ∧ 320 + x1 < 1538) → ((0 ≤ 278 + x1 ∧ 278 + x1 < 1538) → (X14 (x1 + 1) (lf_up s.1 96 (278 + x1) (s.1 96 (320 + x1)), s.2.1, s.2.2))))))
theorem cj_244_p14 {X141 X142 X143 : Int → lf_Z → Prop} {Q1 Q2 Q3 : lf_Z → Prop} {x1 : Int} {s : lf_Z} (hX14 : ∀ (v0 : Int) (v1 : lf_Z), X141 v0 v1 → X142 v0 v1 → X143 v0 v1) (hQ : ∀ (s : lf_Z), Q1 s → Q2 s → Q3 s) (h1 : fm_244_p14 Q1 X141 x1 s) (h2 : fw_244_p14 Q2 X142 x1 s) : fm_244_p14 Q3 X143 x1 s := by
  unfold fm_244_p14 at h1 ⊢
  unfold fw_244_p14 at h2
  exact ⟨h1.1, ⟨(fun c2 => cj_244_p58 hQ (h1.2.1 c2) ((h2 h1.1).1 c2)), (fun c2 => ⟨(h1.2.2 c2).1, ⟨(h1.2.2 c2).2.1, hX14 _ _  (h1.2.2 c2).2.2 ((((h2 h1.1).2 c2) (h1.2.2 c2).1) (h1.2.2 c2).2.1)⟩⟩)⟩⟩
def fw_244_p14L (Q : lf_Z → Prop) (x1 : Int) (s : lf_Z) : Prop := ∃ X14 : Int → lf_Z → Prop, (∀ (x1 : Int) (s : lf_Z), X14 x1 s → fw_244_p14 Q X14 x1 s) ∧ X14 x1 s
theorem cj_244_p14L {Q1 Q2 Q3 : lf_Z → Prop} {x1 : Int} {s : lf_Z} (hQ : ∀ (s : lf_Z), Q1 s → Q2 s → Q3 s) (h1 : fm_244_p14L Q1 x1 s) (h2 : fw_244_p14L Q2 x1 s) : fm_244_p14L Q3 x1 s := by
  intro X0 hX0
  obtain ⟨Y, hY, hY0⟩ := h2
  exact h1 (fun v0 s => Y v0 s → X0 v0 s) (fun v0 s hb hy => hX0 v0 s (cj_244_p14 (X141 := fun v0 s => Y v0 s → X0 v0 s) (X142 := Y) (X143 := X0) (hX14 := fun v0 s a b => a b) hQ hb (hY v0 s hy))) hY0
def fw_244 (Q : lf_Z → Prop) (s : lf_Z) : Prop := lf_R (s.1 96 9) → ((s.1 96 9 ≠ 30 → (fw_244_p58 Q s)) ∧ (¬ (s.1 96 9 ≠ 30) → (fw_244_p14L Q 0 s)))
theorem cj_244 {Q1 Q2 Q3 : lf_Z → Prop} {s : lf_Z} (hQ : ∀ (s : lf_Z), Q1 s → Q2 s → Q3 s) (h1 : fm_244 Q1 s) (h2 : fw_244 Q2 s) : fm_244 Q3 s := by
  unfold fm_244 at h1 ⊢
  unfold fw_244 at h2
  exact ⟨h1.1, ⟨(fun c2 => cj_244_p58 hQ (h1.2.1 c2) ((h2 h1.1).1 c2)), (fun c2 => cj_244_p14L hQ (h1.2.2 c2) ((h2 h1.1).2 c2))⟩⟩
def fw_247 (a1 : Int) (a2 : Int) (a3 : Int) (a4 : Int) (Q : lf_Z → Prop) (s : lf_Z) : Prop := (0 ≤ 114 + (3 * a1) ∧ 114 + (3 * a1) < 1538) → ((0 ≤ (114 + (3 * a1)) + 1 ∧ (114 + (3 * a1)) + 1 < 1538) → ((0 ≤ (114 + (3 * a1)) + 2 ∧ (114 + (3 * a1)) + 2 < 1538) → (Q (lf_up (lf_up (lf_up s.1 96 (114 + (3 * a1)) a2) 96 ((114 + (3 * a1)) + 1) a3) 96 ((114 + (3 * a1)) + 2) a4, s.2.1, s.2.2))))
theorem cj_247 {Q1 Q2 Q3 : lf_Z → Prop} {a1 : Int} {a2 : Int} {a3 : Int} {a4 : Int} {s : lf_Z} (hQ : ∀ (s : lf_Z), Q1 s → Q2 s → Q3 s) (h1 : fm_247 a1 a2 a3 a4 Q1 s) (h2 : fw_247 a1 a2 a3 a4 Q2 s) : fm_247 a1 a2 a3 a4 Q3 s := by
  unfold fm_247 at h1 ⊢
  unfold fw_247 at h2
  exact ⟨h1.1, ⟨h1.2.1, ⟨h1.2.2.1, hQ _  h1.2.2.2 (((h2 h1.1) h1.2.1) h1.2.2.1)⟩⟩⟩
def fw_240 (a1 : Int) (a2 : Int) (Q : Int → lf_Z → Prop) (s : lf_Z) : Prop := fw_241 (fun r22 s21 => (fw_183 a1 1 24 (fun z24 s23 => ((z24 = false → (Q (-1) s23)) ∧ (z24 = true → (fw_185 a2 (fun z26 s25 => ((z26 = false → (Q (-1) s25)) ∧ (z26 = true → (fw_243 (fun r28 s27 => (lf_R (r28 + a1) → ((24 < r28 + a1 → (Q (-1) s27)) ∧ (¬ (24 < r28 + a1) → (lf_R r22 → ((0 ≤ r22 → (fw_244 (fun s31 => (fw_247 r22 a1 a2 (-1) (fun s32 => (Q r22 s32)) s31)) s27)) ∧ (¬ (0 ≤ r22) → (Q (-1) s27)))))))) s25)))) s23)))) s21)) s
theorem cj_240 {Q1 Q2 Q3 : Int → lf_Z → Prop} {a1 : Int} {a2 : Int} {s : lf_Z} (hQ : ∀ (r : Int) (s : lf_Z), Q1 r s → Q2 r s → Q3 r s) (h1 : fm_240 a1 a2 Q1 s) (h2 : fw_240 a1 a2 Q2 s) : fm_240 a1 a2 Q3 s := by
  unfold fm_240 at h1 ⊢
  unfold fw_240 at h2
  exact cj_241 (fun r22 s21 k1 l1 => cj_183 (fun z24 s23 k2 l2 => ⟨(fun c3 => hQ _ _  (k2.1 c3) (l2.1 c3)), (fun c3 => cj_185 (fun z26 s25 k5 l5 => ⟨(fun c6 => hQ _ _  (k5.1 c6) (l5.1 c6)), (fun c6 => cj_243 (fun r28 s27 k8 l8 => ⟨k8.1, ⟨(fun c10 => hQ _ _  (k8.2.1 c10) ((l8 k8.1).1 c10)), (fun c10 => ⟨(k8.2.2 c10).1, ⟨(fun c13 => cj_244 (fun s31 k14 l14 => cj_247 (fun s32 k15 l15 => hQ _ _  k15 l15) k14 l14) ((k8.2.2 c10).2.1 c13) ((((l8 k8.1).2 c10) (k8.2.2 c10).1).1 c13)), (fun c13 => hQ _ _  ((k8.2.2 c10).2.2 c13) ((((l8 k8.1).2 c10) (k8.2.2 c10).1).2 c13))⟩⟩)⟩⟩) (k5.2 c6) (l5.2 c6))⟩) (k2.2 c3) (l2.2 c3))⟩) k1 l1) h1 h2
def fw_80 (a1 : Int) (Q : Bool → lf_Z → Prop) (s : lf_Z) : Prop := lf_R a1 → ((a1 < 0 → (Q false s)) ∧ (¬ (a1 < 0) → ((4 ≤ a1 → (Q false s)) ∧ (¬ (4 ≤ a1) → ((0 ≤ a1 ∧ a1 < 4) → (lf_R (s.1 16 a1) → ((s.1 16 a1 ≤ 0 → (Q false s)) ∧ (¬ (s.1 16 a1 ≤ 0) → (Q true s)))))))))
theorem cj_80 {Q1 Q2 Q3 : Bool → lf_Z → Prop} {a1 : Int} {s : lf_Z} (hQ : ∀ (r : Bool) (s : lf_Z), Q1 r s → Q2 r s → Q3 r s) (h1 : fm_80 a1 Q1 s) (h2 : fw_80 a1 Q2 s) : fm_80 a1 Q3 s := by
  unfold fm_80 at h1 ⊢
  unfold fw_80 at h2
  exact ⟨h1.1, ⟨(fun c2 => hQ _ _  (h1.2.1 c2) ((h2 h1.1).1 c2)), (fun c2 => ⟨(fun c4 => hQ _ _  ((h1.2.2 c2).1 c4) (((h2 h1.1).2 c2).1 c4)), (fun c4 => ⟨((h1.2.2 c2).2 c4).1, ⟨((h1.2.2 c2).2 c4).2.1, ⟨(fun c8 => hQ _ _  (((h1.2.2 c2).2 c4).2.2.1 c8) ((((((h2 h1.1).2 c2).2 c4) ((h1.2.2 c2).2 c4).1) ((h1.2.2 c2).2 c4).2.1).1 c8)), (fun c8 => hQ _ _  (((h1.2.2 c2).2 c4).2.2.2 c8) ((((((h2 h1.1).2 c2).2 c4) ((h1.2.2 c2).2 c4).1) ((h1.2.2 c2).2 c4).2.1).2 c8))⟩⟩⟩)⟩)⟩⟩
def fw_95_p59 (X2 : Int → lf_Z → Prop) (Q : lf_Z → Prop) (x1 : Int) (s : lf_Z) : Prop := X2 (x1 + 1) s
theorem cj_95_p59 {X21 X22 X23 : Int → lf_Z → Prop} {Q1 Q2 Q3 : lf_Z → Prop} {x1 : Int} {s : lf_Z} (hX2 : ∀ (v0 : Int) (v1 : lf_Z), X21 v0 v1 → X22 v0 v1 → X23 v0 v1) (hQ : ∀ (s : lf_Z), Q1 s → Q2 s → Q3 s) (h1 : fm_95_p59 X21 Q1 x1 s) (h2 : fw_95_p59 X22 Q2 x1 s) : fm_95_p59 X23 Q3 x1 s := by
  unfold fm_95_p59 at h1 ⊢
  unfold fw_95_p59 at h2
  exact hX2 _ _  h1 h2
def fw_95_p2 (Q : lf_Z → Prop) (X2 : Int → lf_Z → Prop) (x1 : Int) (s : lf_Z) : Prop := lf_R x1 → ((4 ≤ x1 → (Q s)) ∧ (¬ (4 ≤ x1) → (fw_80 x1 (fun z23 s22 => ((z23 = false → (fw_95_p59 X2 Q x1 s22)) ∧ (z23 = true → ((0 ≤ x1 ∧ x1 < 4) → ((0 ≤ s22.1 17 x1 ∧ s22.1 17 x1 < 12) → (fw_95_p59 X2 Q x1 (lf_up s22.1 21 (s22.1 17 x1) (lf_w ((s22.1 21 (s22.1 17 x1)) + (lf_w ((s22.1 16 x1) * (s22.1 3 (s22.1 17 x1)))))), s22.2.1, s22.2.2))))))) s)))
theorem cj_95_p2 {X21 X22 X23 : Int → lf_Z → Prop} {Q1 Q2 Q3 : lf_Z → Prop} {x1 : Int} {s : lf_Z} (hX2 : ∀ (v0 : Int) (v1 : lf_Z), X21 v0 v1 → X22 v0 v1 → X23 v0 v1) (hQ : ∀ (s : lf_Z), Q1 s → Q2 s → Q3 s) (h1 : fm_95_p2 Q1 X21 x1 s) (h2 : fw_95_p2 Q2 X22 x1 s) : fm_95_p2 Q3 X23 x1 s := by
  unfold fm_95_p2 at h1 ⊢
  unfold fw_95_p2 at h2
  exact ⟨h1.1, ⟨(fun c2 => hQ _  (h1.2.1 c2) ((h2 h1.1).1 c2)), (fun c2 => cj_80 (fun z23 s22 k4 l4 => ⟨(fun c5 => cj_95_p59 hX2 hQ (k4.1 c5) (l4.1 c5)), (fun c5 => ⟨(k4.2 c5).1, ⟨(k4.2 c5).2.1, cj_95_p59 hX2 hQ (k4.2 c5).2.2 (((l4.2 c5) (k4.2 c5).1) (k4.2 c5).2.1)⟩⟩)⟩) (h1.2.2 c2) ((h2 h1.1).2 c2))⟩⟩
def fw_95_p2L (Q : lf_Z → Prop) (x1 : Int) (s : lf_Z) : Prop := ∃ X2 : Int → lf_Z → Prop, (∀ (x1 : Int) (s : lf_Z), X2 x1 s → fw_95_p2 Q X2 x1 s) ∧ X2 x1 s
theorem cj_95_p2L {Q1 Q2 Q3 : lf_Z → Prop} {x1 : Int} {s : lf_Z} (hQ : ∀ (s : lf_Z), Q1 s → Q2 s → Q3 s) (h1 : fm_95_p2L Q1 x1 s) (h2 : fw_95_p2L Q2 x1 s) : fm_95_p2L Q3 x1 s := by
  intro X0 hX0
  obtain ⟨Y, hY, hY0⟩ := h2
  exact h1 (fun v0 s => Y v0 s → X0 v0 s) (fun v0 s hb hy => hX0 v0 s (cj_95_p2 (X21 := fun v0 s => Y v0 s → X0 v0 s) (X22 := Y) (X23 := X0) (hX2 := fun v0 s a b => a b) hQ hb (hY v0 s hy))) hY0
def fw_95 (Q : lf_Z → Prop) (s : lf_Z) : Prop := fw_95_p2L Q 0 s
theorem cj_95 {Q1 Q2 Q3 : lf_Z → Prop} {s : lf_Z} (hQ : ∀ (s : lf_Z), Q1 s → Q2 s → Q3 s) (h1 : fm_95 Q1 s) (h2 : fw_95 Q2 s) : fm_95 Q3 s := by
  unfold fm_95 at h1 ⊢
  unfold fw_95 at h2
  exact cj_95_p2L hQ h1 h2
def fw_96_p97 (X2 : Int → lf_Z → Prop) (Q : lf_Z → Prop) (x1 : Int) (s : lf_Z) : Prop := X2 (x1 + 1) s
theorem cj_96_p97 {X21 X22 X23 : Int → lf_Z → Prop} {Q1 Q2 Q3 : lf_Z → Prop} {x1 : Int} {s : lf_Z} (hX2 : ∀ (v0 : Int) (v1 : lf_Z), X21 v0 v1 → X22 v0 v1 → X23 v0 v1) (hQ : ∀ (s : lf_Z), Q1 s → Q2 s → Q3 s) (h1 : fm_96_p97 X21 Q1 x1 s) (h2 : fw_96_p97 X22 Q2 x1 s) : fm_96_p97 X23 Q3 x1 s := by
  unfold fm_96_p97 at h1 ⊢
  unfold fw_96_p97 at h2
  exact hX2 _ _  h1 h2
def fw_96_p91 (X2 : Int → lf_Z → Prop) (X11 : Int → lf_Z → Prop) (Q : lf_Z → Prop) (x1 : Int) (x2 : Int) (s : lf_Z) : Prop := X11 (x2 + 1) s
theorem cj_96_p91 {X21 X22 X23 : Int → lf_Z → Prop} {X111 X112 X113 : Int → lf_Z → Prop} {Q1 Q2 Q3 : lf_Z → Prop} {x1 : Int} {x2 : Int} {s : lf_Z} (hX2 : ∀ (v0 : Int) (v1 : lf_Z), X21 v0 v1 → X22 v0 v1 → X23 v0 v1) (hX11 : ∀ (v0 : Int) (v1 : lf_Z), X111 v0 v1 → X112 v0 v1 → X113 v0 v1) (hQ : ∀ (s : lf_Z), Q1 s → Q2 s → Q3 s) (h1 : fm_96_p91 X21 X111 Q1 x1 x2 s) (h2 : fw_96_p91 X22 X112 Q2 x1 x2 s) : fm_96_p91 X23 X113 Q3 x1 x2 s := by
  unfold fm_96_p91 at h1 ⊢
  unfold fw_96_p91 at h2
  exact hX11 _ _  h1 h2
def fw_96_p11 (X2 : Int → lf_Z → Prop) (Q : lf_Z → Prop) (x1 : Int) (X11 : Int → lf_Z → Prop) (x2 : Int) (s : lf_Z) : Prop := lf_R x2 → ((4 ≤ x2 → (fw_96_p97 X2 Q x1 s)) ∧ (¬ (4 ≤ x2) → (fw_80 x1 (fun z24 s23 => ((z24 = false → (fw_96_p97 X2 Q x1 s23)) ∧ (z24 = true → (fw_80 x2 (fun z26 s25 => ((z26 = false → (fw_96_p91 X2 X11 Q x1 x2 s25)) ∧ (z26 = true → ((0 ≤ x2 ∧ x2 < 4) → ((0 ≤ x1 ∧ x1 < 4) → (lf_R (s25.1 17 x2) → (lf_R (s25.1 17 x1) → ((s25.1 17 x2 ≠ s25.1 17 x1 → (fw_96_p91 X2 X11 Q x1 x2 s25)) ∧ (¬ (s25.1 17 x2 ≠ s25.1 17 x1) → (fw_69 x2 0 (-1) (-1) (fun s31 => (fw_96_p91 X2 X11 Q x1 x2 s31)) (lf_up s25.1 16 x1 (lf_w ((s25.1 16 x1) + (s25.1 16 x2))), s25.2.1, s25.2.2))))))))))) s23)))) s)))
theorem cj_96_p11 {X21 X22 X23 : Int → lf_Z → Prop} {X111 X112 X113 : Int → lf_Z → Prop} {Q1 Q2 Q3 : lf_Z → Prop} {x1 : Int} {x2 : Int} {s : lf_Z} (hX2 : ∀ (v0 : Int) (v1 : lf_Z), X21 v0 v1 → X22 v0 v1 → X23 v0 v1) (hX11 : ∀ (v0 : Int) (v1 : lf_Z), X111 v0 v1 → X112 v0 v1 → X113 v0 v1) (hQ : ∀ (s : lf_Z), Q1 s → Q2 s → Q3 s) (h1 : fm_96_p11 X21 Q1 x1 X111 x2 s) (h2 : fw_96_p11 X22 Q2 x1 X112 x2 s) : fm_96_p11 X23 Q3 x1 X113 x2 s := by
  unfold fm_96_p11 at h1 ⊢
  unfold fw_96_p11 at h2
  exact ⟨h1.1, ⟨(fun c2 => cj_96_p97 hX2 hQ (h1.2.1 c2) ((h2 h1.1).1 c2)), (fun c2 => cj_80 (fun z24 s23 k4 l4 => ⟨(fun c5 => cj_96_p97 hX2 hQ (k4.1 c5) (l4.1 c5)), (fun c5 => cj_80 (fun z26 s25 k7 l7 => ⟨(fun c8 => cj_96_p91 hX2 hX11 hQ (k7.1 c8) (l7.1 c8)), (fun c8 => ⟨(k7.2 c8).1, ⟨(k7.2 c8).2.1, ⟨(k7.2 c8).2.2.1, ⟨(k7.2 c8).2.2.2.1, ⟨(fun c14 => cj_96_p91 hX2 hX11 hQ ((k7.2 c8).2.2.2.2.1 c14) ((((((l7.2 c8) (k7.2 c8).1) (k7.2 c8).2.1) (k7.2 c8).2.2.1) (k7.2 c8).2.2.2.1).1 c14)), (fun c14 => cj_69 (fun s31 k16 l16 => cj_96_p91 hX2 hX11 hQ k16 l16) ((k7.2 c8).2.2.2.2.2 c14) ((((((l7.2 c8) (k7.2 c8).1) (k7.2 c8).2.1) (k7.2 c8).2.2.1) (k7.2 c8).2.2.2.1).2 c14))⟩⟩⟩⟩⟩)⟩) (k4.2 c5) (l4.2 c5))⟩) (h1.2.2 c2) ((h2 h1.1).2 c2))⟩⟩
def fw_96_p11L (X2 : Int → lf_Z → Prop) (Q : lf_Z → Prop) (x1 : Int) (x2 : Int) (s : lf_Z) : Prop := ∃ X11 : Int → lf_Z → Prop, (∀ (x2 : Int) (s : lf_Z), X11 x2 s → fw_96_p11 X2 Q x1 X11 x2 s) ∧ X11 x2 s
theorem cj_96_p11L {X21 X22 X23 : Int → lf_Z → Prop} {Q1 Q2 Q3 : lf_Z → Prop} {x1 : Int} {x2 : Int} {s : lf_Z} (hX2 : ∀ (v0 : Int) (v1 : lf_Z), X21 v0 v1 → X22 v0 v1 → X23 v0 v1) (hQ : ∀ (s : lf_Z), Q1 s → Q2 s → Q3 s) (h1 : fm_96_p11L X21 Q1 x1 x2 s) (h2 : fw_96_p11L X22 Q2 x1 x2 s) : fm_96_p11L X23 Q3 x1 x2 s := by
  intro X0 hX0
  obtain ⟨Y, hY, hY0⟩ := h2
  exact h1 (fun v0 s => Y v0 s → X0 v0 s) (fun v0 s hb hy => hX0 v0 s (cj_96_p11 (hX2 := hX2) (X111 := fun v0 s => Y v0 s → X0 v0 s) (X112 := Y) (X113 := X0) (hX11 := fun v0 s a b => a b) hQ hb (hY v0 s hy))) hY0
def fw_96_p2 (Q : lf_Z → Prop) (X2 : Int → lf_Z → Prop) (x1 : Int) (s : lf_Z) : Prop := lf_R x1 → ((4 ≤ x1 → (Q s)) ∧ (¬ (4 ≤ x1) → (fw_96_p11L X2 Q x1 (x1 + 1) s)))
theorem cj_96_p2 {X21 X22 X23 : Int → lf_Z → Prop} {Q1 Q2 Q3 : lf_Z → Prop} {x1 : Int} {s : lf_Z} (hX2 : ∀ (v0 : Int) (v1 : lf_Z), X21 v0 v1 → X22 v0 v1 → X23 v0 v1) (hQ : ∀ (s : lf_Z), Q1 s → Q2 s → Q3 s) (h1 : fm_96_p2 Q1 X21 x1 s) (h2 : fw_96_p2 Q2 X22 x1 s) : fm_96_p2 Q3 X23 x1 s := by
  unfold fm_96_p2 at h1 ⊢
  unfold fw_96_p2 at h2
  exact ⟨h1.1, ⟨(fun c2 => hQ _  (h1.2.1 c2) ((h2 h1.1).1 c2)), (fun c2 => cj_96_p11L hX2 hQ (h1.2.2 c2) ((h2 h1.1).2 c2))⟩⟩
def fw_96_p2L (Q : lf_Z → Prop) (x1 : Int) (s : lf_Z) : Prop := ∃ X2 : Int → lf_Z → Prop, (∀ (x1 : Int) (s : lf_Z), X2 x1 s → fw_96_p2 Q X2 x1 s) ∧ X2 x1 s
theorem cj_96_p2L {Q1 Q2 Q3 : lf_Z → Prop} {x1 : Int} {s : lf_Z} (hQ : ∀ (s : lf_Z), Q1 s → Q2 s → Q3 s) (h1 : fm_96_p2L Q1 x1 s) (h2 : fw_96_p2L Q2 x1 s) : fm_96_p2L Q3 x1 s := by
  intro X0 hX0
  obtain ⟨Y, hY, hY0⟩ := h2
  exact h1 (fun v0 s => Y v0 s → X0 v0 s) (fun v0 s hb hy => hX0 v0 s (cj_96_p2 (X21 := fun v0 s => Y v0 s → X0 v0 s) (X22 := Y) (X23 := X0) (hX2 := fun v0 s a b => a b) hQ hb (hY v0 s hy))) hY0
def fw_96 (Q : lf_Z → Prop) (s : lf_Z) : Prop := fw_96_p2L Q 0 s
theorem cj_96 {Q1 Q2 Q3 : lf_Z → Prop} {s : lf_Z} (hQ : ∀ (s : lf_Z), Q1 s → Q2 s → Q3 s) (h1 : fm_96 Q1 s) (h2 : fw_96 Q2 s) : fm_96 Q3 s := by
  unfold fm_96 at h1 ⊢
  unfold fw_96 at h2
  exact cj_96_p2L hQ h1 h2
def fw_76 (a1 : Int) (Q : Int → lf_Z → Prop) (s : lf_Z) : Prop := fw_18 a1 (fun z22 s21 => ((z22 = false → (Q 0 s21)) ∧ (z22 = true → ((0 ≤ a1 ∧ a1 < 12) → (Q (s21.1 12 a1) s21))))) s
theorem cj_76 {Q1 Q2 Q3 : Int → lf_Z → Prop} {a1 : Int} {s : lf_Z} (hQ : ∀ (r : Int) (s : lf_Z), Q1 r s → Q2 r s → Q3 r s) (h1 : fm_76 a1 Q1 s) (h2 : fw_76 a1 Q2 s) : fm_76 a1 Q3 s := by
  unfold fm_76 at h1 ⊢
  unfold fw_76 at h2
  exact cj_18 (fun z22 s21 k1 l1 => ⟨(fun c2 => hQ _ _  (k1.1 c2) (l1.1 c2)), (fun c2 => ⟨(k1.2 c2).1, hQ _ _  (k1.2 c2).2 ((l1.2 c2) (k1.2 c2).1)⟩)⟩) h1 h2
def fw_77 (a1 : Int) (a2 : Int) (Q : Int → lf_Z → Prop) (s : lf_Z) : Prop := fw_18 a1 (fun z22 s21 => ((z22 = false → (Q (-1) s21)) ∧ (z22 = true → (lf_R a2 → ((a2 < 0 → (Q (-1) s21)) ∧ (¬ (a2 < 0) → ((0 ≤ a1 ∧ a1 < 12) → (lf_R (s21.1 12 a1) → ((a2 < s21.1 12 a1 → ((0 ≤ (a1 * 4) + a2 ∧ (a1 * 4) + a2 < 48) → (Q (s21.1 11 ((a1 * 4) + a2)) s21))) ∧ (¬ (a2 < s21.1 12 a1) → (Q (-1) s21))))))))))) s
theorem cj_77 {Q1 Q2 Q3 : Int → lf_Z → Prop} {a1 : Int} {a2 : Int} {s : lf_Z} (hQ : ∀ (r : Int) (s : lf_Z), Q1 r s → Q2 r s → Q3 r s) (h1 : fm_77 a1 a2 Q1 s) (h2 : fw_77 a1 a2 Q2 s) : fm_77 a1 a2 Q3 s := by
  unfold fm_77 at h1 ⊢
  unfold fw_77 at h2
  exact cj_18 (fun z22 s21 k1 l1 => ⟨(fun c2 => hQ _ _  (k1.1 c2) (l1.1 c2)), (fun c2 => ⟨(k1.2 c2).1, ⟨(fun c5 => hQ _ _  ((k1.2 c2).2.1 c5) (((l1.2 c2) (k1.2 c2).1).1 c5)), (fun c5 => ⟨((k1.2 c2).2.2 c5).1, ⟨((k1.2 c2).2.2 c5).2.1, ⟨(fun c9 => ⟨(((k1.2 c2).2.2 c5).2.2.1 c9).1, hQ _ _  (((k1.2 c2).2.2 c5).2.2.1 c9).2 (((((((l1.2 c2) (k1.2 c2).1).2 c5) ((k1.2 c2).2.2 c5).1) ((k1.2 c2).2.2 c5).2.1).1 c9) (((k1.2 c2).2.2 c5).2.2.1 c9).1)⟩), (fun c9 => hQ _ _  (((k1.2 c2).2.2 c5).2.2.2 c9) ((((((l1.2 c2) (k1.2 c2).1).2 c5) ((k1.2 c2).2.2 c5).1) ((k1.2 c2).2.2 c5).2.1).2 c9))⟩⟩⟩)⟩⟩)⟩) h1 h2
def fw_79 (a1 : Int) (Q : Bool → lf_Z → Prop) (s : lf_Z) : Prop := lf_R a1 → ((a1 < 0 → (Q false s)) ∧ (¬ (a1 < 0) → (lf_R (s.1 1 1) → ((s.1 1 1 ≤ a1 → (Q false s)) ∧ (¬ (s.1 1 1 ≤ a1) → (Q true s))))))
theorem cj_79 {Q1 Q2 Q3 : Bool → lf_Z → Prop} {a1 : Int} {s : lf_Z} (hQ : ∀ (r : Bool) (s : lf_Z), Q1 r s → Q2 r s → Q3 r s) (h1 : fm_79 a1 Q1 s) (h2 : fw_79 a1 Q2 s) : fm_79 a1 Q3 s := by
  unfold fm_79 at h1 ⊢
  unfold fw_79 at h2
  exact ⟨h1.1, ⟨(fun c2 => hQ _ _  (h1.2.1 c2) ((h2 h1.1).1 c2)), (fun c2 => ⟨(h1.2.2 c2).1, ⟨(fun c5 => hQ _ _  ((h1.2.2 c2).2.1 c5) ((((h2 h1.1).2 c2) (h1.2.2 c2).1).1 c5)), (fun c5 => hQ _ _  ((h1.2.2 c2).2.2 c5) ((((h2 h1.1).2 c2) (h1.2.2 c2).1).2 c5))⟩⟩)⟩⟩
def fw_78 (a1 : Int) (a2 : Int) (Q : Int → lf_Z → Prop) (s : lf_Z) : Prop := fw_79 a1 (fun z22 s21 => ((z22 = true → ((0 ≤ a1 ∧ a1 < 16) → (lf_R (s21.1 4 a1) → (lf_R a2 → ((s21.1 4 a1 ≠ a2 → (lf_R (s21.1 5 a1) → ((s21.1 5 a1 ≠ a2 → (Q (-1) s21)) ∧ (¬ (s21.1 5 a1 ≠ a2) → (Q (s21.1 4 a1) s21))))) ∧ (¬ (s21.1 4 a1 ≠ a2) → (Q (s21.1 5 a1) s21))))))) ∧ (z22 = false → (Q (-1) s21)))) s
theorem cj_78 {Q1 Q2 Q3 : Int → lf_Z → Prop} {a1 : Int} {a2 : Int} {s : lf_Z} (hQ : ∀ (r : Int) (s : lf_Z), Q1 r s → Q2 r s → Q3 r s) (h1 : fm_78 a1 a2 Q1 s) (h2 : fw_78 a1 a2 Q2 s) : fm_78 a1 a2 Q3 s := by
  unfold fm_78 at h1 ⊢
  unfold fw_78 at h2
  exact cj_79 (fun z22 s21 k1 l1 => ⟨(fun c2 => ⟨(k1.1 c2).1, ⟨(k1.1 c2).2.1, ⟨(k1.1 c2).2.2.1, ⟨(fun c6 => ⟨((k1.1 c2).2.2.2.1 c6).1, ⟨(fun c8 => hQ _ _  (((k1.1 c2).2.2.2.1 c6).2.1 c8) (((((((l1.1 c2) (k1.1 c2).1) (k1.1 c2).2.1) (k1.1 c2).2.2.1).1 c6) ((k1.1 c2).2.2.2.1 c6).1).1 c8)), (fun c8 => hQ _ _  (((k1.1 c2).2.2.2.1 c6).2.2 c8) (((((((l1.1 c2) (k1.1 c2).1) (k1.1 c2).2.1) (k1.1 c2).2.2.1).1 c6) ((k1.1 c2).2.2.2.1 c6).1).2 c8))⟩⟩), (fun c6 => hQ _ _  ((k1.1 c2).2.2.2.2 c6) (((((l1.1 c2) (k1.1 c2).1) (k1.1 c2).2.1) (k1.1 c2).2.2.1).2 c6))⟩⟩⟩⟩), (fun c2 => hQ _ _  (k1.2 c2) (l1.2 c2))⟩) h1 h2
def fw_89 (a1 : Int) (Q : Bool → lf_Z → Prop) (s : lf_Z) : Prop := lf_R a1 → ((a1 < 0 → (Q false s)) ∧ (¬ (a1 < 0) → (lf_R (s.1 1 1) → ((s.1 1 1 ≤ a1 → (Q false s)) ∧ (¬ (s.1 1 1 ≤ a1) → ((0 ≤ a1 ∧ a1 < 16) → (lf_R (s.1 6 a1) → ((s.1 6 a1 ≠ 0 → (Q false s)) ∧ (¬ (s.1 6 a1 ≠ 0) → (Q true s))))))))))
theorem cj_89 {Q1 Q2 Q3 : Bool → lf_Z → Prop} {a1 : Int} {s : lf_Z} (hQ : ∀ (r : Bool) (s : lf_Z), Q1 r s → Q2 r s → Q3 r s) (h1 : fm_89 a1 Q1 s) (h2 : fw_89 a1 Q2 s) : fm_89 a1 Q3 s := by
  unfold fm_89 at h1 ⊢
  unfold fw_89 at h2
  exact ⟨h1.1, ⟨(fun c2 => hQ _ _  (h1.2.1 c2) ((h2 h1.1).1 c2)), (fun c2 => ⟨(h1.2.2 c2).1, ⟨(fun c5 => hQ _ _  ((h1.2.2 c2).2.1 c5) ((((h2 h1.1).2 c2) (h1.2.2 c2).1).1 c5)), (fun c5 => ⟨((h1.2.2 c2).2.2 c5).1, ⟨((h1.2.2 c2).2.2 c5).2.1, ⟨(fun c9 => hQ _ _  (((h1.2.2 c2).2.2 c5).2.2.1 c9) (((((((h2 h1.1).2 c2) (h1.2.2 c2).1).2 c5) ((h1.2.2 c2).2.2 c5).1) ((h1.2.2 c2).2.2 c5).2.1).1 c9)), (fun c9 => hQ _ _  (((h1.2.2 c2).2.2 c5).2.2.2 c9) (((((((h2 h1.1).2 c2) (h1.2.2 c2).1).2 c5) ((h1.2.2 c2).2.2 c5).1) ((h1.2.2 c2).2.2 c5).2.1).2 c9))⟩⟩⟩)⟩⟩)⟩⟩
def fw_90 (a1 : Int) (Q : Bool → lf_Z → Prop) (s : lf_Z) : Prop := (lf_and (lf_shr (s.1 15 6) a1) 1 ≠ 0 → (Q false s)) ∧ (¬ (lf_and (lf_shr (s.1 15 6) a1) 1 ≠ 0) → (Q true s))
theorem cj_90 {Q1 Q2 Q3 : Bool → lf_Z → Prop} {a1 : Int} {s : lf_Z} (hQ : ∀ (r : Bool) (s : lf_Z), Q1 r s → Q2 r s → Q3 r s) (h1 : fm_90 a1 Q1 s) (h2 : fw_90 a1 Q2 s) : fm_90 a1 Q3 s := by
  unfold fm_90 at h1 ⊢
  unfold fw_90 at h2
  exact ⟨(fun c1 => hQ _ _  (h1.1 c1) (h2.1 c1)), (fun c1 => hQ _ _  (h1.2 c1) (h2.2 c1))⟩
def fw_83_p31 (X4 : Int → Int → lf_Z → Prop) (Q : Int → lf_Z → Prop) (x1 : Int) (x2 : Int) (x3 : Int) (s : lf_Z) : Prop := X4 x2 (x3 + 1) s
theorem cj_83_p31 {X41 X42 X43 : Int → Int → lf_Z → Prop} {Q1 Q2 Q3 : Int → lf_Z → Prop} {x1 : Int} {x2 : Int} {x3 : Int} {s : lf_Z} (hX4 : ∀ (v0 : Int) (v1 : Int) (v2 : lf_Z), X41 v0 v1 v2 → X42 v0 v1 v2 → X43 v0 v1 v2) (hQ : ∀ (r : Int) (s : lf_Z), Q1 r s → Q2 r s → Q3 r s) (h1 : fm_83_p31 X41 Q1 x1 x2 x3 s) (h2 : fw_83_p31 X42 Q2 x1 x2 x3 s) : fm_83_p31 X43 Q3 x1 x2 x3 s := by
  unfold fm_83_p31 at h1 ⊢
  unfold fw_83_p31 at h2
  exact hX4 _ _ _  h1 h2
def fw_83_p4 (Q : Int → lf_Z → Prop) (x1 : Int) (X4 : Int → Int → lf_Z → Prop) (x2 : Int) (x3 : Int) (s : lf_Z) : Prop := lf_R x3 → (lf_R (s.1 1 2) → ((s.1 1 2 ≤ x3 → (Q x2 s)) ∧ (¬ (s.1 1 2 ≤ x3) → ((0 ≤ x3 ∧ x3 < 6) → (lf_R (s.1 19 x3) → (lf_R x1 → ((s.1 19 x3 ≠ x1 → (fw_83_p31 X4 Q x1 x2 x3 s)) ∧ (¬ (s.1 19 x3 ≠ x1) → (fw_83_p31 X4 Q x1 (x2 + 1) x3 s)))))))))
theorem cj_83_p4 {X41 X42 X43 : Int → Int → lf_Z → Prop} {Q1 Q2 Q3 : Int → lf_Z → Prop} {x1 : Int} {x2 : Int} {x3 : Int} {s : lf_Z} (hX4 : ∀ (v0 : Int) (v1 : Int) (v2 : lf_Z), X41 v0 v1 v2 → X42 v0 v1 v2 → X43 v0 v1 v2) (hQ : ∀ (r : Int) (s : lf_Z), Q1 r s → Q2 r s → Q3 r s) (h1 : fm_83_p4 Q1 x1 X41 x2 x3 s) (h2 : fw_83_p4 Q2 x1 X42 x2 x3 s) : fm_83_p4 Q3 x1 X43 x2 x3 s := by
  unfold fm_83_p4 at h1 ⊢
  unfold fw_83_p4 at h2
  exact ⟨h1.1, ⟨h1.2.1, ⟨(fun c3 => hQ _ _  (h1.2.2.1 c3) (((h2 h1.1) h1.2.1).1 c3)), (fun c3 => ⟨(h1.2.2.2 c3).1, ⟨(h1.2.2.2 c3).2.1, ⟨(h1.2.2.2 c3).2.2.1, ⟨(fun c8 => cj_83_p31 hX4 hQ ((h1.2.2.2 c3).2.2.2.1 c8) (((((((h2 h1.1) h1.2.1).2 c3) (h1.2.2.2 c3).1) (h1.2.2.2 c3).2.1) (h1.2.2.2 c3).2.2.1).1 c8)), (fun c8 => cj_83_p31 hX4 hQ ((h1.2.2.2 c3).2.2.2.2 c8) (((((((h2 h1.1) h1.2.1).2 c3) (h1.2.2.2 c3).1) (h1.2.2.2 c3).2.1) (h1.2.2.2 c3).2.2.1).2 c8))⟩⟩⟩⟩)⟩⟩⟩
def fw_83_p4L (Q : Int → lf_Z → Prop) (x1 : Int) (x2 : Int) (x3 : Int) (s : lf_Z) : Prop := ∃ X4 : Int → Int → lf_Z → Prop, (∀ (x2 : Int) (x3 : Int) (s : lf_Z), X4 x2 x3 s → fw_83_p4 Q x1 X4 x2 x3 s) ∧ X4 x2 x3 s
theorem cj_83_p4L {Q1 Q2 Q3 : Int → lf_Z → Prop} {x1 : Int} {x2 : Int} {x3 : Int} {s : lf_Z} (hQ : ∀ (r : Int) (s : lf_Z), Q1 r s → Q2 r s → Q3 r s) (h1 : fm_83_p4L Q1 x1 x2 x3 s) (h2 : fw_83_p4L Q2 x1 x2 x3 s) : fm_83_p4L Q3 x1 x2 x3 s := by
  intro X0 hX0
  obtain ⟨Y, hY, hY0⟩ := h2
  exact h1 (fun v0 v1 s => Y v0 v1 s → X0 v0 v1 s) (fun v0 v1 s hb hy => hX0 v0 v1 s (cj_83_p4 (X41 := fun v0 v1 s => Y v0 v1 s → X0 v0 v1 s) (X42 := Y) (X43 := X0) (hX4 := fun v0 v1 s a b => a b) hQ hb (hY v0 v1 s hy))) hY0
def fw_83 (a1 : Int) (Q : Int → lf_Z → Prop) (s : lf_Z) : Prop := fw_83_p4L Q a1 0 0 s
theorem cj_83 {Q1 Q2 Q3 : Int → lf_Z → Prop} {a1 : Int} {s : lf_Z} (hQ : ∀ (r : Int) (s : lf_Z), Q1 r s → Q2 r s → Q3 r s) (h1 : fm_83 a1 Q1 s) (h2 : fw_83 a1 Q2 s) : fm_83 a1 Q3 s := by
  unfold fm_83 at h1 ⊢
  unfold fw_83 at h2
  exact cj_83_p4L hQ h1 h2
def fw_82_p43 (Q : lf_Z → Prop) (x2 : Int) (x3 : Int) (y1 : Int) (y2 : Int) (s : lf_Z) : Prop := (0 ≤ y1 ∧ y1 < 11) → (fw_83 x2 (fun r25 s24 => (Q (lf_up s24.1 64 3 (r25 + x3), s24.2.1, s24.2.2))) (lf_up s.1 64 y1 y2, s.2.1, s.2.2))
theorem cj_82_p43 {Q1 Q2 Q3 : lf_Z → Prop} {x2 : Int} {x3 : Int} {y1 : Int} {y2 : Int} {s : lf_Z} (hQ : ∀ (s : lf_Z), Q1 s → Q2 s → Q3 s) (h1 : fm_82_p43 Q1 x2 x3 y1 y2 s) (h2 : fw_82_p43 Q2 x2 x3 y1 y2 s) : fm_82_p43 Q3 x2 x3 y1 y2 s := by
  unfold fm_82_p43 at h1 ⊢
  unfold fw_82_p43 at h2
  exact ⟨h1.1, cj_83 (fun r25 s24 k2 l2 => hQ _  k2 l2) h1.2 (h2 h1.1)⟩
def fw_82 (a1 : Int) (a2 : Int) (a3 : Int) (Q : lf_Z → Prop) (s : lf_Z) : Prop := fw_18 a2 (fun z22 s21 => ((z22 = false → (fw_82_p43 Q a2 a3 2 0 s21)) ∧ (z22 = true → ((0 ≤ a2 ∧ a2 < 12) → (fw_82_p43 Q a2 a3 2 (s21.1 2 a2) s21))))) (lf_up (lf_up s.1 64 0 a1) 64 1 a2, s.2.1, s.2.2)
theorem cj_82 {Q1 Q2 Q3 : lf_Z → Prop} {a1 : Int} {a2 : Int} {a3 : Int} {s : lf_Z} (hQ : ∀ (s : lf_Z), Q1 s → Q2 s → Q3 s) (h1 : fm_82 a1 a2 a3 Q1 s) (h2 : fw_82 a1 a2 a3 Q2 s) : fm_82 a1 a2 a3 Q3 s := by
  unfold fm_82 at h1 ⊢
  unfold fw_82 at h2
  exact cj_18 (fun z22 s21 k1 l1 => ⟨(fun c2 => cj_82_p43 hQ (k1.1 c2) (l1.1 c2)), (fun c2 => ⟨(k1.2 c2).1, cj_82_p43 hQ (k1.2 c2).2 ((l1.2 c2) (k1.2 c2).1)⟩)⟩) h1 h2
def fw_84 (a2 : Int) (Q : Int → lf_Z → Prop) (s : lf_Z) : Prop := True
theorem cj_84 {Q1 Q2 Q3 : Int → lf_Z → Prop} {a2 : Int} {s : lf_Z} (hQ : ∀ (r : Int) (s : lf_Z), Q1 r s → Q2 r s → Q3 r s) (h1 : fm_84 a2 Q1 s) (h2 : fw_84 a2 Q2 s) : fm_84 a2 Q3 s := by
  unfold fm_84 at h1 ⊢
  unfold fw_84 at h2
  exact h1.elim
def fw_86 (Q : Int → lf_Z → Prop) (s : lf_Z) : Prop := lf_R (s.1 63 6) → ((s.1 63 6 ≠ 0 → ((0 ≤ (s.1 63 6) - 1 ∧ (s.1 63 6) - 1 < 300) → (Q (s.1 66 ((s.1 63 6) - 1)) (lf_up s.1 63 6 ((s.1 63 6) - 1), s.2.1, s.2.2)))) ∧ (¬ (s.1 63 6 ≠ 0) → (Q 0 s)))
theorem cj_86 {Q1 Q2 Q3 : Int → lf_Z → Prop} {s : lf_Z} (hQ : ∀ (r : Int) (s : lf_Z), Q1 r s → Q2 r s → Q3 r s) (h1 : fm_86 Q1 s) (h2 : fw_86 Q2 s) : fm_86 Q3 s := by
  unfold fm_86 at h1 ⊢
  unfold fw_86 at h2
  exact ⟨h1.1, ⟨(fun c2 => ⟨(h1.2.1 c2).1, hQ _ _  (h1.2.1 c2).2 (((h2 h1.1).1 c2) (h1.2.1 c2).1)⟩), (fun c2 => hQ _ _  (h1.2.2 c2) ((h2 h1.1).2 c2))⟩⟩
def fw_87_p310 (Q : Int → lf_Z → Prop) (x1 : Int) (x2 : Int) (s : lf_Z) : Prop := lf_R x1 → (lf_R x2 → ((x1 = x2 → (Q 0 s)) ∧ (¬ (x1 = x2) → (Q 1 s))))
theorem cj_87_p310 {Q1 Q2 Q3 : Int → lf_Z → Prop} {x1 : Int} {x2 : Int} {s : lf_Z} (hQ : ∀ (r : Int) (s : lf_Z), Q1 r s → Q2 r s → Q3 r s) (h1 : fm_87_p310 Q1 x1 x2 s) (h2 : fw_87_p310 Q2 x1 x2 s) : fm_87_p310 Q3 x1 x2 s := by
  unfold fm_87_p310 at h1 ⊢
  unfold fw_87_p310 at h2
  exact ⟨h1.1, ⟨h1.2.1, ⟨(fun c3 => hQ _ _  (h1.2.2.1 c3) (((h2 h1.1) h1.2.1).1 c3)), (fun c3 => hQ _ _  (h1.2.2.2 c3) (((h2 h1.1) h1.2.1).2 c3))⟩⟩⟩
def fw_87 (a0 : Int) (a1 : Int) (a2 : Int) (Q : Int → lf_Z → Prop) (s : lf_Z) : Prop := lf_R a0 → ((a0 < 4 ∨ 46 < a0 → (fw_87_p310 Q a1 a2 s)) ∧ (a0 = 4 → (lf_R a1 → (lf_R a2 → ((a2 ≤ a1 → (Q 0 s)) ∧ (¬ (a2 ≤ a1) → (Q 1 s)))))) ∧ (a0 = 5 → (lf_R a1 → (lf_R a2 → ((a2 < a1 → (Q 0 s)) ∧ (¬ (a2 < a1) → (Q 1 s)))))) ∧ (a0 = 6 → (lf_R a1 → (lf_R a2 → ((a1 ≤ a2 → (Q 0 s)) ∧ (¬ (a1 ≤ a2) → (Q 1 s)))))) ∧ (a0 = 7 → (lf_R a1 → (lf_R a2 → ((a1 < a2 → (Q 0 s)) ∧ (¬ (a1 < a2) → (Q 1 s)))))) ∧ (a0 = 8 → (lf_R a1 → (lf_R a2 → ((a1 ≠ a2 → (Q 0 s)) ∧ (¬ (a1 ≠ a2) → (Q 1 s)))))) ∧ (a0 = 9 → (fw_87_p310 Q a1 a2 s)) ∧ (a0 = 10 → (lf_R (min 1000000 (lf_w (a1 + a2))) → (Q (max (-1000000) (min 1000000 (lf_w (a1 + a2)))) s))) ∧ (a0 = 11 → (lf_R (min 1000000 (lf_w (a1 - a2))) → (Q (max (-1000000) (min 1000000 (lf_w (a1 - a2)))) s))) ∧ (a0 = 12 → (lf_R a1 → (lf_R a2 → (Q (lf_w (lf_wl (max (-1000000) (lf_wl (min 1000000 (lf_wl (a1 * a2))))))) s)))) ∧ (a0 = 13 → (lf_R a2 → ((a2 ≠ 0 → (lf_R a1 → (a2 ≠ 0 → (Q (lf_w (a1.tdiv a2)) s)))) ∧ (¬ (a2 ≠ 0) → (Q 0 s))))) ∧ (a0 = 14 → (fw_87_p310 Q a1 a2 s)) ∧ (a0 = 15 → (fw_87_p310 Q a1 a2 s)) ∧ (a0 = 16 → (fw_87_p310 Q a1 a2 s)) ∧ (a0 = 17 → (fw_87_p310 Q a1 a2 s)) ∧ (a0 = 18 → (fw_87_p310 Q a1 a2 s)) ∧ (a0 = 19 → (fw_87_p310 Q a1 a2 s)) ∧ (a0 = 20 → (fw_87_p310 Q a1 a2 s)) ∧ (a0 = 21 → (fw_87_p310 Q a1 a2 s)) ∧ (a0 = 22 → (fw_87_p310 Q a1 a2 s)) ∧ (a0 = 23 → (fw_87_p310 Q a1 a2 s)) ∧ (a0 = 24 → (fw_87_p310 Q a1 a2 s)) ∧ (a0 = 25 → (fw_87_p310 Q a1 a2 s)) ∧ (a0 = 26 → (fw_87_p310 Q a1 a2 s)) ∧ (a0 = 27 → (fw_87_p310 Q a1 a2 s)) ∧ (a0 = 28 → (fw_87_p310 Q a1 a2 s)) ∧ (a0 = 29 → (fw_87_p310 Q a1 a2 s)) ∧ (a0 = 30 → (fw_87_p310 Q a1 a2 s)) ∧ (a0 = 31 → (fw_87_p310 Q a1 a2 s)) ∧ (a0 = 32 → (fw_87_p310 Q a1 a2 s)) ∧ (a0 = 33 → (fw_87_p310 Q a1 a2 s)) ∧ (a0 = 34 → (fw_87_p310 Q a1 a2 s)) ∧ (a0 = 35 → (fw_87_p310 Q a1 a2 s)) ∧ (a0 = 36 → (fw_87_p310 Q a1 a2 s)) ∧ (a0 = 37 → (fw_87_p310 Q a1 a2 s)) ∧ (a0 = 38 → (fw_87_p310 Q a1 a2 s)) ∧ (a0 = 39 → (fw_87_p310 Q a1 a2 s)) ∧ (a0 = 40 → (fw_87_p310 Q a1 a2 s)) ∧ (a0 = 41 → (fw_87_p310 Q a1 a2 s)) ∧ (a0 = 42 → (fw_87_p310 Q a1 a2 s)) ∧ (a0 = 43 → (fw_87_p310 Q a1 a2 s)) ∧ (a0 = 44 → (fw_87_p310 Q a1 a2 s)) ∧ (a0 = 45 → (Q (lf_and a1 a2) s)) ∧ (a0 = 46 → (Q (lf_or a1 a2) s)))
theorem cj_87 {Q1 Q2 Q3 : Int → lf_Z → Prop} {a0 : Int} {a1 : Int} {a2 : Int} {s : lf_Z} (hQ : ∀ (r : Int) (s : lf_Z), Q1 r s → Q2 r s → Q3 r s) (h1 : fm_87 a0 a1 a2 Q1 s) (h2 : fw_87 a0 a1 a2 Q2 s) : fm_87 a0 a1 a2 Q3 s := by
  unfold fm_87 at h1 ⊢
  unfold fw_87 at h2
  exact ⟨h1.1, ⟨(fun c2 => cj_87_p310 hQ (h1.2.1 c2) ((h2 h1.1).1 c2)), (fun c2 => ⟨(h1.2.2.1 c2).1, ⟨(h1.2.2.1 c2).2.1, ⟨(fun c6 => hQ _ _  ((h1.2.2.1 c2).2.2.1 c6) (((((h2 h1.1).2.1 c2) (h1.2.2.1 c2).1) (h1.2.2.1 c2).2.1).1 c6)), (fun c6 => hQ _ _  ((h1.2.2.1 c2).2.2.2 c6) (((((h2 h1.1).2.1 c2) (h1.2.2.1 c2).1) (h1.2.2.1 c2).2.1).2 c6))⟩⟩⟩), (fun c2 => ⟨(h1.2.2.2.1 c2).1, ⟨(h1.2.2.2.1 c2).2.1, ⟨(fun c11 => hQ _ _  ((h1.2.2.2.1 c2).2.2.1 c11) (((((h2 h1.1).2.2.1 c2) (h1.2.2.2.1 c2).1) (h1.2.2.2.1 c2).2.1).1 c11)), (fun c11 => hQ _ _  ((h1.2.2.2.1 c2).2.2.2 c11) (((((h2 h1.1).2.2.1 c2) (h1.2.2.2.1 c2).1) (h1.2.2.2.1 c2).2.1).2 c11))⟩⟩⟩), (fun c2 => ⟨(h1.2.2.2.2.1 c2).1, ⟨(h1.2.2.2.2.1 c2).2.1, ⟨(fun c16 => hQ _ _  ((h1.2.2.2.2.1 c2).2.2.1 c16) (((((h2 h1.1).2.2.2.1 c2) (h1.2.2.2.2.1 c2).1) (h1.2.2.2.2.1 c2).2.1).1 c16)), (fun c16 => hQ _ _  ((h1.2.2.2.2.1 c2).2.2.2 c16) (((((h2 h1.1).2.2.2.1 c2) (h1.2.2.2.2.1 c2).1) (h1.2.2.2.2.1 c2).2.1).2 c16))⟩⟩⟩), (fun c2 => ⟨(h1.2.2.2.2.2.1 c2).1, ⟨(h1.2.2.2.2.2.1 c2).2.1, ⟨(fun c21 => hQ _ _  ((h1.2.2.2.2.2.1 c2).2.2.1 c21) (((((h2 h1.1).2.2.2.2.1 c2) (h1.2.2.2.2.2.1 c2).1) (h1.2.2.2.2.2.1 c2).2.1).1 c21)), (fun c21 => hQ _ _  ((h1.2.2.2.2.2.1 c2).2.2.2 c21) (((((h2 h1.1).2.2.2.2.1 c2) (h1.2.2.2.2.2.1 c2).1) (h1.2.2.2.2.2.1 c2).2.1).2 c21))⟩⟩⟩), (fun c2 => ⟨(h1.2.2.2.2.2.2.1 c2).1, ⟨(h1.2.2.2.2.2.2.1 c2).2.1, ⟨(fun c26 => hQ _ _  ((h1.2.2.2.2.2.2.1 c2).2.2.1 c26) (((((h2 h1.1).2.2.2.2.2.1 c2) (h1.2.2.2.2.2.2.1 c2).1) (h1.2.2.2.2.2.2.1 c2).2.1).1 c26)), (fun c26 => hQ _ _  ((h1.2.2.2.2.2.2.1 c2).2.2.2 c26) (((((h2 h1.1).2.2.2.2.2.1 c2) (h1.2.2.2.2.2.2.1 c2).1) (h1.2.2.2.2.2.2.1 c2).2.1).2 c26))⟩⟩⟩), (fun c2 => cj_87_p310 hQ (h1.2.2.2.2.2.2.2.1 c2) ((h2 h1.1).2.2.2.2.2.2.1 c2)), (fun c2 => ⟨(h1.2.2.2.2.2.2.2.2.1 c2).1, hQ _ _  (h1.2.2.2.2.2.2.2.2.1 c2).2 (((h2 h1.1).2.2.2.2.2.2.2.1 c2) (h1.2.2.2.2.2.2.2.2.1 c2).1)⟩), (fun c2 => ⟨(h1.2.2.2.2.2.2.2.2.2.1 c2).1, hQ _ _  (h1.2.2.2.2.2.2.2.2.2.1 c2).2 (((h2 h1.1).2.2.2.2.2.2.2.2.1 c2) (h1.2.2.2.2.2.2.2.2.2.1 c2).1)⟩), (fun c2 => ⟨(h1.2.2.2.2.2.2.2.2.2.2.1 c2).1, ⟨(h1.2.2.2.2.2.2.2.2.2.2.1 c2).2.1, hQ _ _  (h1.2.2.2.2.2.2.2.2.2.2.1 c2).2.2 ((((h2 h1.1).2.2.2.2.2.2.2.2.2.1 c2) (h1.2.2.2.2.2.2.2.2.2.2.1 c2).1) (h1.2.2.2.2.2.2.2.2.2.2.1 c2).2.1)⟩⟩), (fun c2 => ⟨(h1.2.2.2.2.2.2.2.2.2.2.2.1 c2).1, ⟨(fun c38 => ⟨((h1.2.2.2.2.2.2.2.2.2.2.2.1 c2).2.1 c38).1, ⟨((h1.2.2.2.2.2.2.2.2.2.2.2.1 c2).2.1 c38).2.1, hQ _ _  ((h1.2.2.2.2.2.2.2.2.2.2.2.1 c2).2.1 c38).2.2 ((((((h2 h1.1).2.2.2.2.2.2.2.2.2.2.1 c2) (h1.2.2.2.2.2.2.2.2.2.2.2.1 c2).1).1 c38) ((h1.2.2.2.2.2.2.2.2.2.2.2.1 c2).2.1 c38).1) ((h1.2.2.2.2.2.2.2.2.2.2.2.1 c2).2.1 c38).2.1)⟩⟩), (fun c38 => hQ _ _  ((h1.2.2.2.2.2.2.2.2.2.2.2.1 c2).2.2 c38) ((((h2 h1.1).2.2.2.2.2.2.2.2.2.2.1 c2) (h1.2.2.2.2.2.2.2.2.2.2.2.1 c2).1).2 c38))⟩⟩), (fun c2 => cj_87_p310 hQ (h1.2.2.2.2.2.2.2.2.2.2.2.2.1 c2) ((h2 h1.1).2.2.2.2.2.2.2.2.2.2.2.1 c2)), (fun c2 => cj_87_p310 hQ (h1.2.2.2.2.2.2.2.2.2.2.2.2.2.1 c2) ((h2 h1.1).2.2.2.2.2.2.2.2.2.2.2.2.1 c2)), (fun c2 => cj_87_p310 hQ (h1.2.2.2.2.2.2.2.2.2.2.2.2.2.2.1 c2) ((h2 h1.1).2.2.2.2.2.2.2.2.2.2.2.2.2.1 c2)), (fun c2 => cj_87_p310 hQ (h1.2.2.2.2.2.2.2.2.2.2.2.2.2.2.2.1 c2) ((h2 h1.1).2.2.2.2.2.2.2.2.2.2.2.2.2.2.1 c2)), (fun c2 => cj_87_p310 hQ (h1.2.2.2.2.2.2.2.2.2.2.2.2.2.2.2.2.1 c2) ((h2 h1.1).2.2.2.2.2.2.2.2.2.2.2.2.2.2.2.1 c2)), (fun c2 => cj_87_p310 hQ (h1.2.2.2.2.2.2.2.2.2.2.2.2.2.2.2.2.2.1 c2) ((h2 h1.1).2.2.2.2.2.2.2.2.2.2.2.2.2.2.2.2.1 c2)), (fun c2 => cj_87_p310 hQ (h1.2.2.2.2.2.2.2.2.2.2.2.2.2.2.2.2.2.2.1 c2) ((h2 h1.1).2.2.2.2.2.2.2.2.2.2.2.2.2.2.2.2.2.1 c2)), (fun c2 => cj_87_p310 hQ (h1.2.2.2.2.2.2.2.2.2.2.2.2.2.2.2.2.2.2.2.1 c2) ((h2 h1.1).2.2.2.2.2.2.2.2.2.2.2.2.2.2.2.2.2.2.1 c2)), (fun c2 => cj_87_p310 hQ (h1.2.2.2.2.2.2.2.2.2.2.2.2.2.2.2.2.2.2.2.2.1 c2) ((h2 h1.1).2.2.2.2.2.2.2.2.2.2.2.2.2.2.2.2.2.2.2.1 c2)), (fun c2 => cj_87_p310 hQ (h1.2.2.2.2.2.2.2.2.2.2.2.2.2.2.2.2.2.2.2.2.2.1 c2) ((h2 h1.1).2.2.2.2.2.2.2.2.2.2.2.2.2.2.2.2.2.2.2.2.1 c2)), (fun c2 => cj_87_p310 hQ (h1.2.2.2.2.2.2.2.2.2.2.2.2.2.2.2.2.2.2.2.2.2.2.1 c2) ((h2 h1.1).2.2.2.2.2.2.2.2.2.2.2.2.2.2.2.2.2.2.2.2.2.1 c2)), (fun c2 => cj_87_p310 hQ (h1.2.2.2.2.2.2.2.2.2.2.2.2.2.2.2.2.2.2.2.2.2.2.2.1 c2) ((h2 h1.1).2.2.2.2.2.2.2.2.2.2.2.2.2.2.2.2.2.2.2.2.2.2.1 c2)), (fun c2 => cj_87_p310 hQ (h1.2.2.2.2.2.2.2.2.2.2.2.2.2.2.2.2.2.2.2.2.2.2.2.2.1 c2) ((h2 h1.1).2.2.2.2.2.2.2.2.2.2.2.2.2.2.2.2.2.2.2.2.2.2.2.1 c2)), (fun c2 => cj_87_p310 hQ (h1.2.2.2.2.2.2.2.2.2.2.2.2.2.2.2.2.2.2.2.2.2.2.2.2.2.1 c2) ((h2 h1.1).2.2.2.2.2.2.2.2.2.2.2.2.2.2.2.2.2.2.2.2.2.2.2.2.1 c2)), (fun c2 => cj_87_p310 hQ (h1.2.2.2.2.2.2.2.2.2.2.2.2.2.2.2.2.2.2.2.2.2.2.2.2.2.2.1 c2) ((h2 h1.1).2.2.2.2.2.2.2.2.2.2.2.2.2.2.2.2.2.2.2.2.2.2.2.2.2.1 c2)), (fun c2 => cj_87_p310 hQ (h1.2.2.2.2.2.2.2.2.2.2.2.2.2.2.2.2.2.2.2.2.2.2.2.2.2.2.2.1 c2) ((h2 h1.1).2.2.2.2.2.2.2.2.2.2.2.2.2.2.2.2.2.2.2.2.2.2.2.2.2.2.1 c2)), (fun c2 => cj_87_p310 hQ (h1.2.2.2.2.2.2.2.2.2.2.2.2.2.2.2.2.2.2.2.2.2.2.2.2.2.2.2.2.1 c2) ((h2 h1.1).2.2.2.2.2.2.2.2.2.2.2.2.2.2.2.2.2.2.2.2.2.2.2.2.2.2.2.1 c2)), (fun c2 => cj_87_p310 hQ (h1.2.2.2.2.2.2.2.2.2.2.2.2.2.2.2.2.2.2.2.2.2.2.2.2.2.2.2.2.2.1 c2) ((h2 h1.1).2.2.2.2.2.2.2.2.2.2.2.2.2.2.2.2.2.2.2.2.2.2.2.2.2.2.2.2.1 c2)), (fun c2 => cj_87_p310 hQ (h1.2.2.2.2.2.2.2.2.2.2.2.2.2.2.2.2.2.2.2.2.2.2.2.2.2.2.2.2.2.2.1 c2) ((h2 h1.1).2.2.2.2.2.2.2.2.2.2.2.2.2.2.2.2.2.2.2.2.2.2.2.2.2.2.2.2.2.1 c2)), (fun c2 => cj_87_p310 hQ (h1.2.2.2.2.2.2.2.2.2.2.2.2.2.2.2.2.2.2.2.2.2.2.2.2.2.2.2.2.2.2.2.1 c2) ((h2 h1.1).2.2.2.2.2.2.2.2.2.2.2.2.2.2.2.2.2.2.2.2.2.2.2.2.2.2.2.2.2.2.1 c2)), (fun c2 => cj_87_p310 hQ (h1.2.2.2.2.2.2.2.2.2.2.2.2.2.2.2.2.2.2.2.2.2.2.2.2.2.2.2.2.2.2.2.2.1 c2) ((h2 h1.1).2.2.2.2.2.2.2.2.2.2.2.2.2.2.2.2.2.2.2.2.2.2.2.2.2.2.2.2.2.2.2.1 c2)), (fun c2 => cj_87_p310 hQ (h1.2.2.2.2.2.2.2.2.2.2.2.2.2.2.2.2.2.2.2.2.2.2.2.2.2.2.2.2.2.2.2.2.2.1 c2) ((h2 h1.1).2.2.2.2.2.2.2.2.2.2.2.2.2.2.2.2.2.2.2.2.2.2.2.2.2.2.2.2.2.2.2.2.1 c2)), (fun c2 => cj_87_p310 hQ (h1.2.2.2.2.2.2.2.2.2.2.2.2.2.2.2.2.2.2.2.2.2.2.2.2.2.2.2.2.2.2.2.2.2.2.1 c2) ((h2 h1.1).2.2.2.2.2.2.2.2.2.2.2.2.2.2.2.2.2.2.2.2.2.2.2.2.2.2.2.2.2.2.2.2.2.1 c2)), (fun c2 => cj_87_p310 hQ (h1.2.2.2.2.2.2.2.2.2.2.2.2.2.2.2.2.2.2.2.2.2.2.2.2.2.2.2.2.2.2.2.2.2.2.2.1 c2) ((h2 h1.1).2.2.2.2.2.2.2.2.2.2.2.2.2.2.2.2.2.2.2.2.2.2.2.2.2.2.2.2.2.2.2.2.2.2.1 c2)), (fun c2 => cj_87_p310 hQ (h1.2.2.2.2.2.2.2.2.2.2.2.2.2.2.2.2.2.2.2.2.2.2.2.2.2.2.2.2.2.2.2.2.2.2.2.2.1 c2) ((h2 h1.1).2.2.2.2.2.2.2.2.2.2.2.2.2.2.2.2.2.2.2.2.2.2.2.2.2.2.2.2.2.2.2.2.2.2.2.1 c2)), (fun c2 => cj_87_p310 hQ (h1.2.2.2.2.2.2.2.2.2.2.2.2.2.2.2.2.2.2.2.2.2.2.2.2.2.2.2.2.2.2.2.2.2.2.2.2.2.1 c2) ((h2 h1.1).2.2.2.2.2.2.2.2.2.2.2.2.2.2.2.2.2.2.2.2.2.2.2.2.2.2.2.2.2.2.2.2.2.2.2.2.1 c2)), (fun c2 => cj_87_p310 hQ (h1.2.2.2.2.2.2.2.2.2.2.2.2.2.2.2.2.2.2.2.2.2.2.2.2.2.2.2.2.2.2.2.2.2.2.2.2.2.2.1 c2) ((h2 h1.1).2.2.2.2.2.2.2.2.2.2.2.2.2.2.2.2.2.2.2.2.2.2.2.2.2.2.2.2.2.2.2.2.2.2.2.2.2.1 c2)), (fun c2 => cj_87_p310 hQ (h1.2.2.2.2.2.2.2.2.2.2.2.2.2.2.2.2.2.2.2.2.2.2.2.2.2.2.2.2.2.2.2.2.2.2.2.2.2.2.2.1 c2) ((h2 h1.1).2.2.2.2.2.2.2.2.2.2.2.2.2.2.2.2.2.2.2.2.2.2.2.2.2.2.2.2.2.2.2.2.2.2.2.2.2.2.1 c2)), (fun c2 => cj_87_p310 hQ (h1.2.2.2.2.2.2.2.2.2.2.2.2.2.2.2.2.2.2.2.2.2.2.2.2.2.2.2.2.2.2.2.2.2.2.2.2.2.2.2.2.1 c2) ((h2 h1.1).2.2.2.2.2.2.2.2.2.2.2.2.2.2.2.2.2.2.2.2.2.2.2.2.2.2.2.2.2.2.2.2.2.2.2.2.2.2.2.1 c2)), (fun c2 => cj_87_p310 hQ (h1.2.2.2.2.2.2.2.2.2.2.2.2.2.2.2.2.2.2.2.2.2.2.2.2.2.2.2.2.2.2.2.2.2.2.2.2.2.2.2.2.2.1 c2) ((h2 h1.1).2.2.2.2.2.2.2.2.2.2.2.2.2.2.2.2.2.2.2.2.2.2.2.2.2.2.2.2.2.2.2.2.2.2.2.2.2.2.2.2.1 c2)), (fun c2 => cj_87_p310 hQ (h1.2.2.2.2.2.2.2.2.2.2.2.2.2.2.2.2.2.2.2.2.2.2.2.2.2.2.2.2.2.2.2.2.2.2.2.2.2.2.2.2.2.2.1 c2) ((h2 h1.1).2.2.2.2.2.2.2.2.2.2.2.2.2.2.2.2.2.2.2.2.2.2.2.2.2.2.2.2.2.2.2.2.2.2.2.2.2.2.2.2.2.1 c2)), (fun c2 => hQ _ _  (h1.2.2.2.2.2.2.2.2.2.2.2.2.2.2.2.2.2.2.2.2.2.2.2.2.2.2.2.2.2.2.2.2.2.2.2.2.2.2.2.2.2.2.2.1 c2) ((h2 h1.1).2.2.2.2.2.2.2.2.2.2.2.2.2.2.2.2.2.2.2.2.2.2.2.2.2.2.2.2.2.2.2.2.2.2.2.2.2.2.2.2.2.2.1 c2)), (fun c2 => hQ _ _  (h1.2.2.2.2.2.2.2.2.2.2.2.2.2.2.2.2.2.2.2.2.2.2.2.2.2.2.2.2.2.2.2.2.2.2.2.2.2.2.2.2.2.2.2.2 c2) ((h2 h1.1).2.2.2.2.2.2.2.2.2.2.2.2.2.2.2.2.2.2.2.2.2.2.2.2.2.2.2.2.2.2.2.2.2.2.2.2.2.2.2.2.2.2.2 c2))⟩⟩
